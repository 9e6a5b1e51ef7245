set_option maxRecDepth 20000 in
theorem ggX7_init_X7_begin : GoodIn wsX7_init wsX7_begin := goodIn_r _ [22, 4, 5, 23, 7, 10, 9, 24, 25, 26, 27, 28, 29, 30, 31, 32, 33, 34, 35, 36, 37, 38, 39, 40] (by decide +kernel) (by decide +kernel)
set_option maxRecDepth 20000 in
theorem gX7_init_X7_begin : GoodIn wsX7_init (wsV RX7 50 RX7 yX7_begin wsX7_begin) := goodIn_app (goodIn_of _ (by decide +kernel)) ggX7_init_X7_begin
set_option maxRecDepth 20000 in
theorem ggX7_isList_X7_in : GoodIn wsX7_isList wsX7_in := goodIn_r _ [4] (by decide +kernel) (by decide +kernel)
set_option maxRecDepth 20000 in
theorem gX7_isList_X7_in : GoodIn wsX7_isList (va_wsS RX7 61 yX7_in wsX7_in) := goodIn_app (goodIn_of _ (by decide +kernel)) ggX7_isList_X7_in
set_option maxRecDepth 20000 in
theorem ggX7_isList_X7_sizeOf : GoodIn wsX7_isList wsX7_sizeOf := goodIn_r _ [8, 9, 10, 11, 12, 13, 14, 15, 16, 17, 18, 19, 20, 21, 22, 23, 24, 25, 26, 27] (by decide +kernel) (by decide +kernel)
set_option maxRecDepth 20000 in
theorem gX7_isList_X7_sizeOf : GoodIn wsX7_isList (wsV RX7 65 RX7 yX7_sizeOf wsX7_sizeOf) := goodIn_app (goodIn_of _ (by decide +kernel)) ggX7_isList_X7_sizeOf
set_option maxRecDepth 20000 in
theorem ggX7_make_X7_in : GoodIn wsX7_make wsX7_in := goodIn_r _ [5] (by decide +kernel) (by decide +kernel)
set_option maxRecDepth 20000 in
theorem gX7_make_X7_in : GoodIn wsX7_make (va_wsS RX7 61 yX7_in wsX7_in) := goodIn_app (goodIn_of _ (by decide +kernel)) ggX7_make_X7_in
set_option maxRecDepth 20000 in
theorem ggX7_make_X7_begin : GoodIn wsX7_make wsX7_begin := goodIn_r _ [9, 10, 11, 12, 13, 14, 15, 16, 17, 18, 19, 20, 21, 22, 23, 24, 25, 26, 27, 28, 29, 30, 31, 32] (by decide +kernel) (by decide +kernel)
set_option maxRecDepth 20000 in
theorem gX7_make_X7_begin : GoodIn wsX7_make (wsV RX7 50 RX7 yX7_begin wsX7_begin) := goodIn_app (goodIn_of _ (by decide +kernel)) ggX7_make_X7_begin
set_option maxRecDepth 20000 in
theorem ggX7_seats_X7_in : GoodIn wsX7_seats wsX7_in := goodIn_r _ [8] (by decide +kernel) (by decide +kernel)
set_option maxRecDepth 20000 in
theorem gX7_seats_X7_in : GoodIn wsX7_seats (va_wsS RX7 61 yX7_in wsX7_in) := goodIn_app (goodIn_of _ (by decide +kernel)) ggX7_seats_X7_in
set_option maxRecDepth 20000 in
theorem ggX7_prefer_X7_isList : GoodIn wsX7_prefer wsX7_isList := goodIn_r _ [9, 10, 11, 8, 12, 13, 14, 15, 16, 17, 18, 23, 24, 25, 26, 27, 28, 29, 30, 31, 32, 33, 34, 35, 36, 37, 38, 39] (by decide +kernel) (by decide +kernel)
set_option maxRecDepth 20000 in
theorem gX7_prefer_X7_isList : GoodIn wsX7_prefer (wsV RX7 69 RX7 yX7_isList wsX7_isList) := goodIn_app (goodIn_of _ (by decide +kernel)) ggX7_prefer_X7_isList
set_option maxRecDepth 20000 in
theorem ggX7_prefer_X7_sizeOf : GoodIn wsX7_prefer wsX7_sizeOf := goodIn_r _ [16, 17, 18, 23, 24, 25, 26, 27, 28, 29, 30, 31, 32, 33, 34, 35, 36, 37, 38, 39] (by decide +kernel) (by decide +kernel)
set_option maxRecDepth 20000 in
theorem gX7_prefer_X7_sizeOf : GoodIn wsX7_prefer (wsV RX7 65 RX7 yX7_sizeOf wsX7_sizeOf) := goodIn_app (goodIn_of _ (by decide +kernel)) ggX7_prefer_X7_sizeOf
set_option maxRecDepth 20000 in
theorem ggX7_prefer_X7_in : GoodIn wsX7_prefer wsX7_in := goodIn_r _ [12] (by decide +kernel) (by decide +kernel)
set_option maxRecDepth 20000 in
theorem gX7_prefer_X7_in : GoodIn wsX7_prefer (va_wsS RX7 61 yX7_in wsX7_in) := goodIn_app (goodIn_of _ (by decide +kernel)) ggX7_prefer_X7_in
set_option maxRecDepth 20000 in
theorem ggX7_prefer_X7_place : GoodIn wsX7_prefer wsX7_place := goodIn_r _ [22, 3, 2, 23, 24, 25, 26, 27, 28, 29, 30, 31, 32, 33, 34, 35, 36, 37, 38, 39] (by decide +kernel) (by decide +kernel)
set_option maxRecDepth 20000 in
theorem gX7_prefer_X7_place : GoodIn wsX7_prefer (wsV RX7 73 RX7 yX7_place wsX7_place) := goodIn_app (goodIn_of _ (by decide +kernel)) ggX7_prefer_X7_place
set_option maxRecDepth 20000 in
theorem ggX7_forget_X7_isList : GoodIn wsX7_forget wsX7_isList := goodIn_r _ [8, 9, 10, 7, 11, 12, 13, 14, 15, 16, 17, 18, 19, 20, 21, 22, 23, 24, 25, 26, 27, 28, 29, 30, 31, 32, 33, 34] (by decide +kernel) (by decide +kernel)
set_option maxRecDepth 20000 in
theorem gX7_forget_X7_isList : GoodIn wsX7_forget (wsV RX7 69 RX7 yX7_isList wsX7_isList) := goodIn_app (goodIn_of _ (by decide +kernel)) ggX7_forget_X7_isList
set_option maxRecDepth 20000 in
theorem ggX7_listed_X7_isList : GoodIn wsX7_listed wsX7_isList := goodIn_r _ [8, 9, 10, 7, 11, 12, 13, 14, 15, 16, 17, 18, 19, 20, 21, 22, 23, 24, 25, 26, 27, 28, 29, 30, 31, 32, 33, 34] (by decide +kernel) (by decide +kernel)
set_option maxRecDepth 20000 in
theorem gX7_listed_X7_isList : GoodIn wsX7_listed (wsV RX7 69 RX7 yX7_isList wsX7_isList) := goodIn_app (goodIn_of _ (by decide +kernel)) ggX7_listed_X7_isList
set_option maxRecDepth 20000 in
theorem ggX7_listed_X7_in : GoodIn wsX7_listed wsX7_in := goodIn_r _ [11] (by decide +kernel) (by decide +kernel)
set_option maxRecDepth 20000 in
theorem gX7_listed_X7_in : GoodIn wsX7_listed (va_wsS RX7 61 yX7_in wsX7_in) := goodIn_app (goodIn_of _ (by decide +kernel)) ggX7_listed_X7_in
set_option maxRecDepth 20000 in
theorem ggX7_isPair_X7_place : GoodIn wsX7_isPair wsX7_place := goodIn_r _ [5, 6, 7, 8, 9, 10, 11, 12, 13, 14, 15, 16, 17, 18, 19, 20, 21, 22, 23, 24] (by decide +kernel) (by decide +kernel)
set_option maxRecDepth 20000 in
theorem gX7_isPair_X7_place : GoodIn wsX7_isPair (wsV RX7 73 RX7 yX7_place wsX7_place) := goodIn_app (goodIn_of _ (by decide +kernel)) ggX7_isPair_X7_place
set_option maxRecDepth 20000 in
theorem ggX7_isMatching_X7_in : GoodIn wsX7_isMatching wsX7_in := goodIn_r _ [7] (by decide +kernel) (by decide +kernel)
set_option maxRecDepth 20000 in
theorem gX7_isMatching_X7_in : GoodIn wsX7_isMatching (va_wsS RX7 61 yX7_in wsX7_in) := goodIn_app (goodIn_of _ (by decide +kernel)) ggX7_isMatching_X7_in
set_option maxRecDepth 20000 in
theorem ggX7_isMatching_X7_isPair : GoodIn wsX7_isMatching wsX7_isPair := goodIn_r _ [11, 12, 13, 14, 6, 15, 16, 17, 21, 22, 23, 24, 25, 26, 27, 28, 29, 30, 31, 32, 33, 34, 35, 36, 37] (by decide +kernel) (by decide +kernel)
set_option maxRecDepth 20000 in
theorem gX7_isMatching_X7_isPair : GoodIn wsX7_isMatching (wsV RX7 77 RX7 yX7_isPair wsX7_isPair) := goodIn_app (goodIn_of _ (by decide +kernel)) ggX7_isMatching_X7_isPair
set_option maxRecDepth 20000 in
theorem ggX7_isMatching_X7_taken : GoodIn wsX7_isMatching wsX7_taken := goodIn_r _ [20] (by decide +kernel) (by decide +kernel)
set_option maxRecDepth 20000 in
theorem gX7_isMatching_X7_taken : GoodIn wsX7_isMatching (va_wsS RX7 80 yX7_taken wsX7_taken) := goodIn_app (goodIn_of _ (by decide +kernel)) ggX7_isMatching_X7_taken
set_option maxRecDepth 20000 in
theorem ggX7_isBlocking_X7_isPair : GoodIn wsX7_isBlocking wsX7_isPair := goodIn_r _ [7, 8, 9, 10, 6, 11, 12, 13, 17, 18, 19, 20, 21, 22, 23, 24, 25, 26, 27, 28, 29, 30, 31, 32, 33] (by decide +kernel) (by decide +kernel)
set_option maxRecDepth 20000 in
theorem gX7_isBlocking_X7_isPair : GoodIn wsX7_isBlocking (wsV RX7 77 RX7 yX7_isPair wsX7_isPair) := goodIn_app (goodIn_of _ (by decide +kernel)) ggX7_isBlocking_X7_isPair
set_option maxRecDepth 20000 in
theorem ggX7_isBlocking_X7_place : GoodIn wsX7_isBlocking wsX7_place := goodIn_r _ [11, 12, 13, 17, 18, 19, 20, 21, 22, 23, 24, 25, 26, 27, 28, 29, 30, 31, 32, 33] (by decide +kernel) (by decide +kernel)
set_option maxRecDepth 20000 in
theorem gX7_isBlocking_X7_place : GoodIn wsX7_isBlocking (wsV RX7 73 RX7 yX7_place wsX7_place) := goodIn_app (goodIn_of _ (by decide +kernel)) ggX7_isBlocking_X7_place
set_option maxRecDepth 20000 in
theorem ggX7_isBlocking_X7_taken : GoodIn wsX7_isBlocking wsX7_taken := goodIn_r _ [16] (by decide +kernel) (by decide +kernel)
set_option maxRecDepth 20000 in
theorem gX7_isBlocking_X7_taken : GoodIn wsX7_isBlocking (va_wsS RX7 80 yX7_taken wsX7_taken) := goodIn_app (goodIn_of _ (by decide +kernel)) ggX7_isBlocking_X7_taken
set_option maxRecDepth 20000 in
theorem ggX7_blocksOf_X7_isBlocking : GoodIn wsX7_blocksOf wsX7_isBlocking := goodIn_r _ [7, 1, 8, 9, 10, 11, 6, 12, 13, 14, 15, 16, 17, 18, 19, 20, 21, 22, 23, 24, 25, 26, 27, 28, 29, 30, 31, 32, 33, 34, 35, 36, 37, 38] (by decide +kernel) (by decide +kernel)
set_option maxRecDepth 20000 in
theorem gX7_blocksOf_X7_isBlocking : GoodIn wsX7_blocksOf (wsV RX7 84 RX7 yX7_isBlocking wsX7_isBlocking) := goodIn_app (goodIn_of _ (by decide +kernel)) ggX7_blocksOf_X7_isBlocking
set_option maxRecDepth 20000 in
theorem ggX7_next_X7_place : GoodIn wsX7_next wsX7_place := goodIn_r _ [9, 1, 2, 13, 14, 15, 16, 17, 18, 19, 20, 21, 22, 23, 24, 25, 26, 27, 28, 29] (by decide +kernel) (by decide +kernel)
set_option maxRecDepth 20000 in
theorem gX7_next_X7_place : GoodIn wsX7_next (wsV RX7 73 RX7 yX7_place wsX7_place) := goodIn_app (goodIn_of _ (by decide +kernel)) ggX7_next_X7_place
set_option maxRecDepth 20000 in
theorem ggX7_next_X7_taken : GoodIn wsX7_next wsX7_taken := goodIn_r _ [12] (by decide +kernel) (by decide +kernel)
set_option maxRecDepth 20000 in
theorem gX7_next_X7_taken : GoodIn wsX7_next (va_wsS RX7 80 yX7_taken wsX7_taken) := goodIn_app (goodIn_of _ (by decide +kernel)) ggX7_next_X7_taken
set_option maxRecDepth 20000 in
theorem ggX7_findAll_X7_blocksOf : GoodIn wsX7_findAll wsX7_blocksOf := goodIn_r _ [12, 3, 13, 14, 15, 16, 11, 17, 18, 19, 20, 21, 22, 23, 24, 25, 26, 6, 7, 27, 28, 29, 34, 35, 36, 37, 38, 39, 40, 41, 42, 43, 44, 45, 46, 47, 48, 49, 50] (by decide +kernel) (by decide +kernel)
set_option maxRecDepth 20000 in
theorem gX7_findAll_X7_blocksOf : GoodIn wsX7_findAll (wsV RX7 91 RX7 yX7_blocksOf wsX7_blocksOf) := goodIn_app (goodIn_of _ (by decide +kernel)) ggX7_findAll_X7_blocksOf
set_option maxRecDepth 20000 in
theorem ggX7_findAll_X7_next : GoodIn wsX7_findAll wsX7_next := goodIn_r _ [33, 6, 7, 4, 18, 23, 24, 25, 11, 26, 27, 28, 29, 34, 35, 36, 37, 38, 39, 40, 41, 42, 43, 44, 45, 46, 47, 48, 49, 50] (by decide +kernel) (by decide +kernel)
set_option maxRecDepth 20000 in
theorem gX7_findAll_X7_next : GoodIn wsX7_findAll (wsV RX7 95 RX7 yX7_next wsX7_next) := goodIn_app (goodIn_of _ (by decide +kernel)) ggX7_findAll_X7_next
set_option maxRecDepth 20000 in
theorem ggX7_isBehind_X7_place : GoodIn wsX7_isBehind wsX7_place := goodIn_r _ [7, 8, 9, 10, 11, 12, 13, 14, 15, 16, 17, 18, 19, 20, 21, 22, 23, 24, 25, 26] (by decide +kernel) (by decide +kernel)
set_option maxRecDepth 20000 in
theorem gX7_isBehind_X7_place : GoodIn wsX7_isBehind (wsV RX7 73 RX7 yX7_place wsX7_place) := goodIn_app (goodIn_of _ (by decide +kernel)) ggX7_isBehind_X7_place
set_option maxRecDepth 20000 in
theorem ggX7_isStep_X7_isBehind : GoodIn wsX7_isStep wsX7_isBehind := goodIn_r _ [6, 7, 8, 9, 10, 11, 5, 12, 13, 14, 15, 16, 17, 18, 19, 20, 21, 22, 23, 24, 25, 26, 27, 28, 29, 30, 31] (by decide +kernel) (by decide +kernel)
set_option maxRecDepth 20000 in
theorem gX7_isStep_X7_isBehind : GoodIn wsX7_isStep (wsV RX7 99 RX7 yX7_isBehind wsX7_isBehind) := goodIn_app (goodIn_of _ (by decide +kernel)) ggX7_isStep_X7_isBehind
set_option maxRecDepth 20000 in
theorem ggX7_goesBefore_X7_place : GoodIn wsX7_goesBefore wsX7_place := goodIn_r _ [7, 8, 9, 10, 11, 12, 13, 14, 15, 16, 17, 18, 19, 20, 21, 22, 23, 24, 25, 26] (by decide +kernel) (by decide +kernel)
set_option maxRecDepth 20000 in
theorem gX7_goesBefore_X7_place : GoodIn wsX7_goesBefore (wsV RX7 73 RX7 yX7_place wsX7_place) := goodIn_app (goodIn_of _ (by decide +kernel)) ggX7_goesBefore_X7_place
set_option maxRecDepth 20000 in
theorem ggX7_work_X7_findAll : GoodIn wsX7_work wsX7_findAll := goodIn_r _ [9, 3, 10, 11, 12, 13, 14, 15, 16, 17, 18, 8, 19, 20, 21, 22, 23, 24, 25, 26, 27, 28, 29, 30, 31, 32, 33, 34, 35, 36, 37, 38, 39, 40, 65, 66, 67, 68, 69, 70, 71, 72, 73, 74, 75, 76, 77, 78, 79, 80, 81] (by decide +kernel) (by decide +kernel)
set_option maxRecDepth 20000 in
theorem gX7_work_X7_findAll : GoodIn wsX7_work (wsV RX7 105 RX7 yX7_findAll wsX7_findAll) := goodIn_app (goodIn_of _ (by decide +kernel)) ggX7_work_X7_findAll
set_option maxRecDepth 20000 in
theorem ggX7_work_X7_isStep : GoodIn wsX7_work wsX7_isStep := goodIn_r _ [44, 3, 45, 46, 47, 8, 48, 11, 13, 30, 31, 32, 33, 14, 15, 65, 66, 67, 68, 69, 70, 71, 72, 73, 74, 75, 76, 77, 78, 79, 80, 81] (by decide +kernel) (by decide +kernel)
set_option maxRecDepth 20000 in
theorem gX7_work_X7_isStep : GoodIn wsX7_work (wsV RX7 108 RX7 yX7_isStep wsX7_isStep) := goodIn_app (goodIn_of _ (by decide +kernel)) ggX7_work_X7_isStep
set_option maxRecDepth 20000 in
theorem ggX7_work_X7_rotate : GoodIn wsX7_work wsX7_rotate := goodIn_r _ [52, 11, 13, 53, 2, 54, 55, 56, 65, 66, 67, 68, 69, 70, 71, 72, 73, 74, 75, 76, 77, 78, 79, 80, 81] (by decide +kernel) (by decide +kernel)
set_option maxRecDepth 20000 in
theorem gX7_work_X7_rotate : GoodIn wsX7_work (wsV RX7 111 RX7 yX7_rotate wsX7_rotate) := goodIn_app (goodIn_of _ (by decide +kernel)) ggX7_work_X7_rotate
set_option maxRecDepth 20000 in
theorem ggX7_work_X7_goesBefore : GoodIn wsX7_work wsX7_goesBefore := goodIn_r _ [60, 53, 54, 30, 31, 32, 8, 33, 14, 15, 65, 66, 67, 68, 69, 70, 71, 72, 73, 74, 75, 76, 77, 78, 79, 80, 81] (by decide +kernel) (by decide +kernel)
set_option maxRecDepth 20000 in
theorem gX7_work_X7_goesBefore : GoodIn wsX7_work (wsV RX7 114 RX7 yX7_goesBefore wsX7_goesBefore) := goodIn_app (goodIn_of _ (by decide +kernel)) ggX7_work_X7_goesBefore
set_option maxRecDepth 20000 in
theorem ggX7_work_X7_swap : GoodIn wsX7_work wsX7_swap := goodIn_r _ [64, 56, 53, 54, 55, 65, 66, 67, 68, 69, 70, 71, 72, 73, 74, 75, 76, 77, 78, 79, 80, 81] (by decide +kernel) (by decide +kernel)
set_option maxRecDepth 20000 in
theorem gX7_work_X7_swap : GoodIn wsX7_work (wsV RX7 117 RX7 yX7_swap wsX7_swap) := goodIn_app (goodIn_of _ (by decide +kernel)) ggX7_work_X7_swap
set_option maxRecDepth 20000 in
theorem ggX7_count_X7_in : GoodIn wsX7_count wsX7_in := goodIn_r _ [11] (by decide +kernel) (by decide +kernel)
set_option maxRecDepth 20000 in
theorem gX7_count_X7_in : GoodIn wsX7_count (va_wsS RX7 61 yX7_in wsX7_in) := goodIn_app (goodIn_of _ (by decide +kernel)) ggX7_count_X7_in
set_option maxRecDepth 20000 in
theorem ggX7_count_X7_isPair : GoodIn wsX7_count wsX7_isPair := goodIn_r _ [15, 16, 17, 18, 10, 19, 20, 21, 22, 23, 24, 25, 26, 27, 28, 29, 30, 31, 32, 33, 34, 35, 36, 37, 38] (by decide +kernel) (by decide +kernel)
set_option maxRecDepth 20000 in
theorem gX7_count_X7_isPair : GoodIn wsX7_count (wsV RX7 77 RX7 yX7_isPair wsX7_isPair) := goodIn_app (goodIn_of _ (by decide +kernel)) ggX7_count_X7_isPair
set_option maxRecDepth 20000 in
theorem ggX7_isStable_X7_in : GoodIn wsX7_isStable wsX7_in := goodIn_r _ [6] (by decide +kernel) (by decide +kernel)
set_option maxRecDepth 20000 in
theorem gX7_isStable_X7_in : GoodIn wsX7_isStable (va_wsS RX7 61 yX7_in wsX7_in) := goodIn_app (goodIn_of _ (by decide +kernel)) ggX7_isStable_X7_in
set_option maxRecDepth 20000 in
theorem ggX7_hospital_X7_isStable : GoodIn wsX7_hospital wsX7_isStable := goodIn_r _ [8, 9, 10, 11, 12, 7, 13, 14, 15, 16, 17, 18, 19, 20, 21, 22, 23, 24, 25, 26, 27, 28, 29, 30] (by decide +kernel) (by decide +kernel)
set_option maxRecDepth 20000 in
theorem gX7_hospital_X7_isStable : GoodIn wsX7_hospital (wsV RX7 120 RX7 yX7_isStable wsX7_isStable) := goodIn_app (goodIn_of _ (by decide +kernel)) ggX7_hospital_X7_isStable
set_option maxRecDepth 20000 in
theorem ggX7_hospital_X7_in : GoodIn wsX7_hospital wsX7_in := goodIn_r _ [13] (by decide +kernel) (by decide +kernel)
set_option maxRecDepth 20000 in
theorem gX7_hospital_X7_in : GoodIn wsX7_hospital (va_wsS RX7 61 yX7_in wsX7_in) := goodIn_app (goodIn_of _ (by decide +kernel)) ggX7_hospital_X7_in
set_option maxRecDepth 20000 in
theorem ggX7_costOf_X7_place : GoodIn wsX7_costOf wsX7_place := goodIn_r _ [7, 8, 9, 10, 11, 12, 13, 14, 15, 16, 17, 18, 19, 20, 21, 22, 23, 24, 25, 26] (by decide +kernel) (by decide +kernel)
set_option maxRecDepth 20000 in
theorem gX7_costOf_X7_place : GoodIn wsX7_costOf (wsV RX7 73 RX7 yX7_place wsX7_place) := goodIn_app (goodIn_of _ (by decide +kernel)) ggX7_costOf_X7_place
set_option maxRecDepth 20000 in
theorem ggX7_cost_X7_isStable : GoodIn wsX7_cost wsX7_isStable := goodIn_r _ [6, 7, 8, 9, 10, 5, 11, 24, 25, 26, 27, 28, 29, 30, 31, 32, 33, 34, 35, 36, 37, 38, 39, 40] (by decide +kernel) (by decide +kernel)
set_option maxRecDepth 20000 in
theorem gX7_cost_X7_isStable : GoodIn wsX7_cost (wsV RX7 120 RX7 yX7_isStable wsX7_isStable) := goodIn_app (goodIn_of _ (by decide +kernel)) ggX7_cost_X7_isStable
set_option maxRecDepth 20000 in
theorem ggX7_cost_X7_in : GoodIn wsX7_cost wsX7_in := goodIn_r _ [11] (by decide +kernel) (by decide +kernel)
set_option maxRecDepth 20000 in
theorem gX7_cost_X7_in : GoodIn wsX7_cost (va_wsS RX7 61 yX7_in wsX7_in) := goodIn_app (goodIn_of _ (by decide +kernel)) ggX7_cost_X7_in
set_option maxRecDepth 20000 in
theorem ggX7_cost_X7_costOf : GoodIn wsX7_cost wsX7_costOf := goodIn_r _ [15, 16, 17, 18, 19, 20, 5, 21, 22, 23, 24, 25, 26, 27, 28, 29, 30, 31, 32, 33, 34, 35, 36, 37, 38, 39, 40] (by decide +kernel) (by decide +kernel)
set_option maxRecDepth 20000 in
theorem gX7_cost_X7_costOf : GoodIn wsX7_cost (wsV RX7 124 RX7 yX7_costOf wsX7_costOf) := goodIn_app (goodIn_of _ (by decide +kernel)) ggX7_cost_X7_costOf
set_option maxRecDepth 20000 in
theorem ggX7_cheapest_X7_in : GoodIn wsX7_cheapest wsX7_in := goodIn_r _ [7] (by decide +kernel) (by decide +kernel)
set_option maxRecDepth 20000 in
theorem gX7_cheapest_X7_in : GoodIn wsX7_cheapest (va_wsS RX7 61 yX7_in wsX7_in) := goodIn_app (goodIn_of _ (by decide +kernel)) ggX7_cheapest_X7_in
set_option maxRecDepth 20000 in
theorem ggX7_cheapest_X7_costOf : GoodIn wsX7_cheapest wsX7_costOf := goodIn_r _ [11, 12, 13, 14, 15, 16, 6, 17, 18, 19, 20, 21, 22, 23, 24, 25, 26, 27, 28, 29, 30, 31, 32, 33, 34, 35, 36] (by decide +kernel) (by decide +kernel)
set_option maxRecDepth 20000 in
theorem gX7_cheapest_X7_costOf : GoodIn wsX7_cheapest (wsV RX7 124 RX7 yX7_costOf wsX7_costOf) := goodIn_app (goodIn_of _ (by decide +kernel)) ggX7_cheapest_X7_costOf
set_option maxRecDepth 20000 in
theorem ggX7_bound_X7_in : GoodIn wsX7_bound wsX7_in := goodIn_r _ [8] (by decide +kernel) (by decide +kernel)
set_option maxRecDepth 20000 in
theorem gX7_bound_X7_in : GoodIn wsX7_bound (va_wsS RX7 61 yX7_in wsX7_in) := goodIn_app (goodIn_of _ (by decide +kernel)) ggX7_bound_X7_in
set_option maxRecDepth 20000 in
theorem ggX7_bound_X7_isStable : GoodIn wsX7_bound wsX7_isStable := goodIn_r _ [12, 13, 14, 5, 6, 7, 8, 25, 26, 27, 28, 29, 30, 31, 32, 33, 34, 35, 36, 37, 38, 39, 40, 41] (by decide +kernel) (by decide +kernel)
set_option maxRecDepth 20000 in
theorem gX7_bound_X7_isStable : GoodIn wsX7_bound (wsV RX7 120 RX7 yX7_isStable wsX7_isStable) := goodIn_app (goodIn_of _ (by decide +kernel)) ggX7_bound_X7_isStable
set_option maxRecDepth 20000 in
theorem ggX7_bound_X7_place : GoodIn wsX7_bound wsX7_place := goodIn_r _ [18, 19, 20, 25, 26, 27, 28, 29, 30, 31, 32, 33, 34, 35, 36, 37, 38, 39, 40, 41] (by decide +kernel) (by decide +kernel)
set_option maxRecDepth 20000 in
theorem gX7_bound_X7_place : GoodIn wsX7_bound (wsV RX7 73 RX7 yX7_place wsX7_place) := goodIn_app (goodIn_of _ (by decide +kernel)) ggX7_bound_X7_place
set_option maxRecDepth 20000 in
theorem ggX7_bound_X7_numberOf : GoodIn wsX7_bound wsX7_numberOf := goodIn_r _ [24, 14, 2, 3, 25, 26, 27, 28, 29, 30, 31, 32, 33, 34, 35, 36, 37, 38, 39, 40, 41] (by decide +kernel) (by decide +kernel)
set_option maxRecDepth 20000 in
theorem gX7_bound_X7_numberOf : GoodIn wsX7_bound (wsV RX7 127 RX7 yX7_numberOf wsX7_numberOf) := goodIn_app (goodIn_of _ (by decide +kernel)) ggX7_bound_X7_numberOf
set_option maxRecDepth 20000 in
theorem ggX7_behind_X7_isStable : GoodIn wsX7_behind wsX7_isStable := goodIn_r _ [6, 7, 8, 9, 10, 5, 11, 24, 25, 26, 27, 28, 29, 30, 31, 32, 33, 34, 35, 36, 37, 38, 39, 40] (by decide +kernel) (by decide +kernel)
set_option maxRecDepth 20000 in
theorem gX7_behind_X7_isStable : GoodIn wsX7_behind (wsV RX7 120 RX7 yX7_isStable wsX7_isStable) := goodIn_app (goodIn_of _ (by decide +kernel)) ggX7_behind_X7_isStable
set_option maxRecDepth 20000 in
theorem ggX7_behind_X7_isBehind : GoodIn wsX7_behind wsX7_isBehind := goodIn_r _ [15, 16, 17, 18, 19, 20, 5, 21, 22, 23, 24, 25, 26, 27, 28, 29, 30, 31, 32, 33, 34, 35, 36, 37, 38, 39, 40] (by decide +kernel) (by decide +kernel)
set_option maxRecDepth 20000 in
theorem gX7_behind_X7_isBehind : GoodIn wsX7_behind (wsV RX7 99 RX7 yX7_isBehind wsX7_isBehind) := goodIn_app (goodIn_of _ (by decide +kernel)) ggX7_behind_X7_isBehind
set_option maxRecDepth 20000 in
theorem ggX7_isRotation_X7_in : GoodIn wsX7_isRotation wsX7_in := goodIn_r _ [6] (by decide +kernel) (by decide +kernel)
set_option maxRecDepth 20000 in
theorem gX7_isRotation_X7_in : GoodIn wsX7_isRotation (va_wsS RX7 61 yX7_in wsX7_in) := goodIn_app (goodIn_of _ (by decide +kernel)) ggX7_isRotation_X7_in
set_option maxRecDepth 20000 in
theorem ggX7_rotation_X7_isRotation : GoodIn wsX7_rotation wsX7_isRotation := goodIn_r _ [10, 11, 12, 13, 14, 9, 15, 16, 17, 18, 19, 20, 21, 22, 23, 24, 25, 26, 27, 28, 29, 30, 31, 32] (by decide +kernel) (by decide +kernel)
set_option maxRecDepth 20000 in
theorem gX7_rotation_X7_isRotation : GoodIn wsX7_rotation (wsV RX7 131 RX7 yX7_isRotation wsX7_isRotation) := goodIn_app (goodIn_of _ (by decide +kernel)) ggX7_rotation_X7_isRotation
set_option maxRecDepth 20000 in
theorem ggX7_rotation_X7_in : GoodIn wsX7_rotation wsX7_in := goodIn_r _ [15] (by decide +kernel) (by decide +kernel)
set_option maxRecDepth 20000 in
theorem gX7_rotation_X7_in : GoodIn wsX7_rotation (va_wsS RX7 61 yX7_in wsX7_in) := goodIn_app (goodIn_of _ (by decide +kernel)) ggX7_rotation_X7_in
set_option maxRecDepth 20000 in
theorem ggX7_isDone_X7_place : GoodIn wsX7_isDone wsX7_place := goodIn_r _ [8, 9, 10, 11, 12, 13, 14, 15, 16, 17, 18, 19, 20, 21, 22, 23, 24, 25, 26, 27] (by decide +kernel) (by decide +kernel)
set_option maxRecDepth 20000 in
theorem gX7_isDone_X7_place : GoodIn wsX7_isDone (wsV RX7 73 RX7 yX7_place wsX7_place) := goodIn_app (goodIn_of _ (by decide +kernel)) ggX7_isDone_X7_place
set_option maxRecDepth 20000 in
theorem ggX7_done_X7_isRotation : GoodIn wsX7_done wsX7_isRotation := goodIn_r _ [6, 7, 8, 9, 10, 5, 11, 30, 31, 32, 33, 34, 35, 36, 37, 38, 39, 40, 41, 42, 43, 44, 45, 46] (by decide +kernel) (by decide +kernel)
set_option maxRecDepth 20000 in
theorem gX7_done_X7_isRotation : GoodIn wsX7_done (wsV RX7 131 RX7 yX7_isRotation wsX7_isRotation) := goodIn_app (goodIn_of _ (by decide +kernel)) ggX7_done_X7_isRotation
set_option maxRecDepth 20000 in
theorem ggX7_done_X7_isStable : GoodIn wsX7_done wsX7_isStable := goodIn_r _ [15, 7, 16, 9, 10, 5, 11, 30, 31, 32, 33, 34, 35, 36, 37, 38, 39, 40, 41, 42, 43, 44, 45, 46] (by decide +kernel) (by decide +kernel)
set_option maxRecDepth 20000 in
theorem gX7_done_X7_isStable : GoodIn wsX7_done (wsV RX7 120 RX7 yX7_isStable wsX7_isStable) := goodIn_app (goodIn_of _ (by decide +kernel)) ggX7_done_X7_isStable
set_option maxRecDepth 20000 in
theorem ggX7_done_X7_isDone : GoodIn wsX7_done wsX7_isDone := goodIn_r _ [20, 21, 22, 23, 24, 25, 26, 5, 27, 28, 29, 30, 31, 32, 33, 34, 35, 36, 37, 38, 39, 40, 41, 42, 43, 44, 45, 46] (by decide +kernel) (by decide +kernel)
set_option maxRecDepth 20000 in
theorem gX7_done_X7_isDone : GoodIn wsX7_done (wsV RX7 134 RX7 yX7_isDone wsX7_isDone) := goodIn_app (goodIn_of _ (by decide +kernel)) ggX7_done_X7_isDone
set_option maxRecDepth 20000 in
theorem ggX7_before_X7_isRotation : GoodIn wsX7_before wsX7_isRotation := goodIn_r _ [7, 8, 9, 10, 11, 6, 12, 26, 27, 28, 29, 30, 31, 32, 33, 34, 35, 36, 37, 38, 39, 40, 41, 42] (by decide +kernel) (by decide +kernel)
set_option maxRecDepth 20000 in
theorem gX7_before_X7_isRotation : GoodIn wsX7_before (wsV RX7 131 RX7 yX7_isRotation wsX7_isRotation) := goodIn_app (goodIn_of _ (by decide +kernel)) ggX7_before_X7_isRotation
set_option maxRecDepth 20000 in
theorem ggX7_before_X7_isDone : GoodIn wsX7_before wsX7_isDone := goodIn_r _ [16, 17, 18, 19, 20, 21, 22, 6, 23, 24, 25, 26, 27, 28, 29, 30, 31, 32, 33, 34, 35, 36, 37, 38, 39, 40, 41, 42] (by decide +kernel) (by decide +kernel)
set_option maxRecDepth 20000 in
theorem gX7_before_X7_isDone : GoodIn wsX7_before (wsV RX7 134 RX7 yX7_isDone wsX7_isDone) := goodIn_app (goodIn_of _ (by decide +kernel)) ggX7_before_X7_isDone
set_option maxRecDepth 20000 in
theorem ggX7_tell_X7_in : GoodIn wsX7_tell wsX7_in := goodIn_r _ [8] (by decide +kernel) (by decide +kernel)
set_option maxRecDepth 20000 in
theorem gX7_tell_X7_in : GoodIn wsX7_tell (va_wsS RX7 61 yX7_in wsX7_in) := goodIn_app (goodIn_of _ (by decide +kernel)) ggX7_tell_X7_in
set_option maxRecDepth 20000 in
theorem ggX7_take_X7_isStable : GoodIn wsX7_take wsX7_isStable := goodIn_r _ [9, 10, 11, 12, 13, 8, 14, 15, 16, 17, 18, 19, 20, 21, 22, 23, 24, 25, 26, 27, 28, 29, 30, 31] (by decide +kernel) (by decide +kernel)
set_option maxRecDepth 20000 in
theorem gX7_take_X7_isStable : GoodIn wsX7_take (wsV RX7 120 RX7 yX7_isStable wsX7_isStable) := goodIn_app (goodIn_of _ (by decide +kernel)) ggX7_take_X7_isStable
set_option maxRecDepth 20000 in
theorem ggX7_fits_X7_isMatching : GoodIn wsX7_fits wsX7_isMatching := goodIn_r _ [7, 8, 9, 10, 11, 12, 6, 13, 14, 15, 16, 17, 18, 19, 20, 21, 22, 23, 24, 25, 26, 27, 28, 29, 30, 31, 32, 33, 34, 35, 36, 37, 38, 39, 40, 41, 42, 43] (by decide +kernel) (by decide +kernel)
set_option maxRecDepth 20000 in
theorem gX7_fits_X7_isMatching : GoodIn wsX7_fits (wsV RX7 137 RX7 yX7_isMatching wsX7_isMatching) := goodIn_app (goodIn_of _ (by decide +kernel)) ggX7_fits_X7_isMatching
set_option maxRecDepth 20000 in
theorem ggX7_blocks_X7_isMatching : GoodIn wsX7_blocks wsX7_isMatching := goodIn_r _ [7, 8, 9, 10, 11, 12, 6, 13, 14, 15, 16, 17, 18, 19, 20, 21, 22, 23, 24, 25, 26, 35, 36, 37, 38, 39, 40, 41, 42, 43, 44, 45, 46, 47, 48, 49, 50, 51] (by decide +kernel) (by decide +kernel)
set_option maxRecDepth 20000 in
theorem gX7_blocks_X7_isMatching : GoodIn wsX7_blocks (wsV RX7 137 RX7 yX7_isMatching wsX7_isMatching) := goodIn_app (goodIn_of _ (by decide +kernel)) ggX7_blocks_X7_isMatching
set_option maxRecDepth 20000 in
theorem ggX7_blocks_X7_blocksOf : GoodIn wsX7_blocks wsX7_blocksOf := goodIn_r _ [30, 8, 9, 31, 32, 33, 6, 34, 10, 14, 15, 16, 17, 18, 19, 20, 21, 22, 23, 24, 25, 26, 35, 36, 37, 38, 39, 40, 41, 42, 43, 44, 45, 46, 47, 48, 49, 50, 51] (by decide +kernel) (by decide +kernel)
set_option maxRecDepth 20000 in
theorem gX7_blocks_X7_blocksOf : GoodIn wsX7_blocks (wsV RX7 91 RX7 yX7_blocksOf wsX7_blocksOf) := goodIn_app (goodIn_of _ (by decide +kernel)) ggX7_blocks_X7_blocksOf
set_option maxRecDepth 20000 in
theorem ggX7_blocking_X7_isMatching : GoodIn wsX7_blocking wsX7_isMatching := goodIn_r _ [9, 3, 4, 10, 11, 12, 8, 13, 14, 15, 16, 17, 18, 19, 20, 21, 22, 23, 24, 25, 26, 31, 32, 33, 34, 35, 36, 37, 38, 39, 40, 41, 42, 43, 44, 45, 46, 47] (by decide +kernel) (by decide +kernel)
set_option maxRecDepth 20000 in
theorem gX7_blocking_X7_isMatching : GoodIn wsX7_blocking (wsV RX7 137 RX7 yX7_isMatching wsX7_isMatching) := goodIn_app (goodIn_of _ (by decide +kernel)) ggX7_blocking_X7_isMatching
set_option maxRecDepth 20000 in
theorem ggX7_blocking_X7_isBlocking : GoodIn wsX7_blocking wsX7_isBlocking := goodIn_r _ [30, 3, 10, 14, 15, 16, 8, 17, 18, 19, 20, 21, 22, 23, 24, 25, 26, 31, 32, 33, 34, 35, 36, 37, 38, 39, 40, 41, 42, 43, 44, 45, 46, 47] (by decide +kernel) (by decide +kernel)
set_option maxRecDepth 20000 in
theorem gX7_blocking_X7_isBlocking : GoodIn wsX7_blocking (wsV RX7 84 RX7 yX7_isBlocking wsX7_isBlocking) := goodIn_app (goodIn_of _ (by decide +kernel)) ggX7_blocking_X7_isBlocking
set_option maxRecDepth 20000 in
theorem ggX7_which_X7_numberOf : GoodIn wsX7_which wsX7_numberOf := goodIn_r _ [8, 9, 10, 11, 12, 13, 14, 15, 16, 17, 18, 19, 20, 21, 22, 23, 24, 25, 26, 27, 28] (by decide +kernel) (by decide +kernel)
set_option maxRecDepth 20000 in
theorem gX7_which_X7_numberOf : GoodIn wsX7_which (wsV RX7 127 RX7 yX7_numberOf wsX7_numberOf) := goodIn_app (goodIn_of _ (by decide +kernel)) ggX7_which_X7_numberOf
