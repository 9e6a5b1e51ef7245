set_option maxRecDepth 20000 in
theorem ggL_law_X6_init : GoodIn wsL_law wsX6_init := goodIn_r _ [8, 9, 10, 11, 12, 13, 14, 15, 16, 17, 18, 19, 20, 21, 22, 23, 24, 25, 26, 27, 28, 29, 30, 31, 32, 33, 34, 35, 36, 37, 38, 39, 40, 41, 42, 43, 44, 45, 46, 47, 48, 49, 50, 51, 52, 53, 54, 55, 56, 57, 58, 59, 60, 61, 62, 63, 64, 65, 66, 67, 68, 69, 70, 71, 72, 73, 74, 75, 76, 77, 78, 79, 80, 81, 82, 83, 84, 85, 86, 87, 88, 89, 90, 91, 92, 93, 94, 95, 96, 97, 98, 99, 100, 101, 102, 103, 104, 105, 106, 107, 688, 689, 690, 691, 692, 665, 666, 667, 668, 669, 670, 693, 694, 695, 696, 697, 698, 699, 700, 701, 702, 703, 704, 705, 706, 707, 708, 709, 710, 711, 712, 713, 714] (by decide +kernel) (by decide +kernel)
set_option maxRecDepth 20000 in
theorem gL_law_X6_init : GoodIn wsL_law (wsX6_init) := ggL_law_X6_init
set_option maxRecDepth 20000 in
theorem ggL_law_X7_init : GoodIn wsL_law wsX7_init := goodIn_r _ [110, 111, 10, 11, 112, 113, 42, 114, 115, 116, 117, 118, 119, 120, 121, 122, 123, 124, 125, 126, 127, 5, 128, 129, 671, 672, 673, 674, 675, 676, 677, 678, 679, 680, 681, 682, 683, 684, 685, 686, 687] (by decide +kernel) (by decide +kernel)
set_option maxRecDepth 20000 in
theorem gL_law_X7_init : GoodIn wsL_law (wsX7_init) := ggL_law_X7_init
set_option maxRecDepth 20000 in
theorem ggL_law_L_make : GoodIn wsL_law wsL_make := goodIn_ca (goodIn_r _ [133, 134, 135, 136, 137, 2, 138, 139, 140, 15, 19, 141, 51, 52, 14, 53, 54, 55, 40, 41, 43, 56, 57, 58, 39, 59, 60, 61, 62, 63, 64, 65, 49, 48, 66, 67, 68, 69, 70, 142, 78, 79, 18, 80, 75, 81, 143, 144, 145, 146, 24, 28, 665, 666, 667, 668, 669, 670, 688, 689, 690, 691, 692, 711, 712, 713, 714, 693, 694, 695, 696, 697, 698, 699, 700, 701, 702, 703, 704] (by decide +kernel) (by decide +kernel)) (goodIn_sub (fun _ h => List.mem_append_left _ (List.mem_append_right _ h)) (by decide +kernel))
set_option maxRecDepth 20000 in
theorem gL_law_L_make : GoodIn wsL_law (va_wsS RL 31 yL_make wsL_make) := goodIn_app (goodIn_of _ (by decide +kernel)) ggL_law_L_make
set_option maxRecDepth 20000 in
theorem ggL_law_X7_make : GoodIn wsL_law wsX7_make := goodIn_r _ [150, 151, 152, 153, 5, 154, 125, 126, 127, 128, 112, 113, 129, 114, 117, 116, 671, 672, 673, 674, 675, 676, 677, 678, 679, 680, 681, 682, 683, 684, 685, 686, 687] (by decide +kernel) (by decide +kernel)
set_option maxRecDepth 20000 in
theorem gL_law_X7_make : GoodIn wsL_law (wsV RL 36 RX7 yX7_make wsX7_make) := goodIn_app (goodIn_of _ (by decide +kernel)) ggL_law_X7_make
set_option maxRecDepth 20000 in
theorem ggL_law_X7_thrown : GoodIn wsL_law wsX7_thrown := goodIn_r _ [158, 151, 671, 672, 673, 674, 675, 676, 677, 678, 679, 680, 681, 682, 683, 684, 685, 686, 687] (by decide +kernel) (by decide +kernel)
set_option maxRecDepth 20000 in
theorem gL_law_X7_thrown : GoodIn wsL_law (wsV RL 37 RX7 yX7_thrown wsX7_thrown) := goodIn_app (goodIn_of _ (by decide +kernel)) ggL_law_X7_thrown
set_option maxRecDepth 20000 in
theorem ggL_law_L_seats : GoodIn wsL_law wsL_seats := goodIn_ca (goodIn_ca (goodIn_r _ [161, 162, 134, 163, 164, 165, 2, 166, 167, 168, 139, 140, 15, 169, 170, 171, 14, 172, 55, 143, 144, 145, 146, 24, 28, 665, 666, 667, 668, 669, 670, 688, 689, 690, 691, 692, 695, 696, 697, 698, 699, 700, 701, 702, 703, 704] (by decide +kernel) (by decide +kernel)) (goodIn_sub (fun _ h => List.mem_append_right _ h) (by decide +kernel))) (goodIn_sub (fun _ h => List.mem_append_left _ (List.mem_append_right _ h)) (by decide +kernel))
set_option maxRecDepth 20000 in
theorem gL_law_L_seats : GoodIn wsL_law (va_wsS RL 41 yL_seats wsL_seats) := goodIn_app (goodIn_of _ (by decide +kernel)) ggL_law_L_seats
set_option maxRecDepth 20000 in
theorem ggL_law_X7_seats : GoodIn wsL_law wsX7_seats := goodIn_r _ [176, 113, 151, 114, 129, 152, 153, 5, 154, 671, 672, 673, 674, 675, 676, 677, 678, 679, 680, 681, 682, 683, 684, 685, 686, 687] (by decide +kernel) (by decide +kernel)
set_option maxRecDepth 20000 in
theorem gL_law_X7_seats : GoodIn wsL_law (wsV RL 43 RX7 yX7_seats wsX7_seats) := goodIn_app (goodIn_of _ (by decide +kernel)) ggL_law_X7_seats
set_option maxRecDepth 20000 in
theorem ggL_law_X6_prefer : GoodIn wsL_law wsX6_prefer := goodIn_r _ [180, 15, 181, 182, 183, 14, 184, 40, 41, 185, 186, 187, 39, 188, 61, 48, 189, 190, 191, 192, 60, 143, 144, 145, 2, 146, 24, 28, 193, 194, 195, 196, 49, 665, 666, 667, 668, 669, 670, 688, 689, 690, 691, 692, 711, 712, 713, 714, 695, 696, 697, 698, 699, 700, 701, 702, 703, 704] (by decide +kernel) (by decide +kernel)
set_option maxRecDepth 20000 in
theorem gL_law_X6_prefer : GoodIn wsL_law (wsV RL 44 RX6 yX6_prefer wsX6_prefer) := goodIn_app (goodIn_of _ (by decide +kernel)) ggL_law_X6_prefer
set_option maxRecDepth 20000 in
theorem ggL_law_X7_prefer : GoodIn wsL_law wsX7_prefer := goodIn_r _ [200, 151, 115, 116, 129, 201, 202, 203, 5, 204, 152, 153, 154, 205, 206, 207, 208, 112, 113, 209, 210, 211, 212, 671, 672, 673, 674, 675, 676, 677, 678, 679, 680, 681, 682, 683, 684, 685, 686, 687] (by decide +kernel) (by decide +kernel)
set_option maxRecDepth 20000 in
theorem gL_law_X7_prefer : GoodIn wsL_law (wsV RL 48 RX7 yX7_prefer wsX7_prefer) := goodIn_app (goodIn_of _ (by decide +kernel)) ggL_law_X7_prefer
set_option maxRecDepth 20000 in
theorem ggL_law_X6_forget : GoodIn wsL_law wsX6_forget := goodIn_r _ [216, 15, 181, 182, 183, 14, 184, 40, 41, 217, 190, 191, 39, 192, 60, 143, 144, 145, 2, 146, 24, 28, 218, 63, 64, 65, 49, 48, 66, 67, 68, 69, 665, 666, 667, 668, 669, 670, 688, 689, 690, 691, 692, 711, 712, 713, 714, 695, 696, 697, 698, 699, 700, 701, 702, 703, 704] (by decide +kernel) (by decide +kernel)
set_option maxRecDepth 20000 in
theorem gL_law_X6_forget : GoodIn wsL_law (wsV RL 49 RX6 yX6_forget wsX6_forget) := goodIn_app (goodIn_of _ (by decide +kernel)) ggL_law_X6_forget
set_option maxRecDepth 20000 in
theorem ggL_law_X7_forget : GoodIn wsL_law wsX7_forget := goodIn_r _ [222, 151, 116, 129, 201, 202, 203, 5, 204, 152, 153, 154, 205, 206, 207, 208, 112, 113, 671, 672, 673, 674, 675, 676, 677, 678, 679, 680, 681, 682, 683, 684, 685, 686, 687] (by decide +kernel) (by decide +kernel)
set_option maxRecDepth 20000 in
theorem gL_law_X7_forget : GoodIn wsL_law (wsV RL 53 RX7 yX7_forget wsX7_forget) := goodIn_app (goodIn_of _ (by decide +kernel)) ggL_law_X7_forget
set_option maxRecDepth 20000 in
theorem ggL_law_X6_listed : GoodIn wsL_law wsX6_listed := goodIn_r _ [226, 15, 181, 182, 183, 14, 184, 40, 41, 217, 190, 191, 39, 192, 60, 227, 228, 229, 230, 61, 48, 665, 666, 667, 668, 669, 670, 688, 689, 690, 691, 692, 711, 712, 713, 714] (by decide +kernel) (by decide +kernel)
set_option maxRecDepth 20000 in
theorem gL_law_X6_listed : GoodIn wsL_law (wsV RL 54 RX6 yX6_listed wsX6_listed) := goodIn_app (goodIn_of _ (by decide +kernel)) ggL_law_X6_listed
