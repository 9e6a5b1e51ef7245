set_option maxRecDepth 20000 in
theorem ggX0_findAll_X3_clear : GoodIn wsX0_findAll wsX3_clear := goodIn_r _ [6, 7, 8, 9, 10, 11, 123, 124] (by decide +kernel) (by decide +kernel)
set_option maxRecDepth 20000 in
theorem gX0_findAll_X3_clear : GoodIn wsX0_findAll (wsV RX0 33 RX3 yX3_clear wsX3_clear) := goodIn_app (goodIn_of _ (by decide +kernel)) ggX0_findAll_X3_clear
set_option maxRecDepth 20000 in
theorem ggX0_findAll_X0_letAllAsk : GoodIn wsX0_findAll wsX0_letAllAsk := goodIn_r _ [16, 17, 18, 9, 10, 11, 19, 20, 21, 15, 22, 23, 1, 24, 25, 26, 27, 28, 29, 30, 31, 32, 33, 34, 35, 36, 37, 38, 39, 40, 41, 42, 43, 44, 5, 45, 46, 7, 47, 48, 49, 50, 51, 52, 53, 54, 117, 118, 119, 120, 121, 122, 125, 126, 127, 128, 129, 123, 124, 130, 131, 132, 133] (by decide +kernel) (by decide +kernel)
set_option maxRecDepth 20000 in
theorem gX0_findAll_X0_letAllAsk : GoodIn wsX0_findAll (wsV RX0 38 RX0 yX0_letAllAsk wsX0_letAllAsk) := goodIn_app (goodIn_of _ (by decide +kernel)) ggX0_findAll_X0_letAllAsk
set_option maxRecDepth 20000 in
theorem ggX0_findAll_X0_noteLimits : GoodIn wsX0_findAll wsX0_noteLimits := goodIn_r _ [58, 23, 59, 1, 60, 61, 62, 63, 38, 64, 40, 51, 52, 53, 5, 54, 46, 7, 117, 118, 119, 120, 121, 122, 125, 126, 127, 128, 129, 123, 124, 130, 131, 132, 133] (by decide +kernel) (by decide +kernel)
set_option maxRecDepth 20000 in
theorem gX0_findAll_X0_noteLimits : GoodIn wsX0_findAll (wsV RX0 41 RX0 yX0_noteLimits wsX0_noteLimits) := goodIn_app (goodIn_of _ (by decide +kernel)) ggX0_findAll_X0_noteLimits
set_option maxRecDepth 20000 in
theorem ggX0_findAll_X0_seatFrom : GoodIn wsX0_findAll wsX0_seatFrom := goodIn_r _ [68, 1, 69, 59, 23, 70, 71, 72, 15, 73, 74, 75, 76, 5, 77, 46, 78, 79, 80, 81, 82, 36, 37, 38, 39, 40, 41, 83, 84, 85, 86, 7, 87, 88, 89, 90, 91, 92, 93, 94, 95, 96, 97, 98, 99, 100, 101, 102, 103, 104, 62, 63, 64, 28, 29, 30, 31, 32, 33, 34, 105, 106, 107, 108, 60, 35, 109, 110, 111, 112, 113, 114, 115, 116, 47, 48, 49, 50, 65, 66, 67, 117, 118, 119, 120, 121, 122, 125, 126, 127, 128, 129, 130, 131, 132, 133, 123, 124, 134, 135, 136, 137] (by decide +kernel) (by decide +kernel)
set_option maxRecDepth 20000 in
theorem gX0_findAll_X0_seatFrom : GoodIn wsX0_findAll (wsV RX0 44 RX0 yX0_seatFrom wsX0_seatFrom) := goodIn_app (goodIn_of _ (by decide +kernel)) ggX0_findAll_X0_seatFrom
set_option maxRecDepth 20000 in
theorem ggX0_letAllAsk_J7_fill_53178 : GoodIn wsX0_letAllAsk wsJ7_fill_53178 := goodIn_r _ [5] (by decide +kernel) (by decide +kernel)
set_option maxRecDepth 20000 in
theorem gX0_letAllAsk_J7_fill_53178 : GoodIn wsX0_letAllAsk (va_wsS RX0 48 yJ7_fill_53178 wsJ7_fill_53178) := goodIn_app (goodIn_of _ (by decide +kernel)) ggX0_letAllAsk_J7_fill_53178
set_option maxRecDepth 20000 in
theorem ggX0_letAllAsk_X0_nextAsker : GoodIn wsX0_letAllAsk wsX0_nextAsker := goodIn_r _ [10, 11, 12, 1, 46, 47, 48, 49, 50, 51, 52, 53, 54, 55, 56, 57, 58, 59, 60, 61, 62] (by decide +kernel) (by decide +kernel)
set_option maxRecDepth 20000 in
theorem gX0_letAllAsk_X0_nextAsker : GoodIn wsX0_letAllAsk (wsV RX0 54 RX0 yX0_nextAsker wsX0_nextAsker) := goodIn_app (goodIn_of _ (by decide +kernel)) ggX0_letAllAsk_X0_nextAsker
set_option maxRecDepth 20000 in
theorem ggX0_letAllAsk_X0_ask : GoodIn wsX0_letAllAsk wsX0_ask := goodIn_r _ [16, 11, 1, 12, 17, 18, 19, 20, 21, 22, 23, 24, 25, 26, 27, 28, 29, 30, 31, 32, 33, 34, 35, 36, 37, 38, 39, 40, 41, 42, 43, 44, 45, 46, 47, 48, 49, 50, 51, 52, 53, 54, 55, 56, 57, 58, 59, 60, 61, 62] (by decide +kernel) (by decide +kernel)
set_option maxRecDepth 20000 in
theorem gX0_letAllAsk_X0_ask : GoodIn wsX0_letAllAsk (wsV RX0 58 RX0 yX0_ask wsX0_ask) := goodIn_app (goodIn_of _ (by decide +kernel)) ggX0_letAllAsk_X0_ask
set_option maxRecDepth 20000 in
theorem ggX0_ask_X2_at : GoodIn wsX0_ask wsX2_at := goodIn_r _ [8, 9, 10, 46, 47, 48, 49] (by decide +kernel) (by decide +kernel)
set_option maxRecDepth 20000 in
theorem gX0_ask_X2_at : GoodIn wsX0_ask (wsV RX0 79 RX2 yX2_at wsX2_at) := goodIn_app (goodIn_of _ (by decide +kernel)) ggX0_ask_X2_at
set_option maxRecDepth 20000 in
theorem ggX0_ask_X1_isPair : GoodIn wsX0_ask wsX1_isPair := goodIn_r _ [15, 16, 17, 39, 40, 41, 42, 43, 46, 47, 48, 49] (by decide +kernel) (by decide +kernel)
set_option maxRecDepth 20000 in
theorem gX0_ask_X1_isPair : GoodIn wsX0_ask (wsV RX0 83 RX1 yX1_isPair wsX1_isPair) := goodIn_app (goodIn_of _ (by decide +kernel)) ggX0_ask_X1_isPair
set_option maxRecDepth 20000 in
theorem ggX0_ask_X3_lastAt : GoodIn wsX0_ask wsX3_lastAt := goodIn_r _ [22, 23, 24, 25, 26, 27, 14, 28, 17, 44, 45, 39, 40, 41, 42, 43, 46, 47, 48, 49] (by decide +kernel) (by decide +kernel)
set_option maxRecDepth 20000 in
theorem gX0_ask_X3_lastAt : GoodIn wsX0_ask (wsV RX0 87 RX3 yX3_lastAt wsX3_lastAt) := goodIn_app (goodIn_of _ (by decide +kernel)) ggX0_ask_X3_lastAt
set_option maxRecDepth 20000 in
theorem ggX0_ask_X3_countAt : GoodIn wsX0_ask wsX3_countAt := goodIn_r _ [32, 23, 24, 44, 45, 39, 40, 41, 42, 43] (by decide +kernel) (by decide +kernel)
set_option maxRecDepth 20000 in
theorem gX0_ask_X3_countAt : GoodIn wsX0_ask (wsV RX0 91 RX3 yX3_countAt wsX3_countAt) := goodIn_app (goodIn_of _ (by decide +kernel)) ggX0_ask_X3_countAt
set_option maxRecDepth 20000 in
theorem ggX0_noteLimits_X1_placeOfHospital : GoodIn wsX0_noteLimits wsX1_placeOfHospital := goodIn_r _ [9, 10, 24, 25, 26, 27, 28, 31, 32, 33, 34] (by decide +kernel) (by decide +kernel)
set_option maxRecDepth 20000 in
theorem gX0_noteLimits_X1_placeOfHospital : GoodIn wsX0_noteLimits (wsV RX0 97 RX1 yX1_placeOfHospital wsX1_placeOfHospital) := goodIn_app (goodIn_of _ (by decide +kernel)) ggX0_noteLimits_X1_placeOfHospital
set_option maxRecDepth 20000 in
theorem ggX0_noteLimits_X3_countAt : GoodIn wsX0_noteLimits wsX3_countAt := goodIn_r _ [15, 16, 17, 29, 30, 24, 25, 26, 27, 28] (by decide +kernel) (by decide +kernel)
set_option maxRecDepth 20000 in
theorem gX0_noteLimits_X3_countAt : GoodIn wsX0_noteLimits (wsV RX0 91 RX3 yX3_countAt wsX3_countAt) := goodIn_app (goodIn_of _ (by decide +kernel)) ggX0_noteLimits_X3_countAt
set_option maxRecDepth 20000 in
theorem ggX0_seatFrom_X0_nextToSeat : GoodIn wsX0_seatFrom wsX0_nextToSeat := goodIn_r _ [9, 4, 3, 81, 82, 83, 84, 85, 86, 87, 88, 89, 90, 91] (by decide +kernel) (by decide +kernel)
set_option maxRecDepth 20000 in
theorem gX0_seatFrom_X0_nextToSeat : GoodIn wsX0_seatFrom (wsV RX0 103 RX0 yX0_nextToSeat wsX0_nextToSeat) := goodIn_app (goodIn_of _ (by decide +kernel)) ggX0_seatFrom_X0_nextToSeat
set_option maxRecDepth 20000 in
theorem ggX0_seatFrom_X3_blockingPair : GoodIn wsX0_seatFrom wsX3_blockingPair := goodIn_r _ [14, 15, 16, 17, 18, 13, 19, 20, 21, 22, 23, 24, 25, 26, 27, 28, 29, 30, 31, 32, 33, 34, 35, 96, 97, 87, 88, 89, 90, 91, 92, 93, 94, 95] (by decide +kernel) (by decide +kernel)
set_option maxRecDepth 20000 in
theorem gX0_seatFrom_X3_blockingPair : GoodIn wsX0_seatFrom (wsV RX0 106 RX3 yX3_blockingPair wsX3_blockingPair) := goodIn_app (goodIn_of _ (by decide +kernel)) ggX0_seatFrom_X3_blockingPair
set_option maxRecDepth 20000 in
theorem ggX0_seatFrom_X5_add : GoodIn wsX0_seatFrom wsX5_add := goodIn_r _ [40, 41, 42, 43, 44, 45, 46, 47, 48, 49, 50, 51, 23, 52, 25, 98, 99, 100, 101, 96, 97, 87, 88, 89, 90, 91, 92, 93, 94, 95] (by decide +kernel) (by decide +kernel)
set_option maxRecDepth 20000 in
theorem gX0_seatFrom_X5_add : GoodIn wsX0_seatFrom (wsV RX0 109 RX5 yX5_add wsX5_add) := goodIn_app (goodIn_of _ (by decide +kernel)) ggX0_seatFrom_X5_add
set_option maxRecDepth 20000 in
theorem ggX0_seatFrom_X2_at : GoodIn wsX0_seatFrom wsX2_at := goodIn_r _ [57, 58, 59, 92, 93, 94, 95] (by decide +kernel) (by decide +kernel)
set_option maxRecDepth 20000 in
theorem gX0_seatFrom_X2_at : GoodIn wsX0_seatFrom (wsV RX0 79 RX2 yX2_at wsX2_at) := goodIn_app (goodIn_of _ (by decide +kernel)) ggX0_seatFrom_X2_at
set_option maxRecDepth 20000 in
theorem ggX0_seatFrom_X0_trySeat : GoodIn wsX0_seatFrom wsX0_trySeat := goodIn_r _ [63, 64, 4, 1, 65, 21, 22, 23, 24, 25, 26, 66, 67, 68, 8, 69, 70, 71, 72, 13, 73, 31, 15, 20, 27, 28, 29, 30, 74, 75, 76, 77, 78, 79, 80, 0, 2, 3, 5, 6, 7, 9, 10, 11, 12, 14, 16, 17, 18, 19, 32, 33, 34, 35, 36, 37, 38, 39, 40, 41, 42, 43, 44, 45, 46, 47, 48, 49, 50, 51, 52, 53, 54, 55, 56, 57, 58, 59, 60, 61, 62, 81, 82, 83, 84, 85, 86, 87, 88, 89, 90, 91, 92, 93, 94, 95, 96, 97, 98, 99, 100, 101] (by decide +kernel) (by decide +kernel)
set_option maxRecDepth 20000 in
theorem gX0_seatFrom_X0_trySeat : GoodIn wsX0_seatFrom (wsV RX0 115 RX0 yX0_trySeat wsX0_trySeat) := goodIn_app (goodIn_of _ (by decide +kernel)) ggX0_seatFrom_X0_trySeat
set_option maxRecDepth 20000 in
theorem ggX0_trySeat_X1_isPair : GoodIn wsX0_trySeat wsX1_isPair := goodIn_r _ [8, 9, 10, 87, 88, 89, 90, 91, 92, 93, 94, 95] (by decide +kernel) (by decide +kernel)
set_option maxRecDepth 20000 in
theorem gX0_trySeat_X1_isPair : GoodIn wsX0_trySeat (wsV RX0 83 RX1 yX1_isPair wsX1_isPair) := goodIn_app (goodIn_of _ (by decide +kernel)) ggX0_trySeat_X1_isPair
set_option maxRecDepth 20000 in
theorem ggX0_trySeat_X0_hasRivals : GoodIn wsX0_trySeat wsX0_hasRivals := goodIn_r _ [15, 3, 16, 17, 18, 19, 20, 21, 22, 23, 5, 6, 7, 8, 9, 10, 24, 25, 26, 27, 28, 29, 30, 31, 81, 82, 83, 84, 85, 86, 96, 97, 87, 88, 89, 90, 91, 92, 93, 94, 95] (by decide +kernel) (by decide +kernel)
set_option maxRecDepth 20000 in
theorem gX0_trySeat_X0_hasRivals : GoodIn wsX0_trySeat (wsV RX0 119 RX0 yX0_hasRivals wsX0_hasRivals) := goodIn_app (goodIn_of _ (by decide +kernel)) ggX0_trySeat_X0_hasRivals
set_option maxRecDepth 20000 in
theorem ggX0_trySeat_X0_seatFrom : GoodIn wsX0_trySeat wsX0_seatFrom := goodIn_r _ [35, 3, 36, 37, 2, 38, 39, 40, 14, 41, 42, 43, 44, 19, 45, 22, 46, 47, 48, 49, 23, 5, 6, 7, 8, 9, 10, 24, 25, 26, 27, 21, 50, 51, 52, 53, 54, 55, 56, 57, 58, 59, 60, 61, 62, 63, 64, 65, 66, 67, 68, 69, 70, 71, 72, 73, 74, 75, 76, 77, 78, 79, 80, 0, 1, 4, 11, 12, 13, 15, 16, 17, 18, 20, 28, 29, 30, 31, 32, 33, 34, 81, 82, 83, 84, 85, 86, 87, 88, 89, 90, 91, 92, 93, 94, 95, 96, 97, 98, 99, 100, 101] (by decide +kernel) (by decide +kernel)
set_option maxRecDepth 20000 in
theorem gX0_trySeat_X0_seatFrom : GoodIn wsX0_trySeat (wsV RX0 44 RX0 yX0_seatFrom wsX0_seatFrom) := goodIn_app (goodIn_of _ (by decide +kernel)) ggX0_trySeat_X0_seatFrom
set_option maxRecDepth 20000 in
theorem ggX0_hasRivals_X3_isRival : GoodIn wsX0_hasRivals wsX3_isRival := goodIn_r _ [6, 7, 8, 9, 10, 11, 12, 13, 14, 15, 16, 17, 18, 5, 19, 20, 21, 22, 23, 30, 31, 32, 33, 34, 35, 36, 37, 38, 39, 40] (by decide +kernel) (by decide +kernel)
set_option maxRecDepth 20000 in
theorem gX0_hasRivals_X3_isRival : GoodIn wsX0_hasRivals (wsV RX0 123 RX3 yX3_isRival wsX3_isRival) := goodIn_app (goodIn_of _ (by decide +kernel)) ggX0_hasRivals_X3_isRival
set_option maxRecDepth 20000 in
theorem ggX1_init_X2_init : GoodIn wsX1_init wsX2_init := goodIn_r _ [12, 13, 2, 3, 14, 9, 15, 16, 39, 40, 41, 42] (by decide +kernel) (by decide +kernel)
set_option maxRecDepth 20000 in
theorem gX1_init_X2_init_n11 : GoodIn wsX1_init (wsX2_init) := ggX1_init_X2_init
set_option maxRecDepth 20000 in
theorem ggX1_init_X1_open : GoodIn wsX1_init wsX1_open := goodIn_r _ [21, 22, 23, 7, 8, 10, 24, 25, 26, 6, 27, 28, 29, 30, 31, 32, 33, 16, 15, 34, 35, 36, 37, 38, 43, 44, 45, 46, 47, 39, 40, 41, 42] (by decide +kernel) (by decide +kernel)
set_option maxRecDepth 20000 in
theorem gX1_init_X1_open : GoodIn wsX1_init (wsV RX1 25 RX1 yX1_open wsX1_open) := goodIn_app (goodIn_of _ (by decide +kernel)) ggX1_init_X1_open
set_option maxRecDepth 20000 in
theorem ggX1_open_X2_open : GoodIn wsX1_open wsX2_open := goodIn_r _ [10, 11, 12, 13, 14, 15, 9, 16, 17, 18, 19, 20, 21, 22, 29, 30, 31, 32] (by decide +kernel) (by decide +kernel)
set_option maxRecDepth 20000 in
theorem gX1_open_X2_open : GoodIn wsX1_open (wsV RX1 36 RX2 yX2_open wsX2_open) := goodIn_app (goodIn_of _ (by decide +kernel)) ggX1_open_X2_open
set_option maxRecDepth 20000 in
theorem ggX1_open_J7_fill_53178 : GoodIn wsX1_open wsJ7_fill_53178 := goodIn_r _ [22] (by decide +kernel) (by decide +kernel)
set_option maxRecDepth 20000 in
theorem gX1_open_J7_fill_53178 : GoodIn wsX1_open (va_wsS RX1 37 yJ7_fill_53178 wsJ7_fill_53178) := goodIn_app (goodIn_of _ (by decide +kernel)) ggX1_open_J7_fill_53178
set_option maxRecDepth 20000 in
theorem ggX1_countPairs_X1_isPair : GoodIn wsX1_countPairs wsX1_isPair := goodIn_r _ [7, 8, 9, 10, 11, 12, 13, 14, 15, 16, 17, 18] (by decide +kernel) (by decide +kernel)
set_option maxRecDepth 20000 in
theorem gX1_countPairs_X1_isPair : GoodIn wsX1_countPairs (wsV RX1 47 RX1 yX1_isPair wsX1_isPair) := goodIn_app (goodIn_of _ (by decide +kernel)) ggX1_countPairs_X1_isPair
set_option maxRecDepth 20000 in
theorem ggX2_open_X2_empty : GoodIn wsX2_open wsX2_empty := goodIn_r _ [7, 8, 9, 10, 11, 12, 13, 14, 15, 16, 17] (by decide +kernel) (by decide +kernel)
set_option maxRecDepth 20000 in
theorem gX2_open_X2_empty : GoodIn wsX2_open (wsV RX2 27 RX2 yX2_empty wsX2_empty) := goodIn_app (goodIn_of _ (by decide +kernel)) ggX2_open_X2_empty
set_option maxRecDepth 20000 in
theorem ggX2_canAdd_X2_hasOwner : GoodIn wsX2_canAdd wsX2_hasOwner := goodIn_r _ [7, 8, 9, 10, 11, 12] (by decide +kernel) (by decide +kernel)
set_option maxRecDepth 20000 in
theorem gX2_canAdd_X2_hasOwner : GoodIn wsX2_canAdd (wsV RX2 31 RX2 yX2_hasOwner wsX2_hasOwner) := goodIn_app (goodIn_of _ (by decide +kernel)) ggX2_canAdd_X2_hasOwner
set_option maxRecDepth 20000 in
theorem ggX2_empty_J7_fill_53178 : GoodIn wsX2_empty wsJ7_fill_53178 := goodIn_r _ [6] (by decide +kernel) (by decide +kernel)
set_option maxRecDepth 20000 in
theorem gX2_empty_J7_fill_53178 : GoodIn wsX2_empty (va_wsS RX2 35 yJ7_fill_53178 wsJ7_fill_53178) := goodIn_app (goodIn_of _ (by decide +kernel)) ggX2_empty_J7_fill_53178
set_option maxRecDepth 20000 in
theorem ggX3_init_X3_clear : GoodIn wsX3_init wsX3_clear := goodIn_r _ [11, 5, 12, 13, 14, 15, 16, 17] (by decide +kernel) (by decide +kernel)
set_option maxRecDepth 20000 in
theorem gX3_init_X3_clear : GoodIn wsX3_init (wsV RX3 19 RX3 yX3_clear wsX3_clear) := goodIn_app (goodIn_of _ (by decide +kernel)) ggX3_init_X3_clear
set_option maxRecDepth 20000 in
theorem ggX3_clear_J7_fill_53178 : GoodIn wsX3_clear wsJ7_fill_53178 := goodIn_r _ [5] (by decide +kernel) (by decide +kernel)
set_option maxRecDepth 20000 in
theorem gX3_clear_J7_fill_53178 : GoodIn wsX3_clear (va_wsS RX3 22 yJ7_fill_53178 wsJ7_fill_53178) := goodIn_app (goodIn_of _ (by decide +kernel)) ggX3_clear_J7_fill_53178
set_option maxRecDepth 20000 in
theorem ggX3_lastAt_X1_placeOfResident : GoodIn wsX3_lastAt wsX1_placeOfResident := goodIn_r _ [7, 8, 11, 12, 13, 14, 15, 16, 17, 18, 19] (by decide +kernel) (by decide +kernel)
set_option maxRecDepth 20000 in
theorem gX3_lastAt_X1_placeOfResident : GoodIn wsX3_lastAt (wsV RX3 34 RX1 yX1_placeOfResident wsX1_placeOfResident) := goodIn_app (goodIn_of _ (by decide +kernel)) ggX3_lastAt_X1_placeOfResident
set_option maxRecDepth 20000 in
theorem ggX3_isMatching_X1_isPair : GoodIn wsX3_isMatching wsX1_isPair := goodIn_r _ [7, 8, 9, 17, 18, 19, 20, 21, 22, 23, 24, 25] (by decide +kernel) (by decide +kernel)
set_option maxRecDepth 20000 in
theorem gX3_isMatching_X1_isPair : GoodIn wsX3_isMatching (wsV RX3 38 RX1 yX1_isPair wsX1_isPair) := goodIn_app (goodIn_of _ (by decide +kernel)) ggX3_isMatching_X1_isPair
set_option maxRecDepth 20000 in
theorem ggX3_isMatching_X3_countAt : GoodIn wsX3_isMatching wsX3_countAt := goodIn_r _ [14, 1, 2, 15, 16, 17, 18, 19, 20, 21] (by decide +kernel) (by decide +kernel)
set_option maxRecDepth 20000 in
theorem gX3_isMatching_X3_countAt : GoodIn wsX3_isMatching (wsV RX3 42 RX3 yX3_countAt wsX3_countAt) := goodIn_app (goodIn_of _ (by decide +kernel)) ggX3_isMatching_X3_countAt
set_option maxRecDepth 20000 in
theorem ggX3_isStable_X3_isMatching : GoodIn wsX3_isStable wsX3_isMatching := goodIn_r _ [5, 6, 7, 8, 9, 10, 11, 12, 13, 14, 15, 16, 17, 4, 18, 35, 36, 37, 38, 39, 40, 41, 42, 43, 44, 45] (by decide +kernel) (by decide +kernel)
set_option maxRecDepth 20000 in
theorem gX3_isStable_X3_isMatching : GoodIn wsX3_isStable (wsV RX3 49 RX3 yX3_isMatching wsX3_isMatching) := goodIn_app (goodIn_of _ (by decide +kernel)) ggX3_isStable_X3_isMatching
set_option maxRecDepth 20000 in
theorem ggX3_isStable_X3_blockingPair : GoodIn wsX3_isStable wsX3_blockingPair := goodIn_r _ [22, 6, 23, 24, 25, 4, 26, 8, 9, 10, 11, 12, 13, 14, 27, 28, 29, 30, 7, 31, 32, 33, 34, 35, 36, 37, 38, 39, 40, 41, 42, 43, 44, 45] (by decide +kernel) (by decide +kernel)
set_option maxRecDepth 20000 in
theorem gX3_isStable_X3_blockingPair : GoodIn wsX3_isStable (wsV RX3 53 RX3 yX3_blockingPair wsX3_blockingPair) := goodIn_app (goodIn_of _ (by decide +kernel)) ggX3_isStable_X3_blockingPair
set_option maxRecDepth 20000 in
theorem ggX3_countBlocking_X3_isBlockedBy : GoodIn wsX3_countBlocking wsX3_isBlockedBy := goodIn_r _ [6, 1, 7, 8, 9, 10, 11, 12, 13, 14, 15, 16, 5, 17, 18, 19, 20, 21, 22, 23, 24, 25, 26, 27, 28, 29, 30, 31, 32, 33] (by decide +kernel) (by decide +kernel)
set_option maxRecDepth 20000 in
theorem gX3_countBlocking_X3_isBlockedBy : GoodIn wsX3_countBlocking (wsV RX3 59 RX3 yX3_isBlockedBy wsX3_isBlockedBy) := goodIn_app (goodIn_of _ (by decide +kernel)) ggX3_countBlocking_X3_isBlockedBy
set_option maxRecDepth 20000 in
theorem ggX3_blockingPair_X3_isBlockedBy : GoodIn wsX3_blockingPair wsX3_isBlockedBy := goodIn_r _ [6, 1, 7, 8, 9, 10, 11, 12, 13, 14, 15, 16, 5, 17, 18, 19, 20, 21, 22, 23, 24, 25, 26, 27, 28, 29, 30, 31, 32, 33] (by decide +kernel) (by decide +kernel)
set_option maxRecDepth 20000 in
theorem gX3_blockingPair_X3_isBlockedBy : GoodIn wsX3_blockingPair (wsV RX3 59 RX3 yX3_isBlockedBy wsX3_isBlockedBy) := goodIn_app (goodIn_of _ (by decide +kernel)) ggX3_blockingPair_X3_isBlockedBy
set_option maxRecDepth 20000 in
theorem ggX3_isBlockedBy_X1_isPair : GoodIn wsX3_isBlockedBy wsX1_isPair := goodIn_r _ [6, 7, 8, 21, 22, 23, 24, 25, 26, 27, 28, 29] (by decide +kernel) (by decide +kernel)
set_option maxRecDepth 20000 in
theorem gX3_isBlockedBy_X1_isPair : GoodIn wsX3_isBlockedBy (wsV RX3 38 RX1 yX1_isPair wsX1_isPair) := goodIn_app (goodIn_of _ (by decide +kernel)) ggX3_isBlockedBy_X1_isPair
set_option maxRecDepth 20000 in
theorem ggX3_isBlockedBy_X3_wouldGo : GoodIn wsX3_isBlockedBy wsX3_wouldGo := goodIn_r _ [13, 1, 14, 19, 20, 21, 22, 23, 24, 25, 26, 27, 28, 29] (by decide +kernel) (by decide +kernel)
set_option maxRecDepth 20000 in
theorem gX3_isBlockedBy_X3_wouldGo : GoodIn wsX3_isBlockedBy (wsV RX3 62 RX3 yX3_wouldGo wsX3_wouldGo) := goodIn_app (goodIn_of _ (by decide +kernel)) ggX3_isBlockedBy_X3_wouldGo
set_option maxRecDepth 20000 in
theorem ggX3_isBlockedBy_X3_wouldGet : GoodIn wsX3_isBlockedBy wsX3_wouldGet := goodIn_r _ [18, 1, 14, 19, 20, 21, 22, 23, 24, 25, 26, 27, 28, 29] (by decide +kernel) (by decide +kernel)
set_option maxRecDepth 20000 in
theorem gX3_isBlockedBy_X3_wouldGet : GoodIn wsX3_isBlockedBy (wsV RX3 65 RX3 yX3_wouldGet wsX3_wouldGet) := goodIn_app (goodIn_of _ (by decide +kernel)) ggX3_isBlockedBy_X3_wouldGet
set_option maxRecDepth 20000 in
theorem ggX3_isRival_X1_isPair : GoodIn wsX3_isRival wsX1_isPair := goodIn_r _ [7, 8, 9, 21, 22, 23, 24, 25, 26, 27, 28, 29] (by decide +kernel) (by decide +kernel)
set_option maxRecDepth 20000 in
theorem gX3_isRival_X1_isPair : GoodIn wsX3_isRival (wsV RX3 38 RX1 yX1_isPair wsX1_isPair) := goodIn_app (goodIn_of _ (by decide +kernel)) ggX3_isRival_X1_isPair
set_option maxRecDepth 20000 in
theorem ggX3_isRival_X3_wouldGo : GoodIn wsX3_isRival wsX3_wouldGo := goodIn_r _ [14, 2, 1, 19, 20, 21, 22, 23, 24, 25, 26, 27, 28, 29] (by decide +kernel) (by decide +kernel)
set_option maxRecDepth 20000 in
theorem gX3_isRival_X3_wouldGo : GoodIn wsX3_isRival (wsV RX3 62 RX3 yX3_wouldGo wsX3_wouldGo) := goodIn_app (goodIn_of _ (by decide +kernel)) ggX3_isRival_X3_wouldGo
set_option maxRecDepth 20000 in
theorem ggX3_isRival_X1_placeOfResident : GoodIn wsX3_isRival wsX1_placeOfResident := goodIn_r _ [18, 9, 21, 22, 23, 24, 25, 26, 27, 28, 29] (by decide +kernel) (by decide +kernel)
set_option maxRecDepth 20000 in
theorem gX3_isRival_X1_placeOfResident : GoodIn wsX3_isRival (wsV RX3 34 RX1 yX1_placeOfResident wsX1_placeOfResident) := goodIn_app (goodIn_of _ (by decide +kernel)) ggX3_isRival_X1_placeOfResident
set_option maxRecDepth 20000 in
theorem ggX4_findAll_X4_addFirstStep : GoodIn wsX4_findAll wsX4_addFirstStep := goodIn_r _ [7, 1, 8, 9, 10, 11, 12, 13, 14, 15, 16, 17, 6, 18, 19, 20, 21, 22, 23, 24, 25, 26, 27, 28, 29, 30, 31, 32, 33, 34, 35, 36, 37, 38, 39, 40, 41, 42, 43, 52, 53, 54, 55, 56, 57, 58, 59, 60, 61, 62, 63, 64, 65, 66] (by decide +kernel) (by decide +kernel)
set_option maxRecDepth 20000 in
theorem gX4_findAll_X4_addFirstStep : GoodIn wsX4_findAll (wsV RX4 35 RX4 yX4_addFirstStep wsX4_addFirstStep) := goodIn_app (goodIn_of _ (by decide +kernel)) ggX4_findAll_X4_addFirstStep
set_option maxRecDepth 20000 in
theorem ggX4_findAll_X4_doneMask : GoodIn wsX4_findAll wsX4_doneMask := goodIn_r _ [47, 19, 1, 22, 48, 49, 50, 6, 51, 21, 27, 28, 29, 30, 31, 32, 33, 11, 34, 35, 36, 37, 38, 39, 14, 52, 53, 54, 55, 56, 57, 58, 59, 60, 61, 62, 63, 64, 65, 66] (by decide +kernel) (by decide +kernel)
set_option maxRecDepth 20000 in
theorem gX4_findAll_X4_doneMask : GoodIn wsX4_findAll (wsV RX4 39 RX4 yX4_doneMask wsX4_doneMask) := goodIn_app (goodIn_of _ (by decide +kernel)) ggX4_findAll_X4_doneMask
set_option maxRecDepth 20000 in
theorem ggX4_addFirstStep_X5_isBehind : GoodIn wsX4_addFirstStep wsX5_isBehind := goodIn_r _ [6, 7, 8, 45, 46, 47, 48, 49, 50, 51, 52, 53] (by decide +kernel) (by decide +kernel)
set_option maxRecDepth 20000 in
theorem gX4_addFirstStep_X5_isBehind : GoodIn wsX4_addFirstStep (wsV RX4 43 RX5 yX5_isBehind wsX5_isBehind) := goodIn_app (goodIn_of _ (by decide +kernel)) ggX4_addFirstStep_X5_isBehind
set_option maxRecDepth 20000 in
theorem ggX4_addFirstStep_X4_add : GoodIn wsX4_addFirstStep wsX4_add := goodIn_r _ [13, 14, 15, 16, 17, 18, 19, 20, 12, 21, 1, 22, 23, 24, 25, 26, 27, 28, 5, 29, 30, 31, 32, 33, 34, 8, 35, 36, 37, 38, 39, 40, 41, 42, 43, 44, 45, 46, 47, 48, 49, 50, 51, 52, 53] (by decide +kernel) (by decide +kernel)
set_option maxRecDepth 20000 in
theorem gX4_addFirstStep_X4_add : GoodIn wsX4_addFirstStep (wsV RX4 47 RX4 yX4_add wsX4_add) := goodIn_app (goodIn_of _ (by decide +kernel)) ggX4_addFirstStep_X4_add
set_option maxRecDepth 20000 in
theorem ggX4_add_X4_orderKey : GoodIn wsX4_add wsX4_orderKey := goodIn_r _ [9, 10, 11, 12, 13, 8, 14, 15, 16, 17, 18, 19, 20, 21, 22, 23, 24, 25, 30, 31, 32, 33, 34, 35, 36, 37, 38, 39, 40, 41, 42, 43, 44] (by decide +kernel) (by decide +kernel)
set_option maxRecDepth 20000 in
theorem gX4_add_X4_orderKey : GoodIn wsX4_add (wsV RX4 51 RX4 yX4_orderKey wsX4_orderKey) := goodIn_app (goodIn_of _ (by decide +kernel)) ggX4_add_X4_orderKey
set_option maxRecDepth 20000 in
theorem ggX4_add_X4_makeRoomAt : GoodIn wsX4_add wsX4_makeRoomAt := goodIn_r _ [29, 1, 3, 4, 2, 30, 31, 32, 33, 34, 35] (by decide +kernel) (by decide +kernel)
set_option maxRecDepth 20000 in
theorem gX4_add_X4_makeRoomAt : GoodIn wsX4_add (wsV RX4 55 RX4 yX4_makeRoomAt wsX4_makeRoomAt) := goodIn_app (goodIn_of _ (by decide +kernel)) ggX4_add_X4_makeRoomAt
set_option maxRecDepth 20000 in
theorem ggX4_orderKey_X4_moverOf : GoodIn wsX4_orderKey wsX4_moverOf := goodIn_r _ [6, 1, 7, 8, 9, 10, 11, 12, 18, 19, 20, 21, 22, 23, 24, 25, 26, 27, 28, 29, 30, 31, 32] (by decide +kernel) (by decide +kernel)
set_option maxRecDepth 20000 in
theorem gX4_orderKey_X4_moverOf : GoodIn wsX4_orderKey (wsV RX4 58 RX4 yX4_moverOf wsX4_moverOf) := goodIn_app (goodIn_of _ (by decide +kernel)) ggX4_orderKey_X4_moverOf
set_option maxRecDepth 20000 in
theorem ggX4_orderKey_X5_placeAt : GoodIn wsX4_orderKey wsX5_placeAt := goodIn_r _ [16, 17, 24, 25, 26, 27] (by decide +kernel) (by decide +kernel)
set_option maxRecDepth 20000 in
theorem gX4_orderKey_X5_placeAt : GoodIn wsX4_orderKey (wsV RX4 62 RX5 yX5_placeAt wsX5_placeAt) := goodIn_app (goodIn_of _ (by decide +kernel)) ggX4_orderKey_X5_placeAt
set_option maxRecDepth 20000 in
theorem ggX4_mover_X4_moverOf : GoodIn wsX4_mover wsX4_moverOf := goodIn_r _ [7, 8, 9, 10, 11, 12, 13, 14, 15, 16, 17, 18, 19, 20, 21, 22, 23, 24, 25, 26, 27, 28, 29] (by decide +kernel) (by decide +kernel)
set_option maxRecDepth 20000 in
theorem gX4_mover_X4_moverOf : GoodIn wsX4_mover (wsV RX4 58 RX4 yX4_moverOf wsX4_moverOf) := goodIn_app (goodIn_of _ (by decide +kernel)) ggX4_mover_X4_moverOf
set_option maxRecDepth 20000 in
theorem ggX4_moverOf_X5_hospitalAt : GoodIn wsX4_moverOf wsX5_hospitalAt := goodIn_r _ [6, 7, 14, 15, 16, 17] (by decide +kernel) (by decide +kernel)
set_option maxRecDepth 20000 in
theorem gX4_moverOf_X5_hospitalAt : GoodIn wsX4_moverOf (wsV RX4 74 RX5 yX5_hospitalAt wsX5_hospitalAt) := goodIn_app (goodIn_of _ (by decide +kernel)) ggX4_moverOf_X5_hospitalAt
set_option maxRecDepth 20000 in
theorem ggX4_doneMask_X4_mover : GoodIn wsX4_doneMask wsX4_mover := goodIn_r _ [8, 9, 3, 10, 11, 12, 7, 13, 2, 14, 15, 16, 17, 18, 19, 25, 26, 27, 28, 29, 30, 31, 32, 33, 34, 35, 36, 37, 38, 39] (by decide +kernel) (by decide +kernel)
set_option maxRecDepth 20000 in
theorem gX4_doneMask_X4_mover : GoodIn wsX4_doneMask (wsV RX4 77 RX4 yX4_mover wsX4_mover) := goodIn_app (goodIn_of _ (by decide +kernel)) ggX4_doneMask_X4_mover
set_option maxRecDepth 20000 in
theorem ggX4_doneMask_X5_placeAt : GoodIn wsX4_doneMask wsX5_placeAt := goodIn_r _ [23, 24, 31, 32, 33, 34] (by decide +kernel) (by decide +kernel)
set_option maxRecDepth 20000 in
theorem gX4_doneMask_X5_placeAt : GoodIn wsX4_doneMask (wsV RX4 62 RX5 yX5_placeAt wsX5_placeAt) := goodIn_app (goodIn_of _ (by decide +kernel)) ggX4_doneMask_X5_placeAt
set_option maxRecDepth 20000 in
theorem ggX4_isBefore_X4_isDone : GoodIn wsX4_isBefore wsX4_isDone := goodIn_r _ [6, 7, 8, 9, 10, 11, 12, 13] (by decide +kernel) (by decide +kernel)
set_option maxRecDepth 20000 in
theorem gX4_isBefore_X4_isDone : GoodIn wsX4_isBefore (wsV RX4 80 RX4 yX4_isDone wsX4_isDone) := goodIn_app (goodIn_of _ (by decide +kernel)) ggX4_isBefore_X4_isDone
set_option maxRecDepth 20000 in
theorem ggX5_add_X1_placeOfHospital : GoodIn wsX5_add wsX1_placeOfHospital := goodIn_r _ [13, 14, 21, 22, 23, 24, 25, 26, 27, 28, 29] (by decide +kernel) (by decide +kernel)
set_option maxRecDepth 20000 in
theorem gX5_add_X1_placeOfHospital : GoodIn wsX5_add (wsV RX5 42 RX1 yX1_placeOfHospital wsX1_placeOfHospital) := goodIn_app (goodIn_of _ (by decide +kernel)) ggX5_add_X1_placeOfHospital
set_option maxRecDepth 20000 in
theorem ggX5_find_X5_isSame : GoodIn wsX5_find wsX5_isSame := goodIn_r _ [6, 7, 8, 9, 10, 5, 11, 12, 13, 14, 15, 16, 17, 18, 19, 20, 21, 22, 23] (by decide +kernel) (by decide +kernel)
set_option maxRecDepth 20000 in
theorem gX5_find_X5_isSame : GoodIn wsX5_find (wsV RX5 46 RX5 yX5_isSame wsX5_isSame) := goodIn_app (goodIn_of _ (by decide +kernel)) ggX5_find_X5_isSame
set_option maxRecDepth 20000 in
theorem ggX5_isSame_X5_hospitalAt : GoodIn wsX5_isSame wsX5_hospitalAt := goodIn_r _ [6, 7, 8, 9, 10, 11] (by decide +kernel) (by decide +kernel)
set_option maxRecDepth 20000 in
theorem gX5_isSame_X5_hospitalAt : GoodIn wsX5_isSame (wsV RX5 50 RX5 yX5_hospitalAt wsX5_hospitalAt) := goodIn_app (goodIn_of _ (by decide +kernel)) ggX5_isSame_X5_hospitalAt
set_option maxRecDepth 20000 in
theorem ggX5_countSeated_X5_hospitalAt : GoodIn wsX5_countSeated wsX5_hospitalAt := goodIn_r _ [6, 7, 8, 9, 10, 11] (by decide +kernel) (by decide +kernel)
set_option maxRecDepth 20000 in
theorem gX5_countSeated_X5_hospitalAt : GoodIn wsX5_countSeated (wsV RX5 50 RX5 yX5_hospitalAt wsX5_hospitalAt) := goodIn_app (goodIn_of _ (by decide +kernel)) ggX5_countSeated_X5_hospitalAt
set_option maxRecDepth 20000 in
theorem ggX5_costOf_X5_hospitalAt : GoodIn wsX5_costOf wsX5_hospitalAt := goodIn_r _ [13, 14, 26, 27, 28, 29] (by decide +kernel) (by decide +kernel)
set_option maxRecDepth 20000 in
theorem gX5_costOf_X5_hospitalAt : GoodIn wsX5_costOf (wsV RX5 50 RX5 yX5_hospitalAt wsX5_hospitalAt) := goodIn_app (goodIn_of _ (by decide +kernel)) ggX5_costOf_X5_hospitalAt
set_option maxRecDepth 20000 in
theorem ggX5_costOf_X5_placeAt : GoodIn wsX5_costOf wsX5_placeAt := goodIn_r _ [18, 19, 26, 27, 28, 29] (by decide +kernel) (by decide +kernel)
set_option maxRecDepth 20000 in
theorem gX5_costOf_X5_placeAt : GoodIn wsX5_costOf (wsV RX5 53 RX5 yX5_placeAt wsX5_placeAt) := goodIn_app (goodIn_of _ (by decide +kernel)) ggX5_costOf_X5_placeAt
set_option maxRecDepth 20000 in
theorem ggX5_costOf_X1_placeOfResident : GoodIn wsX5_costOf wsX1_placeOfResident := goodIn_r _ [24, 25, 30, 31, 32, 33, 34, 35, 36, 37, 38] (by decide +kernel) (by decide +kernel)
set_option maxRecDepth 20000 in
theorem gX5_costOf_X1_placeOfResident : GoodIn wsX5_costOf (wsV RX5 56 RX1 yX1_placeOfResident wsX1_placeOfResident) := goodIn_app (goodIn_of _ (by decide +kernel)) ggX5_costOf_X1_placeOfResident
set_option maxRecDepth 20000 in
theorem ggX6_init_X1_init : GoodIn wsX6_init wsX1_init := goodIn_r _ [27, 28, 2, 3, 29, 30, 31, 32, 33, 34, 35, 36, 37, 38, 39, 40, 41, 42, 43, 44, 6, 45, 46, 47, 48, 49, 50, 51, 52, 53, 54, 55, 56, 57, 58, 59, 60, 61, 62, 129, 130, 131, 132, 100, 101, 102, 103, 104] (by decide +kernel) (by decide +kernel)
set_option maxRecDepth 20000 in
theorem gX6_init_X1_init : GoodIn wsX6_init (wsX1_init) := ggX6_init_X1_init
set_option maxRecDepth 20000 in
theorem ggX6_init_X3_init : GoodIn wsX6_init wsX3_init := goodIn_r _ [65, 66, 2, 3, 34, 67, 68, 69, 70, 71, 10, 72, 73, 59, 60, 61, 111, 112] (by decide +kernel) (by decide +kernel)
set_option maxRecDepth 20000 in
theorem gX6_init_X3_init : GoodIn wsX6_init (wsX3_init) := ggX6_init_X3_init
set_option maxRecDepth 20000 in
theorem ggX6_init_X5_init : GoodIn wsX6_init wsX5_init := goodIn_r _ [76, 77, 2, 3, 34, 78, 79, 80, 113, 114, 115, 116] (by decide +kernel) (by decide +kernel)
set_option maxRecDepth 20000 in
theorem gX6_init_X5_init : GoodIn wsX6_init (wsX5_init) := ggX6_init_X5_init
set_option maxRecDepth 20000 in
theorem ggX6_init_X4_init : GoodIn wsX6_init wsX4_init := goodIn_r _ [83, 84, 2, 3, 34, 85, 86, 87, 88, 89, 117, 118, 119, 120, 121, 122] (by decide +kernel) (by decide +kernel)
set_option maxRecDepth 20000 in
theorem gX6_init_X4_init : GoodIn wsX6_init (wsX4_init) := ggX6_init_X4_init
set_option maxRecDepth 20000 in
theorem ggX6_init_X0_init : GoodIn wsX6_init wsX0_init := goodIn_r _ [92, 93, 2, 3, 34, 94, 95, 96, 97, 98, 99, 123, 124, 125, 126, 127, 128] (by decide +kernel) (by decide +kernel)
set_option maxRecDepth 20000 in
theorem gX6_init_X0_init : GoodIn wsX6_init (wsX0_init) := ggX6_init_X0_init
set_option maxRecDepth 20000 in
theorem ggX6_make_X1_open : GoodIn wsX6_make wsX1_open := goodIn_r _ [9, 10, 11, 12, 13, 14, 15, 16, 17, 18, 19, 20, 21, 22, 23, 24, 25, 26, 27, 28, 29, 30, 31, 32, 53, 54, 55, 56, 57, 58, 59, 60, 61] (by decide +kernel) (by decide +kernel)
set_option maxRecDepth 20000 in
theorem gX6_make_X1_open : GoodIn wsX6_make (wsV RX6 56 RX1 yX1_open wsX1_open) := goodIn_app (goodIn_of _ (by decide +kernel)) ggX6_make_X1_open
set_option maxRecDepth 20000 in
theorem ggX6_make_X3_clear : GoodIn wsX6_make wsX3_clear := goodIn_r _ [37, 38, 39, 29, 30, 31, 62, 63] (by decide +kernel) (by decide +kernel)
set_option maxRecDepth 20000 in
theorem gX6_make_X3_clear : GoodIn wsX6_make (wsV RX6 60 RX3 yX3_clear wsX3_clear) := goodIn_app (goodIn_of _ (by decide +kernel)) ggX6_make_X3_clear
set_option maxRecDepth 20000 in
theorem ggX6_make_X6_dropWork : GoodIn wsX6_make wsX6_dropWork := goodIn_r _ [44, 45, 46, 47, 48, 49, 50, 51, 52, 64, 65, 66, 67, 68, 69, 70, 71, 72, 73] (by decide +kernel) (by decide +kernel)
set_option maxRecDepth 20000 in
theorem gX6_make_X6_dropWork : GoodIn wsX6_make (wsV RX6 63 RX6 yX6_dropWork wsX6_dropWork) := goodIn_app (goodIn_of _ (by decide +kernel)) ggX6_make_X6_dropWork
set_option maxRecDepth 20000 in
theorem ggX6_seats_X1_hasHospital : GoodIn wsX6_seats wsX1_hasHospital := goodIn_r _ [10, 11, 25, 26, 27, 28, 29] (by decide +kernel) (by decide +kernel)
set_option maxRecDepth 20000 in
theorem gX6_seats_X1_hasHospital : GoodIn wsX6_seats (wsV RX6 66 RX1 yX1_hasHospital wsX1_hasHospital) := goodIn_app (goodIn_of _ (by decide +kernel)) ggX6_seats_X1_hasHospital
set_option maxRecDepth 20000 in
theorem ggX6_seats_X6_dropWork : GoodIn wsX6_seats wsX6_dropWork := goodIn_r _ [16, 17, 18, 19, 20, 21, 22, 23, 24, 30, 31, 32, 33, 34, 35, 36, 37, 38, 39] (by decide +kernel) (by decide +kernel)
set_option maxRecDepth 20000 in
theorem gX6_seats_X6_dropWork : GoodIn wsX6_seats (wsV RX6 63 RX6 yX6_dropWork wsX6_dropWork) := goodIn_app (goodIn_of _ (by decide +kernel)) ggX6_seats_X6_dropWork
set_option maxRecDepth 20000 in
theorem ggX6_prefer_X1_listsOf : GoodIn wsX6_prefer wsX1_listsOf := goodIn_r _ [6, 7, 8, 39, 40, 41, 42, 43] (by decide +kernel) (by decide +kernel)
set_option maxRecDepth 20000 in
theorem gX6_prefer_X1_listsOf : GoodIn wsX6_prefer (wsV RX6 77 RX1 yX1_listsOf wsX1_listsOf) := goodIn_app (goodIn_of _ (by decide +kernel)) ggX6_prefer_X1_listsOf
set_option maxRecDepth 20000 in
theorem ggX6_prefer_X2_canAdd : GoodIn wsX6_prefer wsX2_canAdd := goodIn_r _ [13, 14, 15, 16, 17, 18, 12, 19, 20, 44, 45, 46, 47] (by decide +kernel) (by decide +kernel)
set_option maxRecDepth 20000 in
theorem gX6_prefer_X2_canAdd : GoodIn wsX6_prefer (wsV RX6 81 RX2 yX2_canAdd wsX2_canAdd) := goodIn_app (goodIn_of _ (by decide +kernel)) ggX6_prefer_X2_canAdd
set_option maxRecDepth 20000 in
theorem ggX6_prefer_X6_dropWork : GoodIn wsX6_prefer wsX6_dropWork := goodIn_r _ [25, 26, 27, 33, 34, 35, 36, 37, 38, 48, 49, 50, 51, 52, 53, 54, 55, 56, 57] (by decide +kernel) (by decide +kernel)
set_option maxRecDepth 20000 in
theorem gX6_prefer_X6_dropWork : GoodIn wsX6_prefer (wsV RX6 63 RX6 yX6_dropWork wsX6_dropWork) := goodIn_app (goodIn_of _ (by decide +kernel)) ggX6_prefer_X6_dropWork
set_option maxRecDepth 20000 in
theorem ggX6_prefer_X2_add : GoodIn wsX6_prefer wsX2_add := goodIn_r _ [31, 15, 32, 44, 45, 46, 47] (by decide +kernel) (by decide +kernel)
set_option maxRecDepth 20000 in
theorem gX6_prefer_X2_add : GoodIn wsX6_prefer (wsV RX6 87 RX2 yX2_add wsX2_add) := goodIn_app (goodIn_of _ (by decide +kernel)) ggX6_prefer_X2_add
set_option maxRecDepth 20000 in
theorem ggX6_forget_X1_listsOf : GoodIn wsX6_forget wsX1_listsOf := goodIn_r _ [6, 7, 8, 38, 39, 40, 41, 42] (by decide +kernel) (by decide +kernel)
set_option maxRecDepth 20000 in
theorem gX6_forget_X1_listsOf : GoodIn wsX6_forget (wsV RX6 77 RX1 yX1_listsOf wsX1_listsOf) := goodIn_app (goodIn_of _ (by decide +kernel)) ggX6_forget_X1_listsOf
set_option maxRecDepth 20000 in
theorem ggX6_forget_X2_hasOwner : GoodIn wsX6_forget wsX2_hasOwner := goodIn_r _ [13, 14, 43, 44, 45, 46] (by decide +kernel) (by decide +kernel)
set_option maxRecDepth 20000 in
theorem gX6_forget_X2_hasOwner : GoodIn wsX6_forget (wsV RX6 91 RX2 yX2_hasOwner wsX2_hasOwner) := goodIn_app (goodIn_of _ (by decide +kernel)) ggX6_forget_X2_hasOwner
set_option maxRecDepth 20000 in
theorem ggX6_forget_X6_dropWork : GoodIn wsX6_forget wsX6_dropWork := goodIn_r _ [19, 20, 21, 32, 33, 34, 35, 36, 37, 47, 48, 49, 50, 51, 52, 53, 54, 55, 56] (by decide +kernel) (by decide +kernel)
set_option maxRecDepth 20000 in
theorem gX6_forget_X6_dropWork : GoodIn wsX6_forget (wsV RX6 63 RX6 yX6_dropWork wsX6_dropWork) := goodIn_app (goodIn_of _ (by decide +kernel)) ggX6_forget_X6_dropWork
set_option maxRecDepth 20000 in
theorem ggX6_forget_X2_empty : GoodIn wsX6_forget wsX2_empty := goodIn_r _ [25, 26, 27, 28, 29, 30, 31, 43, 44, 45, 46] (by decide +kernel) (by decide +kernel)
set_option maxRecDepth 20000 in
theorem gX6_forget_X2_empty : GoodIn wsX6_forget (wsV RX6 94 RX2 yX2_empty wsX2_empty) := goodIn_app (goodIn_of _ (by decide +kernel)) ggX6_forget_X2_empty
set_option maxRecDepth 20000 in
theorem ggX6_listed_X1_listsOf : GoodIn wsX6_listed wsX1_listsOf := goodIn_r _ [6, 7, 8, 27, 28, 29, 30, 31] (by decide +kernel) (by decide +kernel)
set_option maxRecDepth 20000 in
theorem gX6_listed_X1_listsOf : GoodIn wsX6_listed (wsV RX6 77 RX1 yX1_listsOf wsX1_listsOf) := goodIn_app (goodIn_of _ (by decide +kernel)) ggX6_listed_X1_listsOf
set_option maxRecDepth 20000 in
theorem ggX6_listed_X2_hasOwner : GoodIn wsX6_listed wsX2_hasOwner := goodIn_r _ [13, 14, 32, 33, 34, 35] (by decide +kernel) (by decide +kernel)
set_option maxRecDepth 20000 in
theorem gX6_listed_X2_hasOwner : GoodIn wsX6_listed (wsV RX6 91 RX2 yX2_hasOwner wsX2_hasOwner) := goodIn_app (goodIn_of _ (by decide +kernel)) ggX6_listed_X2_hasOwner
set_option maxRecDepth 20000 in
theorem ggX6_listed_X2_at : GoodIn wsX6_listed wsX2_at := goodIn_r _ [18, 19, 20, 32, 33, 34, 35] (by decide +kernel) (by decide +kernel)
set_option maxRecDepth 20000 in
theorem gX6_listed_X2_at : GoodIn wsX6_listed (wsV RX6 98 RX2 yX2_at wsX2_at) := goodIn_app (goodIn_of _ (by decide +kernel)) ggX6_listed_X2_at
set_option maxRecDepth 20000 in
theorem ggX6_work_X6_dropWork : GoodIn wsX6_work wsX6_dropWork := goodIn_r _ [8, 3, 2, 180, 181, 182, 183, 184, 185, 186, 187, 188, 189, 190, 191, 192, 193, 194, 195] (by decide +kernel) (by decide +kernel)
set_option maxRecDepth 20000 in
theorem gX6_work_X6_dropWork : GoodIn wsX6_work (wsV RX6 63 RX6 yX6_dropWork wsX6_dropWork) := goodIn_app (goodIn_of _ (by decide +kernel)) ggX6_work_X6_dropWork
set_option maxRecDepth 20000 in
theorem ggX6_work_X0_findAll : GoodIn wsX6_work wsX0_findAll := goodIn_r _ [13, 14, 15, 16, 17, 18, 19, 20, 21, 22, 23, 24, 25, 26, 27, 12, 28, 29, 30, 31, 32, 33, 34, 35, 36, 37, 38, 39, 40, 41, 42, 43, 44, 45, 46, 47, 48, 49, 50, 51, 52, 53, 54, 55, 56, 57, 58, 59, 60, 61, 62, 63, 64, 65, 66, 67, 68, 69, 70, 71, 72, 73, 74, 75, 76, 77, 78, 79, 80, 81, 82, 83, 84, 85, 86, 87, 88, 89, 90, 91, 92, 93, 94, 95, 96, 97, 98, 99, 100, 101, 102, 103, 104, 105, 106, 107, 108, 109, 110, 111, 112, 113, 114, 115, 116, 117, 118, 119, 120, 121, 122, 123, 124, 125, 126, 127, 128, 196, 197, 198, 199, 200, 201, 202, 203, 204, 205, 206, 207, 208, 209, 210, 211, 212, 186, 187, 188, 189] (by decide +kernel) (by decide +kernel)
set_option maxRecDepth 20000 in
theorem gX6_work_X0_findAll : GoodIn wsX6_work (wsV RX6 101 RX0 yX0_findAll wsX0_findAll) := goodIn_app (goodIn_of _ (by decide +kernel)) ggX6_work_X0_findAll
set_option maxRecDepth 20000 in
theorem ggX6_work_X4_findAll : GoodIn wsX6_work wsX4_findAll := goodIn_r _ [133, 134, 135, 136, 137, 138, 132, 139, 140, 141, 142, 106, 143, 114, 115, 144, 145, 146, 147, 148, 149, 150, 151, 152, 153, 154, 155, 156, 157, 158, 159, 160, 161, 162, 163, 109, 164, 165, 166, 167, 168, 169, 170, 171, 172, 173, 174, 175, 176, 177, 178, 179, 190, 191, 192, 193, 194, 195, 186, 187, 188, 189, 204, 205, 206, 207, 208] (by decide +kernel) (by decide +kernel)
set_option maxRecDepth 20000 in
theorem gX6_work_X4_findAll : GoodIn wsX6_work (wsV RX6 104 RX4 yX4_findAll wsX4_findAll) := goodIn_app (goodIn_of _ (by decide +kernel)) ggX6_work_X4_findAll
set_option maxRecDepth 20000 in
theorem ggX6_count_X6_isWorked : GoodIn wsX6_count wsX6_isWorked := goodIn_r _ [8, 1, 33, 34, 35, 36, 37, 38, 39, 40, 41, 42] (by decide +kernel) (by decide +kernel)
set_option maxRecDepth 20000 in
theorem gX6_count_X6_isWorked : GoodIn wsX6_count (wsV RX6 109 RX6 yX6_isWorked wsX6_isWorked) := goodIn_app (goodIn_of _ (by decide +kernel)) ggX6_count_X6_isWorked
set_option maxRecDepth 20000 in
theorem ggX6_count_X1_countPairs : GoodIn wsX6_count wsX1_countPairs := goodIn_r _ [13, 14, 15, 16, 17, 18, 12, 19, 20, 21, 49, 50, 51, 52, 53, 54, 55, 56, 57] (by decide +kernel) (by decide +kernel)
set_option maxRecDepth 20000 in
theorem gX6_count_X1_countPairs : GoodIn wsX6_count (wsV RX6 114 RX1 yX1_countPairs wsX1_countPairs) := goodIn_app (goodIn_of _ (by decide +kernel)) ggX6_count_X1_countPairs
set_option maxRecDepth 20000 in
theorem ggX6_count_X5_countSeated : GoodIn wsX6_count wsX5_countSeated := goodIn_r _ [26, 27, 28, 29, 30, 25, 31, 32, 39, 40, 41, 42, 49, 50, 51, 52, 53] (by decide +kernel) (by decide +kernel)
set_option maxRecDepth 20000 in
theorem gX6_count_X5_countSeated : GoodIn wsX6_count (wsV RX6 118 RX5 yX5_countSeated wsX5_countSeated) := goodIn_app (goodIn_of _ (by decide +kernel)) ggX6_count_X5_countSeated
set_option maxRecDepth 20000 in
theorem ggX6_hospital_X5_has : GoodIn wsX6_hospital wsX5_has := goodIn_r _ [7, 8, 26, 27, 28, 29] (by decide +kernel) (by decide +kernel)
set_option maxRecDepth 20000 in
theorem gX6_hospital_X5_has : GoodIn wsX6_hospital (wsV RX6 121 RX5 yX5_has wsX5_has) := goodIn_app (goodIn_of _ (by decide +kernel)) ggX6_hospital_X5_has
set_option maxRecDepth 20000 in
theorem ggX6_hospital_X1_hasResident : GoodIn wsX6_hospital wsX1_hasResident := goodIn_r _ [13, 14, 30, 31, 32, 33, 34] (by decide +kernel) (by decide +kernel)
set_option maxRecDepth 20000 in
theorem gX6_hospital_X1_hasResident : GoodIn wsX6_hospital (wsV RX6 124 RX1 yX1_hasResident wsX1_hasResident) := goodIn_app (goodIn_of _ (by decide +kernel)) ggX6_hospital_X1_hasResident
set_option maxRecDepth 20000 in
theorem ggX6_hospital_X5_hospitalAt : GoodIn wsX6_hospital wsX5_hospitalAt := goodIn_r _ [18, 19, 26, 27, 28, 29] (by decide +kernel) (by decide +kernel)
set_option maxRecDepth 20000 in
theorem gX6_hospital_X5_hospitalAt : GoodIn wsX6_hospital (wsV RX6 127 RX5 yX5_hospitalAt wsX5_hospitalAt) := goodIn_app (goodIn_of _ (by decide +kernel)) ggX6_hospital_X5_hospitalAt
set_option maxRecDepth 20000 in
theorem ggX6_cost_X5_has : GoodIn wsX6_cost wsX5_has := goodIn_r _ [6, 7, 42, 43, 44, 45] (by decide +kernel) (by decide +kernel)
set_option maxRecDepth 20000 in
theorem gX6_cost_X5_has : GoodIn wsX6_cost (wsV RX6 121 RX5 yX5_has wsX5_has) := goodIn_app (goodIn_of _ (by decide +kernel)) ggX6_cost_X5_has
set_option maxRecDepth 20000 in
theorem ggX6_cost_X5_costOf : GoodIn wsX6_cost wsX5_costOf := goodIn_r _ [11, 12, 13, 14, 15, 16, 17, 18, 19, 20, 21, 22, 5, 23, 24, 25, 26, 27, 28, 29, 30, 31, 32, 33, 34, 35, 42, 43, 44, 45, 46, 47, 48, 49, 50, 51, 52, 53, 54] (by decide +kernel) (by decide +kernel)
set_option maxRecDepth 20000 in
theorem gX6_cost_X5_costOf : GoodIn wsX6_cost (wsV RX6 130 RX5 yX5_costOf wsX5_costOf) := goodIn_app (goodIn_of _ (by decide +kernel)) ggX6_cost_X5_costOf
set_option maxRecDepth 20000 in
theorem ggX6_cheapest_X6_isWorked : GoodIn wsX6_cheapest wsX6_isWorked := goodIn_r _ [6, 1, 36, 37, 38, 39, 40, 41, 42, 43, 44, 45] (by decide +kernel) (by decide +kernel)
set_option maxRecDepth 20000 in
theorem gX6_cheapest_X6_isWorked : GoodIn wsX6_cheapest (wsV RX6 109 RX6 yX6_isWorked wsX6_isWorked) := goodIn_app (goodIn_of _ (by decide +kernel)) ggX6_cheapest_X6_isWorked
set_option maxRecDepth 20000 in
theorem ggX6_cheapest_X5_costOf : GoodIn wsX6_cheapest wsX5_costOf := goodIn_r _ [11, 12, 13, 14, 15, 16, 17, 18, 19, 20, 21, 22, 10, 23, 24, 25, 26, 27, 28, 29, 30, 31, 32, 33, 34, 35, 42, 43, 44, 45, 46, 47, 48, 49, 50, 51, 52, 53, 54] (by decide +kernel) (by decide +kernel)
set_option maxRecDepth 20000 in
theorem gX6_cheapest_X5_costOf : GoodIn wsX6_cheapest (wsV RX6 130 RX5 yX5_costOf wsX5_costOf) := goodIn_app (goodIn_of _ (by decide +kernel)) ggX6_cheapest_X5_costOf
set_option maxRecDepth 20000 in
theorem ggX6_bound_X5_has : GoodIn wsX6_bound wsX5_has := goodIn_r _ [8, 9, 43, 44, 45, 46] (by decide +kernel) (by decide +kernel)
set_option maxRecDepth 20000 in
theorem gX6_bound_X5_has : GoodIn wsX6_bound (wsV RX6 121 RX5 yX5_has wsX5_has) := goodIn_app (goodIn_of _ (by decide +kernel)) ggX6_bound_X5_has
set_option maxRecDepth 20000 in
theorem ggX6_bound_X5_placeAt : GoodIn wsX6_bound wsX5_placeAt := goodIn_r _ [13, 14, 43, 44, 45, 46] (by decide +kernel) (by decide +kernel)
set_option maxRecDepth 20000 in
theorem gX6_bound_X5_placeAt : GoodIn wsX6_bound (wsV RX6 136 RX5 yX5_placeAt wsX5_placeAt) := goodIn_app (goodIn_of _ (by decide +kernel)) ggX6_bound_X5_placeAt
set_option maxRecDepth 20000 in
theorem ggX6_bound_X5_hospitalAt : GoodIn wsX6_bound wsX5_hospitalAt := goodIn_r _ [18, 19, 43, 44, 45, 46] (by decide +kernel) (by decide +kernel)
set_option maxRecDepth 20000 in
theorem gX6_bound_X5_hospitalAt : GoodIn wsX6_bound (wsV RX6 127 RX5 yX5_hospitalAt wsX5_hospitalAt) := goodIn_app (goodIn_of _ (by decide +kernel)) ggX6_bound_X5_hospitalAt
set_option maxRecDepth 20000 in
theorem ggX6_bound_X5_find : GoodIn wsX6_bound wsX5_find := goodIn_r _ [23, 9, 24, 25, 26, 7, 27, 28, 29, 16, 17, 18, 19, 43, 44, 45, 46, 36, 37, 38, 39, 40, 41, 42] (by decide +kernel) (by decide +kernel)
set_option maxRecDepth 20000 in
theorem gX6_bound_X5_find : GoodIn wsX6_bound (wsV RX6 142 RX5 yX5_find wsX5_find) := goodIn_app (goodIn_of _ (by decide +kernel)) ggX6_bound_X5_find
set_option maxRecDepth 20000 in
theorem ggX6_behind_X5_has : GoodIn wsX6_behind wsX5_has := goodIn_r _ [6, 7, 20, 21, 22, 23] (by decide +kernel) (by decide +kernel)
set_option maxRecDepth 20000 in
theorem gX6_behind_X5_has : GoodIn wsX6_behind (wsV RX6 121 RX5 yX5_has wsX5_has) := goodIn_app (goodIn_of _ (by decide +kernel)) ggX6_behind_X5_has
set_option maxRecDepth 20000 in
theorem ggX6_behind_X5_isBehind : GoodIn wsX6_behind wsX5_isBehind := goodIn_r _ [11, 12, 13, 20, 21, 22, 23, 24, 25, 26, 27, 28] (by decide +kernel) (by decide +kernel)
set_option maxRecDepth 20000 in
theorem gX6_behind_X5_isBehind : GoodIn wsX6_behind (wsV RX6 146 RX5 yX5_isBehind wsX5_isBehind) := goodIn_app (goodIn_of _ (by decide +kernel)) ggX6_behind_X5_isBehind
set_option maxRecDepth 20000 in
theorem ggX6_rotation_X4_has : GoodIn wsX6_rotation wsX4_has := goodIn_r _ [7, 8, 33, 34, 35, 36, 37, 38] (by decide +kernel) (by decide +kernel)
set_option maxRecDepth 20000 in
theorem gX6_rotation_X4_has : GoodIn wsX6_rotation (wsV RX6 149 RX4 yX4_has wsX4_has) := goodIn_app (goodIn_of _ (by decide +kernel)) ggX6_rotation_X4_has
set_option maxRecDepth 20000 in
theorem ggX6_rotation_X4_mover : GoodIn wsX6_rotation wsX4_mover := goodIn_r _ [12, 13, 14, 15, 16, 17, 6, 18, 19, 20, 21, 22, 23, 24, 25, 33, 34, 35, 36, 37, 38, 39, 40, 41, 42, 43, 44, 45, 46, 47] (by decide +kernel) (by decide +kernel)
set_option maxRecDepth 20000 in
theorem gX6_rotation_X4_mover : GoodIn wsX6_rotation (wsV RX6 150 RX4 yX4_mover wsX4_mover) := goodIn_app (goodIn_of _ (by decide +kernel)) ggX6_rotation_X4_mover
set_option maxRecDepth 20000 in
theorem ggX6_rotation_X5_hospitalAt : GoodIn wsX6_rotation wsX5_hospitalAt := goodIn_r _ [24, 25, 39, 40, 41, 42] (by decide +kernel) (by decide +kernel)
set_option maxRecDepth 20000 in
theorem gX6_rotation_X5_hospitalAt : GoodIn wsX6_rotation (wsV RX6 127 RX5 yX5_hospitalAt wsX5_hospitalAt) := goodIn_app (goodIn_of _ (by decide +kernel)) ggX6_rotation_X5_hospitalAt
set_option maxRecDepth 20000 in
theorem ggX6_done_X4_has : GoodIn wsX6_done wsX4_has := goodIn_r _ [7, 8, 26, 27, 28, 29, 30, 31] (by decide +kernel) (by decide +kernel)
set_option maxRecDepth 20000 in
theorem gX6_done_X4_has : GoodIn wsX6_done (wsV RX6 149 RX4 yX4_has wsX4_has) := goodIn_app (goodIn_of _ (by decide +kernel)) ggX6_done_X4_has
set_option maxRecDepth 20000 in
theorem ggX6_done_X5_has : GoodIn wsX6_done wsX5_has := goodIn_r _ [13, 14, 32, 33, 34, 35] (by decide +kernel) (by decide +kernel)
set_option maxRecDepth 20000 in
theorem gX6_done_X5_has : GoodIn wsX6_done (wsV RX6 121 RX5 yX5_has wsX5_has) := goodIn_app (goodIn_of _ (by decide +kernel)) ggX6_done_X5_has
set_option maxRecDepth 20000 in
theorem ggX6_done_X4_isDone : GoodIn wsX6_done wsX4_isDone := goodIn_r _ [18, 19, 26, 27, 28, 29, 30, 31] (by decide +kernel) (by decide +kernel)
set_option maxRecDepth 20000 in
theorem gX6_done_X4_isDone : GoodIn wsX6_done (wsV RX6 159 RX4 yX4_isDone wsX4_isDone) := goodIn_app (goodIn_of _ (by decide +kernel)) ggX6_done_X4_isDone
set_option maxRecDepth 20000 in
theorem ggX6_before_X4_has : GoodIn wsX6_before wsX4_has := goodIn_r _ [6, 7, 24, 25, 26, 27, 28, 29] (by decide +kernel) (by decide +kernel)
set_option maxRecDepth 20000 in
theorem gX6_before_X4_has : GoodIn wsX6_before (wsV RX6 149 RX4 yX4_has wsX4_has) := goodIn_app (goodIn_of _ (by decide +kernel)) ggX6_before_X4_has
set_option maxRecDepth 20000 in
theorem ggX6_before_X4_isBefore : GoodIn wsX6_before wsX4_isBefore := goodIn_r _ [11, 12, 13, 14, 15, 5, 16, 17, 24, 25, 26, 27, 28, 29, 30, 31, 32, 33] (by decide +kernel) (by decide +kernel)
set_option maxRecDepth 20000 in
theorem gX6_before_X4_isBefore : GoodIn wsX6_before (wsV RX6 162 RX4 yX4_isBefore wsX4_isBefore) := goodIn_app (goodIn_of _ (by decide +kernel)) ggX6_before_X4_isBefore
set_option maxRecDepth 20000 in
theorem ggX6_tell_X1_hasResident : GoodIn wsX6_tell wsX1_hasResident := goodIn_r _ [9, 10, 24, 25, 26, 27, 28] (by decide +kernel) (by decide +kernel)
set_option maxRecDepth 20000 in
theorem gX6_tell_X1_hasResident : GoodIn wsX6_tell (wsV RX6 124 RX1 yX1_hasResident wsX1_hasResident) := goodIn_app (goodIn_of _ (by decide +kernel)) ggX6_tell_X1_hasResident
set_option maxRecDepth 20000 in
theorem ggX6_tell_X1_hasHospital : GoodIn wsX6_tell wsX1_hasHospital := goodIn_r _ [14, 15, 24, 25, 26, 27, 28] (by decide +kernel) (by decide +kernel)
set_option maxRecDepth 20000 in
theorem gX6_tell_X1_hasHospital : GoodIn wsX6_tell (wsV RX6 66 RX1 yX1_hasHospital wsX1_hasHospital) := goodIn_app (goodIn_of _ (by decide +kernel)) ggX6_tell_X1_hasHospital
set_option maxRecDepth 20000 in
theorem ggX6_take_X5_has : GoodIn wsX6_take wsX5_has := goodIn_r _ [9, 10, 26, 27, 28, 29] (by decide +kernel) (by decide +kernel)
set_option maxRecDepth 20000 in
theorem gX6_take_X5_has : GoodIn wsX6_take (wsV RX6 121 RX5 yX5_has wsX5_has) := goodIn_app (goodIn_of _ (by decide +kernel)) ggX6_take_X5_has
set_option maxRecDepth 20000 in
theorem ggX6_take_X5_copyTo : GoodIn wsX6_take wsX5_copyTo := goodIn_r _ [14, 15, 16, 17, 18, 19, 26, 27, 28, 29, 30, 31] (by decide +kernel) (by decide +kernel)
set_option maxRecDepth 20000 in
theorem gX6_take_X5_copyTo : GoodIn wsX6_take (wsV RX6 165 RX5 yX5_copyTo wsX5_copyTo) := goodIn_app (goodIn_of _ (by decide +kernel)) ggX6_take_X5_copyTo
set_option maxRecDepth 20000 in
theorem ggX6_fits_X3_isMatching : GoodIn wsX6_fits wsX3_isMatching := goodIn_r _ [6, 7, 8, 9, 10, 11, 12, 13, 14, 15, 16, 17, 18, 5, 19, 26, 27, 28, 29, 30, 31, 32, 33, 34, 35, 36] (by decide +kernel) (by decide +kernel)
set_option maxRecDepth 20000 in
theorem gX6_fits_X3_isMatching : GoodIn wsX6_fits (wsV RX6 169 RX3 yX3_isMatching wsX3_isMatching) := goodIn_app (goodIn_of _ (by decide +kernel)) ggX6_fits_X3_isMatching
set_option maxRecDepth 20000 in
theorem ggX6_blocks_X3_isMatching : GoodIn wsX6_blocks wsX3_isMatching := goodIn_r _ [6, 7, 8, 9, 10, 11, 12, 13, 14, 15, 16, 17, 18, 5, 19, 42, 43, 44, 45, 46, 47, 48, 49, 50, 51, 52] (by decide +kernel) (by decide +kernel)
set_option maxRecDepth 20000 in
theorem gX6_blocks_X3_isMatching : GoodIn wsX6_blocks (wsV RX6 169 RX3 yX3_isMatching wsX3_isMatching) := goodIn_app (goodIn_of _ (by decide +kernel)) ggX6_blocks_X3_isMatching
set_option maxRecDepth 20000 in
theorem ggX6_blocks_X3_countBlocking : GoodIn wsX6_blocks wsX3_countBlocking := goodIn_r _ [23, 7, 24, 25, 26, 5, 27, 9, 10, 11, 12, 13, 14, 15, 28, 29, 30, 31, 8, 32, 33, 34, 35, 42, 43, 44, 45, 46, 47, 48, 49, 50, 51, 52] (by decide +kernel) (by decide +kernel)
set_option maxRecDepth 20000 in
theorem gX6_blocks_X3_countBlocking : GoodIn wsX6_blocks (wsV RX6 172 RX3 yX3_countBlocking wsX3_countBlocking) := goodIn_app (goodIn_of _ (by decide +kernel)) ggX6_blocks_X3_countBlocking
set_option maxRecDepth 20000 in
theorem ggX6_blocking_X3_isMatching : GoodIn wsX6_blocking wsX3_isMatching := goodIn_r _ [6, 7, 8, 9, 10, 11, 12, 13, 14, 15, 16, 17, 18, 5, 19, 42, 43, 44, 45, 46, 47, 48, 49, 50, 51, 52] (by decide +kernel) (by decide +kernel)
set_option maxRecDepth 20000 in
theorem gX6_blocking_X3_isMatching : GoodIn wsX6_blocking (wsV RX6 169 RX3 yX3_isMatching wsX3_isMatching) := goodIn_app (goodIn_of _ (by decide +kernel)) ggX6_blocking_X3_isMatching
set_option maxRecDepth 20000 in
theorem ggX6_blocking_X3_blockingPair : GoodIn wsX6_blocking wsX3_blockingPair := goodIn_r _ [23, 7, 24, 25, 26, 5, 27, 9, 10, 11, 12, 13, 14, 15, 28, 29, 30, 31, 8, 32, 33, 34, 35, 42, 43, 44, 45, 46, 47, 48, 49, 50, 51, 52] (by decide +kernel) (by decide +kernel)
set_option maxRecDepth 20000 in
theorem gX6_blocking_X3_blockingPair : GoodIn wsX6_blocking (wsV RX6 175 RX3 yX3_blockingPair wsX3_blockingPair) := goodIn_app (goodIn_of _ (by decide +kernel)) ggX6_blocking_X3_blockingPair
set_option maxRecDepth 20000 in
theorem ggX6_which_X5_find : GoodIn wsX6_which wsX5_find := goodIn_r _ [7, 8, 9, 10, 11, 6, 12, 13, 14, 15, 16, 17, 18, 25, 26, 27, 28, 29, 30, 31, 32, 33, 34, 35] (by decide +kernel) (by decide +kernel)
set_option maxRecDepth 20000 in
theorem gX6_which_X5_find : GoodIn wsX6_which (wsV RX6 142 RX5 yX5_find wsX5_find) := goodIn_app (goodIn_of _ (by decide +kernel)) ggX6_which_X5_find
set_option maxRecDepth 20000 in
theorem ggX6_check_X6_isWorked : GoodIn wsX6_check wsX6_isWorked := goodIn_r _ [8, 1, 64, 65, 66, 67, 68, 69, 70, 71, 72, 73] (by decide +kernel) (by decide +kernel)
set_option maxRecDepth 20000 in
theorem gX6_check_X6_isWorked : GoodIn wsX6_check (wsV RX6 109 RX6 yX6_isWorked wsX6_isWorked) := goodIn_app (goodIn_of _ (by decide +kernel)) ggX6_check_X6_isWorked
set_option maxRecDepth 20000 in
theorem ggX6_check_X5_copyTo : GoodIn wsX6_check wsX5_copyTo := goodIn_r _ [13, 14, 15, 16, 17, 18, 70, 71, 72, 73, 74, 75] (by decide +kernel) (by decide +kernel)
set_option maxRecDepth 20000 in
theorem gX6_check_X5_copyTo : GoodIn wsX6_check (wsV RX6 165 RX5 yX5_copyTo wsX5_copyTo) := goodIn_app (goodIn_of _ (by decide +kernel)) ggX6_check_X5_copyTo
set_option maxRecDepth 20000 in
theorem ggX6_check_X3_isStable : GoodIn wsX6_check wsX3_isStable := goodIn_r _ [23, 24, 25, 26, 22, 27, 28, 29, 30, 31, 32, 33, 34, 35, 36, 37, 38, 39, 40, 41, 42, 43, 44, 45, 46, 47, 48, 49, 50, 51, 52, 53, 54, 55, 56, 74, 75, 76, 77, 78, 79, 80, 81, 82, 83, 84] (by decide +kernel) (by decide +kernel)
set_option maxRecDepth 20000 in
theorem gX6_check_X3_isStable : GoodIn wsX6_check (wsV RX6 178 RX3 yX3_isStable wsX3_isStable) := goodIn_app (goodIn_of _ (by decide +kernel)) ggX6_check_X3_isStable
set_option maxRecDepth 20000 in
theorem ggX6_check_X4_isKnownByDone : GoodIn wsX6_check wsX4_isKnownByDone := goodIn_r _ [61, 62, 63, 85, 86, 87, 88, 89, 90, 70, 71, 72, 73] (by decide +kernel) (by decide +kernel)
set_option maxRecDepth 20000 in
theorem gX6_check_X4_isKnownByDone : GoodIn wsX6_check (wsV RX6 181 RX4 yX4_isKnownByDone wsX4_isKnownByDone) := goodIn_app (goodIn_of _ (by decide +kernel)) ggX6_check_X4_isKnownByDone
