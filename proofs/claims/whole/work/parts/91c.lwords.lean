set_option maxRecDepth 20000 in
theorem ggL_law_X7_bound : GoodIn wsL_law wsX7_bound := goodIn_r _ [511, 151, 112, 118, 123, 152, 153, 5, 154, 458, 459, 460, 461, 129, 375, 209, 210, 211, 212, 116, 115, 512, 513, 514, 515, 667, 668, 669, 670, 671, 672, 673, 674, 675, 676, 677, 678, 679, 680, 681, 682, 683] (by decide +kernel) (by decide +kernel)
set_option maxRecDepth 20000 in
theorem gL_law_X7_bound : GoodIn wsL_law (wsV RL 82 RX7 yX7_bound wsX7_bound) := goodIn_app (goodIn_of _ (by decide +kernel)) ggL_law_X7_bound
set_option maxRecDepth 20000 in
theorem ggL_law_X6_behind : GoodIn wsL_law wsX6_behind := goodIn_r _ [519, 24, 445, 446, 447, 23, 448, 307, 520, 334, 335, 336, 88, 87, 661, 662, 663, 664, 665, 666, 691, 692, 693, 694, 684, 685, 686, 687, 688] (by decide +kernel) (by decide +kernel)
set_option maxRecDepth 20000 in
theorem gL_law_X6_behind : GoodIn wsL_law (wsV RL 83 RX6 yX6_behind wsX6_behind) := goodIn_app (goodIn_of _ (by decide +kernel)) ggL_law_X6_behind
set_option maxRecDepth 20000 in
theorem ggL_law_X7_behind : GoodIn wsL_law wsX7_behind := goodIn_r _ [524, 151, 458, 459, 460, 5, 461, 129, 375, 152, 153, 154, 403, 404, 405, 406, 112, 118, 209, 210, 211, 212, 116, 115, 667, 668, 669, 670, 671, 672, 673, 674, 675, 676, 677, 678, 679, 680, 681, 682, 683] (by decide +kernel) (by decide +kernel)
set_option maxRecDepth 20000 in
theorem gL_law_X7_behind : GoodIn wsL_law (wsV RL 86 RX7 yX7_behind wsX7_behind) := goodIn_app (goodIn_of _ (by decide +kernel)) ggL_law_X7_behind
set_option maxRecDepth 20000 in
theorem ggL_law_X6_rotation : GoodIn wsL_law wsX6_rotation := goodIn_r _ [528, 28, 24, 529, 530, 531, 27, 532, 341, 533, 367, 368, 369, 93, 94, 346, 347, 348, 349, 97, 350, 351, 352, 23, 353, 86, 453, 661, 662, 663, 664, 665, 666, 695, 696, 697, 698, 699, 700, 691, 692, 693, 694, 684, 685, 686, 687, 688] (by decide +kernel) (by decide +kernel)
set_option maxRecDepth 20000 in
theorem gL_law_X6_rotation : GoodIn wsL_law (wsV RL 87 RX6 yX6_rotation wsX6_rotation) := goodIn_app (goodIn_of _ (by decide +kernel)) ggL_law_X6_rotation
set_option maxRecDepth 20000 in
theorem ggL_law_X7_rotation : GoodIn wsL_law wsX7_rotation := goodIn_r _ [537, 151, 119, 120, 121, 122, 538, 539, 540, 5, 541, 129, 374, 152, 153, 154, 667, 668, 669, 670, 671, 672, 673, 674, 675, 676, 677, 678, 679, 680, 681, 682, 683] (by decide +kernel) (by decide +kernel)
set_option maxRecDepth 20000 in
theorem gL_law_X7_rotation : GoodIn wsL_law (wsV RL 90 RX7 yX7_rotation wsX7_rotation) := goodIn_app (goodIn_of _ (by decide +kernel)) ggL_law_X7_rotation
set_option maxRecDepth 20000 in
theorem ggL_law_X6_done : GoodIn wsL_law wsX6_done := goodIn_r _ [545, 28, 24, 529, 530, 531, 27, 532, 341, 445, 446, 447, 23, 448, 307, 546, 547, 548, 549, 96, 661, 662, 663, 664, 665, 666, 695, 696, 697, 698, 699, 700, 691, 692, 693, 694] (by decide +kernel) (by decide +kernel)
set_option maxRecDepth 20000 in
theorem gL_law_X6_done : GoodIn wsL_law (wsV RL 91 RX6 yX6_done wsX6_done) := goodIn_app (goodIn_of _ (by decide +kernel)) ggL_law_X6_done
set_option maxRecDepth 20000 in
theorem ggL_law_X7_done : GoodIn wsL_law wsX7_done := goodIn_r _ [553, 151, 538, 539, 540, 5, 541, 129, 374, 152, 153, 154, 458, 459, 460, 461, 375, 554, 555, 556, 557, 120, 118, 122, 209, 210, 211, 212, 116, 115, 667, 668, 669, 670, 671, 672, 673, 674, 675, 676, 677, 678, 679, 680, 681, 682, 683] (by decide +kernel) (by decide +kernel)
set_option maxRecDepth 20000 in
theorem gL_law_X7_done : GoodIn wsL_law (wsV RL 94 RX7 yX7_done wsX7_done) := goodIn_app (goodIn_of _ (by decide +kernel)) ggL_law_X7_done
set_option maxRecDepth 20000 in
theorem ggL_law_X6_before : GoodIn wsL_law wsX6_before := goodIn_r _ [561, 28, 529, 530, 531, 27, 532, 341, 562, 563, 564, 565, 97, 566, 547, 548, 549, 96, 661, 662, 663, 664, 665, 666, 695, 696, 697, 698, 699, 700, 691, 692, 693, 694] (by decide +kernel) (by decide +kernel)
set_option maxRecDepth 20000 in
theorem gL_law_X6_before : GoodIn wsL_law (wsV RL 95 RX6 yX6_before wsX6_before) := goodIn_app (goodIn_of _ (by decide +kernel)) ggL_law_X6_before
set_option maxRecDepth 20000 in
theorem ggL_law_X7_before : GoodIn wsL_law wsX7_before := goodIn_r _ [570, 151, 375, 538, 539, 540, 5, 541, 129, 374, 152, 153, 154, 554, 555, 556, 557, 120, 118, 122, 209, 210, 211, 212, 116, 115, 667, 668, 669, 670, 671, 672, 673, 674, 675, 676, 677, 678, 679, 680, 681, 682, 683] (by decide +kernel) (by decide +kernel)
set_option maxRecDepth 20000 in
theorem gL_law_X7_before : GoodIn wsL_law (wsV RL 98 RX7 yX7_before wsX7_before) := goodIn_app (goodIn_of _ (by decide +kernel)) ggL_law_X7_before
set_option maxRecDepth 20000 in
theorem ggL_law_L_tell : GoodIn wsL_law wsL_tell := goodIn_ca (goodIn_r _ [573, 162, 574, 575, 576, 2, 577, 167, 168, 15, 19, 449, 450, 451, 14, 452, 54, 169, 170, 171, 172, 55, 661, 662, 663, 664, 665, 666, 689, 690, 684, 685, 686, 687, 688] (by decide +kernel) (by decide +kernel)) (goodIn_sub (fun _ h => List.mem_append_right _ h) (by decide +kernel))
set_option maxRecDepth 20000 in
theorem gL_law_L_tell : GoodIn wsL_law (va_wsS RL 99 yL_tell wsL_tell) := goodIn_app (goodIn_of _ (by decide +kernel)) ggL_law_L_tell
set_option maxRecDepth 20000 in
theorem ggL_law_X7_tell : GoodIn wsL_law wsX7_tell := goodIn_r _ [581, 112, 113, 151, 117, 152, 153, 5, 154, 667, 668, 669, 670, 671, 672, 673, 674, 675, 676, 677, 678, 679, 680, 681, 682, 683] (by decide +kernel) (by decide +kernel)
set_option maxRecDepth 20000 in
theorem gL_law_X7_tell : GoodIn wsL_law (wsV RL 101 RX7 yX7_tell wsX7_tell) := goodIn_app (goodIn_of _ (by decide +kernel)) ggL_law_X7_tell
set_option maxRecDepth 20000 in
theorem ggL_law_L_take : GoodIn wsL_law wsL_take := goodIn_ca (goodIn_r _ [584, 162, 585, 586, 587, 2, 588, 167, 168, 24, 19, 445, 446, 447, 23, 448, 307, 589, 590, 591, 592, 86, 308, 309, 310, 311, 661, 662, 663, 664, 665, 666, 691, 692, 693, 694, 689, 690] (by decide +kernel) (by decide +kernel)) (goodIn_sub (fun _ h => List.mem_append_right _ h) (by decide +kernel))
set_option maxRecDepth 20000 in
theorem gL_law_L_take : GoodIn wsL_law (va_wsS RL 102 yL_take wsL_take) := goodIn_app (goodIn_of _ (by decide +kernel)) ggL_law_L_take
