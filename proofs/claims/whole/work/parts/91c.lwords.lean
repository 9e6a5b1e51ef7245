set_option maxRecDepth 20000 in
theorem ggL_law_X7_bound : GoodIn wsL_law wsX7_bound := goodIn_r _ [515, 151, 112, 118, 123, 152, 153, 5, 154, 462, 463, 464, 465, 129, 379, 209, 210, 211, 212, 116, 115, 516, 517, 518, 519, 671, 672, 673, 674, 675, 676, 677, 678, 679, 680, 681, 682, 683, 684, 685, 686, 687] (by decide +kernel) (by decide +kernel)
set_option maxRecDepth 20000 in
theorem gL_law_X7_bound : GoodIn wsL_law (wsV RL 82 RX7 yX7_bound wsX7_bound) := goodIn_app (goodIn_of _ (by decide +kernel)) ggL_law_X7_bound
set_option maxRecDepth 20000 in
theorem ggL_law_X6_behind : GoodIn wsL_law wsX6_behind := goodIn_r _ [523, 24, 449, 450, 451, 23, 452, 311, 524, 338, 339, 340, 88, 87, 665, 666, 667, 668, 669, 670, 695, 696, 697, 698, 688, 689, 690, 691, 692] (by decide +kernel) (by decide +kernel)
set_option maxRecDepth 20000 in
theorem gL_law_X6_behind : GoodIn wsL_law (wsV RL 83 RX6 yX6_behind wsX6_behind) := goodIn_app (goodIn_of _ (by decide +kernel)) ggL_law_X6_behind
set_option maxRecDepth 20000 in
theorem ggL_law_X7_behind : GoodIn wsL_law wsX7_behind := goodIn_r _ [528, 151, 462, 463, 464, 5, 465, 129, 379, 152, 153, 154, 407, 408, 409, 410, 112, 118, 209, 210, 211, 212, 116, 115, 671, 672, 673, 674, 675, 676, 677, 678, 679, 680, 681, 682, 683, 684, 685, 686, 687] (by decide +kernel) (by decide +kernel)
set_option maxRecDepth 20000 in
theorem gL_law_X7_behind : GoodIn wsL_law (wsV RL 86 RX7 yX7_behind wsX7_behind) := goodIn_app (goodIn_of _ (by decide +kernel)) ggL_law_X7_behind
set_option maxRecDepth 20000 in
theorem ggL_law_X6_rotation : GoodIn wsL_law wsX6_rotation := goodIn_r _ [532, 28, 24, 533, 534, 535, 27, 536, 345, 537, 371, 372, 373, 93, 94, 350, 351, 352, 353, 97, 354, 355, 356, 23, 357, 86, 457, 665, 666, 667, 668, 669, 670, 699, 700, 701, 702, 703, 704, 695, 696, 697, 698, 688, 689, 690, 691, 692] (by decide +kernel) (by decide +kernel)
set_option maxRecDepth 20000 in
theorem gL_law_X6_rotation : GoodIn wsL_law (wsV RL 87 RX6 yX6_rotation wsX6_rotation) := goodIn_app (goodIn_of _ (by decide +kernel)) ggL_law_X6_rotation
set_option maxRecDepth 20000 in
theorem ggL_law_X7_rotation : GoodIn wsL_law wsX7_rotation := goodIn_r _ [541, 151, 119, 120, 121, 122, 542, 543, 544, 5, 545, 129, 378, 152, 153, 154, 671, 672, 673, 674, 675, 676, 677, 678, 679, 680, 681, 682, 683, 684, 685, 686, 687] (by decide +kernel) (by decide +kernel)
set_option maxRecDepth 20000 in
theorem gL_law_X7_rotation : GoodIn wsL_law (wsV RL 90 RX7 yX7_rotation wsX7_rotation) := goodIn_app (goodIn_of _ (by decide +kernel)) ggL_law_X7_rotation
set_option maxRecDepth 20000 in
theorem ggL_law_X6_done : GoodIn wsL_law wsX6_done := goodIn_r _ [549, 28, 24, 533, 534, 535, 27, 536, 345, 449, 450, 451, 23, 452, 311, 550, 551, 552, 553, 96, 665, 666, 667, 668, 669, 670, 699, 700, 701, 702, 703, 704, 695, 696, 697, 698] (by decide +kernel) (by decide +kernel)
set_option maxRecDepth 20000 in
theorem gL_law_X6_done : GoodIn wsL_law (wsV RL 91 RX6 yX6_done wsX6_done) := goodIn_app (goodIn_of _ (by decide +kernel)) ggL_law_X6_done
set_option maxRecDepth 20000 in
theorem ggL_law_X7_done : GoodIn wsL_law wsX7_done := goodIn_r _ [557, 151, 542, 543, 544, 5, 545, 129, 378, 152, 153, 154, 462, 463, 464, 465, 379, 558, 559, 560, 561, 120, 118, 122, 209, 210, 211, 212, 116, 115, 671, 672, 673, 674, 675, 676, 677, 678, 679, 680, 681, 682, 683, 684, 685, 686, 687] (by decide +kernel) (by decide +kernel)
set_option maxRecDepth 20000 in
theorem gL_law_X7_done : GoodIn wsL_law (wsV RL 94 RX7 yX7_done wsX7_done) := goodIn_app (goodIn_of _ (by decide +kernel)) ggL_law_X7_done
set_option maxRecDepth 20000 in
theorem ggL_law_X6_before : GoodIn wsL_law wsX6_before := goodIn_r _ [565, 28, 533, 534, 535, 27, 536, 345, 566, 567, 568, 569, 97, 570, 551, 552, 553, 96, 665, 666, 667, 668, 669, 670, 699, 700, 701, 702, 703, 704, 695, 696, 697, 698] (by decide +kernel) (by decide +kernel)
set_option maxRecDepth 20000 in
theorem gL_law_X6_before : GoodIn wsL_law (wsV RL 95 RX6 yX6_before wsX6_before) := goodIn_app (goodIn_of _ (by decide +kernel)) ggL_law_X6_before
set_option maxRecDepth 20000 in
theorem ggL_law_X7_before : GoodIn wsL_law wsX7_before := goodIn_r _ [574, 151, 379, 542, 543, 544, 5, 545, 129, 378, 152, 153, 154, 558, 559, 560, 561, 120, 118, 122, 209, 210, 211, 212, 116, 115, 671, 672, 673, 674, 675, 676, 677, 678, 679, 680, 681, 682, 683, 684, 685, 686, 687] (by decide +kernel) (by decide +kernel)
set_option maxRecDepth 20000 in
theorem gL_law_X7_before : GoodIn wsL_law (wsV RL 98 RX7 yX7_before wsX7_before) := goodIn_app (goodIn_of _ (by decide +kernel)) ggL_law_X7_before
set_option maxRecDepth 20000 in
theorem ggL_law_L_tell : GoodIn wsL_law wsL_tell := goodIn_ca (goodIn_r _ [577, 162, 578, 579, 580, 2, 581, 167, 168, 15, 19, 453, 454, 455, 14, 456, 54, 169, 170, 171, 172, 55, 665, 666, 667, 668, 669, 670, 693, 694, 688, 689, 690, 691, 692] (by decide +kernel) (by decide +kernel)) (goodIn_sub (fun _ h => List.mem_append_right _ h) (by decide +kernel))
set_option maxRecDepth 20000 in
theorem gL_law_L_tell : GoodIn wsL_law (va_wsS RL 99 yL_tell wsL_tell) := goodIn_app (goodIn_of _ (by decide +kernel)) ggL_law_L_tell
set_option maxRecDepth 20000 in
theorem ggL_law_X7_tell : GoodIn wsL_law wsX7_tell := goodIn_r _ [585, 112, 113, 151, 117, 152, 153, 5, 154, 671, 672, 673, 674, 675, 676, 677, 678, 679, 680, 681, 682, 683, 684, 685, 686, 687] (by decide +kernel) (by decide +kernel)
set_option maxRecDepth 20000 in
theorem gL_law_X7_tell : GoodIn wsL_law (wsV RL 101 RX7 yX7_tell wsX7_tell) := goodIn_app (goodIn_of _ (by decide +kernel)) ggL_law_X7_tell
set_option maxRecDepth 20000 in
theorem ggL_law_L_take : GoodIn wsL_law wsL_take := goodIn_ca (goodIn_r _ [588, 162, 589, 590, 591, 2, 592, 167, 168, 24, 19, 449, 450, 451, 23, 452, 311, 593, 594, 595, 596, 86, 312, 313, 314, 315, 665, 666, 667, 668, 669, 670, 695, 696, 697, 698, 693, 694] (by decide +kernel) (by decide +kernel)) (goodIn_sub (fun _ h => List.mem_append_right _ h) (by decide +kernel))
set_option maxRecDepth 20000 in
theorem gL_law_L_take : GoodIn wsL_law (va_wsS RL 102 yL_take wsL_take) := goodIn_app (goodIn_of _ (by decide +kernel)) ggL_law_L_take
