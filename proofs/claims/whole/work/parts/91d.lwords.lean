set_option maxRecDepth 20000 in
theorem ggL_law_X7_take : GoodIn wsL_law wsX7_take := goodIn_r _ [600, 151, 112, 117, 118, 462, 463, 464, 5, 465, 129, 379, 152, 153, 154, 671, 672, 673, 674, 675, 676, 677, 678, 679, 680, 681, 682, 683, 684, 685, 686, 687] (by decide +kernel) (by decide +kernel)
set_option maxRecDepth 20000 in
theorem gL_law_X7_take : GoodIn wsL_law (wsV RL 105 RX7 yX7_take wsX7_take) := goodIn_app (goodIn_of _ (by decide +kernel)) ggL_law_X7_take
set_option maxRecDepth 20000 in
theorem ggL_law_X6_fits : GoodIn wsL_law wsX6_fits := goodIn_r _ [604, 19, 605, 606, 607, 18, 608, 76, 75, 298, 259, 260, 14, 261, 40, 41, 609, 271, 272, 273, 665, 666, 667, 668, 669, 670, 693, 694, 688, 689, 690, 691, 692, 711, 712, 713, 714] (by decide +kernel) (by decide +kernel)
set_option maxRecDepth 20000 in
theorem gL_law_X6_fits : GoodIn wsL_law (wsV RL 106 RX6 yX6_fits wsX6_fits) := goodIn_app (goodIn_of _ (by decide +kernel)) ggL_law_X6_fits
set_option maxRecDepth 20000 in
theorem ggL_law_X7_fits : GoodIn wsL_law wsX7_fits := goodIn_r _ [613, 151, 117, 614, 615, 616, 5, 617, 112, 113, 114, 152, 153, 154, 392, 393, 394, 395, 209, 210, 211, 212, 116, 115, 396, 397, 398, 671, 672, 673, 674, 675, 676, 677, 678, 679, 680, 681, 682, 683, 684, 685, 686, 687] (by decide +kernel) (by decide +kernel)
set_option maxRecDepth 20000 in
theorem gL_law_X7_fits : GoodIn wsL_law (wsV RL 109 RX7 yX7_fits wsX7_fits) := goodIn_app (goodIn_of _ (by decide +kernel)) ggL_law_X7_fits
set_option maxRecDepth 20000 in
theorem ggL_law_X6_blocks : GoodIn wsL_law wsX6_blocks := goodIn_r _ [621, 19, 605, 606, 607, 18, 608, 76, 75, 298, 259, 260, 14, 261, 40, 41, 609, 271, 272, 273, 622, 623, 624, 625, 294, 295, 296, 297, 299, 300, 301, 302, 303, 304, 305, 306, 665, 666, 667, 668, 669, 670, 693, 694, 688, 689, 690, 691, 692, 711, 712, 713, 714] (by decide +kernel) (by decide +kernel)
set_option maxRecDepth 20000 in
theorem gL_law_X6_blocks : GoodIn wsL_law (wsV RL 110 RX6 yX6_blocks wsX6_blocks) := goodIn_app (goodIn_of _ (by decide +kernel)) ggL_law_X6_blocks
set_option maxRecDepth 20000 in
theorem ggL_law_X7_blocks : GoodIn wsL_law wsX7_blocks := goodIn_r _ [629, 151, 117, 614, 615, 616, 5, 617, 112, 113, 114, 152, 153, 154, 392, 393, 394, 395, 209, 210, 211, 212, 116, 115, 396, 397, 398, 384, 385, 386, 387, 388, 389, 390, 391, 671, 672, 673, 674, 675, 676, 677, 678, 679, 680, 681, 682, 683, 684, 685, 686, 687] (by decide +kernel) (by decide +kernel)
set_option maxRecDepth 20000 in
theorem gL_law_X7_blocks : GoodIn wsL_law (wsV RL 113 RX7 yX7_blocks wsX7_blocks) := goodIn_app (goodIn_of _ (by decide +kernel)) ggL_law_X7_blocks
set_option maxRecDepth 20000 in
theorem ggL_law_X6_blocking : GoodIn wsL_law wsX6_blocking := goodIn_r _ [633, 19, 605, 606, 607, 18, 608, 76, 75, 298, 259, 260, 14, 261, 40, 41, 609, 271, 272, 273, 634, 291, 292, 293, 294, 295, 296, 297, 299, 300, 301, 302, 303, 304, 305, 306, 665, 666, 667, 668, 669, 670, 693, 694, 688, 689, 690, 691, 692, 711, 712, 713, 714] (by decide +kernel) (by decide +kernel)
set_option maxRecDepth 20000 in
theorem gL_law_X6_blocking : GoodIn wsL_law (wsV RL 114 RX6 yX6_blocking wsX6_blocking) := goodIn_app (goodIn_of _ (by decide +kernel)) ggL_law_X6_blocking
set_option maxRecDepth 20000 in
theorem ggL_law_X7_blocking : GoodIn wsL_law wsX7_blocking := goodIn_r _ [638, 151, 117, 112, 113, 614, 615, 616, 5, 617, 114, 152, 153, 154, 392, 393, 394, 395, 209, 210, 211, 212, 116, 115, 396, 397, 398, 388, 389, 390, 391, 671, 672, 673, 674, 675, 676, 677, 678, 679, 680, 681, 682, 683, 684, 685, 686, 687] (by decide +kernel) (by decide +kernel)
set_option maxRecDepth 20000 in
theorem gL_law_X7_blocking : GoodIn wsL_law (wsV RL 117 RX7 yX7_blocking wsX7_blocking) := goodIn_app (goodIn_of _ (by decide +kernel)) ggL_law_X7_blocking
set_option maxRecDepth 20000 in
theorem ggL_law_X6_which : GoodIn wsL_law wsX6_which := goodIn_r _ [642, 24, 19, 504, 505, 506, 23, 507, 311, 508, 509, 510, 511, 88, 440, 355, 356, 357, 86, 665, 666, 667, 668, 669, 670, 695, 696, 697, 698, 688, 689, 690, 691, 692, 693, 694] (by decide +kernel) (by decide +kernel)
set_option maxRecDepth 20000 in
theorem gL_law_X6_which : GoodIn wsL_law (wsV RL 118 RX6 yX6_which wsX6_which) := goodIn_app (goodIn_of _ (by decide +kernel)) ggL_law_X6_which
set_option maxRecDepth 20000 in
theorem ggL_law_X7_which : GoodIn wsL_law wsX7_which := goodIn_r _ [646, 151, 129, 117, 516, 517, 518, 5, 519, 379, 112, 118, 671, 672, 673, 674, 675, 676, 677, 678, 679, 680, 681, 682, 683, 684, 685, 686, 687] (by decide +kernel) (by decide +kernel)
set_option maxRecDepth 20000 in
theorem gL_law_X7_which : GoodIn wsL_law (wsV RL 121 RX7 yX7_which wsX7_which) := goodIn_app (goodIn_of _ (by decide +kernel)) ggL_law_X7_which
set_option maxRecDepth 20000 in
theorem ggL_law_X6_check : GoodIn wsL_law wsX6_check := goodIn_r _ [650, 24, 20, 28, 427, 428, 429, 2, 430, 593, 594, 595, 23, 596, 86, 312, 313, 314, 315, 651, 652, 653, 18, 654, 655, 606, 607, 608, 76, 75, 298, 259, 260, 14, 261, 40, 41, 609, 271, 272, 273, 656, 291, 292, 293, 294, 295, 296, 297, 299, 300, 301, 302, 303, 304, 305, 306, 657, 658, 659, 27, 660, 97, 96, 665, 666, 667, 668, 669, 670, 695, 696, 697, 698, 693, 694, 688, 689, 690, 691, 692, 711, 712, 713, 714, 699, 700, 701, 702, 703, 704] (by decide +kernel) (by decide +kernel)
set_option maxRecDepth 20000 in
theorem gL_law_X6_check : GoodIn wsL_law (wsV RL 122 RX6 yX6_check wsX6_check) := goodIn_app (goodIn_of _ (by decide +kernel)) ggL_law_X6_check
set_option maxRecDepth 20000 in
theorem ggL_law_X7_check : GoodIn wsL_law wsX7_check := goodIn_r _ [664, 151, 129, 671, 672, 673, 674, 675, 676, 677, 678, 679, 680, 681, 682, 683, 684, 685, 686, 687] (by decide +kernel) (by decide +kernel)
set_option maxRecDepth 20000 in
theorem gL_law_X7_check : GoodIn wsL_law (wsV RL 125 RX7 yX7_check wsX7_check) := goodIn_app (goodIn_of _ (by decide +kernel)) ggL_law_X7_check
