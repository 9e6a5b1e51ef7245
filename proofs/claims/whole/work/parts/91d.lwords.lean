set_option maxRecDepth 20000 in
theorem ggL_law_X7_take : GoodIn wsL_law wsX7_take := goodIn_r _ [596, 151, 112, 117, 118, 458, 459, 460, 5, 461, 129, 375, 152, 153, 154, 667, 668, 669, 670, 671, 672, 673, 674, 675, 676, 677, 678, 679, 680, 681, 682, 683] (by decide +kernel) (by decide +kernel)
set_option maxRecDepth 20000 in
theorem gL_law_X7_take : GoodIn wsL_law (wsV RL 105 RX7 yX7_take wsX7_take) := goodIn_app (goodIn_of _ (by decide +kernel)) ggL_law_X7_take
set_option maxRecDepth 20000 in
theorem ggL_law_X6_fits : GoodIn wsL_law wsX6_fits := goodIn_r _ [600, 19, 601, 602, 603, 18, 604, 76, 75, 294, 259, 260, 14, 261, 40, 41, 605, 271, 272, 273, 661, 662, 663, 664, 665, 666, 689, 690, 684, 685, 686, 687, 688, 707, 708, 709, 710] (by decide +kernel) (by decide +kernel)
set_option maxRecDepth 20000 in
theorem gL_law_X6_fits : GoodIn wsL_law (wsV RL 106 RX6 yX6_fits wsX6_fits) := goodIn_app (goodIn_of _ (by decide +kernel)) ggL_law_X6_fits
set_option maxRecDepth 20000 in
theorem ggL_law_X7_fits : GoodIn wsL_law wsX7_fits := goodIn_r _ [609, 151, 117, 610, 611, 612, 5, 613, 112, 113, 114, 152, 153, 154, 388, 389, 390, 391, 209, 210, 211, 212, 116, 115, 392, 393, 394, 667, 668, 669, 670, 671, 672, 673, 674, 675, 676, 677, 678, 679, 680, 681, 682, 683] (by decide +kernel) (by decide +kernel)
set_option maxRecDepth 20000 in
theorem gL_law_X7_fits : GoodIn wsL_law (wsV RL 109 RX7 yX7_fits wsX7_fits) := goodIn_app (goodIn_of _ (by decide +kernel)) ggL_law_X7_fits
set_option maxRecDepth 20000 in
theorem ggL_law_X6_blocks : GoodIn wsL_law wsX6_blocks := goodIn_r _ [617, 19, 601, 602, 603, 18, 604, 76, 75, 294, 259, 260, 14, 261, 40, 41, 605, 271, 272, 273, 618, 619, 620, 621, 290, 291, 292, 293, 295, 296, 297, 298, 299, 300, 301, 302, 661, 662, 663, 664, 665, 666, 689, 690, 684, 685, 686, 687, 688, 707, 708, 709, 710] (by decide +kernel) (by decide +kernel)
set_option maxRecDepth 20000 in
theorem gL_law_X6_blocks : GoodIn wsL_law (wsV RL 110 RX6 yX6_blocks wsX6_blocks) := goodIn_app (goodIn_of _ (by decide +kernel)) ggL_law_X6_blocks
set_option maxRecDepth 20000 in
theorem ggL_law_X7_blocks : GoodIn wsL_law wsX7_blocks := goodIn_r _ [625, 151, 117, 610, 611, 612, 5, 613, 112, 113, 114, 152, 153, 154, 388, 389, 390, 391, 209, 210, 211, 212, 116, 115, 392, 393, 394, 380, 381, 382, 383, 384, 385, 386, 387, 667, 668, 669, 670, 671, 672, 673, 674, 675, 676, 677, 678, 679, 680, 681, 682, 683] (by decide +kernel) (by decide +kernel)
set_option maxRecDepth 20000 in
theorem gL_law_X7_blocks : GoodIn wsL_law (wsV RL 113 RX7 yX7_blocks wsX7_blocks) := goodIn_app (goodIn_of _ (by decide +kernel)) ggL_law_X7_blocks
set_option maxRecDepth 20000 in
theorem ggL_law_X6_blocking : GoodIn wsL_law wsX6_blocking := goodIn_r _ [629, 19, 601, 602, 603, 18, 604, 76, 75, 294, 259, 260, 14, 261, 40, 41, 605, 271, 272, 273, 630, 287, 288, 289, 290, 291, 292, 293, 295, 296, 297, 298, 299, 300, 301, 302, 661, 662, 663, 664, 665, 666, 689, 690, 684, 685, 686, 687, 688, 707, 708, 709, 710] (by decide +kernel) (by decide +kernel)
set_option maxRecDepth 20000 in
theorem gL_law_X6_blocking : GoodIn wsL_law (wsV RL 114 RX6 yX6_blocking wsX6_blocking) := goodIn_app (goodIn_of _ (by decide +kernel)) ggL_law_X6_blocking
set_option maxRecDepth 20000 in
theorem ggL_law_X7_blocking : GoodIn wsL_law wsX7_blocking := goodIn_r _ [634, 151, 117, 112, 113, 610, 611, 612, 5, 613, 114, 152, 153, 154, 388, 389, 390, 391, 209, 210, 211, 212, 116, 115, 392, 393, 394, 384, 385, 386, 387, 667, 668, 669, 670, 671, 672, 673, 674, 675, 676, 677, 678, 679, 680, 681, 682, 683] (by decide +kernel) (by decide +kernel)
set_option maxRecDepth 20000 in
theorem gL_law_X7_blocking : GoodIn wsL_law (wsV RL 117 RX7 yX7_blocking wsX7_blocking) := goodIn_app (goodIn_of _ (by decide +kernel)) ggL_law_X7_blocking
set_option maxRecDepth 20000 in
theorem ggL_law_X6_which : GoodIn wsL_law wsX6_which := goodIn_r _ [638, 24, 19, 500, 501, 502, 23, 503, 307, 504, 505, 506, 507, 88, 436, 351, 352, 353, 86, 661, 662, 663, 664, 665, 666, 691, 692, 693, 694, 684, 685, 686, 687, 688, 689, 690] (by decide +kernel) (by decide +kernel)
set_option maxRecDepth 20000 in
theorem gL_law_X6_which : GoodIn wsL_law (wsV RL 118 RX6 yX6_which wsX6_which) := goodIn_app (goodIn_of _ (by decide +kernel)) ggL_law_X6_which
set_option maxRecDepth 20000 in
theorem ggL_law_X7_which : GoodIn wsL_law wsX7_which := goodIn_r _ [642, 151, 129, 117, 512, 513, 514, 5, 515, 375, 112, 118, 667, 668, 669, 670, 671, 672, 673, 674, 675, 676, 677, 678, 679, 680, 681, 682, 683] (by decide +kernel) (by decide +kernel)
set_option maxRecDepth 20000 in
theorem gL_law_X7_which : GoodIn wsL_law (wsV RL 121 RX7 yX7_which wsX7_which) := goodIn_app (goodIn_of _ (by decide +kernel)) ggL_law_X7_which
set_option maxRecDepth 20000 in
theorem ggL_law_X6_check : GoodIn wsL_law wsX6_check := goodIn_r _ [646, 24, 20, 28, 423, 424, 425, 2, 426, 589, 590, 591, 23, 592, 86, 308, 309, 310, 311, 647, 648, 649, 18, 650, 651, 602, 603, 604, 76, 75, 294, 259, 260, 14, 261, 40, 41, 605, 271, 272, 273, 652, 287, 288, 289, 290, 291, 292, 293, 295, 296, 297, 298, 299, 300, 301, 302, 653, 654, 655, 27, 656, 97, 96, 661, 662, 663, 664, 665, 666, 691, 692, 693, 694, 689, 690, 684, 685, 686, 687, 688, 707, 708, 709, 710, 695, 696, 697, 698, 699, 700] (by decide +kernel) (by decide +kernel)
set_option maxRecDepth 20000 in
theorem gL_law_X6_check : GoodIn wsL_law (wsV RL 122 RX6 yX6_check wsX6_check) := goodIn_app (goodIn_of _ (by decide +kernel)) ggL_law_X6_check
set_option maxRecDepth 20000 in
theorem ggL_law_X7_check : GoodIn wsL_law wsX7_check := goodIn_r _ [660, 151, 129, 667, 668, 669, 670, 671, 672, 673, 674, 675, 676, 677, 678, 679, 680, 681, 682, 683] (by decide +kernel) (by decide +kernel)
set_option maxRecDepth 20000 in
theorem gL_law_X7_check : GoodIn wsL_law (wsV RL 125 RX7 yX7_check wsX7_check) := goodIn_app (goodIn_of _ (by decide +kernel)) ggL_law_X7_check
