set_option maxRecDepth 20000 in
theorem ggL_law_X7_listed : GoodIn wsL_law wsX7_listed := goodIn_r _ [234, 151, 116, 115, 201, 202, 203, 5, 204, 152, 153, 154, 205, 206, 207, 208, 112, 113, 667, 668, 669, 670, 671, 672, 673, 674, 675, 676, 677, 678, 679, 680, 681, 682, 683] (by decide +kernel) (by decide +kernel)
set_option maxRecDepth 20000 in
theorem gL_law_X7_listed : GoodIn wsL_law (wsV RL 57 RX7 yX7_listed wsX7_listed) := goodIn_app (goodIn_of _ (by decide +kernel)) ggL_law_X7_listed
set_option maxRecDepth 20000 in
theorem ggL_law_X6_work : GoodIn wsL_law wsX6_work := goodIn_r _ [238, 32, 28, 24, 143, 144, 145, 2, 146, 239, 240, 241, 31, 242, 107, 243, 78, 79, 18, 80, 75, 81, 67, 68, 69, 244, 245, 246, 247, 102, 248, 249, 250, 251, 252, 105, 253, 254, 255, 256, 257, 228, 229, 39, 230, 61, 48, 258, 259, 260, 14, 261, 40, 41, 262, 263, 264, 265, 76, 266, 267, 268, 269, 270, 271, 272, 273, 274, 275, 276, 277, 103, 104, 278, 279, 280, 281, 282, 283, 284, 285, 106, 286, 287, 288, 289, 290, 291, 292, 293, 294, 295, 296, 297, 298, 299, 300, 301, 302, 303, 304, 305, 23, 306, 307, 86, 308, 309, 310, 311, 88, 87, 312, 313, 314, 315, 316, 317, 318, 319, 320, 321, 322, 323, 324, 325, 326, 327, 27, 328, 97, 96, 329, 330, 331, 332, 333, 334, 335, 336, 337, 338, 339, 340, 341, 95, 93, 94, 342, 343, 344, 345, 346, 347, 348, 349, 350, 351, 352, 353, 354, 355, 356, 357, 358, 359, 360, 361, 362, 363, 364, 365, 366, 367, 368, 369, 661, 662, 663, 664, 665, 666, 691, 692, 693, 694, 695, 696, 697, 698, 699, 700, 701, 702, 703, 704, 705, 706, 689, 690, 684, 685, 686, 687, 688, 707, 708, 709, 710] (by decide +kernel) (by decide +kernel)
set_option maxRecDepth 20000 in
theorem gL_law_X6_work : GoodIn wsL_law (wsV RL 58 RX6 yX6_work wsX6_work) := goodIn_app (goodIn_of _ (by decide +kernel)) ggL_law_X6_work
set_option maxRecDepth 20000 in
theorem ggL_law_X7_work : GoodIn wsL_law wsX7_work := goodIn_r _ [373, 151, 374, 375, 129, 376, 377, 378, 5, 379, 124, 112, 123, 118, 116, 115, 380, 381, 382, 383, 113, 384, 385, 386, 387, 114, 388, 389, 390, 391, 209, 210, 211, 212, 392, 393, 394, 395, 396, 397, 398, 399, 400, 401, 402, 403, 404, 405, 406, 407, 408, 409, 410, 120, 121, 122, 119, 411, 412, 413, 414, 415, 416, 417, 418, 667, 668, 669, 670, 671, 672, 673, 674, 675, 676, 677, 678, 679, 680, 681, 682, 683] (by decide +kernel) (by decide +kernel)
set_option maxRecDepth 20000 in
theorem gL_law_X7_work : GoodIn wsL_law (wsV RL 61 RX7 yX7_work wsX7_work) := goodIn_app (goodIn_of _ (by decide +kernel)) ggL_law_X7_work
set_option maxRecDepth 20000 in
theorem ggL_law_X6_count : GoodIn wsL_law wsX6_count := goodIn_r _ [422, 24, 28, 15, 423, 424, 425, 2, 426, 427, 428, 429, 14, 430, 54, 55, 431, 259, 260, 261, 40, 41, 432, 433, 434, 23, 435, 88, 436, 351, 352, 353, 86, 661, 662, 663, 664, 665, 666, 691, 692, 693, 694, 695, 696, 697, 698, 699, 700, 684, 685, 686, 687, 688, 707, 708, 709, 710] (by decide +kernel) (by decide +kernel)
set_option maxRecDepth 20000 in
theorem gL_law_X6_count : GoodIn wsL_law (wsV RL 62 RX6 yX6_count wsX6_count) := goodIn_app (goodIn_of _ (by decide +kernel)) ggL_law_X6_count
set_option maxRecDepth 20000 in
theorem ggL_law_X7_count : GoodIn wsL_law wsX7_count := goodIn_r _ [440, 151, 129, 112, 118, 113, 375, 374, 152, 153, 5, 154, 388, 389, 390, 391, 209, 210, 211, 212, 116, 115, 667, 668, 669, 670, 671, 672, 673, 674, 675, 676, 677, 678, 679, 680, 681, 682, 683] (by decide +kernel) (by decide +kernel)
set_option maxRecDepth 20000 in
theorem gL_law_X7_count : GoodIn wsL_law (wsV RL 66 RX7 yX7_count wsX7_count) := goodIn_app (goodIn_of _ (by decide +kernel)) ggL_law_X7_count
set_option maxRecDepth 20000 in
theorem ggL_law_X6_hospital : GoodIn wsL_law wsX6_hospital := goodIn_r _ [444, 24, 15, 445, 446, 447, 23, 448, 307, 449, 450, 451, 14, 452, 54, 453, 351, 352, 353, 86, 661, 662, 663, 664, 665, 666, 691, 692, 693, 694, 684, 685, 686, 687, 688] (by decide +kernel) (by decide +kernel)
set_option maxRecDepth 20000 in
theorem gL_law_X6_hospital : GoodIn wsL_law (wsV RL 67 RX6 yX6_hospital wsX6_hospital) := goodIn_app (goodIn_of _ (by decide +kernel)) ggL_law_X6_hospital
set_option maxRecDepth 20000 in
theorem ggL_law_X7_hospital : GoodIn wsL_law wsX7_hospital := goodIn_r _ [457, 151, 112, 118, 458, 459, 460, 5, 461, 129, 375, 152, 153, 154, 667, 668, 669, 670, 671, 672, 673, 674, 675, 676, 677, 678, 679, 680, 681, 682, 683] (by decide +kernel) (by decide +kernel)
set_option maxRecDepth 20000 in
theorem gL_law_X7_hospital : GoodIn wsL_law (wsV RL 70 RX7 yX7_hospital wsX7_hospital) := goodIn_app (goodIn_of _ (by decide +kernel)) ggL_law_X7_hospital
set_option maxRecDepth 20000 in
theorem ggL_law_X6_cost : GoodIn wsL_law wsX6_cost := goodIn_r _ [465, 24, 445, 446, 447, 23, 448, 307, 466, 467, 468, 469, 88, 470, 471, 472, 473, 474, 475, 476, 436, 351, 352, 353, 86, 477, 355, 356, 357, 87, 478, 267, 268, 14, 269, 41, 661, 662, 663, 664, 665, 666, 691, 692, 693, 694, 684, 685, 686, 687, 688, 707, 708, 709, 710] (by decide +kernel) (by decide +kernel)
set_option maxRecDepth 20000 in
theorem gL_law_X6_cost : GoodIn wsL_law (wsV RL 71 RX6 yX6_cost wsX6_cost) := goodIn_app (goodIn_of _ (by decide +kernel)) ggL_law_X6_cost
set_option maxRecDepth 20000 in
theorem ggL_law_X7_cost : GoodIn wsL_law wsX7_cost := goodIn_r _ [482, 151, 458, 459, 460, 5, 461, 129, 375, 152, 153, 154, 483, 484, 485, 486, 112, 118, 209, 210, 211, 212, 116, 115, 667, 668, 669, 670, 671, 672, 673, 674, 675, 676, 677, 678, 679, 680, 681, 682, 683] (by decide +kernel) (by decide +kernel)
set_option maxRecDepth 20000 in
theorem gL_law_X7_cost : GoodIn wsL_law (wsV RL 74 RX7 yX7_cost wsX7_cost) := goodIn_app (goodIn_of _ (by decide +kernel)) ggL_law_X7_cost
set_option maxRecDepth 20000 in
theorem ggL_law_X6_cheapest : GoodIn wsL_law wsX6_cheapest := goodIn_r _ [490, 24, 423, 424, 425, 2, 426, 466, 467, 468, 23, 469, 88, 470, 471, 472, 473, 474, 475, 476, 436, 351, 352, 353, 86, 477, 355, 356, 357, 87, 478, 267, 268, 14, 269, 41, 661, 662, 663, 664, 665, 666, 691, 692, 693, 694, 684, 685, 686, 687, 688, 707, 708, 709, 710] (by decide +kernel) (by decide +kernel)
set_option maxRecDepth 20000 in
theorem gL_law_X6_cheapest : GoodIn wsL_law (wsV RL 75 RX6 yX6_cheapest wsX6_cheapest) := goodIn_app (goodIn_of _ (by decide +kernel)) ggL_law_X6_cheapest
set_option maxRecDepth 20000 in
theorem ggL_law_X7_cheapest : GoodIn wsL_law wsX7_cheapest := goodIn_r _ [494, 151, 129, 375, 152, 153, 5, 154, 483, 484, 485, 486, 112, 118, 209, 210, 211, 212, 116, 115, 667, 668, 669, 670, 671, 672, 673, 674, 675, 676, 677, 678, 679, 680, 681, 682, 683] (by decide +kernel) (by decide +kernel)
set_option maxRecDepth 20000 in
theorem gL_law_X7_cheapest : GoodIn wsL_law (wsV RL 78 RX7 yX7_cheapest wsX7_cheapest) := goodIn_app (goodIn_of _ (by decide +kernel)) ggL_law_X7_cheapest
set_option maxRecDepth 20000 in
theorem ggL_law_X6_bound : GoodIn wsL_law wsX6_bound := goodIn_r _ [498, 24, 15, 20, 445, 446, 447, 23, 448, 307, 499, 355, 356, 357, 87, 453, 351, 352, 353, 86, 500, 501, 502, 503, 504, 505, 506, 507, 88, 436, 661, 662, 663, 664, 665, 666, 684, 685, 686, 687, 688, 689, 690, 691, 692, 693, 694] (by decide +kernel) (by decide +kernel)
set_option maxRecDepth 20000 in
theorem gL_law_X6_bound : GoodIn wsL_law (wsV RL 79 RX6 yX6_bound wsX6_bound) := goodIn_app (goodIn_of _ (by decide +kernel)) ggL_law_X6_bound
