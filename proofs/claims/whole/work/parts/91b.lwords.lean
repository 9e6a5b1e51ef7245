set_option maxRecDepth 20000 in
theorem ggL_law_X7_listed : GoodIn wsL_law wsX7_listed := goodIn_r _ [234, 151, 116, 115, 201, 202, 203, 5, 204, 152, 153, 154, 205, 206, 207, 208, 112, 113, 671, 672, 673, 674, 675, 676, 677, 678, 679, 680, 681, 682, 683, 684, 685, 686, 687] (by decide +kernel) (by decide +kernel)
set_option maxRecDepth 20000 in
theorem gL_law_X7_listed : GoodIn wsL_law (wsV RL 57 RX7 yX7_listed wsX7_listed) := goodIn_app (goodIn_of _ (by decide +kernel)) ggL_law_X7_listed
set_option maxRecDepth 20000 in
theorem ggL_law_X6_work : GoodIn wsL_law wsX6_work := goodIn_r _ [238, 32, 28, 24, 143, 144, 145, 2, 146, 239, 240, 241, 31, 242, 107, 243, 78, 79, 18, 80, 75, 81, 67, 68, 69, 244, 245, 246, 247, 102, 248, 249, 250, 251, 252, 105, 253, 254, 255, 256, 257, 228, 229, 39, 230, 61, 48, 258, 259, 260, 14, 261, 40, 41, 262, 263, 264, 265, 76, 266, 267, 268, 269, 270, 271, 272, 273, 274, 275, 276, 277, 103, 104, 278, 279, 280, 281, 282, 283, 284, 285, 106, 286, 287, 288, 289, 290, 291, 292, 293, 294, 295, 296, 297, 298, 299, 300, 301, 302, 303, 304, 305, 306, 307, 308, 309, 23, 310, 311, 86, 312, 313, 314, 315, 88, 87, 316, 317, 318, 319, 320, 321, 322, 323, 324, 325, 326, 327, 328, 329, 330, 331, 27, 332, 97, 96, 333, 334, 335, 336, 337, 338, 339, 340, 341, 342, 343, 344, 345, 95, 93, 94, 346, 347, 348, 349, 350, 351, 352, 353, 354, 355, 356, 357, 358, 359, 360, 361, 362, 363, 364, 365, 366, 367, 368, 369, 370, 371, 372, 373, 665, 666, 667, 668, 669, 670, 695, 696, 697, 698, 699, 700, 701, 702, 703, 704, 705, 706, 707, 708, 709, 710, 693, 694, 688, 689, 690, 691, 692, 711, 712, 713, 714] (by decide +kernel) (by decide +kernel)
set_option maxRecDepth 20000 in
theorem gL_law_X6_work : GoodIn wsL_law (wsV RL 58 RX6 yX6_work wsX6_work) := goodIn_app (goodIn_of _ (by decide +kernel)) ggL_law_X6_work
set_option maxRecDepth 20000 in
theorem ggL_law_X7_work : GoodIn wsL_law wsX7_work := goodIn_r _ [377, 151, 378, 379, 129, 380, 381, 382, 5, 383, 124, 112, 123, 118, 116, 115, 384, 385, 386, 387, 113, 388, 389, 390, 391, 114, 392, 393, 394, 395, 209, 210, 211, 212, 396, 397, 398, 399, 400, 401, 402, 403, 404, 405, 406, 407, 408, 409, 410, 411, 412, 413, 414, 120, 121, 122, 119, 415, 416, 417, 418, 419, 420, 421, 422, 671, 672, 673, 674, 675, 676, 677, 678, 679, 680, 681, 682, 683, 684, 685, 686, 687] (by decide +kernel) (by decide +kernel)
set_option maxRecDepth 20000 in
theorem gL_law_X7_work : GoodIn wsL_law (wsV RL 61 RX7 yX7_work wsX7_work) := goodIn_app (goodIn_of _ (by decide +kernel)) ggL_law_X7_work
set_option maxRecDepth 20000 in
theorem ggL_law_X6_count : GoodIn wsL_law wsX6_count := goodIn_r _ [426, 24, 28, 15, 427, 428, 429, 2, 430, 431, 432, 433, 14, 434, 54, 55, 435, 259, 260, 261, 40, 41, 436, 437, 438, 23, 439, 88, 440, 355, 356, 357, 86, 665, 666, 667, 668, 669, 670, 695, 696, 697, 698, 699, 700, 701, 702, 703, 704, 688, 689, 690, 691, 692, 711, 712, 713, 714] (by decide +kernel) (by decide +kernel)
set_option maxRecDepth 20000 in
theorem gL_law_X6_count : GoodIn wsL_law (wsV RL 62 RX6 yX6_count wsX6_count) := goodIn_app (goodIn_of _ (by decide +kernel)) ggL_law_X6_count
set_option maxRecDepth 20000 in
theorem ggL_law_X7_count : GoodIn wsL_law wsX7_count := goodIn_r _ [444, 151, 129, 112, 118, 113, 379, 378, 152, 153, 5, 154, 392, 393, 394, 395, 209, 210, 211, 212, 116, 115, 671, 672, 673, 674, 675, 676, 677, 678, 679, 680, 681, 682, 683, 684, 685, 686, 687] (by decide +kernel) (by decide +kernel)
set_option maxRecDepth 20000 in
theorem gL_law_X7_count : GoodIn wsL_law (wsV RL 66 RX7 yX7_count wsX7_count) := goodIn_app (goodIn_of _ (by decide +kernel)) ggL_law_X7_count
set_option maxRecDepth 20000 in
theorem ggL_law_X6_hospital : GoodIn wsL_law wsX6_hospital := goodIn_r _ [448, 24, 15, 449, 450, 451, 23, 452, 311, 453, 454, 455, 14, 456, 54, 457, 355, 356, 357, 86, 665, 666, 667, 668, 669, 670, 695, 696, 697, 698, 688, 689, 690, 691, 692] (by decide +kernel) (by decide +kernel)
set_option maxRecDepth 20000 in
theorem gL_law_X6_hospital : GoodIn wsL_law (wsV RL 67 RX6 yX6_hospital wsX6_hospital) := goodIn_app (goodIn_of _ (by decide +kernel)) ggL_law_X6_hospital
set_option maxRecDepth 20000 in
theorem ggL_law_X7_hospital : GoodIn wsL_law wsX7_hospital := goodIn_r _ [461, 151, 112, 118, 462, 463, 464, 5, 465, 129, 379, 152, 153, 154, 671, 672, 673, 674, 675, 676, 677, 678, 679, 680, 681, 682, 683, 684, 685, 686, 687] (by decide +kernel) (by decide +kernel)
set_option maxRecDepth 20000 in
theorem gL_law_X7_hospital : GoodIn wsL_law (wsV RL 70 RX7 yX7_hospital wsX7_hospital) := goodIn_app (goodIn_of _ (by decide +kernel)) ggL_law_X7_hospital
set_option maxRecDepth 20000 in
theorem ggL_law_X6_cost : GoodIn wsL_law wsX6_cost := goodIn_r _ [469, 24, 449, 450, 451, 23, 452, 311, 470, 471, 472, 473, 88, 474, 475, 476, 477, 478, 479, 480, 440, 355, 356, 357, 86, 481, 359, 360, 361, 87, 482, 267, 268, 14, 269, 41, 665, 666, 667, 668, 669, 670, 695, 696, 697, 698, 688, 689, 690, 691, 692, 711, 712, 713, 714] (by decide +kernel) (by decide +kernel)
set_option maxRecDepth 20000 in
theorem gL_law_X6_cost : GoodIn wsL_law (wsV RL 71 RX6 yX6_cost wsX6_cost) := goodIn_app (goodIn_of _ (by decide +kernel)) ggL_law_X6_cost
set_option maxRecDepth 20000 in
theorem ggL_law_X7_cost : GoodIn wsL_law wsX7_cost := goodIn_r _ [486, 151, 462, 463, 464, 5, 465, 129, 379, 152, 153, 154, 487, 488, 489, 490, 112, 118, 209, 210, 211, 212, 116, 115, 671, 672, 673, 674, 675, 676, 677, 678, 679, 680, 681, 682, 683, 684, 685, 686, 687] (by decide +kernel) (by decide +kernel)
set_option maxRecDepth 20000 in
theorem gL_law_X7_cost : GoodIn wsL_law (wsV RL 74 RX7 yX7_cost wsX7_cost) := goodIn_app (goodIn_of _ (by decide +kernel)) ggL_law_X7_cost
set_option maxRecDepth 20000 in
theorem ggL_law_X6_cheapest : GoodIn wsL_law wsX6_cheapest := goodIn_r _ [494, 24, 427, 428, 429, 2, 430, 470, 471, 472, 23, 473, 88, 474, 475, 476, 477, 478, 479, 480, 440, 355, 356, 357, 86, 481, 359, 360, 361, 87, 482, 267, 268, 14, 269, 41, 665, 666, 667, 668, 669, 670, 695, 696, 697, 698, 688, 689, 690, 691, 692, 711, 712, 713, 714] (by decide +kernel) (by decide +kernel)
set_option maxRecDepth 20000 in
theorem gL_law_X6_cheapest : GoodIn wsL_law (wsV RL 75 RX6 yX6_cheapest wsX6_cheapest) := goodIn_app (goodIn_of _ (by decide +kernel)) ggL_law_X6_cheapest
set_option maxRecDepth 20000 in
theorem ggL_law_X7_cheapest : GoodIn wsL_law wsX7_cheapest := goodIn_r _ [498, 151, 129, 379, 152, 153, 5, 154, 487, 488, 489, 490, 112, 118, 209, 210, 211, 212, 116, 115, 671, 672, 673, 674, 675, 676, 677, 678, 679, 680, 681, 682, 683, 684, 685, 686, 687] (by decide +kernel) (by decide +kernel)
set_option maxRecDepth 20000 in
theorem gL_law_X7_cheapest : GoodIn wsL_law (wsV RL 78 RX7 yX7_cheapest wsX7_cheapest) := goodIn_app (goodIn_of _ (by decide +kernel)) ggL_law_X7_cheapest
set_option maxRecDepth 20000 in
theorem ggL_law_X6_bound : GoodIn wsL_law wsX6_bound := goodIn_r _ [502, 24, 15, 20, 449, 450, 451, 23, 452, 311, 503, 359, 360, 361, 87, 457, 355, 356, 357, 86, 504, 505, 506, 507, 508, 509, 510, 511, 88, 440, 665, 666, 667, 668, 669, 670, 688, 689, 690, 691, 692, 693, 694, 695, 696, 697, 698] (by decide +kernel) (by decide +kernel)
set_option maxRecDepth 20000 in
theorem gL_law_X6_bound : GoodIn wsL_law (wsV RL 79 RX6 yX6_bound wsX6_bound) := goodIn_app (goodIn_of _ (by decide +kernel)) ggL_law_X6_bound
