set_option maxRecDepth 20000 in
theorem ggL_law_X8_mark : GoodIn wsL_law wsX8_mark := goodIn_r _ [760, 457, 458, 459, 2, 460, 177, 16, 761, 762, 763, 189, 764, 200, 202, 765, 766, 767, 768, 203, 201, 470, 242, 243, 244, 245, 246, 247, 769, 479, 480, 408, 257, 258, 259, 770, 490, 473, 491, 478, 475, 476, 477, 492, 493, 494, 495, 574, 254, 255, 256, 510, 406, 407, 877, 878, 879, 880, 881, 882, 883, 828, 829, 830, 831, 832, 833, 834, 835] (by decide +kernel) (by decide +kernel)
set_option maxRecDepth 20000 in
theorem gL_law_X8_mark : GoodIn wsL_law (wsV RL 99 RX8 yX8_mark wsX8_mark) := goodIn_app (goodIn_of _ (by decide +kernel)) ggL_law_X8_mark
set_option maxRecDepth 20000 in
theorem ggL_law_X9_mark : GoodIn wsL_law wsX9_mark := goodIn_r _ [774, 66, 68, 69, 67, 519, 520, 521, 5, 522, 216, 334, 335, 336, 337, 338, 339, 535, 536, 537, 538, 448, 531, 532, 533, 534, 539, 540, 541, 542, 340, 341, 342, 343, 445, 446, 447, 836, 837, 838, 839, 840, 841, 842, 843, 844, 845, 846, 847, 848, 849, 850, 851, 852, 853, 854, 855, 856, 857, 858] (by decide +kernel) (by decide +kernel)
set_option maxRecDepth 20000 in
theorem gL_law_X9_mark : GoodIn wsL_law (wsV RL 103 RX9 yX9_mark wsX9_mark) := goodIn_app (goodIn_of _ (by decide +kernel)) ggL_law_X9_mark
set_option maxRecDepth 20000 in
theorem ggL_law_X8_fewest : GoodIn wsL_law wsX8_fewest := goodIn_r _ [778, 20, 29, 93, 94, 95, 2, 96, 14, 356, 357, 358, 18, 359, 101, 34, 360, 205, 206, 207, 361, 107, 108, 109, 110, 111, 112, 113, 362, 363, 364, 365, 118, 119, 120, 121, 779, 780, 781, 28, 782, 783, 56, 784, 57, 785, 123, 124, 125, 786, 166, 167, 168, 787, 242, 243, 244, 245, 246, 247, 788, 789, 790, 791, 59, 792, 265, 266, 45, 267, 268, 269, 270, 271, 272, 273, 274, 275, 52, 276, 277, 210, 278, 793, 794, 795, 796, 797, 406, 407, 408, 798, 284, 285, 286, 799, 800, 801, 802, 803, 419, 420, 421, 405, 422, 423, 424, 425, 828, 829, 830, 831, 832, 833, 834, 835, 859, 860, 870, 871, 872, 873, 874, 875, 876] (by decide +kernel) (by decide +kernel)
set_option maxRecDepth 20000 in
theorem gL_law_X8_fewest : GoodIn wsL_law (wsV RL 104 RX8 yX8_fewest wsX8_fewest) := goodIn_app (goodIn_of _ (by decide +kernel)) ggL_law_X8_fewest
set_option maxRecDepth 20000 in
theorem ggL_law_X9_fewest : GoodIn wsL_law wsX9_fewest := goodIn_r _ [807, 130, 131, 5, 132, 808, 809, 810, 811, 87, 65, 64, 334, 335, 336, 337, 338, 339, 445, 446, 447, 448, 133, 134, 135, 136, 836, 837, 838, 839, 840, 841, 842, 843, 844, 845, 846, 847, 848, 849, 850, 851, 852, 853, 854, 855, 856, 857, 858] (by decide +kernel) (by decide +kernel)
set_option maxRecDepth 20000 in
theorem gL_law_X9_fewest : GoodIn wsL_law (wsV RL 107 RX9 yX9_fewest wsX9_fewest) := goodIn_app (goodIn_of _ (by decide +kernel)) ggL_law_X9_fewest
