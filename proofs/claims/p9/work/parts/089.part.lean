set_option maxRecDepth 20000 in
theorem ggL_law_X8_missed : GoodIn wsL_law wsX8_missed := goodIn_r _ [638, 457, 458, 459, 2, 460, 177, 16, 122, 123, 124, 18, 125, 101, 165, 166, 167, 168, 34, 558, 559, 560, 189, 561, 200, 370, 203, 562, 563, 564, 373, 565, 387, 382, 414, 415, 416, 417, 379, 388, 400, 242, 243, 244, 245, 246, 247, 418, 419, 420, 45, 421, 275, 405, 406, 407, 408, 422, 423, 424, 425, 52, 566, 107, 108, 109, 110, 111, 112, 113, 470, 567, 568, 473, 569, 475, 476, 477, 257, 258, 259, 478, 479, 480, 484, 485, 486, 487, 319, 320, 321, 193, 489, 490, 491, 492, 493, 494, 495, 570, 571, 572, 573, 201, 574, 254, 255, 256, 511, 575, 249, 250, 251, 252, 576, 577, 578, 579, 202, 510, 877, 878, 879, 880, 881, 882, 883, 828, 829, 830, 831, 832, 833, 834, 835, 859, 860, 884, 885, 886, 887, 888, 875, 876] (by decide +kernel) (by decide +kernel)
set_option maxRecDepth 20000 in
theorem gL_law_X8_missed : GoodIn wsL_law (wsV RL 75 RX8 yX8_missed wsX8_missed) := goodIn_app (goodIn_of _ (by decide +kernel)) ggL_law_X8_missed
set_option maxRecDepth 20000 in
theorem ggL_law_X9_missed : GoodIn wsL_law wsX9_missed := goodIn_r _ [642, 71, 70, 519, 520, 521, 5, 522, 216, 593, 594, 595, 596, 69, 66, 73, 67, 68, 334, 335, 336, 337, 338, 339, 597, 598, 599, 600, 79, 78, 449, 450, 451, 452, 76, 75, 445, 446, 447, 448, 344, 345, 346, 347, 340, 341, 342, 343, 535, 536, 537, 538, 531, 532, 533, 534, 539, 540, 541, 542, 836, 837, 838, 839, 840, 841, 842, 843, 844, 845, 846, 847, 848, 849, 850, 851, 852, 853, 854, 855, 856, 857, 858] (by decide +kernel) (by decide +kernel)
set_option maxRecDepth 20000 in
theorem gL_law_X9_missed : GoodIn wsL_law (wsV RL 78 RX9 yX9_missed wsX9_missed) := goodIn_app (goodIn_of _ (by decide +kernel)) ggL_law_X9_missed
set_option maxRecDepth 20000 in
theorem ggL_law_X8_join : GoodIn wsL_law wsX8_join := goodIn_r _ [646, 177, 457, 458, 459, 2, 460, 16, 647, 648, 649, 189, 650, 200, 201, 202, 203, 184, 185, 186, 187, 15, 188, 190, 191, 192, 11, 12, 38, 193, 194, 17, 18, 195, 30, 31, 32, 33, 34, 122, 123, 124, 125, 101, 196, 197, 198, 199, 204, 205, 206, 207, 208, 209, 210, 211, 651, 652, 653, 654, 511, 319, 320, 321, 512, 323, 324, 325, 655, 656, 657, 658, 360, 362, 363, 364, 365, 118, 119, 120, 121, 659, 660, 661, 662, 663, 98, 99, 100, 102, 103, 104, 105, 664, 115, 116, 117, 110, 111, 112, 113, 877, 878, 879, 880, 881, 882, 883, 828, 829, 830, 831, 832, 833, 834, 835, 859, 860] (by decide +kernel) (by decide +kernel)
set_option maxRecDepth 20000 in
theorem gL_law_X8_join : GoodIn wsL_law (wsV RL 79 RX8 yX8_join wsX8_join) := goodIn_app (goodIn_of _ (by decide +kernel)) ggL_law_X8_join
set_option maxRecDepth 20000 in
theorem ggL_law_X9_join : GoodIn wsL_law wsX9_join := goodIn_r _ [668, 66, 67, 68, 69, 216, 71, 73, 70, 519, 520, 521, 5, 522, 220, 221, 222, 223, 79, 623, 624, 625, 626, 836, 837, 838, 839, 840, 841, 842, 843, 844, 845, 846, 847, 848, 849, 850, 851, 852, 853, 854, 855, 856, 857, 858] (by decide +kernel) (by decide +kernel)
set_option maxRecDepth 20000 in
theorem gL_law_X9_join : GoodIn wsL_law (wsV RL 82 RX9 yX9_join wsX9_join) := goodIn_app (goodIn_of _ (by decide +kernel)) ggL_law_X9_join
