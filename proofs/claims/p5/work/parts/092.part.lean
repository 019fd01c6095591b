set_option maxRecDepth 20000 in
theorem ggL_law_X8_fold : GoodIn wsL_law wsX8_fold := goodIn_r _ [672, 177, 457, 458, 459, 2, 460, 16, 184, 185, 186, 187, 15, 188, 189, 190, 191, 192, 11, 12, 38, 193, 194, 17, 18, 195, 30, 31, 32, 33, 34, 196, 197, 198, 199, 200, 201, 202, 203, 204, 205, 206, 207, 101, 208, 209, 210, 211, 673, 674, 675, 676, 511, 319, 320, 321, 512, 323, 324, 325, 97, 98, 99, 100, 102, 103, 104, 105, 877, 878, 879, 880, 881, 882, 883, 828, 829, 830, 831, 832, 833, 834, 835, 859, 860] (by decide +kernel) (by decide +kernel)
set_option maxRecDepth 20000 in
theorem gL_law_X8_fold : GoodIn wsL_law (wsV RL 83 RX8 yX8_fold wsX8_fold) := goodIn_app (goodIn_of _ (by decide +kernel)) ggL_law_X8_fold
set_option maxRecDepth 20000 in
theorem ggL_law_X9_fold : GoodIn wsL_law wsX9_fold := goodIn_r _ [680, 66, 67, 216, 68, 69, 73, 71, 70, 519, 520, 521, 5, 522, 220, 221, 222, 223, 79, 836, 837, 838, 839, 840, 841, 842, 843, 844, 845, 846, 847, 848, 849, 850, 851, 852, 853, 854, 855, 856, 857, 858] (by decide +kernel) (by decide +kernel)
set_option maxRecDepth 20000 in
theorem gL_law_X9_fold : GoodIn wsL_law (wsV RL 86 RX9 yX9_fold wsX9_fold) := goodIn_app (goodIn_of _ (by decide +kernel)) ggL_law_X9_fold
set_option maxRecDepth 20000 in
theorem ggL_law_X8_about : GoodIn wsL_law wsX8_about := goodIn_r _ [684, 457, 458, 459, 2, 460, 177, 16, 122, 123, 124, 18, 125, 101, 685, 686, 687, 189, 688, 200, 201, 370, 689, 690, 691, 373, 692, 382, 387, 379, 394, 693, 694, 695, 45, 696, 275, 697, 698, 699, 700, 701, 702, 703, 704, 705, 706, 707, 708, 511, 319, 320, 321, 193, 877, 878, 879, 880, 881, 882, 883, 828, 829, 830, 831, 832, 833, 834, 835, 859, 860, 884, 885, 886, 887, 888, 875, 876] (by decide +kernel) (by decide +kernel)
set_option maxRecDepth 20000 in
theorem gL_law_X8_about : GoodIn wsL_law (wsV RL 87 RX8 yX8_about wsX8_about) := goodIn_app (goodIn_of _ (by decide +kernel)) ggL_law_X8_about
set_option maxRecDepth 20000 in
theorem ggL_law_X9_about : GoodIn wsL_law wsX9_about := goodIn_r _ [712, 66, 67, 68, 69, 71, 519, 520, 521, 5, 522, 216, 713, 714, 715, 716, 79, 76, 717, 718, 719, 720, 73, 721, 722, 723, 724, 836, 837, 838, 839, 840, 841, 842, 843, 844, 845, 846, 847, 848, 849, 850, 851, 852, 853, 854, 855, 856, 857, 858] (by decide +kernel) (by decide +kernel)
set_option maxRecDepth 20000 in
theorem gL_law_X9_about : GoodIn wsL_law (wsV RL 90 RX9 yX9_about wsX9_about) := goodIn_app (goodIn_of _ (by decide +kernel)) ggL_law_X9_about
