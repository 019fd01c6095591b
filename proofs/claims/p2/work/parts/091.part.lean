set_option maxRecDepth 20000 in
theorem ggL_law_X8_cell : GoodIn wsL_law wsX8_cell := goodIn_r _ [728, 457, 458, 459, 2, 460, 177, 16, 729, 706, 707, 189, 708, 200, 201, 730, 319, 320, 321, 193, 877, 878, 879, 880, 881, 882, 883, 828, 829, 830, 831, 832, 833, 834, 835] (by decide +kernel) (by decide +kernel)
set_option maxRecDepth 20000 in
theorem gL_law_X8_cell : GoodIn wsL_law (wsV RL 91 RX8 yX8_cell wsX8_cell) := goodIn_app (goodIn_of _ (by decide +kernel)) ggL_law_X8_cell
set_option maxRecDepth 20000 in
theorem ggL_law_X9_cell : GoodIn wsL_law wsX9_cell := goodIn_r _ [734, 66, 73, 519, 520, 521, 5, 522, 216, 721, 722, 723, 724, 67, 836, 837, 838, 839, 840, 841, 842, 843, 844, 845, 846, 847, 848, 849, 850, 851, 852, 853, 854, 855, 856, 857, 858] (by decide +kernel) (by decide +kernel)
set_option maxRecDepth 20000 in
theorem gL_law_X9_cell : GoodIn wsL_law (wsV RL 94 RX9 yX9_cell wsX9_cell) := goodIn_app (goodIn_of _ (by decide +kernel)) ggL_law_X9_cell
set_option maxRecDepth 20000 in
theorem ggL_law_X8_layer : GoodIn wsL_law wsX8_layer := goodIn_r _ [738, 457, 458, 459, 2, 460, 177, 16, 739, 740, 741, 373, 742, 387, 379, 380, 693, 694, 695, 45, 696, 275, 743, 744, 745, 746, 52, 747, 748, 302, 749, 750, 751, 752, 877, 878, 879, 880, 881, 882, 883, 828, 829, 830, 831, 832, 833, 834, 835, 884, 885, 886, 887, 888, 875, 876] (by decide +kernel) (by decide +kernel)
set_option maxRecDepth 20000 in
theorem gL_law_X8_layer : GoodIn wsL_law (wsV RL 95 RX8 yX8_layer wsX8_layer) := goodIn_app (goodIn_of _ (by decide +kernel)) ggL_law_X8_layer
set_option maxRecDepth 20000 in
theorem ggL_law_X9_layer : GoodIn wsL_law wsX9_layer := goodIn_r _ [756, 66, 67, 76, 77, 75, 519, 520, 521, 5, 522, 216, 836, 837, 838, 839, 840, 841, 842, 843, 844, 845, 846, 847, 848, 849, 850, 851, 852, 853, 854, 855, 856, 857, 858] (by decide +kernel) (by decide +kernel)
set_option maxRecDepth 20000 in
theorem gL_law_X9_layer : GoodIn wsL_law (wsV RL 98 RX9 yX9_layer wsX9_layer) := goodIn_app (goodIn_of _ (by decide +kernel)) ggL_law_X9_layer
