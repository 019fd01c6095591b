set_option maxRecDepth 20000 in
theorem ggL_law_X8_take : GoodIn wsL_law wsX8_take := goodIn_r _ [144, 93, 94, 95, 2, 96, 14, 145, 146, 147, 18, 148, 101, 34, 102, 103, 104, 105, 110, 111, 112, 113, 122, 123, 124, 125, 828, 829, 830, 831, 832, 833, 834, 835, 859, 860] (by decide +kernel) (by decide +kernel)
set_option maxRecDepth 20000 in
theorem gL_law_X8_take : GoodIn wsL_law (wsV RL 20 RX8 yX8_take wsX8_take) := goodIn_app (goodIn_of _ (by decide +kernel)) ggL_law_X8_take
set_option maxRecDepth 20000 in
theorem ggL_law_X9_take : GoodIn wsL_law wsX9_take := goodIn_r _ [152, 65, 64, 130, 131, 5, 132, 133, 134, 135, 136, 836, 837, 838, 839, 840, 841, 842, 843, 844, 845, 846, 847, 848, 849, 850, 851, 852, 853, 854, 855, 856, 857, 858] (by decide +kernel) (by decide +kernel)
set_option maxRecDepth 20000 in
theorem gL_law_X9_take : GoodIn wsL_law (wsV RL 24 RX9 yX9_take wsX9_take) := goodIn_app (goodIn_of _ (by decide +kernel)) ggL_law_X9_take
set_option maxRecDepth 20000 in
theorem ggL_law_X8_things : GoodIn wsL_law wsX8_things := goodIn_r _ [156, 93, 94, 95, 2, 96, 14, 122, 123, 124, 18, 125, 101, 828, 829, 830, 831, 832, 833, 834, 835, 859, 860] (by decide +kernel) (by decide +kernel)
set_option maxRecDepth 20000 in
theorem gL_law_X8_things : GoodIn wsL_law (wsV RL 25 RX8 yX8_things wsX8_things) := goodIn_app (goodIn_of _ (by decide +kernel)) ggL_law_X8_things
set_option maxRecDepth 20000 in
theorem ggL_law_X9_things : GoodIn wsL_law wsX9_things := goodIn_r _ [160, 65, 130, 131, 5, 132, 836, 837, 838, 839, 840, 841, 842, 843, 844, 845, 846, 847, 848, 849, 850, 851, 852, 853, 854, 855, 856, 857, 858] (by decide +kernel) (by decide +kernel)
set_option maxRecDepth 20000 in
theorem gL_law_X9_things : GoodIn wsL_law (wsV RL 29 RX9 yX9_things wsX9_things) := goodIn_app (goodIn_of _ (by decide +kernel)) ggL_law_X9_things
