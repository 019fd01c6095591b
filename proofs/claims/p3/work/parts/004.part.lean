set_option maxRecDepth 20000 in
theorem wsL_in_r1 : GoodIn lw_tbl wsL_law_r1 := goodIn_p _ [56, 59] (by first | rfl | decide +kernel) (by decide +kernel)
set_option maxRecDepth 20000 in
theorem wsL_in_r2 : GoodIn lw_tbl wsL_law_r2 := goodIn_p _ [67, 81] (by first | rfl | decide +kernel) (by decide +kernel)
set_option maxRecDepth 20000 in
theorem wsL_in_r3 : GoodIn lw_tbl wsL_law_r3 := goodIn_p _ [87, 129, 739] (by first | rfl | decide +kernel) (by decide +kernel)
set_option maxRecDepth 20000 in
theorem wsL_in_r4 : GoodIn lw_tbl wsL_law_r4 := goodIn_p _ [177] (by first | rfl | decide +kernel) (by decide +kernel)
set_option maxRecDepth 20000 in
theorem wsL_in_r5 : GoodIn lw_tbl wsL_law_r5 := goodIn_p _ [181, 185, 192, 196, 200] (by first | rfl | decide +kernel) (by decide +kernel)
set_option maxRecDepth 20000 in
theorem wsL_in_r6 : GoodIn lw_tbl wsL_law_r6 := goodIn_p _ [204, 208, 817, 820, 824, 828] (by first | rfl | decide +kernel) (by decide +kernel)
set_option maxRecDepth 20000 in
theorem wsL_in_r7 : GoodIn lw_tbl wsL_law_r7 := goodIn_p _ [212, 216, 832, 220, 836, 224] (by first | rfl | decide +kernel) (by decide +kernel)
set_option maxRecDepth 20000 in
theorem wsL_in_r8 : GoodIn lw_tbl wsL_law_r8 := goodIn_p _ [228, 840, 232, 235, 238, 242, 246] (by first | rfl | decide +kernel) (by decide +kernel)
set_option maxRecDepth 20000 in
theorem wsL_in_r9 : GoodIn lw_tbl wsL_law_r9 := goodIn_p _ [282, 286, 289, 844] (by first | rfl | decide +kernel) (by decide +kernel)
set_option maxRecDepth 20000 in
theorem wsL_in_r10 : GoodIn lw_tbl wsL_law_r10 := goodIn_p _ [847, 851, 293, 297, 302] (by first | rfl | decide +kernel) (by decide +kernel)
set_option maxRecDepth 20000 in
theorem wsL_in_r11 : GoodIn lw_tbl wsL_law_r11 := goodIn_p _ [307, 313, 318, 322, 326] (by first | rfl | decide +kernel) (by decide +kernel)
set_option maxRecDepth 20000 in
theorem wsL_in_r12 : GoodIn lw_tbl wsL_law_r12 := goodIn_p _ [330, 333, 336, 339, 343, 347] (by first | rfl | decide +kernel) (by decide +kernel)
