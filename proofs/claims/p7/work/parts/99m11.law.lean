set_option maxRecDepth 20000 in
theorem ggL_law_X8_remove : GoodIn wsL_law wsX8_remove := goodIn_sub (gi_c (gu_wsL_law_33 _ gm_23) (gi_a (gi_c (gu_wsL_law_7 _ gm_9) gi_0) (gu_wsL_law_35))) (by decide +kernel)
set_option maxRecDepth 20000 in
theorem gL_law_X8_remove : GoodIn wsL_law (wsV RL 108 RX8 yX8_remove wsX8_remove) := goodIn_app (goodIn_sub (gi_c (gu_wsL_law_33 _ gm_20) (gi_c (gu_wsL_law_33 _ gm_21) (gi_c (gu_wsL_law_33 _ gm_22) (gi_c (gu_wsL_law_0 _ gm_2) gi_0)))) (by decide +kernel)) ggL_law_X8_remove
set_option maxRecDepth 20000 in
theorem gu_wsL_law_34 : ∀ w ∈ wsL_law_r35, w ∈ wsL_law := fun _ h => List.mem_append_left _ (List.mem_append_left _ (List.mem_append_left _ (List.mem_append_left _ (List.mem_append_left _ (List.mem_append_left _ (List.mem_append_left _ (List.mem_append_left _ (List.mem_append_left _ (List.mem_append_right _ (List.mem_append_right _ (List.mem_append_right _ (List.mem_append_right _ (List.mem_append_right _ (List.mem_append_right _ (List.mem_append_right _ (List.mem_append_right _ (List.mem_append_right _ (List.mem_append_right _ (List.mem_append_right _ (List.mem_append_right _ (List.mem_append_right _ (List.mem_append_right _ (List.mem_append_right _ (List.mem_append_right _ (List.mem_append_right _ (List.mem_append_right _ (List.mem_append_right _ (List.mem_append_right _ (List.mem_append_right _ (List.mem_append_right _ (List.mem_append_right _ (List.mem_append_right _ (List.mem_append_right _ (List.mem_append_right _ (List.mem_append_right _ (List.mem_append_right _ (List.mem_append_right _ (List.mem_append_right _ (List.mem_append_right _ (List.mem_append_right _ (List.mem_append_right _ (List.mem_append_right _ h))))))))))))))))))))))))))))))))))))))))))
set_option maxRecDepth 20000 in
theorem ggL_law_X9_remove : GoodIn wsL_law wsX9_remove := goodIn_sub (gi_c (gu_wsL_law_34 _ gm_3) (gi_a (gi_c (gu_wsL_law_9 _ gm_0) gi_0) (gu_wsL_law_36))) (by decide +kernel)
set_option maxRecDepth 20000 in
theorem gL_law_X9_remove : GoodIn wsL_law (wsV RL 112 RX9 yX9_remove wsX9_remove) := goodIn_app (goodIn_sub (gi_c (gu_wsL_law_34 _ gm_0) (gi_c (gu_wsL_law_34 _ gm_1) (gi_c (gu_wsL_law_34 _ gm_2) (gi_c (gu_wsL_law_0 _ gm_5) gi_0)))) (by decide +kernel)) ggL_law_X9_remove
set_option maxRecDepth 20000 in
theorem ggL_law_X8_sieves : GoodIn wsL_law wsX8_sieves := goodIn_sub (gi_c (gu_wsL_law_34 _ gm_7) (gi_a (gi_c (gu_wsL_law_7 _ gm_9) gi_0) (gu_wsL_law_35))) (by decide +kernel)
set_option maxRecDepth 20000 in
theorem gL_law_X8_sieves : GoodIn wsL_law (wsV RL 113 RX8 yX8_sieves wsX8_sieves) := goodIn_app (goodIn_sub (gi_c (gu_wsL_law_34 _ gm_4) (gi_c (gu_wsL_law_34 _ gm_5) (gi_c (gu_wsL_law_34 _ gm_6) (gi_c (gu_wsL_law_0 _ gm_2) gi_0)))) (by decide +kernel)) ggL_law_X8_sieves
set_option maxRecDepth 20000 in
theorem ggL_law_X9_sieves : GoodIn wsL_law wsX9_sieves := goodIn_sub (gi_c (gu_wsL_law_34 _ gm_11) (gi_a (gi_c (gu_wsL_law_9 _ gm_0) gi_0) (gu_wsL_law_36))) (by decide +kernel)
set_option maxRecDepth 20000 in
theorem gL_law_X9_sieves : GoodIn wsL_law (wsV RL 116 RX9 yX9_sieves wsX9_sieves) := goodIn_app (goodIn_sub (gi_c (gu_wsL_law_34 _ gm_8) (gi_c (gu_wsL_law_34 _ gm_9) (gi_c (gu_wsL_law_34 _ gm_10) (gi_c (gu_wsL_law_0 _ gm_5) gi_0)))) (by decide +kernel)) ggL_law_X9_sieves
