set_option maxRecDepth 20000 in
theorem wsL_in_r25 : GoodIn lw_tbl wsL_law_r25 := goodIn_p _ [572, 576, 580, 932, 936] (by first | rfl | decide +kernel) (by decide +kernel)
set_option maxRecDepth 20000 in
theorem wsL_in_r26 : GoodIn lw_tbl wsL_law_r26 := goodIn_p _ [940, 585, 944, 589, 593, 948] (by first | rfl | decide +kernel) (by decide +kernel)
set_option maxRecDepth 20000 in
theorem wsL_in_r27 : GoodIn lw_tbl wsL_law_r27 := goodIn_p _ [952, 599, 956, 603, 960, 607] (by first | rfl | decide +kernel) (by decide +kernel)
set_option maxRecDepth 20000 in
theorem wsL_in_r28 : GoodIn lw_tbl wsL_law_r28 := goodIn_p _ [611, 615, 619, 623, 964] (by first | rfl | decide +kernel) (by decide +kernel)
set_option maxRecDepth 20000 in
theorem wsL_in_r29 : GoodIn lw_tbl wsL_law_r29 := goodIn_p _ [629, 633, 968, 637, 641, 645] (by first | rfl | decide +kernel) (by decide +kernel)
set_option maxRecDepth 20000 in
theorem wsL_in_r30 : GoodIn lw_tbl wsL_law_r30 := goodIn_p _ [649, 653, 657, 661, 972, 976] (by first | rfl | decide +kernel) (by decide +kernel)
set_option maxRecDepth 20000 in
theorem wsL_in_r31 : GoodIn lw_tbl wsL_law_r31 := goodIn_p _ [980, 984, 665, 988, 671, 675] (by first | rfl | decide +kernel) (by decide +kernel)
set_option maxRecDepth 20000 in
theorem wsL_in_r32 : GoodIn lw_tbl wsL_law_r32 := goodIn_p _ [679, 682, 992, 689, 693] (by first | rfl | decide +kernel) (by decide +kernel)
set_option maxRecDepth 20000 in
theorem wsL_in_r33 : GoodIn lw_tbl wsL_law_r33 := goodIn_p _ [697, 996, 703, 707, 714] (by first | rfl | decide +kernel) (by decide +kernel)
set_option maxRecDepth 20000 in
theorem wsL_in_r34 : GoodIn lw_tbl wsL_law_r34 := goodIn_p _ [719, 725, 1000, 1004, 730] (by first | rfl | decide +kernel) (by decide +kernel)
set_option maxRecDepth 20000 in
theorem wsL_in_r35 : GoodIn lw_tbl wsL_law_r35 := goodIn_p _ [1008, 734, 1012] (by first | rfl | decide +kernel) (by decide +kernel)
set_option maxRecDepth 20000 in
theorem wsL_in_X8 : GoodIn lw_tbl wsX80 := goodIn_of _ (by decide +kernel)
set_option maxRecDepth 20000 in
theorem wsL_in_X9 : GoodIn lw_tbl wsX90 := goodIn_of _ (by decide +kernel)
set_option maxRecDepth 20000 in
theorem wsL_in_X0 : GoodIn lw_tbl wsX00 := goodIn_of _ (by decide +kernel)
set_option maxRecDepth 20000 in
theorem wsL_in_X7 : GoodIn lw_tbl wsX70 := goodIn_of _ (by decide +kernel)
set_option maxRecDepth 20000 in
theorem wsL_in_X2 : GoodIn lw_tbl wsX20 := goodIn_of _ (by decide +kernel)
set_option maxRecDepth 20000 in
theorem wsL_in_X1 : GoodIn lw_tbl wsX10 := goodIn_of _ (by decide +kernel)
set_option maxRecDepth 20000 in
theorem wsL_in_X6 : GoodIn lw_tbl wsX60 := goodIn_of _ (by decide +kernel)
set_option maxRecDepth 20000 in
theorem wsL_in_X3 : GoodIn lw_tbl wsX30 := goodIn_of _ (by decide +kernel)
theorem wsL_law_in : ∀ w ∈ wsL_law, w ∈ lw_tbl := fun w h => ((goodIn_app (goodIn_app (goodIn_app (goodIn_app (goodIn_app (goodIn_app (goodIn_app (goodIn_app (goodIn_app (goodIn_app wsL_in_r1 (goodIn_app wsL_in_r2 (goodIn_app wsL_in_r3 (goodIn_app wsL_in_r4 (goodIn_app wsL_in_r5 (goodIn_app wsL_in_r6 (goodIn_app wsL_in_r7 (goodIn_app wsL_in_r8 (goodIn_app wsL_in_r9 (goodIn_app wsL_in_r10 (goodIn_app wsL_in_r11 (goodIn_app wsL_in_r12 (goodIn_app wsL_in_r13 (goodIn_app wsL_in_r14 (goodIn_app wsL_in_r15 (goodIn_app wsL_in_r16 (goodIn_app wsL_in_r17 (goodIn_app wsL_in_r18 (goodIn_app wsL_in_r19 (goodIn_app wsL_in_r20 (goodIn_app wsL_in_r21 (goodIn_app wsL_in_r22 (goodIn_app wsL_in_r23 (goodIn_app wsL_in_r24 (goodIn_app wsL_in_r25 (goodIn_app wsL_in_r26 (goodIn_app wsL_in_r27 (goodIn_app wsL_in_r28 (goodIn_app wsL_in_r29 (goodIn_app wsL_in_r30 (goodIn_app wsL_in_r31 (goodIn_app wsL_in_r32 (goodIn_app wsL_in_r33 (goodIn_app wsL_in_r34 (wsL_in_r35))))))))))))))))))))))))))))))))))) wsL_in_X8) wsL_in_X9) wsL_in_X0) wsL_in_X7) wsL_in_X2) wsL_in_X1) wsL_in_X6) wsL_in_X3) (fun w h => absurd h List.not_mem_nil) : GoodIn lw_tbl wsL_law) w h).1
theorem inlX0 : ∀ w ∈ wsX00, w ∈ wsL_law := fun _ h => List.mem_append_left _ (List.mem_append_left _ (List.mem_append_left _ (List.mem_append_left _ (List.mem_append_left _ (List.mem_append_left _ (List.mem_append_right _ h))))))
theorem inX0 : ∀ w ∈ wsX00, w ∈ lw_tbl := fun w h => wsL_law_in w (inlX0 w h)
theorem inlX1 : ∀ w ∈ wsX10, w ∈ wsL_law := fun _ h => List.mem_append_left _ (List.mem_append_left _ (List.mem_append_left _ (List.mem_append_right _ h)))
theorem inX1 : ∀ w ∈ wsX10, w ∈ lw_tbl := fun w h => wsL_law_in w (inlX1 w h)
theorem inlX2 : ∀ w ∈ wsX20, w ∈ wsL_law := fun _ h => List.mem_append_left _ (List.mem_append_left _ (List.mem_append_left _ (List.mem_append_left _ (List.mem_append_right _ h))))
theorem inX2 : ∀ w ∈ wsX20, w ∈ lw_tbl := fun w h => wsL_law_in w (inlX2 w h)
theorem inlX3 : ∀ w ∈ wsX30, w ∈ wsL_law := fun _ h => List.mem_append_left _ (List.mem_append_right _ h)
theorem inX3 : ∀ w ∈ wsX30, w ∈ lw_tbl := fun w h => wsL_law_in w (inlX3 w h)
theorem inX4 : ∀ w ∈ wsX40, w ∈ lw_tbl := by decide +kernel
theorem inX5 : ∀ w ∈ wsX50, w ∈ lw_tbl := by decide +kernel
theorem inlX6 : ∀ w ∈ wsX60, w ∈ wsL_law := fun _ h => List.mem_append_left _ (List.mem_append_left _ (List.mem_append_right _ h))
theorem inX6 : ∀ w ∈ wsX60, w ∈ lw_tbl := fun w h => wsL_law_in w (inlX6 w h)
theorem inlX7 : ∀ w ∈ wsX70, w ∈ wsL_law := fun _ h => List.mem_append_left _ (List.mem_append_left _ (List.mem_append_left _ (List.mem_append_left _ (List.mem_append_left _ (List.mem_append_right _ h)))))
theorem inX7 : ∀ w ∈ wsX70, w ∈ lw_tbl := fun w h => wsL_law_in w (inlX7 w h)
theorem inlX8 : ∀ w ∈ wsX80, w ∈ wsL_law := fun _ h => List.mem_append_left _ (List.mem_append_left _ (List.mem_append_left _ (List.mem_append_left _ (List.mem_append_left _ (List.mem_append_left _ (List.mem_append_left _ (List.mem_append_left _ (List.mem_append_right _ h))))))))
theorem inX8 : ∀ w ∈ wsX80, w ∈ lw_tbl := fun w h => wsL_law_in w (inlX8 w h)
theorem inlX9 : ∀ w ∈ wsX90, w ∈ wsL_law := fun _ h => List.mem_append_left _ (List.mem_append_left _ (List.mem_append_left _ (List.mem_append_left _ (List.mem_append_left _ (List.mem_append_left _ (List.mem_append_left _ (List.mem_append_right _ h)))))))
theorem inX9 : ∀ w ∈ wsX90, w ∈ lw_tbl := fun w h => wsL_law_in w (inlX9 w h)
theorem inJ6 : ∀ w ∈ wsJ60, w ∈ lw_tbl := by decide +kernel
theorem inJ13 : ∀ w ∈ wsJ130, w ∈ lw_tbl := by decide +kernel
theorem inJ9 : ∀ w ∈ wsJ90, w ∈ lw_tbl := by decide +kernel
theorem inJ10 : ∀ w ∈ wsJ100, w ∈ lw_tbl := by decide +kernel
theorem inJ7 : ∀ w ∈ wsJ70, w ∈ lw_tbl := by decide +kernel
