theorem dX8_init_0 : decode cX8_init 0 = .ok (.aload_n 0, 1) := by decide +kernel
theorem dX8_init_1 : decode cX8_init 1 = .ok (.invokespecial 1, 3) := by decide +kernel
theorem dX8_init_4 : decode cX8_init 4 = .ok (.aload_n 0, 1) := by decide +kernel
theorem dX8_init_5 : decode cX8_init 5 = .ok (.bipush 8, 2) := by decide +kernel
theorem dX8_init_7 : decode cX8_init 7 = .ok (.anewarray 9, 3) := by decide +kernel
theorem dX8_init_10 : decode cX8_init 10 = .ok (.putfield 11, 3) := by decide +kernel
theorem dX8_init_13 : decode cX8_init 13 = .ok (.aload_n 0, 1) := by decide +kernel
theorem dX8_init_14 : decode cX8_init 14 = .ok (.bipush 30, 2) := by decide +kernel
theorem dX8_init_16 : decode cX8_init 16 = .ok (.anewarray 15, 3) := by decide +kernel
theorem dX8_init_19 : decode cX8_init 19 = .ok (.putfield 17, 3) := by decide +kernel
theorem dX8_init_22 : decode cX8_init 22 = .ok (.aload_n 0, 1) := by decide +kernel
theorem dX8_init_23 : decode cX8_init 23 = .ok (.new 9, 3) := by decide +kernel
theorem dX8_init_26 : decode cX8_init 26 = .ok (.dup, 1) := by decide +kernel
theorem dX8_init_27 : decode cX8_init 27 = .ok (.invokespecial 21, 3) := by decide +kernel
theorem dX8_init_30 : decode cX8_init 30 = .ok (.putfield 22, 3) := by decide +kernel
theorem dX8_init_33 : decode cX8_init 33 = .ok (.aload_n 0, 1) := by decide +kernel
theorem dX8_init_34 : decode cX8_init 34 = .ok (.new 9, 3) := by decide +kernel
theorem dX8_init_37 : decode cX8_init 37 = .ok (.dup, 1) := by decide +kernel
theorem dX8_init_38 : decode cX8_init 38 = .ok (.invokespecial 21, 3) := by decide +kernel
theorem dX8_init_41 : decode cX8_init 41 = .ok (.putfield 26, 3) := by decide +kernel
theorem dX8_init_44 : decode cX8_init 44 = .ok (.aload_n 0, 1) := by decide +kernel
theorem dX8_init_45 : decode cX8_init 45 = .ok (.new 9, 3) := by decide +kernel
theorem dX8_init_48 : decode cX8_init 48 = .ok (.dup, 1) := by decide +kernel
theorem dX8_init_49 : decode cX8_init 49 = .ok (.invokespecial 21, 3) := by decide +kernel
theorem dX8_init_52 : decode cX8_init 52 = .ok (.putfield 29, 3) := by decide +kernel
theorem dX8_init_55 : decode cX8_init 55 = .ok (.aload_n 0, 1) := by decide +kernel
theorem dX8_init_56 : decode cX8_init 56 = .ok (.new 32, 3) := by decide +kernel
theorem dX8_init_59 : decode cX8_init 59 = .ok (.dup, 1) := by decide +kernel
theorem dX8_init_60 : decode cX8_init 60 = .ok (.invokespecial 34, 3) := by decide +kernel
theorem dX8_init_63 : decode cX8_init 63 = .ok (.putfield 35, 3) := by decide +kernel
theorem dX8_init_66 : decode cX8_init 66 = .ok (.aload_n 0, 1) := by decide +kernel
theorem dX8_init_67 : decode cX8_init 67 = .ok (.new 39, 3) := by decide +kernel
theorem dX8_init_70 : decode cX8_init 70 = .ok (.dup, 1) := by decide +kernel
theorem dX8_init_71 : decode cX8_init 71 = .ok (.invokespecial 41, 3) := by decide +kernel
theorem dX8_init_74 : decode cX8_init 74 = .ok (.putfield 42, 3) := by decide +kernel
theorem dX8_init_77 : decode cX8_init 77 = .ok (.iconst 0, 1) := by decide +kernel
theorem dX8_init_78 : decode cX8_init 78 = .ok (.istore_n 1, 1) := by decide +kernel
theorem dX8_init_79 : decode cX8_init 79 = .ok (.iload_n 1, 1) := by decide +kernel
theorem dX8_init_80 : decode cX8_init 80 = .ok (.bipush 8, 2) := by decide +kernel
theorem dX8_init_82 : decode cX8_init 82 = .ok (.if_icmp .ge 22, 3) := by decide +kernel
theorem dX8_init_85 : decode cX8_init 85 = .ok (.aload_n 0, 1) := by decide +kernel
theorem dX8_init_86 : decode cX8_init 86 = .ok (.getfield 11, 3) := by decide +kernel
theorem dX8_init_89 : decode cX8_init 89 = .ok (.iload_n 1, 1) := by decide +kernel
theorem dX8_init_90 : decode cX8_init 90 = .ok (.new 9, 3) := by decide +kernel
theorem dX8_init_93 : decode cX8_init 93 = .ok (.dup, 1) := by decide +kernel
theorem dX8_init_94 : decode cX8_init 94 = .ok (.invokespecial 21, 3) := by decide +kernel
theorem dX8_init_97 : decode cX8_init 97 = .ok (.aastore, 1) := by decide +kernel
theorem dX8_init_98 : decode cX8_init 98 = .ok (.iinc 1 1, 3) := by decide +kernel
theorem dX8_init_101 : decode cX8_init 101 = .ok (.goto (-22), 3) := by decide +kernel
theorem dX8_init_104 : decode cX8_init 104 = .ok (.return_, 1) := by decide +kernel
set_option maxRecDepth 20000 in
theorem gu_wsX8_span_1 : ∀ w ∈ wsX8_span_r1, w ∈ wsX8_span := fun _ h => List.mem_cons_of_mem _ (List.mem_append_left _ (List.mem_append_left _ (List.mem_append_left _ h)))
set_option maxRecDepth 20000 in
theorem gu_wsX8_span_3 : ∀ w ∈ wsX80, w ∈ wsX8_span := fun _ h => List.mem_cons_of_mem _ (List.mem_append_left _ (List.mem_append_right _ h))
set_option maxRecDepth 20000 in
theorem ggX8_span_X8_worldAt : GoodIn wsX8_span wsX8_worldAt := goodIn_sub (gi_c (gu_wsX8_span_1 _ gm_5) (gi_a (gi_c (gu_wsX8_span_1 _ gm_6) gi_0) (gu_wsX8_span_3))) (by decide +kernel)
set_option maxRecDepth 20000 in
theorem gX8_span_X8_worldAt : GoodIn wsX8_span (wsV RX8 46 RX8 yX8_worldAt wsX8_worldAt) := goodIn_app (goodIn_sub (gi_c (gu_wsX8_span_1 _ gm_1) (gi_c (gu_wsX8_span_1 _ gm_2) (gi_c (gu_wsX8_span_1 _ gm_3) (gi_c (gu_wsX8_span_1 _ gm_4) gi_0)))) (by decide +kernel)) ggX8_span_X8_worldAt
set_option maxRecDepth 20000 in
theorem gu_wsX8_span_4 : ∀ w ∈ wsX00, w ∈ wsX8_span := fun _ h => List.mem_cons_of_mem _ (List.mem_append_right _ h)
set_option maxRecDepth 20000 in
theorem ggX8_span_X0_copyFrom : GoodIn wsX8_span wsX0_copyFrom := goodIn_sub (gi_c (gu_wsX8_span_1 _ gm_11) (gi_a (gi_c (gu_wsX8_span_1 _ gm_12) (gi_c (gu_wsX8_span_1 _ gm_13) (gi_c (gu_wsX8_span_1 _ gm_14) (gi_c (gu_wsX8_span_1 _ gm_15) (gi_c (gu_wsX8_span_1 _ gm_16) (gi_c (gu_wsX8_span_1 _ gm_17) gi_0)))))) (gu_wsX8_span_4))) (by decide +kernel)
set_option maxRecDepth 20000 in
theorem gX8_span_X0_copyFrom : GoodIn wsX8_span (wsV RX8 50 RX0 yX0_copyFrom wsX0_copyFrom) := goodIn_app (goodIn_sub (gi_c (gu_wsX8_span_1 _ gm_7) (gi_c (gu_wsX8_span_1 _ gm_8) (gi_c (gu_wsX8_span_1 _ gm_9) (gi_c (gu_wsX8_span_1 _ gm_10) gi_0)))) (by decide +kernel)) ggX8_span_X0_copyFrom
set_option maxRecDepth 20000 in
theorem gu_wsX8_span_2 : ∀ w ∈ wsX8_span_r2, w ∈ wsX8_span := fun _ h => List.mem_cons_of_mem _ (List.mem_append_left _ (List.mem_append_left _ (List.mem_append_right _ h)))
set_option maxRecDepth 20000 in
theorem ggX8_span_X0_has : GoodIn wsX8_span wsX0_has := goodIn_sub (gi_c (gu_wsX8_span_1 _ gm_21) (gi_a (gi_c (gu_wsX8_span_1 _ gm_13) (gi_c (gu_wsX8_span_1 _ gm_12) (gi_c (gu_wsX8_span_1 _ gm_22) (gi_c (gu_wsX8_span_1 _ gm_23) (gi_c (gu_wsX8_span_2 _ gm_0) (gi_c (gu_wsX8_span_1 _ gm_10) (gi_c (gu_wsX8_span_2 _ gm_1) gi_0))))))) (gu_wsX8_span_4))) (by decide +kernel)
set_option maxRecDepth 20000 in
theorem gX8_span_X0_has : GoodIn wsX8_span (wsV RX8 54 RX0 yX0_has wsX0_has) := goodIn_app (goodIn_sub (gi_c (gu_wsX8_span_1 _ gm_18) (gi_c (gu_wsX8_span_1 _ gm_19) (gi_c (gu_wsX8_span_1 _ gm_20) (gi_c (gu_wsX8_span_1 _ gm_10) gi_0)))) (by decide +kernel)) ggX8_span_X0_has
set_option maxRecDepth 20000 in
theorem ggX8_span_X0_insert : GoodIn wsX8_span wsX0_insert := goodIn_sub (gi_c (gu_wsX8_span_2 _ gm_5) (gi_a (gi_c (gu_wsX8_span_1 _ gm_12) (gi_c (gu_wsX8_span_1 _ gm_13) (gi_c (gu_wsX8_span_1 _ gm_14) (gi_c (gu_wsX8_span_1 _ gm_15) (gi_c (gu_wsX8_span_1 _ gm_16) (gi_c (gu_wsX8_span_1 _ gm_17) (gi_c (gu_wsX8_span_2 _ gm_6) (gi_c (gu_wsX8_span_2 _ gm_7) (gi_c (gu_wsX8_span_2 _ gm_8) (gi_c (gu_wsX8_span_1 _ gm_10) (gi_c (gu_wsX8_span_2 _ gm_9) (gi_c (gu_wsX8_span_1 _ gm_22) (gi_c (gu_wsX8_span_1 _ gm_23) (gi_c (gu_wsX8_span_2 _ gm_0) (gi_c (gu_wsX8_span_2 _ gm_1) gi_0))))))))))))))) (gu_wsX8_span_4))) (by decide +kernel)
set_option maxRecDepth 20000 in
theorem gX8_span_X0_insert : GoodIn wsX8_span (wsV RX8 58 RX0 yX0_insert wsX0_insert) := goodIn_app (goodIn_sub (gi_c (gu_wsX8_span_2 _ gm_2) (gi_c (gu_wsX8_span_2 _ gm_3) (gi_c (gu_wsX8_span_2 _ gm_4) (gi_c (gu_wsX8_span_1 _ gm_10) gi_0)))) (by decide +kernel)) ggX8_span_X0_insert
set_option maxRecDepth 20000 in
theorem ggX8_span_X0_count : GoodIn wsX8_span wsX0_count := goodIn_sub (gi_c (gu_wsX8_span_2 _ gm_13) (gi_a (gi_c (gu_wsX8_span_1 _ gm_13) gi_0) (gu_wsX8_span_4))) (by decide +kernel)
set_option maxRecDepth 20000 in
theorem gX8_span_X0_count : GoodIn wsX8_span (wsV RX8 61 RX0 yX0_count wsX0_count) := goodIn_app (goodIn_sub (gi_c (gu_wsX8_span_2 _ gm_10) (gi_c (gu_wsX8_span_2 _ gm_11) (gi_c (gu_wsX8_span_2 _ gm_12) (gi_c (gu_wsX8_span_1 _ gm_10) gi_0)))) (by decide +kernel)) ggX8_span_X0_count
theorem dX8_span_0 : decode cX8_span 0 = .ok (.aload_n 0, 1) := by decide +kernel
theorem dX8_span_1 : decode cX8_span 1 = .ok (.iload_n 1, 1) := by decide +kernel
theorem dX8_span_2 : decode cX8_span 2 = .ok (.invokevirtual 46, 3) := by decide +kernel
theorem dX8_span_5 : decode cX8_span 5 = .ok (.astore 6, 2) := by decide +kernel
theorem dX8_span_7 : decode cX8_span 7 = .ok (.aload 6, 2) := by decide +kernel
theorem dX8_span_9 : decode cX8_span 9 = .ok (.ifnull 17, 3) := by decide +kernel
theorem dX8_span_12 : decode cX8_span 12 = .ok (.iload 5, 2) := by decide +kernel
theorem dX8_span_14 : decode cX8_span 14 = .ok (.iconst 1, 1) := by decide +kernel
theorem dX8_span_15 : decode cX8_span 15 = .ok (.if_icmp .lt 11, 3) := by decide +kernel
theorem dX8_span_18 : decode cX8_span 18 = .ok (.iload 5, 2) := by decide +kernel
theorem dX8_span_20 : decode cX8_span 20 = .ok (.sipush 1000, 3) := by decide +kernel
theorem dX8_span_23 : decode cX8_span 23 = .ok (.if_icmp .le 5, 3) := by decide +kernel
theorem dX8_span_26 : decode cX8_span 26 = .ok (.iconst (-1), 1) := by decide +kernel
theorem dX8_span_27 : decode cX8_span 27 = .ok (.ireturn, 1) := by decide +kernel
theorem dX8_span_28 : decode cX8_span 28 = .ok (.aload_n 0, 1) := by decide +kernel
theorem dX8_span_29 : decode cX8_span 29 = .ok (.getfield 22, 3) := by decide +kernel
theorem dX8_span_32 : decode cX8_span 32 = .ok (.aload 6, 2) := by decide +kernel
theorem dX8_span_34 : decode cX8_span 34 = .ok (.invokevirtual 50, 3) := by decide +kernel
theorem dX8_span_37 : decode cX8_span 37 = .ok (.iconst 0, 1) := by decide +kernel
theorem dX8_span_38 : decode cX8_span 38 = .ok (.istore 7, 2) := by decide +kernel
theorem dX8_span_40 : decode cX8_span 40 = .ok (.iload 7, 2) := by decide +kernel
theorem dX8_span_42 : decode cX8_span 42 = .ok (.iload 5, 2) := by decide +kernel
theorem dX8_span_44 : decode cX8_span 44 = .ok (.if_icmp .ge 47, 3) := by decide +kernel
theorem dX8_span_47 : decode cX8_span 47 = .ok (.lload_n 2, 1) := by decide +kernel
theorem dX8_span_48 : decode cX8_span 48 = .ok (.iload 7, 2) := by decide +kernel
theorem dX8_span_50 : decode cX8_span 50 = .ok (.i2l, 1) := by decide +kernel
theorem dX8_span_51 : decode cX8_span 51 = .ok (.iload 4, 2) := by decide +kernel
theorem dX8_span_53 : decode cX8_span 53 = .ok (.i2l, 1) := by decide +kernel
theorem dX8_span_54 : decode cX8_span 54 = .ok (.lmul, 1) := by decide +kernel
theorem dX8_span_55 : decode cX8_span 55 = .ok (.ladd, 1) := by decide +kernel
theorem dX8_span_56 : decode cX8_span 56 = .ok (.lstore 8, 2) := by decide +kernel
theorem dX8_span_58 : decode cX8_span 58 = .ok (.aload_n 0, 1) := by decide +kernel
theorem dX8_span_59 : decode cX8_span 59 = .ok (.getfield 22, 3) := by decide +kernel
theorem dX8_span_62 : decode cX8_span 62 = .ok (.lload 8, 2) := by decide +kernel
theorem dX8_span_64 : decode cX8_span 64 = .ok (.invokevirtual 54, 3) := by decide +kernel
theorem dX8_span_67 : decode cX8_span 67 = .ok (.ifCond .ne 18, 3) := by decide +kernel
theorem dX8_span_70 : decode cX8_span 70 = .ok (.aload_n 0, 1) := by decide +kernel
theorem dX8_span_71 : decode cX8_span 71 = .ok (.getfield 22, 3) := by decide +kernel
theorem dX8_span_74 : decode cX8_span 74 = .ok (.lload 8, 2) := by decide +kernel
theorem dX8_span_76 : decode cX8_span 76 = .ok (.invokevirtual 58, 3) := by decide +kernel
theorem dX8_span_79 : decode cX8_span 79 = .ok (.ifCond .ne 6, 3) := by decide +kernel
theorem dX8_span_82 : decode cX8_span 82 = .ok (.bipush (-4), 2) := by decide +kernel
theorem dX8_span_84 : decode cX8_span 84 = .ok (.ireturn, 1) := by decide +kernel
theorem dX8_span_85 : decode cX8_span 85 = .ok (.iinc 7 1, 3) := by decide +kernel
theorem dX8_span_88 : decode cX8_span 88 = .ok (.goto (-48), 3) := by decide +kernel
theorem dX8_span_91 : decode cX8_span 91 = .ok (.aload 6, 2) := by decide +kernel
theorem dX8_span_93 : decode cX8_span 93 = .ok (.aload_n 0, 1) := by decide +kernel
theorem dX8_span_94 : decode cX8_span 94 = .ok (.getfield 22, 3) := by decide +kernel
theorem dX8_span_97 : decode cX8_span 97 = .ok (.invokevirtual 50, 3) := by decide +kernel
theorem dX8_span_100 : decode cX8_span 100 = .ok (.aload 6, 2) := by decide +kernel
theorem dX8_span_102 : decode cX8_span 102 = .ok (.invokevirtual 61, 3) := by decide +kernel
theorem dX8_span_105 : decode cX8_span 105 = .ok (.ireturn, 1) := by decide +kernel
set_option maxRecDepth 20000 in
theorem gu_wsX8_take_1 : ∀ w ∈ wsX8_take_r1, w ∈ wsX8_take := fun _ h => List.mem_cons_of_mem _ (List.mem_append_left _ (List.mem_append_left _ (List.mem_append_left _ h)))
set_option maxRecDepth 20000 in
theorem gu_wsX8_take_3 : ∀ w ∈ wsX80, w ∈ wsX8_take := fun _ h => List.mem_cons_of_mem _ (List.mem_append_left _ (List.mem_append_right _ h))
set_option maxRecDepth 20000 in
theorem ggX8_take_X8_worldAt : GoodIn wsX8_take wsX8_worldAt := goodIn_sub (gi_c (gu_wsX8_take_1 _ gm_4) (gi_a (gi_c (gu_wsX8_take_1 _ gm_5) gi_0) (gu_wsX8_take_3))) (by decide +kernel)
set_option maxRecDepth 20000 in
theorem gX8_take_X8_worldAt : GoodIn wsX8_take (wsV RX8 46 RX8 yX8_worldAt wsX8_worldAt) := goodIn_app (goodIn_sub (gi_c (gu_wsX8_take_1 _ gm_0) (gi_c (gu_wsX8_take_1 _ gm_1) (gi_c (gu_wsX8_take_1 _ gm_2) (gi_c (gu_wsX8_take_1 _ gm_3) gi_0)))) (by decide +kernel)) ggX8_take_X8_worldAt
set_option maxRecDepth 20000 in
theorem gu_wsX8_take_4 : ∀ w ∈ wsX00, w ∈ wsX8_take := fun _ h => List.mem_cons_of_mem _ (List.mem_append_right _ h)
set_option maxRecDepth 20000 in
theorem ggX8_take_X0_takeOne : GoodIn wsX8_take wsX0_takeOne := goodIn_sub (gi_c (gu_wsX8_take_1 _ gm_10) (gi_a (gi_c (gu_wsX8_take_1 _ gm_11) (gi_c (gu_wsX8_take_1 _ gm_12) (gi_c (gu_wsX8_take_1 _ gm_13) (gi_c (gu_wsX8_take_1 _ gm_14) (gi_c (gu_wsX8_take_1 _ gm_15) (gi_c (gu_wsX8_take_1 _ gm_16) (gi_c (gu_wsX8_take_1 _ gm_17) (gi_c (gu_wsX8_take_1 _ gm_18) (gi_c (gu_wsX8_take_1 _ gm_19) (gi_c (gu_wsX8_take_1 _ gm_9) (gi_c (gu_wsX8_take_1 _ gm_20) gi_0))))))))))) (gu_wsX8_take_4))) (by decide +kernel)
set_option maxRecDepth 20000 in
theorem gX8_take_X0_takeOne : GoodIn wsX8_take (wsV RX8 65 RX0 yX0_takeOne wsX0_takeOne) := goodIn_app (goodIn_sub (gi_c (gu_wsX8_take_1 _ gm_6) (gi_c (gu_wsX8_take_1 _ gm_7) (gi_c (gu_wsX8_take_1 _ gm_8) (gi_c (gu_wsX8_take_1 _ gm_9) gi_0)))) (by decide +kernel)) ggX8_take_X0_takeOne
set_option maxRecDepth 20000 in
theorem gu_wsX8_take_2 : ∀ w ∈ wsX8_take_r2, w ∈ wsX8_take := fun _ h => List.mem_cons_of_mem _ (List.mem_append_left _ (List.mem_append_left _ (List.mem_append_right _ h)))
set_option maxRecDepth 20000 in
theorem ggX8_take_X0_count : GoodIn wsX8_take wsX0_count := goodIn_sub (gi_c (gu_wsX8_take_2 _ gm_0) (gi_a (gi_c (gu_wsX8_take_1 _ gm_11) gi_0) (gu_wsX8_take_4))) (by decide +kernel)
set_option maxRecDepth 20000 in
theorem gX8_take_X0_count : GoodIn wsX8_take (wsV RX8 61 RX0 yX0_count wsX0_count) := goodIn_app (goodIn_sub (gi_c (gu_wsX8_take_1 _ gm_21) (gi_c (gu_wsX8_take_1 _ gm_22) (gi_c (gu_wsX8_take_1 _ gm_23) (gi_c (gu_wsX8_take_1 _ gm_9) gi_0)))) (by decide +kernel)) ggX8_take_X0_count
theorem dX8_take_0 : decode cX8_take 0 = .ok (.aload_n 0, 1) := by decide +kernel
theorem dX8_take_1 : decode cX8_take 1 = .ok (.iload_n 1, 1) := by decide +kernel
theorem dX8_take_2 : decode cX8_take 2 = .ok (.invokevirtual 46, 3) := by decide +kernel
theorem dX8_take_5 : decode cX8_take 5 = .ok (.astore 4, 2) := by decide +kernel
theorem dX8_take_7 : decode cX8_take 7 = .ok (.aload 4, 2) := by decide +kernel
theorem dX8_take_9 : decode cX8_take 9 = .ok (.ifnull 12, 3) := by decide +kernel
theorem dX8_take_12 : decode cX8_take 12 = .ok (.aload 4, 2) := by decide +kernel
theorem dX8_take_14 : decode cX8_take 14 = .ok (.lload_n 2, 1) := by decide +kernel
theorem dX8_take_15 : decode cX8_take 15 = .ok (.invokevirtual 65, 3) := by decide +kernel
theorem dX8_take_18 : decode cX8_take 18 = .ok (.ifCond .ne 5, 3) := by decide +kernel
theorem dX8_take_21 : decode cX8_take 21 = .ok (.iconst (-1), 1) := by decide +kernel
theorem dX8_take_22 : decode cX8_take 22 = .ok (.ireturn, 1) := by decide +kernel
theorem dX8_take_23 : decode cX8_take 23 = .ok (.aload 4, 2) := by decide +kernel
theorem dX8_take_25 : decode cX8_take 25 = .ok (.invokevirtual 61, 3) := by decide +kernel
theorem dX8_take_28 : decode cX8_take 28 = .ok (.ireturn, 1) := by decide +kernel
set_option maxRecDepth 20000 in
theorem gu_wsX8_things_1 : ∀ w ∈ ([Cond.methodLink RX8 46 yX8_worldAt, Cond.instanceMethod yX8_worldAt, Cond.selects RX8 yX8_worldAt yX8_worldAt, Cond.initialized RX8, Cond.code yX8_worldAt cX8_worldAt 2 (some (.object "SieveCabinet$Bag")), Cond.fieldLink RX8 11 "SieveCabinet" "worlds" "[LSieveCabinet$Bag;", Cond.methodLink RX8 61 yX0_count, Cond.instanceMethod yX0_count, Cond.selects RX0 yX0_count yX0_count, Cond.initialized RX0, Cond.code yX0_count cX0_count 1 (some .int), Cond.fieldLink RX0 15 "SieveCabinet$Bag" "count" "I"] : List Cond), w ∈ wsX8_things := fun _ h => List.mem_cons_of_mem _ (List.mem_append_left _ (List.mem_append_left _ h))
set_option maxRecDepth 20000 in
theorem gu_wsX8_things_2 : ∀ w ∈ wsX80, w ∈ wsX8_things := fun _ h => List.mem_cons_of_mem _ (List.mem_append_left _ (List.mem_append_right _ h))
set_option maxRecDepth 20000 in
theorem ggX8_things_X8_worldAt : GoodIn wsX8_things wsX8_worldAt := goodIn_sub (gi_c (gu_wsX8_things_1 _ gm_4) (gi_a (gi_c (gu_wsX8_things_1 _ gm_5) gi_0) (gu_wsX8_things_2))) (by decide +kernel)
set_option maxRecDepth 20000 in
theorem gX8_things_X8_worldAt : GoodIn wsX8_things (wsV RX8 46 RX8 yX8_worldAt wsX8_worldAt) := goodIn_app (goodIn_sub (gi_c (gu_wsX8_things_1 _ gm_0) (gi_c (gu_wsX8_things_1 _ gm_1) (gi_c (gu_wsX8_things_1 _ gm_2) (gi_c (gu_wsX8_things_1 _ gm_3) gi_0)))) (by decide +kernel)) ggX8_things_X8_worldAt
set_option maxRecDepth 20000 in
theorem gu_wsX8_things_3 : ∀ w ∈ wsX00, w ∈ wsX8_things := fun _ h => List.mem_cons_of_mem _ (List.mem_append_right _ h)
set_option maxRecDepth 20000 in
theorem ggX8_things_X0_count : GoodIn wsX8_things wsX0_count := goodIn_sub (gi_c (gu_wsX8_things_1 _ gm_10) (gi_a (gi_c (gu_wsX8_things_1 _ gm_11) gi_0) (gu_wsX8_things_3))) (by decide +kernel)
set_option maxRecDepth 20000 in
theorem gX8_things_X0_count : GoodIn wsX8_things (wsV RX8 61 RX0 yX0_count wsX0_count) := goodIn_app (goodIn_sub (gi_c (gu_wsX8_things_1 _ gm_6) (gi_c (gu_wsX8_things_1 _ gm_7) (gi_c (gu_wsX8_things_1 _ gm_8) (gi_c (gu_wsX8_things_1 _ gm_9) gi_0)))) (by decide +kernel)) ggX8_things_X0_count
theorem dX8_things_0 : decode cX8_things 0 = .ok (.aload_n 0, 1) := by decide +kernel
theorem dX8_things_1 : decode cX8_things 1 = .ok (.iload_n 1, 1) := by decide +kernel
theorem dX8_things_2 : decode cX8_things 2 = .ok (.invokevirtual 46, 3) := by decide +kernel
theorem dX8_things_5 : decode cX8_things 5 = .ok (.astore_n 2, 1) := by decide +kernel
theorem dX8_things_6 : decode cX8_things 6 = .ok (.aload_n 2, 1) := by decide +kernel
theorem dX8_things_7 : decode cX8_things 7 = .ok (.ifnonnull 7, 3) := by decide +kernel
theorem dX8_things_10 : decode cX8_things 10 = .ok (.iconst (-1), 1) := by decide +kernel
theorem dX8_things_11 : decode cX8_things 11 = .ok (.goto 7, 3) := by decide +kernel
theorem dX8_things_14 : decode cX8_things 14 = .ok (.aload_n 2, 1) := by decide +kernel
theorem dX8_things_15 : decode cX8_things 15 = .ok (.invokevirtual 61, 3) := by decide +kernel
theorem dX8_things_18 : decode cX8_things 18 = .ok (.ireturn, 1) := by decide +kernel
set_option maxRecDepth 20000 in
theorem gu_wsX8_thing_1 : ∀ w ∈ ([Cond.methodLink RX8 46 yX8_worldAt, Cond.instanceMethod yX8_worldAt, Cond.selects RX8 yX8_worldAt yX8_worldAt, Cond.initialized RX8, Cond.code yX8_worldAt cX8_worldAt 2 (some (.object "SieveCabinet$Bag")), Cond.fieldLink RX8 11 "SieveCabinet" "worlds" "[LSieveCabinet$Bag;", Cond.methodLink RX8 68 yX0_at, Cond.instanceMethod yX0_at, Cond.selects RX0 yX0_at yX0_at, Cond.initialized RX0, Cond.code yX0_at cX0_at 2 (some .long), Cond.fieldLink RX0 15 "SieveCabinet$Bag" "count" "I", Cond.fieldLink RX0 9 "SieveCabinet$Bag" "row" "[J"] : List Cond), w ∈ wsX8_thing := fun _ h => List.mem_cons_of_mem _ (List.mem_append_left _ (List.mem_append_left _ h))
set_option maxRecDepth 20000 in
theorem gu_wsX8_thing_2 : ∀ w ∈ wsX80, w ∈ wsX8_thing := fun _ h => List.mem_cons_of_mem _ (List.mem_append_left _ (List.mem_append_right _ h))
set_option maxRecDepth 20000 in
theorem ggX8_thing_X8_worldAt : GoodIn wsX8_thing wsX8_worldAt := goodIn_sub (gi_c (gu_wsX8_thing_1 _ gm_4) (gi_a (gi_c (gu_wsX8_thing_1 _ gm_5) gi_0) (gu_wsX8_thing_2))) (by decide +kernel)
set_option maxRecDepth 20000 in
theorem gX8_thing_X8_worldAt : GoodIn wsX8_thing (wsV RX8 46 RX8 yX8_worldAt wsX8_worldAt) := goodIn_app (goodIn_sub (gi_c (gu_wsX8_thing_1 _ gm_0) (gi_c (gu_wsX8_thing_1 _ gm_1) (gi_c (gu_wsX8_thing_1 _ gm_2) (gi_c (gu_wsX8_thing_1 _ gm_3) gi_0)))) (by decide +kernel)) ggX8_thing_X8_worldAt
set_option maxRecDepth 20000 in
theorem gu_wsX8_thing_3 : ∀ w ∈ wsX00, w ∈ wsX8_thing := fun _ h => List.mem_cons_of_mem _ (List.mem_append_right _ h)
set_option maxRecDepth 20000 in
theorem ggX8_thing_X0_at : GoodIn wsX8_thing wsX0_at := goodIn_sub (gi_c (gu_wsX8_thing_1 _ gm_10) (gi_a (gi_c (gu_wsX8_thing_1 _ gm_11) (gi_c (gu_wsX8_thing_1 _ gm_12) gi_0)) (gu_wsX8_thing_3))) (by decide +kernel)
set_option maxRecDepth 20000 in
theorem gX8_thing_X0_at : GoodIn wsX8_thing (wsV RX8 68 RX0 yX0_at wsX0_at) := goodIn_app (goodIn_sub (gi_c (gu_wsX8_thing_1 _ gm_6) (gi_c (gu_wsX8_thing_1 _ gm_7) (gi_c (gu_wsX8_thing_1 _ gm_8) (gi_c (gu_wsX8_thing_1 _ gm_9) gi_0)))) (by decide +kernel)) ggX8_thing_X0_at
theorem dX8_thing_0 : decode cX8_thing 0 = .ok (.aload_n 0, 1) := by decide +kernel
theorem dX8_thing_1 : decode cX8_thing 1 = .ok (.iload_n 1, 1) := by decide +kernel
theorem dX8_thing_2 : decode cX8_thing 2 = .ok (.invokevirtual 46, 3) := by decide +kernel
theorem dX8_thing_5 : decode cX8_thing 5 = .ok (.astore_n 3, 1) := by decide +kernel
theorem dX8_thing_6 : decode cX8_thing 6 = .ok (.aload_n 3, 1) := by decide +kernel
theorem dX8_thing_7 : decode cX8_thing 7 = .ok (.ifnonnull 7, 3) := by decide +kernel
theorem dX8_thing_10 : decode cX8_thing 10 = .ok (.lconst 0, 1) := by decide +kernel
theorem dX8_thing_11 : decode cX8_thing 11 = .ok (.goto 8, 3) := by decide +kernel
theorem dX8_thing_14 : decode cX8_thing 14 = .ok (.aload_n 3, 1) := by decide +kernel
theorem dX8_thing_15 : decode cX8_thing 15 = .ok (.iload_n 2, 1) := by decide +kernel
theorem dX8_thing_16 : decode cX8_thing 16 = .ok (.invokevirtual 68, 3) := by decide +kernel
theorem dX8_thing_19 : decode cX8_thing 19 = .ok (.lreturn, 1) := by decide +kernel
set_option maxRecDepth 20000 in
theorem gu_wsX8_make_1 : ∀ w ∈ wsX8_make_r1, w ∈ wsX8_make := fun _ h => List.mem_cons_of_mem _ (List.mem_append_left _ (List.mem_append_left _ (List.mem_append_left _ (List.mem_append_left _ h))))
set_option maxRecDepth 20000 in
theorem ggX8_make_X8_isMakeable : GoodIn wsX8_make wsX8_isMakeable := goodIn_sub (gi_c (gu_wsX8_make_1 _ gm_4) (gi_c (gu_wsX8_make_1 _ gm_5) (gi_c (gu_wsX8_make_1 _ gm_6) (gi_c (gu_wsX8_make_1 _ gm_3) (gi_c (gu_wsX8_make_1 _ gm_7) gi_0))))) (by decide +kernel)
set_option maxRecDepth 20000 in
theorem gX8_make_X8_isMakeable : GoodIn wsX8_make (va_wsS RX8 72 yX8_isMakeable wsX8_isMakeable) := goodIn_app (goodIn_sub (gi_c (gu_wsX8_make_1 _ gm_1) (gi_c (gu_wsX8_make_1 _ gm_2) (gi_c (gu_wsX8_make_1 _ gm_3) gi_0))) (by decide +kernel)) ggX8_make_X8_isMakeable
set_option maxRecDepth 20000 in
theorem gu_wsX8_make_2 : ∀ w ∈ wsX8_make_r2, w ∈ wsX8_make := fun _ h => List.mem_cons_of_mem _ (List.mem_append_left _ (List.mem_append_left _ (List.mem_append_left _ (List.mem_append_right _ (List.mem_append_left _ h)))))
set_option maxRecDepth 20000 in
theorem gu_wsX8_make_4 : ∀ w ∈ wsX80, w ∈ wsX8_make := fun _ h => List.mem_cons_of_mem _ (List.mem_append_left _ (List.mem_append_left _ (List.mem_append_right _ h)))
set_option maxRecDepth 20000 in
theorem gu_wsX8_make_5 : ∀ w ∈ wsX60, w ∈ wsX8_make := fun _ h => List.mem_cons_of_mem _ (List.mem_append_left _ (List.mem_append_right _ h))
set_option maxRecDepth 20000 in
theorem gu_wsX8_make_6 : ∀ w ∈ wsX00, w ∈ wsX8_make := fun _ h => List.mem_cons_of_mem _ (List.mem_append_right _ h)
set_option maxRecDepth 20000 in
theorem ggX8_make_X8_nextSlot : GoodIn wsX8_make wsX8_nextSlot := goodIn_sub (gi_c (gu_wsX8_make_1 _ gm_11) (gi_a (gi_a (gi_a (gi_c (gu_wsX8_make_1 _ gm_0) (gi_c (gu_wsX8_make_1 _ gm_12) (gi_c (gu_wsX8_make_1 _ gm_13) (gi_c (gu_wsX8_make_1 _ gm_14) (gi_c (gu_wsX8_make_1 _ gm_15) (gi_c (gu_wsX8_make_1 _ gm_16) (gi_c (gu_wsX8_make_1 _ gm_17) (gi_c (gu_wsX8_make_1 _ gm_18) (gi_c (gu_wsX8_make_1 _ gm_19) (gi_c (gu_wsX8_make_1 _ gm_20) (gi_c (gu_wsX8_make_1 _ gm_21) (gi_c (gu_wsX8_make_1 _ gm_22) (gi_c (gu_wsX8_make_1 _ gm_23) (gi_c (gu_wsX8_make_2 _ gm_0) (gi_c (gu_wsX8_make_2 _ gm_1) (gi_c (gu_wsX8_make_2 _ gm_2) (gi_c (gu_wsX8_make_2 _ gm_3) (gi_c (gu_wsX8_make_2 _ gm_4) (gi_c (gu_wsX8_make_2 _ gm_5) (gi_c (gu_wsX8_make_2 _ gm_6) (gi_c (gu_wsX8_make_2 _ gm_7) gi_0))))))))))))))))))))) (gu_wsX8_make_4)) (gu_wsX8_make_5)) (gu_wsX8_make_6))) (by decide +kernel)
set_option maxRecDepth 20000 in
theorem gX8_make_X8_nextSlot : GoodIn wsX8_make (wsV RX8 76 RX8 yX8_nextSlot wsX8_nextSlot) := goodIn_app (goodIn_sub (gi_c (gu_wsX8_make_1 _ gm_8) (gi_c (gu_wsX8_make_1 _ gm_9) (gi_c (gu_wsX8_make_1 _ gm_10) (gi_c (gu_wsX8_make_1 _ gm_3) gi_0)))) (by decide +kernel)) ggX8_make_X8_nextSlot
set_option maxRecDepth 20000 in
theorem gu_wsX8_make_3 : ∀ w ∈ wsX8_make_r3, w ∈ wsX8_make := fun _ h => List.mem_cons_of_mem _ (List.mem_append_left _ (List.mem_append_left _ (List.mem_append_left _ (List.mem_append_right _ (List.mem_append_right _ h)))))
set_option maxRecDepth 20000 in
theorem ggX8_make_X6_begin : GoodIn wsX8_make wsX6_begin := goodIn_sub (gi_c (gu_wsX8_make_2 _ gm_11) (gi_a (gi_a (gi_c (gu_wsX8_make_2 _ gm_12) (gi_c (gu_wsX8_make_2 _ gm_13) (gi_c (gu_wsX8_make_2 _ gm_14) (gi_c (gu_wsX8_make_2 _ gm_15) (gi_c (gu_wsX8_make_2 _ gm_2) (gi_c (gu_wsX8_make_1 _ gm_22) (gi_c (gu_wsX8_make_2 _ gm_16) (gi_c (gu_wsX8_make_2 _ gm_17) (gi_c (gu_wsX8_make_2 _ gm_18) (gi_c (gu_wsX8_make_2 _ gm_1) (gi_c (gu_wsX8_make_2 _ gm_19) (gi_c (gu_wsX8_make_2 _ gm_20) (gi_c (gu_wsX8_make_2 _ gm_21) (gi_c (gu_wsX8_make_2 _ gm_22) (gi_c (gu_wsX8_make_2 _ gm_23) (gi_c (gu_wsX8_make_3 _ gm_0) gi_0)))))))))))))))) (gu_wsX8_make_5)) (gu_wsX8_make_6))) (by decide +kernel)
set_option maxRecDepth 20000 in
theorem gX8_make_X6_begin : GoodIn wsX8_make (wsV RX8 80 RX6 yX6_begin wsX6_begin) := goodIn_app (goodIn_sub (gi_c (gu_wsX8_make_2 _ gm_8) (gi_c (gu_wsX8_make_2 _ gm_9) (gi_c (gu_wsX8_make_2 _ gm_10) (gi_c (gu_wsX8_make_1 _ gm_15) gi_0)))) (by decide +kernel)) ggX8_make_X6_begin
theorem dX8_make_0 : decode cX8_make 0 = .ok (.iload_n 1, 1) := by decide +kernel
theorem dX8_make_1 : decode cX8_make 1 = .ok (.iload_n 2, 1) := by decide +kernel
theorem dX8_make_2 : decode cX8_make 2 = .ok (.iload_n 3, 1) := by decide +kernel
theorem dX8_make_3 : decode cX8_make 3 = .ok (.invokestatic 72, 3) := by decide +kernel
theorem dX8_make_6 : decode cX8_make 6 = .ok (.ifCond .ne 5, 3) := by decide +kernel
theorem dX8_make_9 : decode cX8_make 9 = .ok (.iconst (-1), 1) := by decide +kernel
theorem dX8_make_10 : decode cX8_make 10 = .ok (.ireturn, 1) := by decide +kernel
theorem dX8_make_11 : decode cX8_make 11 = .ok (.aload_n 0, 1) := by decide +kernel
theorem dX8_make_12 : decode cX8_make 12 = .ok (.invokevirtual 76, 3) := by decide +kernel
theorem dX8_make_15 : decode cX8_make 15 = .ok (.astore 5, 2) := by decide +kernel
theorem dX8_make_17 : decode cX8_make 17 = .ok (.aload 5, 2) := by decide +kernel
theorem dX8_make_19 : decode cX8_make 19 = .ok (.ifnonnull 6, 3) := by decide +kernel
theorem dX8_make_22 : decode cX8_make 22 = .ok (.bipush (-4), 2) := by decide +kernel
theorem dX8_make_24 : decode cX8_make 24 = .ok (.ireturn, 1) := by decide +kernel
theorem dX8_make_25 : decode cX8_make 25 = .ok (.aload 5, 2) := by decide +kernel
theorem dX8_make_27 : decode cX8_make 27 = .ok (.iload_n 1, 1) := by decide +kernel
theorem dX8_make_28 : decode cX8_make 28 = .ok (.iload_n 2, 1) := by decide +kernel
theorem dX8_make_29 : decode cX8_make 29 = .ok (.iload_n 1, 1) := by decide +kernel
theorem dX8_make_30 : decode cX8_make 30 = .ok (.iconst 2, 1) := by decide +kernel
theorem dX8_make_31 : decode cX8_make 31 = .ok (.if_icmp .ne 7, 3) := by decide +kernel
theorem dX8_make_34 : decode cX8_make 34 = .ok (.iconst 0, 1) := by decide +kernel
theorem dX8_make_35 : decode cX8_make 35 = .ok (.goto 4, 3) := by decide +kernel
theorem dX8_make_38 : decode cX8_make 38 = .ok (.iload_n 3, 1) := by decide +kernel
theorem dX8_make_39 : decode cX8_make 39 = .ok (.iload 4, 2) := by decide +kernel
theorem dX8_make_41 : decode cX8_make 41 = .ok (.invokevirtual 80, 3) := by decide +kernel
theorem dX8_make_44 : decode cX8_make 44 = .ok (.aload_n 0, 1) := by decide +kernel
theorem dX8_make_45 : decode cX8_make 45 = .ok (.dup, 1) := by decide +kernel
theorem dX8_make_46 : decode cX8_make 46 = .ok (.getfield 84, 3) := by decide +kernel
theorem dX8_make_49 : decode cX8_make 49 = .ok (.dup_x1, 1) := by decide +kernel
theorem dX8_make_50 : decode cX8_make 50 = .ok (.iconst 1, 1) := by decide +kernel
theorem dX8_make_51 : decode cX8_make 51 = .ok (.iadd, 1) := by decide +kernel
theorem dX8_make_52 : decode cX8_make 52 = .ok (.putfield 84, 3) := by decide +kernel
theorem dX8_make_55 : decode cX8_make 55 = .ok (.ireturn, 1) := by decide +kernel
set_option maxRecDepth 20000 in
theorem gu_wsX8_solve_1 : ∀ w ∈ wsX8_solve_r1, w ∈ wsX8_solve := fun _ h => List.mem_cons_of_mem _ (List.mem_append_left _ (List.mem_append_left _ (List.mem_append_left _ (List.mem_append_left _ (List.mem_append_left _ (List.mem_append_left _ h))))))
set_option maxRecDepth 20000 in
theorem gu_wsX8_solve_9 : ∀ w ∈ wsX80, w ∈ wsX8_solve := fun _ h => List.mem_cons_of_mem _ (List.mem_append_left _ (List.mem_append_left _ (List.mem_append_left _ (List.mem_append_left _ (List.mem_append_right _ h)))))
set_option maxRecDepth 20000 in
theorem ggX8_solve_X8_worldAt : GoodIn wsX8_solve wsX8_worldAt := goodIn_sub (gi_c (gu_wsX8_solve_1 _ gm_6) (gi_a (gi_c (gu_wsX8_solve_1 _ gm_7) gi_0) (gu_wsX8_solve_9))) (by decide +kernel)
set_option maxRecDepth 20000 in
theorem gX8_solve_X8_worldAt : GoodIn wsX8_solve (wsV RX8 46 RX8 yX8_worldAt wsX8_worldAt) := goodIn_app (goodIn_sub (gi_c (gu_wsX8_solve_1 _ gm_2) (gi_c (gu_wsX8_solve_1 _ gm_3) (gi_c (gu_wsX8_solve_1 _ gm_4) (gi_c (gu_wsX8_solve_1 _ gm_5) gi_0)))) (by decide +kernel)) ggX8_solve_X8_worldAt
set_option maxRecDepth 20000 in
theorem gu_wsX8_solve_2 : ∀ w ∈ wsX8_solve_r2, w ∈ wsX8_solve := fun _ h => List.mem_cons_of_mem _ (List.mem_append_left _ (List.mem_append_left _ (List.mem_append_left _ (List.mem_append_left _ (List.mem_append_left _ (List.mem_append_right _ (List.mem_append_left _ h)))))))
set_option maxRecDepth 20000 in
theorem gu_wsX8_solve_3 : ∀ w ∈ wsX8_solve_r3, w ∈ wsX8_solve := fun _ h => List.mem_cons_of_mem _ (List.mem_append_left _ (List.mem_append_left _ (List.mem_append_left _ (List.mem_append_left _ (List.mem_append_left _ (List.mem_append_right _ (List.mem_append_right _ (List.mem_append_left _ h))))))))
set_option maxRecDepth 20000 in
theorem gu_wsX8_solve_4 : ∀ w ∈ wsX8_solve_r4, w ∈ wsX8_solve := fun _ h => List.mem_cons_of_mem _ (List.mem_append_left _ (List.mem_append_left _ (List.mem_append_left _ (List.mem_append_left _ (List.mem_append_left _ (List.mem_append_right _ (List.mem_append_right _ (List.mem_append_right _ (List.mem_append_left _ h)))))))))
set_option maxRecDepth 20000 in
theorem gu_wsX8_solve_5 : ∀ w ∈ wsX8_solve_r5, w ∈ wsX8_solve := fun _ h => List.mem_cons_of_mem _ (List.mem_append_left _ (List.mem_append_left _ (List.mem_append_left _ (List.mem_append_left _ (List.mem_append_left _ (List.mem_append_right _ (List.mem_append_right _ (List.mem_append_right _ (List.mem_append_right _ (List.mem_append_left _ h))))))))))
set_option maxRecDepth 20000 in
theorem gu_wsX8_solve_11 : ∀ w ∈ wsX70, w ∈ wsX8_solve := fun _ h => List.mem_cons_of_mem _ (List.mem_append_left _ (List.mem_append_left _ (List.mem_append_right _ h)))
set_option maxRecDepth 20000 in
theorem gu_wsX8_solve_12 : ∀ w ∈ wsX00, w ∈ wsX8_solve := fun _ h => List.mem_cons_of_mem _ (List.mem_append_left _ (List.mem_append_right _ h))
set_option maxRecDepth 20000 in
theorem gu_wsX8_solve_13 : ∀ w ∈ wsX10, w ∈ wsX8_solve := fun _ h => List.mem_cons_of_mem _ (List.mem_append_right _ h)
set_option maxRecDepth 20000 in
theorem ggX8_solve_X7_triesUntilSolved : GoodIn wsX8_solve wsX7_triesUntilSolved := goodIn_sub (gi_c (gu_wsX8_solve_1 _ gm_12) (gi_a (gi_a (gi_a (gi_a (gi_c (gu_wsX8_solve_1 _ gm_13) (gi_c (gu_wsX8_solve_1 _ gm_14) (gi_c (gu_wsX8_solve_1 _ gm_15) (gi_c (gu_wsX8_solve_1 _ gm_16) (gi_c (gu_wsX8_solve_1 _ gm_17) (gi_c (gu_wsX8_solve_1 _ gm_18) (gi_c (gu_wsX8_solve_1 _ gm_19) (gi_c (gu_wsX8_solve_1 _ gm_20) (gi_c (gu_wsX8_solve_1 _ gm_21) (gi_c (gu_wsX8_solve_1 _ gm_22) (gi_c (gu_wsX8_solve_1 _ gm_23) (gi_c (gu_wsX8_solve_1 _ gm_11) (gi_c (gu_wsX8_solve_2 _ gm_0) (gi_c (gu_wsX8_solve_2 _ gm_1) (gi_c (gu_wsX8_solve_2 _ gm_2) (gi_c (gu_wsX8_solve_2 _ gm_3) (gi_c (gu_wsX8_solve_2 _ gm_4) (gi_c (gu_wsX8_solve_2 _ gm_5) (gi_c (gu_wsX8_solve_2 _ gm_6) (gi_c (gu_wsX8_solve_2 _ gm_7) (gi_c (gu_wsX8_solve_2 _ gm_8) (gi_c (gu_wsX8_solve_2 _ gm_9) (gi_c (gu_wsX8_solve_2 _ gm_10) (gi_c (gu_wsX8_solve_2 _ gm_11) gi_0)))))))))))))))))))))))) (gi_a (gi_c (gu_wsX8_solve_2 _ gm_12) (gi_c (gu_wsX8_solve_2 _ gm_13) (gi_c (gu_wsX8_solve_2 _ gm_14) (gi_c (gu_wsX8_solve_2 _ gm_15) (gi_c (gu_wsX8_solve_2 _ gm_16) (gi_c (gu_wsX8_solve_2 _ gm_17) (gi_c (gu_wsX8_solve_2 _ gm_18) (gi_c (gu_wsX8_solve_2 _ gm_19) (gi_c (gu_wsX8_solve_2 _ gm_20) (gi_c (gu_wsX8_solve_2 _ gm_21) (gi_c (gu_wsX8_solve_2 _ gm_22) (gi_c (gu_wsX8_solve_2 _ gm_23) (gi_c (gu_wsX8_solve_3 _ gm_0) (gi_c (gu_wsX8_solve_3 _ gm_1) (gi_c (gu_wsX8_solve_3 _ gm_2) (gi_c (gu_wsX8_solve_3 _ gm_3) (gi_c (gu_wsX8_solve_3 _ gm_4) (gi_c (gu_wsX8_solve_3 _ gm_5) (gi_c (gu_wsX8_solve_3 _ gm_6) (gi_c (gu_wsX8_solve_3 _ gm_7) (gi_c (gu_wsX8_solve_3 _ gm_8) (gi_c (gu_wsX8_solve_3 _ gm_9) (gi_c (gu_wsX8_solve_3 _ gm_10) (gi_c (gu_wsX8_solve_3 _ gm_11) gi_0)))))))))))))))))))))))) (gi_a (gi_c (gu_wsX8_solve_3 _ gm_12) (gi_c (gu_wsX8_solve_3 _ gm_13) (gi_c (gu_wsX8_solve_3 _ gm_14) (gi_c (gu_wsX8_solve_3 _ gm_15) (gi_c (gu_wsX8_solve_3 _ gm_16) (gi_c (gu_wsX8_solve_3 _ gm_17) (gi_c (gu_wsX8_solve_3 _ gm_18) (gi_c (gu_wsX8_solve_3 _ gm_19) (gi_c (gu_wsX8_solve_3 _ gm_20) (gi_c (gu_wsX8_solve_3 _ gm_21) (gi_c (gu_wsX8_solve_3 _ gm_22) (gi_c (gu_wsX8_solve_3 _ gm_23) (gi_c (gu_wsX8_solve_4 _ gm_0) (gi_c (gu_wsX8_solve_4 _ gm_1) (gi_c (gu_wsX8_solve_4 _ gm_2) (gi_c (gu_wsX8_solve_4 _ gm_3) (gi_c (gu_wsX8_solve_4 _ gm_4) (gi_c (gu_wsX8_solve_4 _ gm_5) (gi_c (gu_wsX8_solve_4 _ gm_6) (gi_c (gu_wsX8_solve_4 _ gm_7) (gi_c (gu_wsX8_solve_4 _ gm_8) (gi_c (gu_wsX8_solve_4 _ gm_9) (gi_c (gu_wsX8_solve_4 _ gm_10) (gi_c (gu_wsX8_solve_4 _ gm_11) gi_0)))))))))))))))))))))))) (gi_a (gi_c (gu_wsX8_solve_4 _ gm_12) (gi_c (gu_wsX8_solve_4 _ gm_13) (gi_c (gu_wsX8_solve_4 _ gm_14) (gi_c (gu_wsX8_solve_4 _ gm_15) (gi_c (gu_wsX8_solve_4 _ gm_16) (gi_c (gu_wsX8_solve_4 _ gm_17) (gi_c (gu_wsX8_solve_4 _ gm_18) (gi_c (gu_wsX8_solve_4 _ gm_19) (gi_c (gu_wsX8_solve_4 _ gm_20) (gi_c (gu_wsX8_solve_4 _ gm_21) (gi_c (gu_wsX8_solve_4 _ gm_22) (gi_c (gu_wsX8_solve_4 _ gm_23) (gi_c (gu_wsX8_solve_5 _ gm_0) (gi_c (gu_wsX8_solve_5 _ gm_1) (gi_c (gu_wsX8_solve_5 _ gm_2) (gi_c (gu_wsX8_solve_5 _ gm_3) (gi_c (gu_wsX8_solve_5 _ gm_4) (gi_c (gu_wsX8_solve_5 _ gm_5) (gi_c (gu_wsX8_solve_5 _ gm_6) (gi_c (gu_wsX8_solve_5 _ gm_7) (gi_c (gu_wsX8_solve_5 _ gm_8) (gi_c (gu_wsX8_solve_5 _ gm_9) (gi_c (gu_wsX8_solve_5 _ gm_10) (gi_c (gu_wsX8_solve_5 _ gm_11) gi_0)))))))))))))))))))))))) (gi_c (gu_wsX8_solve_5 _ gm_12) (gi_c (gu_wsX8_solve_5 _ gm_13) (gi_c (gu_wsX8_solve_5 _ gm_14) (gi_c (gu_wsX8_solve_5 _ gm_15) (gi_c (gu_wsX8_solve_5 _ gm_16) (gi_c (gu_wsX8_solve_5 _ gm_17) (gi_c (gu_wsX8_solve_5 _ gm_18) gi_0))))))))))) (gu_wsX8_solve_11)) (gu_wsX8_solve_12)) (gu_wsX8_solve_13))) (by decide +kernel)
set_option maxRecDepth 20000 in
theorem gX8_solve_X7_triesUntilSolved : GoodIn wsX8_solve (wsV RX8 88 RX7 yX7_triesUntilSolved wsX7_triesUntilSolved) := goodIn_app (goodIn_sub (gi_c (gu_wsX8_solve_1 _ gm_8) (gi_c (gu_wsX8_solve_1 _ gm_9) (gi_c (gu_wsX8_solve_1 _ gm_10) (gi_c (gu_wsX8_solve_1 _ gm_11) gi_0)))) (by decide +kernel)) ggX8_solve_X7_triesUntilSolved
set_option maxRecDepth 20000 in
theorem gu_wsX8_solve_6 : ∀ w ∈ wsX8_solve_r6, w ∈ wsX8_solve := fun _ h => List.mem_cons_of_mem _ (List.mem_append_left _ (List.mem_append_left _ (List.mem_append_left _ (List.mem_append_left _ (List.mem_append_left _ (List.mem_append_right _ (List.mem_append_right _ (List.mem_append_right _ (List.mem_append_right _ (List.mem_append_right _ (List.mem_append_left _ h)))))))))))
set_option maxRecDepth 20000 in
theorem gu_wsX8_solve_10 : ∀ w ∈ wsX60, w ∈ wsX8_solve := fun _ h => List.mem_cons_of_mem _ (List.mem_append_left _ (List.mem_append_left _ (List.mem_append_left _ (List.mem_append_right _ h))))
set_option maxRecDepth 20000 in
theorem ggX8_solve_X8_nextSlot : GoodIn wsX8_solve wsX8_nextSlot := goodIn_sub (gi_c (gu_wsX8_solve_5 _ gm_22) (gi_a (gi_a (gi_a (gi_c (gu_wsX8_solve_1 _ gm_1) (gi_c (gu_wsX8_solve_5 _ gm_23) (gi_c (gu_wsX8_solve_6 _ gm_0) (gi_c (gu_wsX8_solve_6 _ gm_1) (gi_c (gu_wsX8_solve_6 _ gm_2) (gi_c (gu_wsX8_solve_6 _ gm_3) (gi_c (gu_wsX8_solve_6 _ gm_4) (gi_c (gu_wsX8_solve_6 _ gm_5) (gi_c (gu_wsX8_solve_6 _ gm_6) (gi_c (gu_wsX8_solve_6 _ gm_7) (gi_c (gu_wsX8_solve_6 _ gm_8) (gi_c (gu_wsX8_solve_6 _ gm_9) (gi_c (gu_wsX8_solve_6 _ gm_10) (gi_c (gu_wsX8_solve_6 _ gm_11) (gi_c (gu_wsX8_solve_1 _ gm_18) (gi_c (gu_wsX8_solve_6 _ gm_12) (gi_c (gu_wsX8_solve_6 _ gm_13) (gi_c (gu_wsX8_solve_6 _ gm_14) (gi_c (gu_wsX8_solve_6 _ gm_15) (gi_c (gu_wsX8_solve_6 _ gm_16) (gi_c (gu_wsX8_solve_2 _ gm_14) gi_0))))))))))))))))))))) (gu_wsX8_solve_9)) (gu_wsX8_solve_10)) (gu_wsX8_solve_12))) (by decide +kernel)
set_option maxRecDepth 20000 in
theorem gX8_solve_X8_nextSlot : GoodIn wsX8_solve (wsV RX8 76 RX8 yX8_nextSlot wsX8_nextSlot) := goodIn_app (goodIn_sub (gi_c (gu_wsX8_solve_5 _ gm_19) (gi_c (gu_wsX8_solve_5 _ gm_20) (gi_c (gu_wsX8_solve_5 _ gm_21) (gi_c (gu_wsX8_solve_1 _ gm_5) gi_0)))) (by decide +kernel)) ggX8_solve_X8_nextSlot
set_option maxRecDepth 20000 in
theorem ggX8_solve_X7_places : GoodIn wsX8_solve wsX7_places := goodIn_sub (gi_c (gu_wsX8_solve_3 _ gm_13) (gi_a (gi_c (gu_wsX8_solve_1 _ gm_14) gi_0) (gu_wsX8_solve_11))) (by decide +kernel)
set_option maxRecDepth 20000 in
theorem gX8_solve_X7_places : GoodIn wsX8_solve (wsV RX8 92 RX7 yX7_places wsX7_places) := goodIn_app (goodIn_sub (gi_c (gu_wsX8_solve_6 _ gm_17) (gi_c (gu_wsX8_solve_3 _ gm_11) (gi_c (gu_wsX8_solve_3 _ gm_12) (gi_c (gu_wsX8_solve_1 _ gm_11) gi_0)))) (by decide +kernel)) ggX8_solve_X7_places
set_option maxRecDepth 20000 in
theorem gu_wsX8_solve_7 : ∀ w ∈ wsX8_solve_r7, w ∈ wsX8_solve := fun _ h => List.mem_cons_of_mem _ (List.mem_append_left _ (List.mem_append_left _ (List.mem_append_left _ (List.mem_append_left _ (List.mem_append_left _ (List.mem_append_right _ (List.mem_append_right _ (List.mem_append_right _ (List.mem_append_right _ (List.mem_append_right _ (List.mem_append_right _ (List.mem_append_left _ h))))))))))))
set_option maxRecDepth 20000 in
theorem ggX8_solve_X6_begin : GoodIn wsX8_solve wsX6_begin := goodIn_sub (gi_c (gu_wsX8_solve_6 _ gm_21) (gi_a (gi_a (gi_c (gu_wsX8_solve_6 _ gm_22) (gi_c (gu_wsX8_solve_6 _ gm_23) (gi_c (gu_wsX8_solve_7 _ gm_0) (gi_c (gu_wsX8_solve_7 _ gm_1) (gi_c (gu_wsX8_solve_6 _ gm_12) (gi_c (gu_wsX8_solve_6 _ gm_9) (gi_c (gu_wsX8_solve_7 _ gm_2) (gi_c (gu_wsX8_solve_7 _ gm_3) (gi_c (gu_wsX8_solve_7 _ gm_4) (gi_c (gu_wsX8_solve_1 _ gm_18) (gi_c (gu_wsX8_solve_7 _ gm_5) (gi_c (gu_wsX8_solve_1 _ gm_20) (gi_c (gu_wsX8_solve_7 _ gm_6) (gi_c (gu_wsX8_solve_2 _ gm_7) (gi_c (gu_wsX8_solve_2 _ gm_8) (gi_c (gu_wsX8_solve_2 _ gm_9) gi_0)))))))))))))))) (gu_wsX8_solve_10)) (gu_wsX8_solve_12))) (by decide +kernel)
set_option maxRecDepth 20000 in
theorem gX8_solve_X6_begin : GoodIn wsX8_solve (wsV RX8 80 RX6 yX6_begin wsX6_begin) := goodIn_app (goodIn_sub (gi_c (gu_wsX8_solve_6 _ gm_18) (gi_c (gu_wsX8_solve_6 _ gm_19) (gi_c (gu_wsX8_solve_6 _ gm_20) (gi_c (gu_wsX8_solve_6 _ gm_2) gi_0)))) (by decide +kernel)) ggX8_solve_X6_begin
set_option maxRecDepth 20000 in
theorem ggX8_solve_X0_copyFrom : GoodIn wsX8_solve wsX0_copyFrom := goodIn_sub (gi_c (gu_wsX8_solve_7 _ gm_10) (gi_a (gi_c (gu_wsX8_solve_2 _ gm_14) (gi_c (gu_wsX8_solve_1 _ gm_20) (gi_c (gu_wsX8_solve_7 _ gm_11) (gi_c (gu_wsX8_solve_7 _ gm_12) (gi_c (gu_wsX8_solve_7 _ gm_13) (gi_c (gu_wsX8_solve_7 _ gm_14) gi_0)))))) (gu_wsX8_solve_12))) (by decide +kernel)
set_option maxRecDepth 20000 in
theorem gX8_solve_X0_copyFrom : GoodIn wsX8_solve (wsV RX8 50 RX0 yX0_copyFrom wsX0_copyFrom) := goodIn_app (goodIn_sub (gi_c (gu_wsX8_solve_7 _ gm_7) (gi_c (gu_wsX8_solve_7 _ gm_8) (gi_c (gu_wsX8_solve_7 _ gm_9) (gi_c (gu_wsX8_solve_1 _ gm_18) gi_0)))) (by decide +kernel)) ggX8_solve_X0_copyFrom
set_option maxRecDepth 20000 in
theorem gu_wsX8_solve_8 : ∀ w ∈ wsX8_solve_r8, w ∈ wsX8_solve := fun _ h => List.mem_cons_of_mem _ (List.mem_append_left _ (List.mem_append_left _ (List.mem_append_left _ (List.mem_append_left _ (List.mem_append_left _ (List.mem_append_right _ (List.mem_append_right _ (List.mem_append_right _ (List.mem_append_right _ (List.mem_append_right _ (List.mem_append_right _ (List.mem_append_right _ h))))))))))))
set_option maxRecDepth 20000 in
theorem ggX8_solve_X7_fill : GoodIn wsX8_solve wsX7_fill := goodIn_sub (gi_c (gu_wsX8_solve_7 _ gm_18) (gi_a (gi_a (gi_c (gu_wsX8_solve_1 _ gm_13) (gi_c (gu_wsX8_solve_5 _ gm_0) (gi_c (gu_wsX8_solve_2 _ gm_3) (gi_c (gu_wsX8_solve_2 _ gm_4) (gi_c (gu_wsX8_solve_5 _ gm_1) (gi_c (gu_wsX8_solve_7 _ gm_19) (gi_c (gu_wsX8_solve_7 _ gm_20) (gi_c (gu_wsX8_solve_7 _ gm_21) (gi_c (gu_wsX8_solve_6 _ gm_2) (gi_c (gu_wsX8_solve_7 _ gm_22) (gi_c (gu_wsX8_solve_6 _ gm_9) (gi_c (gu_wsX8_solve_7 _ gm_23) (gi_c (gu_wsX8_solve_8 _ gm_0) (gi_c (gu_wsX8_solve_8 _ gm_1) (gi_c (gu_wsX8_solve_8 _ gm_2) gi_0))))))))))))))) (gu_wsX8_solve_11)) (gu_wsX8_solve_10))) (by decide +kernel)
set_option maxRecDepth 20000 in
theorem gX8_solve_X7_fill : GoodIn wsX8_solve (wsV RX8 98 RX7 yX7_fill wsX7_fill) := goodIn_app (goodIn_sub (gi_c (gu_wsX8_solve_7 _ gm_15) (gi_c (gu_wsX8_solve_7 _ gm_16) (gi_c (gu_wsX8_solve_7 _ gm_17) (gi_c (gu_wsX8_solve_1 _ gm_11) gi_0)))) (by decide +kernel)) ggX8_solve_X7_fill
theorem dX8_solve_0 : decode cX8_solve 0 = .ok (.aload_n 0, 1) := by decide +kernel
theorem dX8_solve_1 : decode cX8_solve 1 = .ok (.iload_n 1, 1) := by decide +kernel
theorem dX8_solve_2 : decode cX8_solve 2 = .ok (.invokevirtual 46, 3) := by decide +kernel
theorem dX8_solve_5 : decode cX8_solve 5 = .ok (.astore_n 3, 1) := by decide +kernel
theorem dX8_solve_6 : decode cX8_solve 6 = .ok (.aload_n 3, 1) := by decide +kernel
theorem dX8_solve_7 : decode cX8_solve 7 = .ok (.ifnonnull 5, 3) := by decide +kernel
theorem dX8_solve_10 : decode cX8_solve 10 = .ok (.iconst (-1), 1) := by decide +kernel
theorem dX8_solve_11 : decode cX8_solve 11 = .ok (.ireturn, 1) := by decide +kernel
theorem dX8_solve_12 : decode cX8_solve 12 = .ok (.aload_n 0, 1) := by decide +kernel
theorem dX8_solve_13 : decode cX8_solve 13 = .ok (.getfield 35, 3) := by decide +kernel
theorem dX8_solve_16 : decode cX8_solve 16 = .ok (.aload_n 3, 1) := by decide +kernel
theorem dX8_solve_17 : decode cX8_solve 17 = .ok (.iload_n 2, 1) := by decide +kernel
theorem dX8_solve_18 : decode cX8_solve 18 = .ok (.invokevirtual 88, 3) := by decide +kernel
theorem dX8_solve_21 : decode cX8_solve 21 = .ok (.istore 4, 2) := by decide +kernel
theorem dX8_solve_23 : decode cX8_solve 23 = .ok (.iload 4, 2) := by decide +kernel
theorem dX8_solve_25 : decode cX8_solve 25 = .ok (.ifCond .ge 6, 3) := by decide +kernel
theorem dX8_solve_28 : decode cX8_solve 28 = .ok (.bipush (-3), 2) := by decide +kernel
theorem dX8_solve_30 : decode cX8_solve 30 = .ok (.ireturn, 1) := by decide +kernel
theorem dX8_solve_31 : decode cX8_solve 31 = .ok (.aload_n 0, 1) := by decide +kernel
theorem dX8_solve_32 : decode cX8_solve 32 = .ok (.invokevirtual 76, 3) := by decide +kernel
theorem dX8_solve_35 : decode cX8_solve 35 = .ok (.astore 5, 2) := by decide +kernel
theorem dX8_solve_37 : decode cX8_solve 37 = .ok (.aload 5, 2) := by decide +kernel
theorem dX8_solve_39 : decode cX8_solve 39 = .ok (.ifnonnull 6, 3) := by decide +kernel
theorem dX8_solve_42 : decode cX8_solve 42 = .ok (.bipush (-4), 2) := by decide +kernel
theorem dX8_solve_44 : decode cX8_solve 44 = .ok (.ireturn, 1) := by decide +kernel
theorem dX8_solve_45 : decode cX8_solve 45 = .ok (.aload 5, 2) := by decide +kernel
theorem dX8_solve_47 : decode cX8_solve 47 = .ok (.iconst 3, 1) := by decide +kernel
theorem dX8_solve_48 : decode cX8_solve 48 = .ok (.aload_n 0, 1) := by decide +kernel
theorem dX8_solve_49 : decode cX8_solve 49 = .ok (.getfield 35, 3) := by decide +kernel
theorem dX8_solve_52 : decode cX8_solve 52 = .ok (.invokevirtual 92, 3) := by decide +kernel
theorem dX8_solve_55 : decode cX8_solve 55 = .ok (.iconst 0, 1) := by decide +kernel
theorem dX8_solve_56 : decode cX8_solve 56 = .ok (.iload_n 2, 1) := by decide +kernel
theorem dX8_solve_57 : decode cX8_solve 57 = .ok (.iload 4, 2) := by decide +kernel
theorem dX8_solve_59 : decode cX8_solve 59 = .ok (.iadd, 1) := by decide +kernel
theorem dX8_solve_60 : decode cX8_solve 60 = .ok (.invokevirtual 80, 3) := by decide +kernel
theorem dX8_solve_63 : decode cX8_solve 63 = .ok (.aload 5, 2) := by decide +kernel
theorem dX8_solve_65 : decode cX8_solve 65 = .ok (.getfield 95, 3) := by decide +kernel
theorem dX8_solve_68 : decode cX8_solve 68 = .ok (.aload_n 3, 1) := by decide +kernel
theorem dX8_solve_69 : decode cX8_solve 69 = .ok (.invokevirtual 50, 3) := by decide +kernel
theorem dX8_solve_72 : decode cX8_solve 72 = .ok (.aload_n 0, 1) := by decide +kernel
theorem dX8_solve_73 : decode cX8_solve 73 = .ok (.getfield 35, 3) := by decide +kernel
theorem dX8_solve_76 : decode cX8_solve 76 = .ok (.aload 5, 2) := by decide +kernel
theorem dX8_solve_78 : decode cX8_solve 78 = .ok (.invokevirtual 98, 3) := by decide +kernel
theorem dX8_solve_81 : decode cX8_solve 81 = .ok (.aload_n 0, 1) := by decide +kernel
theorem dX8_solve_82 : decode cX8_solve 82 = .ok (.dup, 1) := by decide +kernel
theorem dX8_solve_83 : decode cX8_solve 83 = .ok (.getfield 84, 3) := by decide +kernel
theorem dX8_solve_86 : decode cX8_solve 86 = .ok (.dup_x1, 1) := by decide +kernel
theorem dX8_solve_87 : decode cX8_solve 87 = .ok (.iconst 1, 1) := by decide +kernel
theorem dX8_solve_88 : decode cX8_solve 88 = .ok (.iadd, 1) := by decide +kernel
theorem dX8_solve_89 : decode cX8_solve 89 = .ok (.putfield 84, 3) := by decide +kernel
theorem dX8_solve_92 : decode cX8_solve 92 = .ok (.ireturn, 1) := by decide +kernel
set_option maxRecDepth 20000 in
theorem gu_wsX8_layered_1 : ∀ w ∈ wsX8_layered_r1, w ∈ wsX8_layered := fun _ h => List.mem_cons_of_mem _ (List.mem_append_left _ (List.mem_append_left _ (List.mem_append_left _ (List.mem_append_left _ (List.mem_append_left _ (List.mem_append_left _ h))))))
set_option maxRecDepth 20000 in
theorem gu_wsX8_layered_9 : ∀ w ∈ wsX80, w ∈ wsX8_layered := fun _ h => List.mem_cons_of_mem _ (List.mem_append_left _ (List.mem_append_left _ (List.mem_append_left _ (List.mem_append_left _ (List.mem_append_right _ h)))))
set_option maxRecDepth 20000 in
theorem ggX8_layered_X8_worldAt : GoodIn wsX8_layered wsX8_worldAt := goodIn_sub (gi_c (gu_wsX8_layered_1 _ gm_8) (gi_a (gi_c (gu_wsX8_layered_1 _ gm_9) gi_0) (gu_wsX8_layered_9))) (by decide +kernel)
set_option maxRecDepth 20000 in
theorem gX8_layered_X8_worldAt : GoodIn wsX8_layered (wsV RX8 46 RX8 yX8_worldAt wsX8_worldAt) := goodIn_app (goodIn_sub (gi_c (gu_wsX8_layered_1 _ gm_4) (gi_c (gu_wsX8_layered_1 _ gm_5) (gi_c (gu_wsX8_layered_1 _ gm_6) (gi_c (gu_wsX8_layered_1 _ gm_7) gi_0)))) (by decide +kernel)) ggX8_layered_X8_worldAt
set_option maxRecDepth 20000 in
theorem gu_wsX8_layered_2 : ∀ w ∈ wsX8_layered_r2, w ∈ wsX8_layered := fun _ h => List.mem_cons_of_mem _ (List.mem_append_left _ (List.mem_append_left _ (List.mem_append_left _ (List.mem_append_left _ (List.mem_append_left _ (List.mem_append_right _ (List.mem_append_left _ h)))))))
set_option maxRecDepth 20000 in
theorem gu_wsX8_layered_10 : ∀ w ∈ wsX60, w ∈ wsX8_layered := fun _ h => List.mem_cons_of_mem _ (List.mem_append_left _ (List.mem_append_left _ (List.mem_append_left _ (List.mem_append_right _ h))))
set_option maxRecDepth 20000 in
theorem gu_wsX8_layered_11 : ∀ w ∈ wsX00, w ∈ wsX8_layered := fun _ h => List.mem_cons_of_mem _ (List.mem_append_left _ (List.mem_append_left _ (List.mem_append_right _ h)))
set_option maxRecDepth 20000 in
theorem ggX8_layered_X8_nextSlot : GoodIn wsX8_layered wsX8_nextSlot := goodIn_sub (gi_c (gu_wsX8_layered_1 _ gm_13) (gi_a (gi_a (gi_a (gi_c (gu_wsX8_layered_1 _ gm_3) (gi_c (gu_wsX8_layered_1 _ gm_14) (gi_c (gu_wsX8_layered_1 _ gm_15) (gi_c (gu_wsX8_layered_1 _ gm_16) (gi_c (gu_wsX8_layered_1 _ gm_17) (gi_c (gu_wsX8_layered_1 _ gm_18) (gi_c (gu_wsX8_layered_1 _ gm_19) (gi_c (gu_wsX8_layered_1 _ gm_20) (gi_c (gu_wsX8_layered_1 _ gm_21) (gi_c (gu_wsX8_layered_1 _ gm_22) (gi_c (gu_wsX8_layered_1 _ gm_23) (gi_c (gu_wsX8_layered_2 _ gm_0) (gi_c (gu_wsX8_layered_2 _ gm_1) (gi_c (gu_wsX8_layered_2 _ gm_2) (gi_c (gu_wsX8_layered_2 _ gm_3) (gi_c (gu_wsX8_layered_2 _ gm_4) (gi_c (gu_wsX8_layered_2 _ gm_5) (gi_c (gu_wsX8_layered_2 _ gm_6) (gi_c (gu_wsX8_layered_2 _ gm_7) (gi_c (gu_wsX8_layered_2 _ gm_8) (gi_c (gu_wsX8_layered_2 _ gm_9) gi_0))))))))))))))))))))) (gu_wsX8_layered_9)) (gu_wsX8_layered_10)) (gu_wsX8_layered_11))) (by decide +kernel)
set_option maxRecDepth 20000 in
theorem gX8_layered_X8_nextSlot : GoodIn wsX8_layered (wsV RX8 76 RX8 yX8_nextSlot wsX8_nextSlot) := goodIn_app (goodIn_sub (gi_c (gu_wsX8_layered_1 _ gm_10) (gi_c (gu_wsX8_layered_1 _ gm_11) (gi_c (gu_wsX8_layered_1 _ gm_12) (gi_c (gu_wsX8_layered_1 _ gm_7) gi_0)))) (by decide +kernel)) ggX8_layered_X8_nextSlot
set_option maxRecDepth 20000 in
theorem ggX8_layered_X0_copyFrom : GoodIn wsX8_layered wsX0_copyFrom := goodIn_sub (gi_c (gu_wsX8_layered_2 _ gm_13) (gi_a (gi_c (gu_wsX8_layered_2 _ gm_9) (gi_c (gu_wsX8_layered_2 _ gm_14) (gi_c (gu_wsX8_layered_2 _ gm_15) (gi_c (gu_wsX8_layered_2 _ gm_16) (gi_c (gu_wsX8_layered_2 _ gm_17) (gi_c (gu_wsX8_layered_2 _ gm_18) gi_0)))))) (gu_wsX8_layered_11))) (by decide +kernel)
set_option maxRecDepth 20000 in
theorem gX8_layered_X0_copyFrom : GoodIn wsX8_layered (wsV RX8 50 RX0 yX0_copyFrom wsX0_copyFrom) := goodIn_app (goodIn_sub (gi_c (gu_wsX8_layered_2 _ gm_10) (gi_c (gu_wsX8_layered_2 _ gm_11) (gi_c (gu_wsX8_layered_2 _ gm_12) (gi_c (gu_wsX8_layered_2 _ gm_3) gi_0)))) (by decide +kernel)) ggX8_layered_X0_copyFrom
set_option maxRecDepth 20000 in
theorem gu_wsX8_layered_3 : ∀ w ∈ wsX8_layered_r3, w ∈ wsX8_layered := fun _ h => List.mem_cons_of_mem _ (List.mem_append_left _ (List.mem_append_left _ (List.mem_append_left _ (List.mem_append_left _ (List.mem_append_left _ (List.mem_append_right _ (List.mem_append_right _ (List.mem_append_left _ h))))))))
set_option maxRecDepth 20000 in
theorem ggX8_layered_X0_becomeWithout : GoodIn wsX8_layered wsX0_becomeWithout := goodIn_sub (gi_c (gu_wsX8_layered_2 _ gm_22) (gi_a (gi_c (gu_wsX8_layered_2 _ gm_14) (gi_c (gu_wsX8_layered_2 _ gm_9) (gi_c (gu_wsX8_layered_2 _ gm_23) (gi_c (gu_wsX8_layered_3 _ gm_0) (gi_c (gu_wsX8_layered_3 _ gm_1) (gi_c (gu_wsX8_layered_2 _ gm_3) (gi_c (gu_wsX8_layered_3 _ gm_2) (gi_c (gu_wsX8_layered_3 _ gm_3) (gi_c (gu_wsX8_layered_3 _ gm_4) (gi_c (gu_wsX8_layered_3 _ gm_5) (gi_c (gu_wsX8_layered_3 _ gm_6) (gi_c (gu_wsX8_layered_3 _ gm_7) (gi_c (gu_wsX8_layered_3 _ gm_8) (gi_c (gu_wsX8_layered_3 _ gm_9) (gi_c (gu_wsX8_layered_3 _ gm_10) (gi_c (gu_wsX8_layered_3 _ gm_11) (gi_c (gu_wsX8_layered_3 _ gm_12) (gi_c (gu_wsX8_layered_3 _ gm_13) (gi_c (gu_wsX8_layered_3 _ gm_14) (gi_c (gu_wsX8_layered_3 _ gm_15) (gi_c (gu_wsX8_layered_3 _ gm_16) (gi_c (gu_wsX8_layered_3 _ gm_17) (gi_c (gu_wsX8_layered_3 _ gm_18) gi_0))))))))))))))))))))))) (gu_wsX8_layered_11))) (by decide +kernel)
set_option maxRecDepth 20000 in
theorem gX8_layered_X0_becomeWithout : GoodIn wsX8_layered (wsV RX8 102 RX0 yX0_becomeWithout wsX0_becomeWithout) := goodIn_app (goodIn_sub (gi_c (gu_wsX8_layered_2 _ gm_19) (gi_c (gu_wsX8_layered_2 _ gm_20) (gi_c (gu_wsX8_layered_2 _ gm_21) (gi_c (gu_wsX8_layered_2 _ gm_3) gi_0)))) (by decide +kernel)) ggX8_layered_X0_becomeWithout
set_option maxRecDepth 20000 in
theorem gu_wsX8_layered_4 : ∀ w ∈ wsX8_layered_r4, w ∈ wsX8_layered := fun _ h => List.mem_cons_of_mem _ (List.mem_append_left _ (List.mem_append_left _ (List.mem_append_left _ (List.mem_append_left _ (List.mem_append_left _ (List.mem_append_right _ (List.mem_append_right _ (List.mem_append_right _ (List.mem_append_left _ h)))))))))
set_option maxRecDepth 20000 in
theorem gu_wsX8_layered_5 : ∀ w ∈ wsX8_layered_r5, w ∈ wsX8_layered := fun _ h => List.mem_cons_of_mem _ (List.mem_append_left _ (List.mem_append_left _ (List.mem_append_left _ (List.mem_append_left _ (List.mem_append_left _ (List.mem_append_right _ (List.mem_append_right _ (List.mem_append_right _ (List.mem_append_right _ (List.mem_append_left _ h))))))))))
set_option maxRecDepth 20000 in
theorem gu_wsX8_layered_6 : ∀ w ∈ wsX8_layered_r6, w ∈ wsX8_layered := fun _ h => List.mem_cons_of_mem _ (List.mem_append_left _ (List.mem_append_left _ (List.mem_append_left _ (List.mem_append_left _ (List.mem_append_left _ (List.mem_append_right _ (List.mem_append_right _ (List.mem_append_right _ (List.mem_append_right _ (List.mem_append_right _ (List.mem_append_left _ h)))))))))))
set_option maxRecDepth 20000 in
theorem gu_wsX8_layered_7 : ∀ w ∈ wsX8_layered_r7, w ∈ wsX8_layered := fun _ h => List.mem_cons_of_mem _ (List.mem_append_left _ (List.mem_append_left _ (List.mem_append_left _ (List.mem_append_left _ (List.mem_append_left _ (List.mem_append_right _ (List.mem_append_right _ (List.mem_append_right _ (List.mem_append_right _ (List.mem_append_right _ (List.mem_append_right _ (List.mem_append_left _ h))))))))))))
set_option maxRecDepth 20000 in
theorem gu_wsX8_layered_8 : ∀ w ∈ wsX8_layered_r8, w ∈ wsX8_layered := fun _ h => List.mem_cons_of_mem _ (List.mem_append_left _ (List.mem_append_left _ (List.mem_append_left _ (List.mem_append_left _ (List.mem_append_left _ (List.mem_append_right _ (List.mem_append_right _ (List.mem_append_right _ (List.mem_append_right _ (List.mem_append_right _ (List.mem_append_right _ (List.mem_append_right _ h))))))))))))
set_option maxRecDepth 20000 in
theorem gu_wsX8_layered_12 : ∀ w ∈ wsX30, w ∈ wsX8_layered := fun _ h => List.mem_cons_of_mem _ (List.mem_append_left _ (List.mem_append_right _ h))
set_option maxRecDepth 20000 in
theorem gu_wsX8_layered_13 : ∀ w ∈ wsX10, w ∈ wsX8_layered := fun _ h => List.mem_cons_of_mem _ (List.mem_append_right _ h)
set_option maxRecDepth 20000 in
theorem ggX8_layered_X6_beginLayered : GoodIn wsX8_layered wsX6_beginLayered := goodIn_sub (gi_c (gu_wsX8_layered_3 _ gm_22) (gi_a (gi_a (gi_a (gi_a (gi_a (gi_c (gu_wsX8_layered_3 _ gm_23) (gi_c (gu_wsX8_layered_4 _ gm_0) (gi_c (gu_wsX8_layered_4 _ gm_1) (gi_c (gu_wsX8_layered_4 _ gm_2) (gi_c (gu_wsX8_layered_4 _ gm_3) (gi_c (gu_wsX8_layered_4 _ gm_4) (gi_c (gu_wsX8_layered_4 _ gm_5) (gi_c (gu_wsX8_layered_4 _ gm_6) (gi_c (gu_wsX8_layered_1 _ gm_21) (gi_c (gu_wsX8_layered_1 _ gm_22) (gi_c (gu_wsX8_layered_4 _ gm_7) (gi_c (gu_wsX8_layered_4 _ gm_8) (gi_c (gu_wsX8_layered_1 _ gm_23) (gi_c (gu_wsX8_layered_4 _ gm_9) (gi_c (gu_wsX8_layered_4 _ gm_10) (gi_c (gu_wsX8_layered_2 _ gm_2) (gi_c (gu_wsX8_layered_2 _ gm_3) (gi_c (gu_wsX8_layered_4 _ gm_11) (gi_c (gu_wsX8_layered_4 _ gm_12) (gi_c (gu_wsX8_layered_4 _ gm_13) (gi_c (gu_wsX8_layered_2 _ gm_5) (gi_c (gu_wsX8_layered_2 _ gm_6) (gi_c (gu_wsX8_layered_2 _ gm_7) (gi_c (gu_wsX8_layered_2 _ gm_8) gi_0)))))))))))))))))))))))) (gi_a (gi_c (gu_wsX8_layered_2 _ gm_9) (gi_c (gu_wsX8_layered_4 _ gm_14) (gi_c (gu_wsX8_layered_4 _ gm_15) (gi_c (gu_wsX8_layered_4 _ gm_16) (gi_c (gu_wsX8_layered_4 _ gm_17) (gi_c (gu_wsX8_layered_4 _ gm_18) (gi_c (gu_wsX8_layered_4 _ gm_19) (gi_c (gu_wsX8_layered_4 _ gm_20) (gi_c (gu_wsX8_layered_4 _ gm_21) (gi_c (gu_wsX8_layered_4 _ gm_22) (gi_c (gu_wsX8_layered_4 _ gm_23) (gi_c (gu_wsX8_layered_5 _ gm_0) (gi_c (gu_wsX8_layered_3 _ gm_0) (gi_c (gu_wsX8_layered_3 _ gm_1) (gi_c (gu_wsX8_layered_3 _ gm_2) (gi_c (gu_wsX8_layered_2 _ gm_14) (gi_c (gu_wsX8_layered_5 _ gm_1) (gi_c (gu_wsX8_layered_5 _ gm_2) (gi_c (gu_wsX8_layered_5 _ gm_3) (gi_c (gu_wsX8_layered_5 _ gm_4) (gi_c (gu_wsX8_layered_5 _ gm_5) (gi_c (gu_wsX8_layered_5 _ gm_6) (gi_c (gu_wsX8_layered_5 _ gm_7) (gi_c (gu_wsX8_layered_5 _ gm_8) gi_0)))))))))))))))))))))))) (gi_a (gi_c (gu_wsX8_layered_5 _ gm_9) (gi_c (gu_wsX8_layered_5 _ gm_10) (gi_c (gu_wsX8_layered_5 _ gm_11) (gi_c (gu_wsX8_layered_5 _ gm_12) (gi_c (gu_wsX8_layered_5 _ gm_13) (gi_c (gu_wsX8_layered_5 _ gm_14) (gi_c (gu_wsX8_layered_5 _ gm_15) (gi_c (gu_wsX8_layered_5 _ gm_16) (gi_c (gu_wsX8_layered_5 _ gm_17) (gi_c (gu_wsX8_layered_5 _ gm_18) (gi_c (gu_wsX8_layered_5 _ gm_19) (gi_c (gu_wsX8_layered_5 _ gm_20) (gi_c (gu_wsX8_layered_5 _ gm_21) (gi_c (gu_wsX8_layered_5 _ gm_22) (gi_c (gu_wsX8_layered_5 _ gm_23) (gi_c (gu_wsX8_layered_6 _ gm_0) (gi_c (gu_wsX8_layered_6 _ gm_1) (gi_c (gu_wsX8_layered_6 _ gm_2) (gi_c (gu_wsX8_layered_6 _ gm_3) (gi_c (gu_wsX8_layered_6 _ gm_4) (gi_c (gu_wsX8_layered_6 _ gm_5) (gi_c (gu_wsX8_layered_6 _ gm_6) (gi_c (gu_wsX8_layered_6 _ gm_7) (gi_c (gu_wsX8_layered_6 _ gm_8) gi_0)))))))))))))))))))))))) (gi_a (gi_c (gu_wsX8_layered_6 _ gm_9) (gi_c (gu_wsX8_layered_6 _ gm_10) (gi_c (gu_wsX8_layered_6 _ gm_11) (gi_c (gu_wsX8_layered_6 _ gm_12) (gi_c (gu_wsX8_layered_6 _ gm_13) (gi_c (gu_wsX8_layered_6 _ gm_14) (gi_c (gu_wsX8_layered_6 _ gm_15) (gi_c (gu_wsX8_layered_6 _ gm_16) (gi_c (gu_wsX8_layered_6 _ gm_17) (gi_c (gu_wsX8_layered_6 _ gm_18) (gi_c (gu_wsX8_layered_6 _ gm_19) (gi_c (gu_wsX8_layered_6 _ gm_20) (gi_c (gu_wsX8_layered_6 _ gm_21) (gi_c (gu_wsX8_layered_6 _ gm_22) (gi_c (gu_wsX8_layered_6 _ gm_23) (gi_c (gu_wsX8_layered_7 _ gm_0) (gi_c (gu_wsX8_layered_7 _ gm_1) (gi_c (gu_wsX8_layered_7 _ gm_2) (gi_c (gu_wsX8_layered_7 _ gm_3) (gi_c (gu_wsX8_layered_7 _ gm_4) (gi_c (gu_wsX8_layered_7 _ gm_5) (gi_c (gu_wsX8_layered_7 _ gm_6) (gi_c (gu_wsX8_layered_7 _ gm_7) (gi_c (gu_wsX8_layered_7 _ gm_8) gi_0)))))))))))))))))))))))) (gi_a (gi_c (gu_wsX8_layered_7 _ gm_9) (gi_c (gu_wsX8_layered_7 _ gm_10) (gi_c (gu_wsX8_layered_7 _ gm_11) (gi_c (gu_wsX8_layered_7 _ gm_12) (gi_c (gu_wsX8_layered_7 _ gm_13) (gi_c (gu_wsX8_layered_7 _ gm_14) (gi_c (gu_wsX8_layered_7 _ gm_15) (gi_c (gu_wsX8_layered_7 _ gm_16) (gi_c (gu_wsX8_layered_7 _ gm_17) (gi_c (gu_wsX8_layered_7 _ gm_18) (gi_c (gu_wsX8_layered_7 _ gm_19) (gi_c (gu_wsX8_layered_3 _ gm_12) (gi_c (gu_wsX8_layered_3 _ gm_13) (gi_c (gu_wsX8_layered_3 _ gm_14) (gi_c (gu_wsX8_layered_3 _ gm_15) (gi_c (gu_wsX8_layered_3 _ gm_16) (gi_c (gu_wsX8_layered_3 _ gm_17) (gi_c (gu_wsX8_layered_3 _ gm_18) (gi_c (gu_wsX8_layered_7 _ gm_20) (gi_c (gu_wsX8_layered_7 _ gm_21) (gi_c (gu_wsX8_layered_7 _ gm_22) (gi_c (gu_wsX8_layered_7 _ gm_23) (gi_c (gu_wsX8_layered_8 _ gm_0) (gi_c (gu_wsX8_layered_2 _ gm_11) gi_0)))))))))))))))))))))))) (gi_a (gi_c (gu_wsX8_layered_2 _ gm_12) (gi_c (gu_wsX8_layered_2 _ gm_13) (gi_c (gu_wsX8_layered_2 _ gm_15) (gi_c (gu_wsX8_layered_2 _ gm_16) (gi_c (gu_wsX8_layered_2 _ gm_17) (gi_c (gu_wsX8_layered_2 _ gm_18) (gi_c (gu_wsX8_layered_8 _ gm_1) (gi_c (gu_wsX8_layered_8 _ gm_2) (gi_c (gu_wsX8_layered_8 _ gm_3) (gi_c (gu_wsX8_layered_8 _ gm_4) (gi_c (gu_wsX8_layered_8 _ gm_5) (gi_c (gu_wsX8_layered_8 _ gm_6) (gi_c (gu_wsX8_layered_8 _ gm_7) (gi_c (gu_wsX8_layered_1 _ gm_17) (gi_c (gu_wsX8_layered_8 _ gm_8) (gi_c (gu_wsX8_layered_8 _ gm_9) (gi_c (gu_wsX8_layered_8 _ gm_10) (gi_c (gu_wsX8_layered_8 _ gm_11) (gi_c (gu_wsX8_layered_8 _ gm_12) (gi_c (gu_wsX8_layered_2 _ gm_4) (gi_c (gu_wsX8_layered_2 _ gm_0) (gi_c (gu_wsX8_layered_8 _ gm_13) (gi_c (gu_wsX8_layered_8 _ gm_14) (gi_c (gu_wsX8_layered_8 _ gm_15) gi_0)))))))))))))))))))))))) (gi_c (gu_wsX8_layered_8 _ gm_16) gi_0))))))) (gu_wsX8_layered_10)) (gu_wsX8_layered_12)) (gu_wsX8_layered_11)) (gu_wsX8_layered_13))) (by decide +kernel)
set_option maxRecDepth 20000 in
theorem gX8_layered_X6_beginLayered : GoodIn wsX8_layered (wsV RX8 106 RX6 yX6_beginLayered wsX6_beginLayered) := goodIn_app (goodIn_sub (gi_c (gu_wsX8_layered_3 _ gm_19) (gi_c (gu_wsX8_layered_3 _ gm_20) (gi_c (gu_wsX8_layered_3 _ gm_21) (gi_c (gu_wsX8_layered_1 _ gm_17) gi_0)))) (by decide +kernel)) ggX8_layered_X6_beginLayered
theorem dX8_layered_0 : decode cX8_layered 0 = .ok (.aload_n 0, 1) := by decide +kernel
theorem dX8_layered_1 : decode cX8_layered 1 = .ok (.iload_n 1, 1) := by decide +kernel
theorem dX8_layered_2 : decode cX8_layered 2 = .ok (.invokevirtual 46, 3) := by decide +kernel
theorem dX8_layered_5 : decode cX8_layered 5 = .ok (.astore 4, 2) := by decide +kernel
theorem dX8_layered_7 : decode cX8_layered 7 = .ok (.aload_n 0, 1) := by decide +kernel
theorem dX8_layered_8 : decode cX8_layered 8 = .ok (.iload_n 2, 1) := by decide +kernel
theorem dX8_layered_9 : decode cX8_layered 9 = .ok (.invokevirtual 46, 3) := by decide +kernel
theorem dX8_layered_12 : decode cX8_layered 12 = .ok (.astore 5, 2) := by decide +kernel
theorem dX8_layered_14 : decode cX8_layered 14 = .ok (.aload 4, 2) := by decide +kernel
theorem dX8_layered_16 : decode cX8_layered 16 = .ok (.ifnull 8, 3) := by decide +kernel
theorem dX8_layered_19 : decode cX8_layered 19 = .ok (.aload 5, 2) := by decide +kernel
theorem dX8_layered_21 : decode cX8_layered 21 = .ok (.ifnonnull 5, 3) := by decide +kernel
theorem dX8_layered_24 : decode cX8_layered 24 = .ok (.iconst (-1), 1) := by decide +kernel
theorem dX8_layered_25 : decode cX8_layered 25 = .ok (.ireturn, 1) := by decide +kernel
theorem dX8_layered_26 : decode cX8_layered 26 = .ok (.aload_n 0, 1) := by decide +kernel
theorem dX8_layered_27 : decode cX8_layered 27 = .ok (.invokevirtual 76, 3) := by decide +kernel
theorem dX8_layered_30 : decode cX8_layered 30 = .ok (.astore 6, 2) := by decide +kernel
theorem dX8_layered_32 : decode cX8_layered 32 = .ok (.aload 6, 2) := by decide +kernel
theorem dX8_layered_34 : decode cX8_layered 34 = .ok (.ifnonnull 6, 3) := by decide +kernel
theorem dX8_layered_37 : decode cX8_layered 37 = .ok (.bipush (-4), 2) := by decide +kernel
theorem dX8_layered_39 : decode cX8_layered 39 = .ok (.ireturn, 1) := by decide +kernel
theorem dX8_layered_40 : decode cX8_layered 40 = .ok (.aload_n 0, 1) := by decide +kernel
theorem dX8_layered_41 : decode cX8_layered 41 = .ok (.getfield 22, 3) := by decide +kernel
theorem dX8_layered_44 : decode cX8_layered 44 = .ok (.aload 4, 2) := by decide +kernel
theorem dX8_layered_46 : decode cX8_layered 46 = .ok (.invokevirtual 50, 3) := by decide +kernel
theorem dX8_layered_49 : decode cX8_layered 49 = .ok (.aload_n 0, 1) := by decide +kernel
theorem dX8_layered_50 : decode cX8_layered 50 = .ok (.getfield 26, 3) := by decide +kernel
theorem dX8_layered_53 : decode cX8_layered 53 = .ok (.aload 5, 2) := by decide +kernel
theorem dX8_layered_55 : decode cX8_layered 55 = .ok (.aload 4, 2) := by decide +kernel
theorem dX8_layered_57 : decode cX8_layered 57 = .ok (.invokevirtual 102, 3) := by decide +kernel
theorem dX8_layered_60 : decode cX8_layered 60 = .ok (.aload 6, 2) := by decide +kernel
theorem dX8_layered_62 : decode cX8_layered 62 = .ok (.aload_n 0, 1) := by decide +kernel
theorem dX8_layered_63 : decode cX8_layered 63 = .ok (.getfield 22, 3) := by decide +kernel
theorem dX8_layered_66 : decode cX8_layered 66 = .ok (.aload_n 0, 1) := by decide +kernel
theorem dX8_layered_67 : decode cX8_layered 67 = .ok (.getfield 26, 3) := by decide +kernel
theorem dX8_layered_70 : decode cX8_layered 70 = .ok (.aload_n 0, 1) := by decide +kernel
theorem dX8_layered_71 : decode cX8_layered 71 = .ok (.getfield 29, 3) := by decide +kernel
theorem dX8_layered_74 : decode cX8_layered 74 = .ok (.iload_n 3, 1) := by decide +kernel
theorem dX8_layered_75 : decode cX8_layered 75 = .ok (.invokevirtual 106, 3) := by decide +kernel
theorem dX8_layered_78 : decode cX8_layered 78 = .ok (.aload 6, 2) := by decide +kernel
theorem dX8_layered_80 : decode cX8_layered 80 = .ok (.getfield 95, 3) := by decide +kernel
theorem dX8_layered_83 : decode cX8_layered 83 = .ok (.aload 4, 2) := by decide +kernel
theorem dX8_layered_85 : decode cX8_layered 85 = .ok (.invokevirtual 50, 3) := by decide +kernel
theorem dX8_layered_88 : decode cX8_layered 88 = .ok (.aload_n 0, 1) := by decide +kernel
theorem dX8_layered_89 : decode cX8_layered 89 = .ok (.dup, 1) := by decide +kernel
theorem dX8_layered_90 : decode cX8_layered 90 = .ok (.getfield 84, 3) := by decide +kernel
theorem dX8_layered_93 : decode cX8_layered 93 = .ok (.dup_x1, 1) := by decide +kernel
theorem dX8_layered_94 : decode cX8_layered 94 = .ok (.iconst 1, 1) := by decide +kernel
theorem dX8_layered_95 : decode cX8_layered 95 = .ok (.iadd, 1) := by decide +kernel
theorem dX8_layered_96 : decode cX8_layered 96 = .ok (.putfield 84, 3) := by decide +kernel
theorem dX8_layered_99 : decode cX8_layered 99 = .ok (.ireturn, 1) := by decide +kernel
set_option maxRecDepth 20000 in
theorem gu_wsX8_put_1 : ∀ w ∈ wsX8_put_r1, w ∈ wsX8_put := fun _ h => List.mem_cons_of_mem _ (List.mem_append_left _ (List.mem_append_left _ (List.mem_append_left _ (List.mem_append_left _ h))))
set_option maxRecDepth 20000 in
theorem gu_wsX8_put_6 : ∀ w ∈ wsX80, w ∈ wsX8_put := fun _ h => List.mem_cons_of_mem _ (List.mem_append_left _ (List.mem_append_left _ (List.mem_append_right _ h)))
set_option maxRecDepth 20000 in
theorem ggX8_put_X8_sieveAt : GoodIn wsX8_put wsX8_sieveAt := goodIn_sub (gi_c (gu_wsX8_put_1 _ gm_4) (gi_a (gi_c (gu_wsX8_put_1 _ gm_5) (gi_c (gu_wsX8_put_1 _ gm_6) gi_0)) (gu_wsX8_put_6))) (by decide +kernel)
set_option maxRecDepth 20000 in
theorem gX8_put_X8_sieveAt : GoodIn wsX8_put (wsV RX8 110 RX8 yX8_sieveAt wsX8_sieveAt) := goodIn_app (goodIn_sub (gi_c (gu_wsX8_put_1 _ gm_0) (gi_c (gu_wsX8_put_1 _ gm_1) (gi_c (gu_wsX8_put_1 _ gm_2) (gi_c (gu_wsX8_put_1 _ gm_3) gi_0)))) (by decide +kernel)) ggX8_put_X8_sieveAt
set_option maxRecDepth 20000 in
theorem gu_wsX8_put_7 : ∀ w ∈ wsX60, w ∈ wsX8_put := fun _ h => List.mem_cons_of_mem _ (List.mem_append_left _ (List.mem_append_right _ h))
set_option maxRecDepth 20000 in
theorem ggX8_put_X6_isOpen : GoodIn wsX8_put wsX6_isOpen := goodIn_sub (gi_c (gu_wsX8_put_1 _ gm_11) (gi_a (gi_c (gu_wsX8_put_1 _ gm_12) gi_0) (gu_wsX8_put_7))) (by decide +kernel)
set_option maxRecDepth 20000 in
theorem gX8_put_X6_isOpen : GoodIn wsX8_put (wsV RX8 114 RX6 yX6_isOpen wsX6_isOpen) := goodIn_app (goodIn_sub (gi_c (gu_wsX8_put_1 _ gm_7) (gi_c (gu_wsX8_put_1 _ gm_8) (gi_c (gu_wsX8_put_1 _ gm_9) (gi_c (gu_wsX8_put_1 _ gm_10) gi_0)))) (by decide +kernel)) ggX8_put_X6_isOpen
set_option maxRecDepth 20000 in
theorem gu_wsX8_put_2 : ∀ w ∈ wsX8_put_r2, w ∈ wsX8_put := fun _ h => List.mem_cons_of_mem _ (List.mem_append_left _ (List.mem_append_left _ (List.mem_append_left _ (List.mem_append_right _ (List.mem_append_left _ h)))))
set_option maxRecDepth 20000 in
theorem gu_wsX8_put_3 : ∀ w ∈ wsX8_put_r3, w ∈ wsX8_put := fun _ h => List.mem_cons_of_mem _ (List.mem_append_left _ (List.mem_append_left _ (List.mem_append_left _ (List.mem_append_right _ (List.mem_append_right _ (List.mem_append_left _ h))))))
set_option maxRecDepth 20000 in
theorem gu_wsX8_put_4 : ∀ w ∈ wsX8_put_r4, w ∈ wsX8_put := fun _ h => List.mem_cons_of_mem _ (List.mem_append_left _ (List.mem_append_left _ (List.mem_append_left _ (List.mem_append_right _ (List.mem_append_right _ (List.mem_append_right _ (List.mem_append_left _ h)))))))
set_option maxRecDepth 20000 in
theorem gu_wsX8_put_5 : ∀ w ∈ wsX8_put_r5, w ∈ wsX8_put := fun _ h => List.mem_cons_of_mem _ (List.mem_append_left _ (List.mem_append_left _ (List.mem_append_left _ (List.mem_append_right _ (List.mem_append_right _ (List.mem_append_right _ (List.mem_append_right _ h)))))))
set_option maxRecDepth 20000 in
theorem gu_wsX8_put_8 : ∀ w ∈ wsX00, w ∈ wsX8_put := fun _ h => List.mem_cons_of_mem _ (List.mem_append_right _ h)
set_option maxRecDepth 20000 in
theorem ggX8_put_X6_enter : GoodIn wsX8_put wsX6_enter := goodIn_sub (gi_c (gu_wsX8_put_1 _ gm_16) (gi_a (gi_a (gi_a (gi_c (gu_wsX8_put_1 _ gm_17) (gi_c (gu_wsX8_put_1 _ gm_18) (gi_c (gu_wsX8_put_1 _ gm_12) (gi_c (gu_wsX8_put_1 _ gm_19) (gi_c (gu_wsX8_put_1 _ gm_20) (gi_c (gu_wsX8_put_1 _ gm_21) (gi_c (gu_wsX8_put_1 _ gm_22) (gi_c (gu_wsX8_put_1 _ gm_23) (gi_c (gu_wsX8_put_2 _ gm_0) (gi_c (gu_wsX8_put_2 _ gm_1) (gi_c (gu_wsX8_put_2 _ gm_2) (gi_c (gu_wsX8_put_2 _ gm_3) (gi_c (gu_wsX8_put_2 _ gm_4) (gi_c (gu_wsX8_put_2 _ gm_5) (gi_c (gu_wsX8_put_2 _ gm_6) (gi_c (gu_wsX8_put_2 _ gm_7) (gi_c (gu_wsX8_put_2 _ gm_8) (gi_c (gu_wsX8_put_2 _ gm_9) (gi_c (gu_wsX8_put_2 _ gm_10) (gi_c (gu_wsX8_put_2 _ gm_11) (gi_c (gu_wsX8_put_2 _ gm_12) (gi_c (gu_wsX8_put_2 _ gm_13) (gi_c (gu_wsX8_put_2 _ gm_14) (gi_c (gu_wsX8_put_2 _ gm_15) gi_0)))))))))))))))))))))))) (gi_a (gi_c (gu_wsX8_put_2 _ gm_16) (gi_c (gu_wsX8_put_2 _ gm_17) (gi_c (gu_wsX8_put_2 _ gm_18) (gi_c (gu_wsX8_put_2 _ gm_19) (gi_c (gu_wsX8_put_2 _ gm_20) (gi_c (gu_wsX8_put_2 _ gm_21) (gi_c (gu_wsX8_put_2 _ gm_22) (gi_c (gu_wsX8_put_2 _ gm_23) (gi_c (gu_wsX8_put_3 _ gm_0) (gi_c (gu_wsX8_put_3 _ gm_1) (gi_c (gu_wsX8_put_3 _ gm_2) (gi_c (gu_wsX8_put_3 _ gm_3) (gi_c (gu_wsX8_put_3 _ gm_4) (gi_c (gu_wsX8_put_3 _ gm_5) (gi_c (gu_wsX8_put_3 _ gm_6) (gi_c (gu_wsX8_put_1 _ gm_10) (gi_c (gu_wsX8_put_3 _ gm_7) (gi_c (gu_wsX8_put_3 _ gm_8) (gi_c (gu_wsX8_put_3 _ gm_9) (gi_c (gu_wsX8_put_3 _ gm_10) (gi_c (gu_wsX8_put_3 _ gm_11) (gi_c (gu_wsX8_put_3 _ gm_12) (gi_c (gu_wsX8_put_3 _ gm_13) (gi_c (gu_wsX8_put_3 _ gm_14) gi_0)))))))))))))))))))))))) (gi_a (gi_c (gu_wsX8_put_3 _ gm_15) (gi_c (gu_wsX8_put_3 _ gm_16) (gi_c (gu_wsX8_put_3 _ gm_17) (gi_c (gu_wsX8_put_3 _ gm_18) (gi_c (gu_wsX8_put_3 _ gm_19) (gi_c (gu_wsX8_put_3 _ gm_20) (gi_c (gu_wsX8_put_3 _ gm_21) (gi_c (gu_wsX8_put_3 _ gm_22) (gi_c (gu_wsX8_put_3 _ gm_23) (gi_c (gu_wsX8_put_4 _ gm_0) (gi_c (gu_wsX8_put_4 _ gm_1) (gi_c (gu_wsX8_put_4 _ gm_2) (gi_c (gu_wsX8_put_4 _ gm_3) (gi_c (gu_wsX8_put_4 _ gm_4) (gi_c (gu_wsX8_put_4 _ gm_5) (gi_c (gu_wsX8_put_4 _ gm_6) (gi_c (gu_wsX8_put_4 _ gm_7) (gi_c (gu_wsX8_put_4 _ gm_8) (gi_c (gu_wsX8_put_4 _ gm_9) (gi_c (gu_wsX8_put_4 _ gm_10) (gi_c (gu_wsX8_put_4 _ gm_11) (gi_c (gu_wsX8_put_4 _ gm_12) (gi_c (gu_wsX8_put_4 _ gm_13) (gi_c (gu_wsX8_put_4 _ gm_14) gi_0)))))))))))))))))))))))) (gi_c (gu_wsX8_put_4 _ gm_15) (gi_c (gu_wsX8_put_4 _ gm_16) (gi_c (gu_wsX8_put_4 _ gm_17) (gi_c (gu_wsX8_put_4 _ gm_18) (gi_c (gu_wsX8_put_4 _ gm_19) (gi_c (gu_wsX8_put_4 _ gm_20) (gi_c (gu_wsX8_put_4 _ gm_21) (gi_c (gu_wsX8_put_4 _ gm_22) (gi_c (gu_wsX8_put_4 _ gm_23) (gi_c (gu_wsX8_put_5 _ gm_0) (gi_c (gu_wsX8_put_5 _ gm_1) (gi_c (gu_wsX8_put_5 _ gm_2) (gi_c (gu_wsX8_put_5 _ gm_3) (gi_c (gu_wsX8_put_5 _ gm_4) (gi_c (gu_wsX8_put_5 _ gm_5) (gi_c (gu_wsX8_put_5 _ gm_6) (gi_c (gu_wsX8_put_5 _ gm_7) (gi_c (gu_wsX8_put_5 _ gm_8) (gi_c (gu_wsX8_put_5 _ gm_9) (gi_c (gu_wsX8_put_5 _ gm_10) (gi_c (gu_wsX8_put_5 _ gm_11) (gi_c (gu_wsX8_put_5 _ gm_12) (gi_c (gu_wsX8_put_5 _ gm_13) gi_0)))))))))))))))))))))))))) (gu_wsX8_put_7)) (gu_wsX8_put_8))) (by decide +kernel)
set_option maxRecDepth 20000 in
theorem gX8_put_X6_enter : GoodIn wsX8_put (wsV RX8 118 RX6 yX6_enter wsX6_enter) := goodIn_app (goodIn_sub (gi_c (gu_wsX8_put_1 _ gm_13) (gi_c (gu_wsX8_put_1 _ gm_14) (gi_c (gu_wsX8_put_1 _ gm_15) (gi_c (gu_wsX8_put_1 _ gm_10) gi_0)))) (by decide +kernel)) ggX8_put_X6_enter
theorem dX8_put_0 : decode cX8_put 0 = .ok (.aload_n 0, 1) := by decide +kernel
theorem dX8_put_1 : decode cX8_put 1 = .ok (.iload_n 1, 1) := by decide +kernel
theorem dX8_put_2 : decode cX8_put 2 = .ok (.invokevirtual 110, 3) := by decide +kernel
theorem dX8_put_5 : decode cX8_put 5 = .ok (.astore 4, 2) := by decide +kernel
theorem dX8_put_7 : decode cX8_put 7 = .ok (.aload 4, 2) := by decide +kernel
theorem dX8_put_9 : decode cX8_put 9 = .ok (.ifnonnull 5, 3) := by decide +kernel
theorem dX8_put_12 : decode cX8_put 12 = .ok (.iconst (-1), 1) := by decide +kernel
theorem dX8_put_13 : decode cX8_put 13 = .ok (.ireturn, 1) := by decide +kernel
theorem dX8_put_14 : decode cX8_put 14 = .ok (.aload 4, 2) := by decide +kernel
theorem dX8_put_16 : decode cX8_put 16 = .ok (.invokevirtual 114, 3) := by decide +kernel
theorem dX8_put_19 : decode cX8_put 19 = .ok (.ifCond .eq 12, 3) := by decide +kernel
theorem dX8_put_22 : decode cX8_put 22 = .ok (.aload 4, 2) := by decide +kernel
theorem dX8_put_24 : decode cX8_put 24 = .ok (.lload_n 2, 1) := by decide +kernel
theorem dX8_put_25 : decode cX8_put 25 = .ok (.invokevirtual 118, 3) := by decide +kernel
theorem dX8_put_28 : decode cX8_put 28 = .ok (.goto 5, 3) := by decide +kernel
theorem dX8_put_31 : decode cX8_put 31 = .ok (.bipush (-2), 2) := by decide +kernel
theorem dX8_put_33 : decode cX8_put 33 = .ok (.ireturn, 1) := by decide +kernel
set_option maxRecDepth 20000 in
theorem gu_wsX8_putAll_1 : ∀ w ∈ wsX8_putAll_r1, w ∈ wsX8_putAll := fun _ h => List.mem_cons_of_mem _ (List.mem_append_left _ (List.mem_append_left _ (List.mem_append_left _ (List.mem_append_left _ h))))
set_option maxRecDepth 20000 in
theorem gu_wsX8_putAll_6 : ∀ w ∈ wsX80, w ∈ wsX8_putAll := fun _ h => List.mem_cons_of_mem _ (List.mem_append_left _ (List.mem_append_left _ (List.mem_append_right _ h)))
set_option maxRecDepth 20000 in
theorem ggX8_putAll_X8_sieveAt : GoodIn wsX8_putAll wsX8_sieveAt := goodIn_sub (gi_c (gu_wsX8_putAll_1 _ gm_4) (gi_a (gi_c (gu_wsX8_putAll_1 _ gm_5) (gi_c (gu_wsX8_putAll_1 _ gm_6) gi_0)) (gu_wsX8_putAll_6))) (by decide +kernel)
set_option maxRecDepth 20000 in
theorem gX8_putAll_X8_sieveAt : GoodIn wsX8_putAll (wsV RX8 110 RX8 yX8_sieveAt wsX8_sieveAt) := goodIn_app (goodIn_sub (gi_c (gu_wsX8_putAll_1 _ gm_0) (gi_c (gu_wsX8_putAll_1 _ gm_1) (gi_c (gu_wsX8_putAll_1 _ gm_2) (gi_c (gu_wsX8_putAll_1 _ gm_3) gi_0)))) (by decide +kernel)) ggX8_putAll_X8_sieveAt
set_option maxRecDepth 20000 in
theorem ggX8_putAll_X8_worldAt : GoodIn wsX8_putAll wsX8_worldAt := goodIn_sub (gi_c (gu_wsX8_putAll_1 _ gm_10) (gi_a (gi_c (gu_wsX8_putAll_1 _ gm_11) gi_0) (gu_wsX8_putAll_6))) (by decide +kernel)
set_option maxRecDepth 20000 in
theorem gX8_putAll_X8_worldAt : GoodIn wsX8_putAll (wsV RX8 46 RX8 yX8_worldAt wsX8_worldAt) := goodIn_app (goodIn_sub (gi_c (gu_wsX8_putAll_1 _ gm_7) (gi_c (gu_wsX8_putAll_1 _ gm_8) (gi_c (gu_wsX8_putAll_1 _ gm_9) (gi_c (gu_wsX8_putAll_1 _ gm_3) gi_0)))) (by decide +kernel)) ggX8_putAll_X8_worldAt
set_option maxRecDepth 20000 in
theorem gu_wsX8_putAll_7 : ∀ w ∈ wsX60, w ∈ wsX8_putAll := fun _ h => List.mem_cons_of_mem _ (List.mem_append_left _ (List.mem_append_right _ h))
set_option maxRecDepth 20000 in
theorem ggX8_putAll_X6_isOpen : GoodIn wsX8_putAll wsX6_isOpen := goodIn_sub (gi_c (gu_wsX8_putAll_1 _ gm_16) (gi_a (gi_c (gu_wsX8_putAll_1 _ gm_17) gi_0) (gu_wsX8_putAll_7))) (by decide +kernel)
set_option maxRecDepth 20000 in
theorem gX8_putAll_X6_isOpen : GoodIn wsX8_putAll (wsV RX8 114 RX6 yX6_isOpen wsX6_isOpen) := goodIn_app (goodIn_sub (gi_c (gu_wsX8_putAll_1 _ gm_12) (gi_c (gu_wsX8_putAll_1 _ gm_13) (gi_c (gu_wsX8_putAll_1 _ gm_14) (gi_c (gu_wsX8_putAll_1 _ gm_15) gi_0)))) (by decide +kernel)) ggX8_putAll_X6_isOpen
set_option maxRecDepth 20000 in
theorem gu_wsX8_putAll_8 : ∀ w ∈ wsX00, w ∈ wsX8_putAll := fun _ h => List.mem_cons_of_mem _ (List.mem_append_right _ h)
set_option maxRecDepth 20000 in
theorem ggX8_putAll_X0_count : GoodIn wsX8_putAll wsX0_count := goodIn_sub (gi_c (gu_wsX8_putAll_1 _ gm_22) (gi_a (gi_c (gu_wsX8_putAll_1 _ gm_23) gi_0) (gu_wsX8_putAll_8))) (by decide +kernel)
set_option maxRecDepth 20000 in
theorem gX8_putAll_X0_count : GoodIn wsX8_putAll (wsV RX8 61 RX0 yX0_count wsX0_count) := goodIn_app (goodIn_sub (gi_c (gu_wsX8_putAll_1 _ gm_18) (gi_c (gu_wsX8_putAll_1 _ gm_19) (gi_c (gu_wsX8_putAll_1 _ gm_20) (gi_c (gu_wsX8_putAll_1 _ gm_21) gi_0)))) (by decide +kernel)) ggX8_putAll_X0_count
set_option maxRecDepth 20000 in
theorem gu_wsX8_putAll_2 : ∀ w ∈ wsX8_putAll_r2, w ∈ wsX8_putAll := fun _ h => List.mem_cons_of_mem _ (List.mem_append_left _ (List.mem_append_left _ (List.mem_append_left _ (List.mem_append_right _ (List.mem_append_left _ h)))))
set_option maxRecDepth 20000 in
theorem ggX8_putAll_X0_at : GoodIn wsX8_putAll wsX0_at := goodIn_sub (gi_c (gu_wsX8_putAll_2 _ gm_3) (gi_a (gi_c (gu_wsX8_putAll_1 _ gm_23) (gi_c (gu_wsX8_putAll_2 _ gm_4) gi_0)) (gu_wsX8_putAll_8))) (by decide +kernel)
set_option maxRecDepth 20000 in
theorem gX8_putAll_X0_at : GoodIn wsX8_putAll (wsV RX8 68 RX0 yX0_at wsX0_at) := goodIn_app (goodIn_sub (gi_c (gu_wsX8_putAll_2 _ gm_0) (gi_c (gu_wsX8_putAll_2 _ gm_1) (gi_c (gu_wsX8_putAll_2 _ gm_2) (gi_c (gu_wsX8_putAll_1 _ gm_21) gi_0)))) (by decide +kernel)) ggX8_putAll_X0_at
set_option maxRecDepth 20000 in
theorem gu_wsX8_putAll_3 : ∀ w ∈ wsX8_putAll_r3, w ∈ wsX8_putAll := fun _ h => List.mem_cons_of_mem _ (List.mem_append_left _ (List.mem_append_left _ (List.mem_append_left _ (List.mem_append_right _ (List.mem_append_right _ (List.mem_append_left _ h))))))
set_option maxRecDepth 20000 in
theorem gu_wsX8_putAll_4 : ∀ w ∈ wsX8_putAll_r4, w ∈ wsX8_putAll := fun _ h => List.mem_cons_of_mem _ (List.mem_append_left _ (List.mem_append_left _ (List.mem_append_left _ (List.mem_append_right _ (List.mem_append_right _ (List.mem_append_right _ (List.mem_append_left _ h)))))))
set_option maxRecDepth 20000 in
theorem gu_wsX8_putAll_5 : ∀ w ∈ wsX8_putAll_r5, w ∈ wsX8_putAll := fun _ h => List.mem_cons_of_mem _ (List.mem_append_left _ (List.mem_append_left _ (List.mem_append_left _ (List.mem_append_right _ (List.mem_append_right _ (List.mem_append_right _ (List.mem_append_right _ h)))))))
set_option maxRecDepth 20000 in
theorem ggX8_putAll_X6_enter : GoodIn wsX8_putAll wsX6_enter := goodIn_sub (gi_c (gu_wsX8_putAll_2 _ gm_8) (gi_a (gi_a (gi_a (gi_c (gu_wsX8_putAll_2 _ gm_9) (gi_c (gu_wsX8_putAll_2 _ gm_10) (gi_c (gu_wsX8_putAll_1 _ gm_17) (gi_c (gu_wsX8_putAll_2 _ gm_11) (gi_c (gu_wsX8_putAll_2 _ gm_12) (gi_c (gu_wsX8_putAll_2 _ gm_13) (gi_c (gu_wsX8_putAll_1 _ gm_21) (gi_c (gu_wsX8_putAll_2 _ gm_14) (gi_c (gu_wsX8_putAll_1 _ gm_23) (gi_c (gu_wsX8_putAll_2 _ gm_15) (gi_c (gu_wsX8_putAll_2 _ gm_16) (gi_c (gu_wsX8_putAll_2 _ gm_17) (gi_c (gu_wsX8_putAll_2 _ gm_18) (gi_c (gu_wsX8_putAll_2 _ gm_19) (gi_c (gu_wsX8_putAll_2 _ gm_20) (gi_c (gu_wsX8_putAll_2 _ gm_21) (gi_c (gu_wsX8_putAll_2 _ gm_22) (gi_c (gu_wsX8_putAll_2 _ gm_23) (gi_c (gu_wsX8_putAll_3 _ gm_0) (gi_c (gu_wsX8_putAll_3 _ gm_1) (gi_c (gu_wsX8_putAll_3 _ gm_2) (gi_c (gu_wsX8_putAll_3 _ gm_3) (gi_c (gu_wsX8_putAll_3 _ gm_4) (gi_c (gu_wsX8_putAll_3 _ gm_5) gi_0)))))))))))))))))))))))) (gi_a (gi_c (gu_wsX8_putAll_3 _ gm_6) (gi_c (gu_wsX8_putAll_3 _ gm_7) (gi_c (gu_wsX8_putAll_3 _ gm_8) (gi_c (gu_wsX8_putAll_3 _ gm_9) (gi_c (gu_wsX8_putAll_3 _ gm_10) (gi_c (gu_wsX8_putAll_3 _ gm_11) (gi_c (gu_wsX8_putAll_3 _ gm_12) (gi_c (gu_wsX8_putAll_3 _ gm_13) (gi_c (gu_wsX8_putAll_3 _ gm_14) (gi_c (gu_wsX8_putAll_3 _ gm_15) (gi_c (gu_wsX8_putAll_3 _ gm_16) (gi_c (gu_wsX8_putAll_3 _ gm_17) (gi_c (gu_wsX8_putAll_3 _ gm_18) (gi_c (gu_wsX8_putAll_3 _ gm_19) (gi_c (gu_wsX8_putAll_3 _ gm_20) (gi_c (gu_wsX8_putAll_1 _ gm_15) (gi_c (gu_wsX8_putAll_3 _ gm_21) (gi_c (gu_wsX8_putAll_3 _ gm_22) (gi_c (gu_wsX8_putAll_3 _ gm_23) (gi_c (gu_wsX8_putAll_4 _ gm_0) (gi_c (gu_wsX8_putAll_4 _ gm_1) (gi_c (gu_wsX8_putAll_4 _ gm_2) (gi_c (gu_wsX8_putAll_4 _ gm_3) (gi_c (gu_wsX8_putAll_4 _ gm_4) gi_0)))))))))))))))))))))))) (gi_a (gi_c (gu_wsX8_putAll_4 _ gm_5) (gi_c (gu_wsX8_putAll_4 _ gm_6) (gi_c (gu_wsX8_putAll_4 _ gm_7) (gi_c (gu_wsX8_putAll_4 _ gm_8) (gi_c (gu_wsX8_putAll_4 _ gm_9) (gi_c (gu_wsX8_putAll_4 _ gm_10) (gi_c (gu_wsX8_putAll_4 _ gm_11) (gi_c (gu_wsX8_putAll_4 _ gm_12) (gi_c (gu_wsX8_putAll_4 _ gm_13) (gi_c (gu_wsX8_putAll_4 _ gm_14) (gi_c (gu_wsX8_putAll_4 _ gm_15) (gi_c (gu_wsX8_putAll_4 _ gm_16) (gi_c (gu_wsX8_putAll_4 _ gm_17) (gi_c (gu_wsX8_putAll_4 _ gm_18) (gi_c (gu_wsX8_putAll_4 _ gm_19) (gi_c (gu_wsX8_putAll_4 _ gm_20) (gi_c (gu_wsX8_putAll_4 _ gm_21) (gi_c (gu_wsX8_putAll_4 _ gm_22) (gi_c (gu_wsX8_putAll_4 _ gm_23) (gi_c (gu_wsX8_putAll_5 _ gm_0) (gi_c (gu_wsX8_putAll_5 _ gm_1) (gi_c (gu_wsX8_putAll_5 _ gm_2) (gi_c (gu_wsX8_putAll_5 _ gm_3) (gi_c (gu_wsX8_putAll_5 _ gm_4) gi_0)))))))))))))))))))))))) (gi_c (gu_wsX8_putAll_5 _ gm_5) (gi_c (gu_wsX8_putAll_5 _ gm_6) (gi_c (gu_wsX8_putAll_5 _ gm_7) (gi_c (gu_wsX8_putAll_5 _ gm_8) (gi_c (gu_wsX8_putAll_5 _ gm_9) (gi_c (gu_wsX8_putAll_5 _ gm_10) (gi_c (gu_wsX8_putAll_5 _ gm_11) (gi_c (gu_wsX8_putAll_5 _ gm_12) (gi_c (gu_wsX8_putAll_5 _ gm_13) (gi_c (gu_wsX8_putAll_2 _ gm_4) (gi_c (gu_wsX8_putAll_5 _ gm_14) (gi_c (gu_wsX8_putAll_5 _ gm_15) (gi_c (gu_wsX8_putAll_5 _ gm_16) (gi_c (gu_wsX8_putAll_5 _ gm_17) (gi_c (gu_wsX8_putAll_5 _ gm_18) (gi_c (gu_wsX8_putAll_5 _ gm_19) (gi_c (gu_wsX8_putAll_5 _ gm_20) (gi_c (gu_wsX8_putAll_5 _ gm_21) (gi_c (gu_wsX8_putAll_5 _ gm_22) (gi_c (gu_wsX8_putAll_5 _ gm_23) (gi_c (gu_wsX8_putAll_1 _ gm_19) (gi_c (gu_wsX8_putAll_1 _ gm_20) (gi_c (gu_wsX8_putAll_1 _ gm_22) gi_0)))))))))))))))))))))))))) (gu_wsX8_putAll_7)) (gu_wsX8_putAll_8))) (by decide +kernel)
set_option maxRecDepth 20000 in
theorem gX8_putAll_X6_enter : GoodIn wsX8_putAll (wsV RX8 118 RX6 yX6_enter wsX6_enter) := goodIn_app (goodIn_sub (gi_c (gu_wsX8_putAll_2 _ gm_5) (gi_c (gu_wsX8_putAll_2 _ gm_6) (gi_c (gu_wsX8_putAll_2 _ gm_7) (gi_c (gu_wsX8_putAll_1 _ gm_15) gi_0)))) (by decide +kernel)) ggX8_putAll_X6_enter
theorem dX8_putAll_0 : decode cX8_putAll 0 = .ok (.aload_n 0, 1) := by decide +kernel
theorem dX8_putAll_1 : decode cX8_putAll 1 = .ok (.iload_n 1, 1) := by decide +kernel
theorem dX8_putAll_2 : decode cX8_putAll 2 = .ok (.invokevirtual 110, 3) := by decide +kernel
theorem dX8_putAll_5 : decode cX8_putAll 5 = .ok (.astore_n 3, 1) := by decide +kernel
theorem dX8_putAll_6 : decode cX8_putAll 6 = .ok (.aload_n 0, 1) := by decide +kernel
theorem dX8_putAll_7 : decode cX8_putAll 7 = .ok (.iload_n 2, 1) := by decide +kernel
theorem dX8_putAll_8 : decode cX8_putAll 8 = .ok (.invokevirtual 46, 3) := by decide +kernel
theorem dX8_putAll_11 : decode cX8_putAll 11 = .ok (.astore 4, 2) := by decide +kernel
theorem dX8_putAll_13 : decode cX8_putAll 13 = .ok (.aload_n 3, 1) := by decide +kernel
theorem dX8_putAll_14 : decode cX8_putAll 14 = .ok (.ifnull 8, 3) := by decide +kernel
theorem dX8_putAll_17 : decode cX8_putAll 17 = .ok (.aload 4, 2) := by decide +kernel
theorem dX8_putAll_19 : decode cX8_putAll 19 = .ok (.ifnonnull 5, 3) := by decide +kernel
theorem dX8_putAll_22 : decode cX8_putAll 22 = .ok (.iconst (-1), 1) := by decide +kernel
theorem dX8_putAll_23 : decode cX8_putAll 23 = .ok (.ireturn, 1) := by decide +kernel
theorem dX8_putAll_24 : decode cX8_putAll 24 = .ok (.aload_n 3, 1) := by decide +kernel
theorem dX8_putAll_25 : decode cX8_putAll 25 = .ok (.invokevirtual 114, 3) := by decide +kernel
theorem dX8_putAll_28 : decode cX8_putAll 28 = .ok (.ifCond .ne 6, 3) := by decide +kernel
theorem dX8_putAll_31 : decode cX8_putAll 31 = .ok (.bipush (-2), 2) := by decide +kernel
theorem dX8_putAll_33 : decode cX8_putAll 33 = .ok (.ireturn, 1) := by decide +kernel
theorem dX8_putAll_34 : decode cX8_putAll 34 = .ok (.iconst 0, 1) := by decide +kernel
theorem dX8_putAll_35 : decode cX8_putAll 35 = .ok (.istore 5, 2) := by decide +kernel
theorem dX8_putAll_37 : decode cX8_putAll 37 = .ok (.iload 5, 2) := by decide +kernel
theorem dX8_putAll_39 : decode cX8_putAll 39 = .ok (.aload 4, 2) := by decide +kernel
theorem dX8_putAll_41 : decode cX8_putAll 41 = .ok (.invokevirtual 61, 3) := by decide +kernel
theorem dX8_putAll_44 : decode cX8_putAll 44 = .ok (.if_icmp .ge 26, 3) := by decide +kernel
theorem dX8_putAll_47 : decode cX8_putAll 47 = .ok (.aload_n 3, 1) := by decide +kernel
theorem dX8_putAll_48 : decode cX8_putAll 48 = .ok (.aload 4, 2) := by decide +kernel
theorem dX8_putAll_50 : decode cX8_putAll 50 = .ok (.iload 5, 2) := by decide +kernel
theorem dX8_putAll_52 : decode cX8_putAll 52 = .ok (.invokevirtual 68, 3) := by decide +kernel
theorem dX8_putAll_55 : decode cX8_putAll 55 = .ok (.invokevirtual 118, 3) := by decide +kernel
theorem dX8_putAll_58 : decode cX8_putAll 58 = .ok (.ifCond .ge 6, 3) := by decide +kernel
theorem dX8_putAll_61 : decode cX8_putAll 61 = .ok (.iload 5, 2) := by decide +kernel
theorem dX8_putAll_63 : decode cX8_putAll 63 = .ok (.ireturn, 1) := by decide +kernel
theorem dX8_putAll_64 : decode cX8_putAll 64 = .ok (.iinc 5 1, 3) := by decide +kernel
theorem dX8_putAll_67 : decode cX8_putAll 67 = .ok (.goto (-30), 3) := by decide +kernel
theorem dX8_putAll_70 : decode cX8_putAll 70 = .ok (.aload 4, 2) := by decide +kernel
theorem dX8_putAll_72 : decode cX8_putAll 72 = .ok (.invokevirtual 61, 3) := by decide +kernel
theorem dX8_putAll_75 : decode cX8_putAll 75 = .ok (.ireturn, 1) := by decide +kernel
set_option maxRecDepth 20000 in
theorem gu_wsX8_drop_1 : ∀ w ∈ wsX8_drop_r1, w ∈ wsX8_drop := fun _ h => List.mem_cons_of_mem _ (List.mem_append_left _ (List.mem_append_left _ (List.mem_append_left _ (List.mem_append_left _ (List.mem_append_left _ (List.mem_append_left _ h))))))
set_option maxRecDepth 20000 in
theorem gu_wsX8_drop_8 : ∀ w ∈ wsX80, w ∈ wsX8_drop := fun _ h => List.mem_cons_of_mem _ (List.mem_append_left _ (List.mem_append_left _ (List.mem_append_left _ (List.mem_append_right _ h))))
set_option maxRecDepth 20000 in
theorem ggX8_drop_X8_sieveAt : GoodIn wsX8_drop wsX8_sieveAt := goodIn_sub (gi_c (gu_wsX8_drop_1 _ gm_4) (gi_a (gi_c (gu_wsX8_drop_1 _ gm_5) (gi_c (gu_wsX8_drop_1 _ gm_6) gi_0)) (gu_wsX8_drop_8))) (by decide +kernel)
set_option maxRecDepth 20000 in
theorem gX8_drop_X8_sieveAt : GoodIn wsX8_drop (wsV RX8 110 RX8 yX8_sieveAt wsX8_sieveAt) := goodIn_app (goodIn_sub (gi_c (gu_wsX8_drop_1 _ gm_0) (gi_c (gu_wsX8_drop_1 _ gm_1) (gi_c (gu_wsX8_drop_1 _ gm_2) (gi_c (gu_wsX8_drop_1 _ gm_3) gi_0)))) (by decide +kernel)) ggX8_drop_X8_sieveAt
set_option maxRecDepth 20000 in
theorem gu_wsX8_drop_2 : ∀ w ∈ wsX8_drop_r2, w ∈ wsX8_drop := fun _ h => List.mem_cons_of_mem _ (List.mem_append_left _ (List.mem_append_left _ (List.mem_append_left _ (List.mem_append_left _ (List.mem_append_left _ (List.mem_append_right _ (List.mem_append_left _ h)))))))
set_option maxRecDepth 20000 in
theorem gu_wsX8_drop_3 : ∀ w ∈ wsX8_drop_r3, w ∈ wsX8_drop := fun _ h => List.mem_cons_of_mem _ (List.mem_append_left _ (List.mem_append_left _ (List.mem_append_left _ (List.mem_append_left _ (List.mem_append_left _ (List.mem_append_right _ (List.mem_append_right _ (List.mem_append_left _ h))))))))
set_option maxRecDepth 20000 in
theorem gu_wsX8_drop_4 : ∀ w ∈ wsX8_drop_r4, w ∈ wsX8_drop := fun _ h => List.mem_cons_of_mem _ (List.mem_append_left _ (List.mem_append_left _ (List.mem_append_left _ (List.mem_append_left _ (List.mem_append_left _ (List.mem_append_right _ (List.mem_append_right _ (List.mem_append_right _ (List.mem_append_left _ h)))))))))
set_option maxRecDepth 20000 in
theorem gu_wsX8_drop_5 : ∀ w ∈ wsX8_drop_r5, w ∈ wsX8_drop := fun _ h => List.mem_cons_of_mem _ (List.mem_append_left _ (List.mem_append_left _ (List.mem_append_left _ (List.mem_append_left _ (List.mem_append_left _ (List.mem_append_right _ (List.mem_append_right _ (List.mem_append_right _ (List.mem_append_right _ (List.mem_append_left _ h))))))))))
set_option maxRecDepth 20000 in
theorem gu_wsX8_drop_7 : ∀ w ∈ wsX60, w ∈ wsX8_drop := fun _ h => List.mem_cons_of_mem _ (List.mem_append_left _ (List.mem_append_left _ (List.mem_append_left _ (List.mem_append_left _ (List.mem_append_right _ h)))))
set_option maxRecDepth 20000 in
theorem gu_wsX8_drop_9 : ∀ w ∈ wsX30, w ∈ wsX8_drop := fun _ h => List.mem_cons_of_mem _ (List.mem_append_left _ (List.mem_append_left _ (List.mem_append_right _ h)))
set_option maxRecDepth 20000 in
theorem gu_wsX8_drop_10 : ∀ w ∈ wsX10, w ∈ wsX8_drop := fun _ h => List.mem_cons_of_mem _ (List.mem_append_left _ (List.mem_append_right _ h))
set_option maxRecDepth 20000 in
theorem gu_wsX8_drop_11 : ∀ w ∈ wsX00, w ∈ wsX8_drop := fun _ h => List.mem_cons_of_mem _ (List.mem_append_right _ h)
set_option maxRecDepth 20000 in
theorem ggX8_drop_X6_passes : GoodIn wsX8_drop wsX6_passes := goodIn_sub (gi_c (gu_wsX8_drop_1 _ gm_11) (gi_a (gi_a (gi_a (gi_a (gi_a (gi_c (gu_wsX8_drop_1 _ gm_12) (gi_c (gu_wsX8_drop_1 _ gm_13) (gi_c (gu_wsX8_drop_1 _ gm_14) (gi_c (gu_wsX8_drop_1 _ gm_15) (gi_c (gu_wsX8_drop_1 _ gm_16) (gi_c (gu_wsX8_drop_1 _ gm_17) (gi_c (gu_wsX8_drop_1 _ gm_18) (gi_c (gu_wsX8_drop_1 _ gm_19) (gi_c (gu_wsX8_drop_1 _ gm_20) (gi_c (gu_wsX8_drop_1 _ gm_21) (gi_c (gu_wsX8_drop_1 _ gm_22) (gi_c (gu_wsX8_drop_1 _ gm_23) (gi_c (gu_wsX8_drop_2 _ gm_0) (gi_c (gu_wsX8_drop_2 _ gm_1) (gi_c (gu_wsX8_drop_2 _ gm_2) (gi_c (gu_wsX8_drop_2 _ gm_3) (gi_c (gu_wsX8_drop_2 _ gm_4) (gi_c (gu_wsX8_drop_2 _ gm_5) (gi_c (gu_wsX8_drop_2 _ gm_6) (gi_c (gu_wsX8_drop_2 _ gm_7) (gi_c (gu_wsX8_drop_2 _ gm_8) (gi_c (gu_wsX8_drop_2 _ gm_9) (gi_c (gu_wsX8_drop_2 _ gm_10) (gi_c (gu_wsX8_drop_2 _ gm_11) gi_0)))))))))))))))))))))))) (gi_a (gi_c (gu_wsX8_drop_2 _ gm_12) (gi_c (gu_wsX8_drop_2 _ gm_13) (gi_c (gu_wsX8_drop_2 _ gm_14) (gi_c (gu_wsX8_drop_2 _ gm_15) (gi_c (gu_wsX8_drop_2 _ gm_16) (gi_c (gu_wsX8_drop_2 _ gm_17) (gi_c (gu_wsX8_drop_2 _ gm_18) (gi_c (gu_wsX8_drop_2 _ gm_19) (gi_c (gu_wsX8_drop_2 _ gm_20) (gi_c (gu_wsX8_drop_2 _ gm_21) (gi_c (gu_wsX8_drop_2 _ gm_22) (gi_c (gu_wsX8_drop_2 _ gm_23) (gi_c (gu_wsX8_drop_3 _ gm_0) (gi_c (gu_wsX8_drop_3 _ gm_1) (gi_c (gu_wsX8_drop_3 _ gm_2) (gi_c (gu_wsX8_drop_3 _ gm_3) (gi_c (gu_wsX8_drop_3 _ gm_4) (gi_c (gu_wsX8_drop_3 _ gm_5) (gi_c (gu_wsX8_drop_3 _ gm_6) (gi_c (gu_wsX8_drop_3 _ gm_7) (gi_c (gu_wsX8_drop_3 _ gm_8) (gi_c (gu_wsX8_drop_3 _ gm_9) (gi_c (gu_wsX8_drop_3 _ gm_10) (gi_c (gu_wsX8_drop_3 _ gm_11) gi_0)))))))))))))))))))))))) (gi_a (gi_c (gu_wsX8_drop_3 _ gm_12) (gi_c (gu_wsX8_drop_3 _ gm_13) (gi_c (gu_wsX8_drop_3 _ gm_14) (gi_c (gu_wsX8_drop_3 _ gm_15) (gi_c (gu_wsX8_drop_3 _ gm_16) (gi_c (gu_wsX8_drop_3 _ gm_17) (gi_c (gu_wsX8_drop_3 _ gm_18) (gi_c (gu_wsX8_drop_3 _ gm_19) (gi_c (gu_wsX8_drop_3 _ gm_20) (gi_c (gu_wsX8_drop_3 _ gm_21) (gi_c (gu_wsX8_drop_3 _ gm_22) (gi_c (gu_wsX8_drop_3 _ gm_23) (gi_c (gu_wsX8_drop_4 _ gm_0) (gi_c (gu_wsX8_drop_4 _ gm_1) (gi_c (gu_wsX8_drop_4 _ gm_2) (gi_c (gu_wsX8_drop_4 _ gm_3) (gi_c (gu_wsX8_drop_4 _ gm_4) (gi_c (gu_wsX8_drop_4 _ gm_5) (gi_c (gu_wsX8_drop_4 _ gm_6) (gi_c (gu_wsX8_drop_4 _ gm_7) (gi_c (gu_wsX8_drop_4 _ gm_8) (gi_c (gu_wsX8_drop_1 _ gm_10) (gi_c (gu_wsX8_drop_4 _ gm_9) (gi_c (gu_wsX8_drop_4 _ gm_10) gi_0)))))))))))))))))))))))) (gi_a (gi_c (gu_wsX8_drop_4 _ gm_11) (gi_c (gu_wsX8_drop_4 _ gm_12) (gi_c (gu_wsX8_drop_4 _ gm_13) (gi_c (gu_wsX8_drop_4 _ gm_14) (gi_c (gu_wsX8_drop_4 _ gm_15) (gi_c (gu_wsX8_drop_4 _ gm_16) (gi_c (gu_wsX8_drop_4 _ gm_17) (gi_c (gu_wsX8_drop_4 _ gm_18) (gi_c (gu_wsX8_drop_4 _ gm_19) (gi_c (gu_wsX8_drop_4 _ gm_20) (gi_c (gu_wsX8_drop_4 _ gm_21) (gi_c (gu_wsX8_drop_4 _ gm_22) (gi_c (gu_wsX8_drop_4 _ gm_23) (gi_c (gu_wsX8_drop_5 _ gm_0) (gi_c (gu_wsX8_drop_5 _ gm_1) (gi_c (gu_wsX8_drop_5 _ gm_2) (gi_c (gu_wsX8_drop_5 _ gm_3) (gi_c (gu_wsX8_drop_5 _ gm_4) (gi_c (gu_wsX8_drop_5 _ gm_5) (gi_c (gu_wsX8_drop_5 _ gm_6) (gi_c (gu_wsX8_drop_5 _ gm_7) (gi_c (gu_wsX8_drop_5 _ gm_8) (gi_c (gu_wsX8_drop_5 _ gm_9) (gi_c (gu_wsX8_drop_5 _ gm_10) gi_0)))))))))))))))))))))))) (gi_c (gu_wsX8_drop_5 _ gm_11) (gi_c (gu_wsX8_drop_5 _ gm_12) (gi_c (gu_wsX8_drop_5 _ gm_13) (gi_c (gu_wsX8_drop_5 _ gm_14) gi_0)))))))) (gu_wsX8_drop_7)) (gu_wsX8_drop_9)) (gu_wsX8_drop_10)) (gu_wsX8_drop_11))) (by decide +kernel)
set_option maxRecDepth 20000 in
theorem gX8_drop_X6_passes : GoodIn wsX8_drop (wsV RX8 125 RX6 yX6_passes wsX6_passes) := goodIn_app (goodIn_sub (gi_c (gu_wsX8_drop_1 _ gm_7) (gi_c (gu_wsX8_drop_1 _ gm_8) (gi_c (gu_wsX8_drop_1 _ gm_9) (gi_c (gu_wsX8_drop_1 _ gm_10) gi_0)))) (by decide +kernel)) ggX8_drop_X6_passes
set_option maxRecDepth 20000 in
theorem gu_wsX8_drop_6 : ∀ w ∈ wsX8_drop_r6, w ∈ wsX8_drop := fun _ h => List.mem_cons_of_mem _ (List.mem_append_left _ (List.mem_append_left _ (List.mem_append_left _ (List.mem_append_left _ (List.mem_append_left _ (List.mem_append_right _ (List.mem_append_right _ (List.mem_append_right _ (List.mem_append_right _ (List.mem_append_right _ h))))))))))
set_option maxRecDepth 20000 in
theorem ggX8_drop_X6_leave : GoodIn wsX8_drop wsX6_leave := goodIn_sub (gi_c (gu_wsX8_drop_5 _ gm_18) (gi_a (gi_a (gi_a (gi_c (gu_wsX8_drop_1 _ gm_14) (gi_c (gu_wsX8_drop_1 _ gm_12) (gi_c (gu_wsX8_drop_5 _ gm_19) (gi_c (gu_wsX8_drop_3 _ gm_13) (gi_c (gu_wsX8_drop_2 _ gm_5) (gi_c (gu_wsX8_drop_2 _ gm_6) (gi_c (gu_wsX8_drop_2 _ gm_7) (gi_c (gu_wsX8_drop_2 _ gm_8) (gi_c (gu_wsX8_drop_2 _ gm_9) (gi_c (gu_wsX8_drop_2 _ gm_10) (gi_c (gu_wsX8_drop_3 _ gm_14) (gi_c (gu_wsX8_drop_3 _ gm_15) (gi_c (gu_wsX8_drop_3 _ gm_16) (gi_c (gu_wsX8_drop_3 _ gm_17) (gi_c (gu_wsX8_drop_3 _ gm_18) (gi_c (gu_wsX8_drop_3 _ gm_19) (gi_c (gu_wsX8_drop_3 _ gm_20) (gi_c (gu_wsX8_drop_3 _ gm_21) (gi_c (gu_wsX8_drop_3 _ gm_22) (gi_c (gu_wsX8_drop_3 _ gm_23) (gi_c (gu_wsX8_drop_4 _ gm_0) (gi_c (gu_wsX8_drop_4 _ gm_1) (gi_c (gu_wsX8_drop_4 _ gm_2) (gi_c (gu_wsX8_drop_2 _ gm_20) gi_0)))))))))))))))))))))))) (gi_a (gi_c (gu_wsX8_drop_4 _ gm_3) (gi_c (gu_wsX8_drop_4 _ gm_4) (gi_c (gu_wsX8_drop_4 _ gm_5) (gi_c (gu_wsX8_drop_4 _ gm_6) (gi_c (gu_wsX8_drop_4 _ gm_7) (gi_c (gu_wsX8_drop_4 _ gm_8) (gi_c (gu_wsX8_drop_1 _ gm_10) (gi_c (gu_wsX8_drop_4 _ gm_9) (gi_c (gu_wsX8_drop_4 _ gm_10) (gi_c (gu_wsX8_drop_4 _ gm_11) (gi_c (gu_wsX8_drop_4 _ gm_12) (gi_c (gu_wsX8_drop_4 _ gm_13) (gi_c (gu_wsX8_drop_4 _ gm_14) (gi_c (gu_wsX8_drop_4 _ gm_15) (gi_c (gu_wsX8_drop_4 _ gm_16) (gi_c (gu_wsX8_drop_4 _ gm_17) (gi_c (gu_wsX8_drop_5 _ gm_20) (gi_c (gu_wsX8_drop_5 _ gm_21) (gi_c (gu_wsX8_drop_5 _ gm_22) (gi_c (gu_wsX8_drop_5 _ gm_23) (gi_c (gu_wsX8_drop_6 _ gm_0) (gi_c (gu_wsX8_drop_6 _ gm_1) (gi_c (gu_wsX8_drop_6 _ gm_2) (gi_c (gu_wsX8_drop_6 _ gm_3) gi_0)))))))))))))))))))))))) (gi_c (gu_wsX8_drop_5 _ gm_13) (gi_c (gu_wsX8_drop_4 _ gm_22) (gi_c (gu_wsX8_drop_5 _ gm_14) (gi_c (gu_wsX8_drop_2 _ gm_18) (gi_c (gu_wsX8_drop_2 _ gm_19) (gi_c (gu_wsX8_drop_5 _ gm_3) (gi_c (gu_wsX8_drop_6 _ gm_4) (gi_c (gu_wsX8_drop_6 _ gm_5) (gi_c (gu_wsX8_drop_6 _ gm_6) (gi_c (gu_wsX8_drop_3 _ gm_5) (gi_c (gu_wsX8_drop_6 _ gm_7) (gi_c (gu_wsX8_drop_3 _ gm_7) (gi_c (gu_wsX8_drop_3 _ gm_8) (gi_c (gu_wsX8_drop_6 _ gm_8) (gi_c (gu_wsX8_drop_6 _ gm_9) (gi_c (gu_wsX8_drop_6 _ gm_10) (gi_c (gu_wsX8_drop_6 _ gm_11) (gi_c (gu_wsX8_drop_3 _ gm_9) (gi_c (gu_wsX8_drop_3 _ gm_10) (gi_c (gu_wsX8_drop_3 _ gm_11) (gi_c (gu_wsX8_drop_3 _ gm_12) gi_0))))))))))))))))))))))) (gu_wsX8_drop_7)) (gu_wsX8_drop_11))) (by decide +kernel)
set_option maxRecDepth 20000 in
theorem gX8_drop_X6_leave : GoodIn wsX8_drop (wsV RX8 128 RX6 yX6_leave wsX6_leave) := goodIn_app (goodIn_sub (gi_c (gu_wsX8_drop_5 _ gm_15) (gi_c (gu_wsX8_drop_5 _ gm_16) (gi_c (gu_wsX8_drop_5 _ gm_17) (gi_c (gu_wsX8_drop_1 _ gm_10) gi_0)))) (by decide +kernel)) ggX8_drop_X6_leave
set_option maxRecDepth 20000 in
theorem ggX8_drop_X0_count : GoodIn wsX8_drop wsX0_count := goodIn_sub (gi_c (gu_wsX8_drop_6 _ gm_15) (gi_a (gi_c (gu_wsX8_drop_3 _ gm_7) gi_0) (gu_wsX8_drop_11))) (by decide +kernel)
set_option maxRecDepth 20000 in
theorem gX8_drop_X0_count : GoodIn wsX8_drop (wsV RX8 61 RX0 yX0_count wsX0_count) := goodIn_app (goodIn_sub (gi_c (gu_wsX8_drop_6 _ gm_12) (gi_c (gu_wsX8_drop_6 _ gm_13) (gi_c (gu_wsX8_drop_6 _ gm_14) (gi_c (gu_wsX8_drop_3 _ gm_5) gi_0)))) (by decide +kernel)) ggX8_drop_X0_count
theorem dX8_drop_0 : decode cX8_drop 0 = .ok (.aload_n 0, 1) := by decide +kernel
theorem dX8_drop_1 : decode cX8_drop 1 = .ok (.iload_n 1, 1) := by decide +kernel
theorem dX8_drop_2 : decode cX8_drop 2 = .ok (.invokevirtual 110, 3) := by decide +kernel
theorem dX8_drop_5 : decode cX8_drop 5 = .ok (.astore 4, 2) := by decide +kernel
theorem dX8_drop_7 : decode cX8_drop 7 = .ok (.aload 4, 2) := by decide +kernel
theorem dX8_drop_9 : decode cX8_drop 9 = .ok (.ifnonnull 5, 3) := by decide +kernel
theorem dX8_drop_12 : decode cX8_drop 12 = .ok (.iconst (-1), 1) := by decide +kernel
theorem dX8_drop_13 : decode cX8_drop 13 = .ok (.ireturn, 1) := by decide +kernel
theorem dX8_drop_14 : decode cX8_drop 14 = .ok (.aload 4, 2) := by decide +kernel
theorem dX8_drop_16 : decode cX8_drop 16 = .ok (.getfield 122, 3) := by decide +kernel
theorem dX8_drop_19 : decode cX8_drop 19 = .ok (.iconst 1, 1) := by decide +kernel
theorem dX8_drop_20 : decode cX8_drop 20 = .ok (.if_icmp .eq 15, 3) := by decide +kernel
theorem dX8_drop_23 : decode cX8_drop 23 = .ok (.aload 4, 2) := by decide +kernel
theorem dX8_drop_25 : decode cX8_drop 25 = .ok (.getfield 122, 3) := by decide +kernel
theorem dX8_drop_28 : decode cX8_drop 28 = .ok (.iconst 2, 1) := by decide +kernel
theorem dX8_drop_29 : decode cX8_drop 29 = .ok (.if_icmp .eq 6, 3) := by decide +kernel
theorem dX8_drop_32 : decode cX8_drop 32 = .ok (.bipush (-2), 2) := by decide +kernel
theorem dX8_drop_34 : decode cX8_drop 34 = .ok (.ireturn, 1) := by decide +kernel
theorem dX8_drop_35 : decode cX8_drop 35 = .ok (.aload 4, 2) := by decide +kernel
theorem dX8_drop_37 : decode cX8_drop 37 = .ok (.lload_n 2, 1) := by decide +kernel
theorem dX8_drop_38 : decode cX8_drop 38 = .ok (.invokevirtual 125, 3) := by decide +kernel
theorem dX8_drop_41 : decode cX8_drop 41 = .ok (.ifCond .ne 6, 3) := by decide +kernel
theorem dX8_drop_44 : decode cX8_drop 44 = .ok (.bipush (-5), 2) := by decide +kernel
theorem dX8_drop_46 : decode cX8_drop 46 = .ok (.ireturn, 1) := by decide +kernel
theorem dX8_drop_47 : decode cX8_drop 47 = .ok (.aload 4, 2) := by decide +kernel
theorem dX8_drop_49 : decode cX8_drop 49 = .ok (.lload_n 2, 1) := by decide +kernel
theorem dX8_drop_50 : decode cX8_drop 50 = .ok (.invokevirtual 128, 3) := by decide +kernel
theorem dX8_drop_53 : decode cX8_drop 53 = .ok (.aload 4, 2) := by decide +kernel
theorem dX8_drop_55 : decode cX8_drop 55 = .ok (.getfield 95, 3) := by decide +kernel
theorem dX8_drop_58 : decode cX8_drop 58 = .ok (.invokevirtual 61, 3) := by decide +kernel
theorem dX8_drop_61 : decode cX8_drop 61 = .ok (.ireturn, 1) := by decide +kernel
set_option maxRecDepth 20000 in
theorem gu_wsX8_lets_1 : ∀ w ∈ wsX8_lets_r1, w ∈ wsX8_lets := fun _ h => List.mem_cons_of_mem _ (List.mem_append_left _ (List.mem_append_left _ (List.mem_append_left _ (List.mem_append_left _ (List.mem_append_left _ (List.mem_append_left _ h))))))
set_option maxRecDepth 20000 in
theorem gu_wsX8_lets_6 : ∀ w ∈ wsX80, w ∈ wsX8_lets := fun _ h => List.mem_cons_of_mem _ (List.mem_append_left _ (List.mem_append_left _ (List.mem_append_left _ (List.mem_append_left _ (List.mem_append_right _ h)))))
set_option maxRecDepth 20000 in
theorem ggX8_lets_X8_sieveAt : GoodIn wsX8_lets wsX8_sieveAt := goodIn_sub (gi_c (gu_wsX8_lets_1 _ gm_4) (gi_a (gi_c (gu_wsX8_lets_1 _ gm_5) (gi_c (gu_wsX8_lets_1 _ gm_6) gi_0)) (gu_wsX8_lets_6))) (by decide +kernel)
set_option maxRecDepth 20000 in
theorem gX8_lets_X8_sieveAt : GoodIn wsX8_lets (wsV RX8 110 RX8 yX8_sieveAt wsX8_sieveAt) := goodIn_app (goodIn_sub (gi_c (gu_wsX8_lets_1 _ gm_0) (gi_c (gu_wsX8_lets_1 _ gm_1) (gi_c (gu_wsX8_lets_1 _ gm_2) (gi_c (gu_wsX8_lets_1 _ gm_3) gi_0)))) (by decide +kernel)) ggX8_lets_X8_sieveAt
set_option maxRecDepth 20000 in
theorem gu_wsX8_lets_2 : ∀ w ∈ wsX8_lets_r2, w ∈ wsX8_lets := fun _ h => List.mem_cons_of_mem _ (List.mem_append_left _ (List.mem_append_left _ (List.mem_append_left _ (List.mem_append_left _ (List.mem_append_left _ (List.mem_append_right _ (List.mem_append_left _ h)))))))
set_option maxRecDepth 20000 in
theorem gu_wsX8_lets_3 : ∀ w ∈ wsX8_lets_r3, w ∈ wsX8_lets := fun _ h => List.mem_cons_of_mem _ (List.mem_append_left _ (List.mem_append_left _ (List.mem_append_left _ (List.mem_append_left _ (List.mem_append_left _ (List.mem_append_right _ (List.mem_append_right _ (List.mem_append_left _ h))))))))
set_option maxRecDepth 20000 in
theorem gu_wsX8_lets_4 : ∀ w ∈ wsX8_lets_r4, w ∈ wsX8_lets := fun _ h => List.mem_cons_of_mem _ (List.mem_append_left _ (List.mem_append_left _ (List.mem_append_left _ (List.mem_append_left _ (List.mem_append_left _ (List.mem_append_right _ (List.mem_append_right _ (List.mem_append_right _ (List.mem_append_left _ h)))))))))
set_option maxRecDepth 20000 in
theorem gu_wsX8_lets_5 : ∀ w ∈ wsX8_lets_r5, w ∈ wsX8_lets := fun _ h => List.mem_cons_of_mem _ (List.mem_append_left _ (List.mem_append_left _ (List.mem_append_left _ (List.mem_append_left _ (List.mem_append_left _ (List.mem_append_right _ (List.mem_append_right _ (List.mem_append_right _ (List.mem_append_right _ h)))))))))
set_option maxRecDepth 20000 in
theorem gu_wsX8_lets_7 : ∀ w ∈ wsX60, w ∈ wsX8_lets := fun _ h => List.mem_cons_of_mem _ (List.mem_append_left _ (List.mem_append_left _ (List.mem_append_left _ (List.mem_append_right _ h))))
set_option maxRecDepth 20000 in
theorem gu_wsX8_lets_8 : ∀ w ∈ wsX30, w ∈ wsX8_lets := fun _ h => List.mem_cons_of_mem _ (List.mem_append_left _ (List.mem_append_left _ (List.mem_append_right _ h)))
set_option maxRecDepth 20000 in
theorem gu_wsX8_lets_9 : ∀ w ∈ wsX10, w ∈ wsX8_lets := fun _ h => List.mem_cons_of_mem _ (List.mem_append_left _ (List.mem_append_right _ h))
set_option maxRecDepth 20000 in
theorem gu_wsX8_lets_10 : ∀ w ∈ wsX00, w ∈ wsX8_lets := fun _ h => List.mem_cons_of_mem _ (List.mem_append_right _ h)
set_option maxRecDepth 20000 in
theorem ggX8_lets_X6_passes : GoodIn wsX8_lets wsX6_passes := goodIn_sub (gi_c (gu_wsX8_lets_1 _ gm_11) (gi_a (gi_a (gi_a (gi_a (gi_a (gi_c (gu_wsX8_lets_1 _ gm_12) (gi_c (gu_wsX8_lets_1 _ gm_13) (gi_c (gu_wsX8_lets_1 _ gm_14) (gi_c (gu_wsX8_lets_1 _ gm_15) (gi_c (gu_wsX8_lets_1 _ gm_16) (gi_c (gu_wsX8_lets_1 _ gm_17) (gi_c (gu_wsX8_lets_1 _ gm_18) (gi_c (gu_wsX8_lets_1 _ gm_19) (gi_c (gu_wsX8_lets_1 _ gm_20) (gi_c (gu_wsX8_lets_1 _ gm_21) (gi_c (gu_wsX8_lets_1 _ gm_22) (gi_c (gu_wsX8_lets_1 _ gm_23) (gi_c (gu_wsX8_lets_2 _ gm_0) (gi_c (gu_wsX8_lets_2 _ gm_1) (gi_c (gu_wsX8_lets_2 _ gm_2) (gi_c (gu_wsX8_lets_2 _ gm_3) (gi_c (gu_wsX8_lets_2 _ gm_4) (gi_c (gu_wsX8_lets_2 _ gm_5) (gi_c (gu_wsX8_lets_2 _ gm_6) (gi_c (gu_wsX8_lets_2 _ gm_7) (gi_c (gu_wsX8_lets_2 _ gm_8) (gi_c (gu_wsX8_lets_2 _ gm_9) (gi_c (gu_wsX8_lets_2 _ gm_10) (gi_c (gu_wsX8_lets_2 _ gm_11) gi_0)))))))))))))))))))))))) (gi_a (gi_c (gu_wsX8_lets_2 _ gm_12) (gi_c (gu_wsX8_lets_2 _ gm_13) (gi_c (gu_wsX8_lets_2 _ gm_14) (gi_c (gu_wsX8_lets_2 _ gm_15) (gi_c (gu_wsX8_lets_2 _ gm_16) (gi_c (gu_wsX8_lets_2 _ gm_17) (gi_c (gu_wsX8_lets_2 _ gm_18) (gi_c (gu_wsX8_lets_2 _ gm_19) (gi_c (gu_wsX8_lets_2 _ gm_20) (gi_c (gu_wsX8_lets_2 _ gm_21) (gi_c (gu_wsX8_lets_2 _ gm_22) (gi_c (gu_wsX8_lets_2 _ gm_23) (gi_c (gu_wsX8_lets_3 _ gm_0) (gi_c (gu_wsX8_lets_3 _ gm_1) (gi_c (gu_wsX8_lets_3 _ gm_2) (gi_c (gu_wsX8_lets_3 _ gm_3) (gi_c (gu_wsX8_lets_3 _ gm_4) (gi_c (gu_wsX8_lets_3 _ gm_5) (gi_c (gu_wsX8_lets_3 _ gm_6) (gi_c (gu_wsX8_lets_3 _ gm_7) (gi_c (gu_wsX8_lets_3 _ gm_8) (gi_c (gu_wsX8_lets_3 _ gm_9) (gi_c (gu_wsX8_lets_3 _ gm_10) (gi_c (gu_wsX8_lets_3 _ gm_11) gi_0)))))))))))))))))))))))) (gi_a (gi_c (gu_wsX8_lets_3 _ gm_12) (gi_c (gu_wsX8_lets_3 _ gm_13) (gi_c (gu_wsX8_lets_3 _ gm_14) (gi_c (gu_wsX8_lets_3 _ gm_15) (gi_c (gu_wsX8_lets_3 _ gm_16) (gi_c (gu_wsX8_lets_3 _ gm_17) (gi_c (gu_wsX8_lets_3 _ gm_18) (gi_c (gu_wsX8_lets_3 _ gm_19) (gi_c (gu_wsX8_lets_3 _ gm_20) (gi_c (gu_wsX8_lets_3 _ gm_21) (gi_c (gu_wsX8_lets_3 _ gm_22) (gi_c (gu_wsX8_lets_3 _ gm_23) (gi_c (gu_wsX8_lets_4 _ gm_0) (gi_c (gu_wsX8_lets_4 _ gm_1) (gi_c (gu_wsX8_lets_4 _ gm_2) (gi_c (gu_wsX8_lets_4 _ gm_3) (gi_c (gu_wsX8_lets_4 _ gm_4) (gi_c (gu_wsX8_lets_4 _ gm_5) (gi_c (gu_wsX8_lets_4 _ gm_6) (gi_c (gu_wsX8_lets_4 _ gm_7) (gi_c (gu_wsX8_lets_4 _ gm_8) (gi_c (gu_wsX8_lets_1 _ gm_10) (gi_c (gu_wsX8_lets_4 _ gm_9) (gi_c (gu_wsX8_lets_4 _ gm_10) gi_0)))))))))))))))))))))))) (gi_a (gi_c (gu_wsX8_lets_4 _ gm_11) (gi_c (gu_wsX8_lets_4 _ gm_12) (gi_c (gu_wsX8_lets_4 _ gm_13) (gi_c (gu_wsX8_lets_4 _ gm_14) (gi_c (gu_wsX8_lets_4 _ gm_15) (gi_c (gu_wsX8_lets_4 _ gm_16) (gi_c (gu_wsX8_lets_4 _ gm_17) (gi_c (gu_wsX8_lets_4 _ gm_18) (gi_c (gu_wsX8_lets_4 _ gm_19) (gi_c (gu_wsX8_lets_4 _ gm_20) (gi_c (gu_wsX8_lets_4 _ gm_21) (gi_c (gu_wsX8_lets_4 _ gm_22) (gi_c (gu_wsX8_lets_4 _ gm_23) (gi_c (gu_wsX8_lets_5 _ gm_0) (gi_c (gu_wsX8_lets_5 _ gm_1) (gi_c (gu_wsX8_lets_5 _ gm_2) (gi_c (gu_wsX8_lets_5 _ gm_3) (gi_c (gu_wsX8_lets_5 _ gm_4) (gi_c (gu_wsX8_lets_5 _ gm_5) (gi_c (gu_wsX8_lets_5 _ gm_6) (gi_c (gu_wsX8_lets_5 _ gm_7) (gi_c (gu_wsX8_lets_5 _ gm_8) (gi_c (gu_wsX8_lets_5 _ gm_9) (gi_c (gu_wsX8_lets_5 _ gm_10) gi_0)))))))))))))))))))))))) (gi_c (gu_wsX8_lets_5 _ gm_11) (gi_c (gu_wsX8_lets_5 _ gm_12) (gi_c (gu_wsX8_lets_5 _ gm_13) (gi_c (gu_wsX8_lets_5 _ gm_14) gi_0)))))))) (gu_wsX8_lets_7)) (gu_wsX8_lets_8)) (gu_wsX8_lets_9)) (gu_wsX8_lets_10))) (by decide +kernel)
set_option maxRecDepth 20000 in
theorem gX8_lets_X6_passes : GoodIn wsX8_lets (wsV RX8 125 RX6 yX6_passes wsX6_passes) := goodIn_app (goodIn_sub (gi_c (gu_wsX8_lets_1 _ gm_7) (gi_c (gu_wsX8_lets_1 _ gm_8) (gi_c (gu_wsX8_lets_1 _ gm_9) (gi_c (gu_wsX8_lets_1 _ gm_10) gi_0)))) (by decide +kernel)) ggX8_lets_X6_passes
theorem dX8_lets_0 : decode cX8_lets 0 = .ok (.aload_n 0, 1) := by decide +kernel
theorem dX8_lets_1 : decode cX8_lets 1 = .ok (.iload_n 1, 1) := by decide +kernel
theorem dX8_lets_2 : decode cX8_lets 2 = .ok (.invokevirtual 110, 3) := by decide +kernel
theorem dX8_lets_5 : decode cX8_lets 5 = .ok (.astore 4, 2) := by decide +kernel
theorem dX8_lets_7 : decode cX8_lets 7 = .ok (.aload 4, 2) := by decide +kernel
theorem dX8_lets_9 : decode cX8_lets 9 = .ok (.ifnonnull 5, 3) := by decide +kernel
theorem dX8_lets_12 : decode cX8_lets 12 = .ok (.iconst (-1), 1) := by decide +kernel
theorem dX8_lets_13 : decode cX8_lets 13 = .ok (.ireturn, 1) := by decide +kernel
theorem dX8_lets_14 : decode cX8_lets 14 = .ok (.aload 4, 2) := by decide +kernel
theorem dX8_lets_16 : decode cX8_lets 16 = .ok (.lload_n 2, 1) := by decide +kernel
theorem dX8_lets_17 : decode cX8_lets 17 = .ok (.invokevirtual 125, 3) := by decide +kernel
theorem dX8_lets_20 : decode cX8_lets 20 = .ok (.ifCond .eq 7, 3) := by decide +kernel
theorem dX8_lets_23 : decode cX8_lets 23 = .ok (.iconst 1, 1) := by decide +kernel
theorem dX8_lets_24 : decode cX8_lets 24 = .ok (.goto 4, 3) := by decide +kernel
theorem dX8_lets_27 : decode cX8_lets 27 = .ok (.iconst 0, 1) := by decide +kernel
theorem dX8_lets_28 : decode cX8_lets 28 = .ok (.ireturn, 1) := by decide +kernel
set_option maxRecDepth 20000 in
theorem gu_wsX8_falses_1 : ∀ w ∈ wsX8_falses_r1, w ∈ wsX8_falses := fun _ h => List.mem_cons_of_mem _ (List.mem_append_left _ (List.mem_append_left _ (List.mem_append_left _ (List.mem_append_left _ (List.mem_append_left _ (List.mem_append_left _ h))))))
set_option maxRecDepth 20000 in
theorem gu_wsX8_falses_7 : ∀ w ∈ wsX80, w ∈ wsX8_falses := fun _ h => List.mem_cons_of_mem _ (List.mem_append_left _ (List.mem_append_left _ (List.mem_append_left _ (List.mem_append_left _ (List.mem_append_right _ h)))))
set_option maxRecDepth 20000 in
theorem ggX8_falses_X8_sieveAt : GoodIn wsX8_falses wsX8_sieveAt := goodIn_sub (gi_c (gu_wsX8_falses_1 _ gm_4) (gi_a (gi_c (gu_wsX8_falses_1 _ gm_5) (gi_c (gu_wsX8_falses_1 _ gm_6) gi_0)) (gu_wsX8_falses_7))) (by decide +kernel)
set_option maxRecDepth 20000 in
theorem gX8_falses_X8_sieveAt : GoodIn wsX8_falses (wsV RX8 110 RX8 yX8_sieveAt wsX8_sieveAt) := goodIn_app (goodIn_sub (gi_c (gu_wsX8_falses_1 _ gm_0) (gi_c (gu_wsX8_falses_1 _ gm_1) (gi_c (gu_wsX8_falses_1 _ gm_2) (gi_c (gu_wsX8_falses_1 _ gm_3) gi_0)))) (by decide +kernel)) ggX8_falses_X8_sieveAt
set_option maxRecDepth 20000 in
theorem ggX8_falses_X8_worldAt : GoodIn wsX8_falses wsX8_worldAt := goodIn_sub (gi_c (gu_wsX8_falses_1 _ gm_10) (gi_a (gi_c (gu_wsX8_falses_1 _ gm_11) gi_0) (gu_wsX8_falses_7))) (by decide +kernel)
set_option maxRecDepth 20000 in
theorem gX8_falses_X8_worldAt : GoodIn wsX8_falses (wsV RX8 46 RX8 yX8_worldAt wsX8_worldAt) := goodIn_app (goodIn_sub (gi_c (gu_wsX8_falses_1 _ gm_7) (gi_c (gu_wsX8_falses_1 _ gm_8) (gi_c (gu_wsX8_falses_1 _ gm_9) (gi_c (gu_wsX8_falses_1 _ gm_3) gi_0)))) (by decide +kernel)) ggX8_falses_X8_worldAt
set_option maxRecDepth 20000 in
theorem gu_wsX8_falses_8 : ∀ w ∈ wsX00, w ∈ wsX8_falses := fun _ h => List.mem_cons_of_mem _ (List.mem_append_left _ (List.mem_append_left _ (List.mem_append_left _ (List.mem_append_right _ h))))
set_option maxRecDepth 20000 in
theorem ggX8_falses_X0_count : GoodIn wsX8_falses wsX0_count := goodIn_sub (gi_c (gu_wsX8_falses_1 _ gm_16) (gi_a (gi_c (gu_wsX8_falses_1 _ gm_17) gi_0) (gu_wsX8_falses_8))) (by decide +kernel)
set_option maxRecDepth 20000 in
theorem gX8_falses_X0_count : GoodIn wsX8_falses (wsV RX8 61 RX0 yX0_count wsX0_count) := goodIn_app (goodIn_sub (gi_c (gu_wsX8_falses_1 _ gm_12) (gi_c (gu_wsX8_falses_1 _ gm_13) (gi_c (gu_wsX8_falses_1 _ gm_14) (gi_c (gu_wsX8_falses_1 _ gm_15) gi_0)))) (by decide +kernel)) ggX8_falses_X0_count
set_option maxRecDepth 20000 in
theorem ggX8_falses_X0_at : GoodIn wsX8_falses wsX0_at := goodIn_sub (gi_c (gu_wsX8_falses_1 _ gm_21) (gi_a (gi_c (gu_wsX8_falses_1 _ gm_17) (gi_c (gu_wsX8_falses_1 _ gm_22) gi_0)) (gu_wsX8_falses_8))) (by decide +kernel)
set_option maxRecDepth 20000 in
theorem gX8_falses_X0_at : GoodIn wsX8_falses (wsV RX8 68 RX0 yX0_at wsX0_at) := goodIn_app (goodIn_sub (gi_c (gu_wsX8_falses_1 _ gm_18) (gi_c (gu_wsX8_falses_1 _ gm_19) (gi_c (gu_wsX8_falses_1 _ gm_20) (gi_c (gu_wsX8_falses_1 _ gm_15) gi_0)))) (by decide +kernel)) ggX8_falses_X0_at
set_option maxRecDepth 20000 in
theorem gu_wsX8_falses_3 : ∀ w ∈ wsX8_falses_r3, w ∈ wsX8_falses := fun _ h => List.mem_cons_of_mem _ (List.mem_append_left _ (List.mem_append_left _ (List.mem_append_left _ (List.mem_append_left _ (List.mem_append_left _ (List.mem_append_right _ (List.mem_append_right _ (List.mem_append_left _ h))))))))
set_option maxRecDepth 20000 in
theorem gu_wsX8_falses_2 : ∀ w ∈ wsX8_falses_r2, w ∈ wsX8_falses := fun _ h => List.mem_cons_of_mem _ (List.mem_append_left _ (List.mem_append_left _ (List.mem_append_left _ (List.mem_append_left _ (List.mem_append_left _ (List.mem_append_right _ (List.mem_append_left _ h)))))))
set_option maxRecDepth 20000 in
theorem gu_wsX8_falses_4 : ∀ w ∈ wsX8_falses_r4, w ∈ wsX8_falses := fun _ h => List.mem_cons_of_mem _ (List.mem_append_left _ (List.mem_append_left _ (List.mem_append_left _ (List.mem_append_left _ (List.mem_append_left _ (List.mem_append_right _ (List.mem_append_right _ (List.mem_append_right _ (List.mem_append_left _ h)))))))))
set_option maxRecDepth 20000 in
theorem gu_wsX8_falses_5 : ∀ w ∈ wsX8_falses_r5, w ∈ wsX8_falses := fun _ h => List.mem_cons_of_mem _ (List.mem_append_left _ (List.mem_append_left _ (List.mem_append_left _ (List.mem_append_left _ (List.mem_append_left _ (List.mem_append_right _ (List.mem_append_right _ (List.mem_append_right _ (List.mem_append_right _ (List.mem_append_left _ h))))))))))
set_option maxRecDepth 20000 in
theorem gu_wsX8_falses_6 : ∀ w ∈ wsX8_falses_r6, w ∈ wsX8_falses := fun _ h => List.mem_cons_of_mem _ (List.mem_append_left _ (List.mem_append_left _ (List.mem_append_left _ (List.mem_append_left _ (List.mem_append_left _ (List.mem_append_right _ (List.mem_append_right _ (List.mem_append_right _ (List.mem_append_right _ (List.mem_append_right _ h))))))))))
set_option maxRecDepth 20000 in
theorem gu_wsX8_falses_9 : ∀ w ∈ wsX60, w ∈ wsX8_falses := fun _ h => List.mem_cons_of_mem _ (List.mem_append_left _ (List.mem_append_left _ (List.mem_append_right _ h)))
set_option maxRecDepth 20000 in
theorem gu_wsX8_falses_10 : ∀ w ∈ wsX30, w ∈ wsX8_falses := fun _ h => List.mem_cons_of_mem _ (List.mem_append_left _ (List.mem_append_right _ h))
set_option maxRecDepth 20000 in
theorem gu_wsX8_falses_11 : ∀ w ∈ wsX10, w ∈ wsX8_falses := fun _ h => List.mem_cons_of_mem _ (List.mem_append_right _ h)
set_option maxRecDepth 20000 in
theorem ggX8_falses_X6_passesFalsely : GoodIn wsX8_falses wsX6_passesFalsely := goodIn_sub (gi_c (gu_wsX8_falses_2 _ gm_3) (gi_a (gi_a (gi_a (gi_a (gi_a (gi_c (gu_wsX8_falses_2 _ gm_4) (gi_c (gu_wsX8_falses_2 _ gm_5) (gi_c (gu_wsX8_falses_2 _ gm_6) (gi_c (gu_wsX8_falses_2 _ gm_7) (gi_c (gu_wsX8_falses_2 _ gm_2) (gi_c (gu_wsX8_falses_2 _ gm_8) (gi_c (gu_wsX8_falses_2 _ gm_9) (gi_c (gu_wsX8_falses_2 _ gm_10) (gi_c (gu_wsX8_falses_2 _ gm_11) (gi_c (gu_wsX8_falses_2 _ gm_12) (gi_c (gu_wsX8_falses_2 _ gm_13) (gi_c (gu_wsX8_falses_2 _ gm_14) (gi_c (gu_wsX8_falses_2 _ gm_15) (gi_c (gu_wsX8_falses_2 _ gm_16) (gi_c (gu_wsX8_falses_2 _ gm_17) (gi_c (gu_wsX8_falses_2 _ gm_18) (gi_c (gu_wsX8_falses_2 _ gm_19) (gi_c (gu_wsX8_falses_2 _ gm_20) (gi_c (gu_wsX8_falses_2 _ gm_21) (gi_c (gu_wsX8_falses_2 _ gm_22) (gi_c (gu_wsX8_falses_2 _ gm_23) (gi_c (gu_wsX8_falses_3 _ gm_0) (gi_c (gu_wsX8_falses_3 _ gm_1) (gi_c (gu_wsX8_falses_3 _ gm_2) gi_0)))))))))))))))))))))))) (gi_a (gi_c (gu_wsX8_falses_3 _ gm_3) (gi_c (gu_wsX8_falses_3 _ gm_4) (gi_c (gu_wsX8_falses_3 _ gm_5) (gi_c (gu_wsX8_falses_3 _ gm_6) (gi_c (gu_wsX8_falses_3 _ gm_7) (gi_c (gu_wsX8_falses_3 _ gm_8) (gi_c (gu_wsX8_falses_3 _ gm_9) (gi_c (gu_wsX8_falses_3 _ gm_10) (gi_c (gu_wsX8_falses_3 _ gm_11) (gi_c (gu_wsX8_falses_3 _ gm_12) (gi_c (gu_wsX8_falses_3 _ gm_13) (gi_c (gu_wsX8_falses_3 _ gm_14) (gi_c (gu_wsX8_falses_3 _ gm_15) (gi_c (gu_wsX8_falses_3 _ gm_16) (gi_c (gu_wsX8_falses_3 _ gm_17) (gi_c (gu_wsX8_falses_3 _ gm_18) (gi_c (gu_wsX8_falses_3 _ gm_19) (gi_c (gu_wsX8_falses_3 _ gm_20) (gi_c (gu_wsX8_falses_3 _ gm_21) (gi_c (gu_wsX8_falses_3 _ gm_22) (gi_c (gu_wsX8_falses_3 _ gm_23) (gi_c (gu_wsX8_falses_4 _ gm_0) (gi_c (gu_wsX8_falses_4 _ gm_1) (gi_c (gu_wsX8_falses_1 _ gm_15) gi_0)))))))))))))))))))))))) (gi_a (gi_c (gu_wsX8_falses_4 _ gm_2) (gi_c (gu_wsX8_falses_1 _ gm_17) (gi_c (gu_wsX8_falses_1 _ gm_22) (gi_c (gu_wsX8_falses_4 _ gm_3) (gi_c (gu_wsX8_falses_4 _ gm_4) (gi_c (gu_wsX8_falses_4 _ gm_5) (gi_c (gu_wsX8_falses_4 _ gm_6) (gi_c (gu_wsX8_falses_4 _ gm_7) (gi_c (gu_wsX8_falses_4 _ gm_8) (gi_c (gu_wsX8_falses_4 _ gm_9) (gi_c (gu_wsX8_falses_4 _ gm_10) (gi_c (gu_wsX8_falses_4 _ gm_11) (gi_c (gu_wsX8_falses_4 _ gm_12) (gi_c (gu_wsX8_falses_4 _ gm_13) (gi_c (gu_wsX8_falses_4 _ gm_14) (gi_c (gu_wsX8_falses_4 _ gm_15) (gi_c (gu_wsX8_falses_4 _ gm_16) (gi_c (gu_wsX8_falses_4 _ gm_17) (gi_c (gu_wsX8_falses_4 _ gm_18) (gi_c (gu_wsX8_falses_4 _ gm_19) (gi_c (gu_wsX8_falses_4 _ gm_20) (gi_c (gu_wsX8_falses_4 _ gm_21) (gi_c (gu_wsX8_falses_4 _ gm_22) (gi_c (gu_wsX8_falses_4 _ gm_23) gi_0)))))))))))))))))))))))) (gi_a (gi_c (gu_wsX8_falses_5 _ gm_0) (gi_c (gu_wsX8_falses_5 _ gm_1) (gi_c (gu_wsX8_falses_5 _ gm_2) (gi_c (gu_wsX8_falses_5 _ gm_3) (gi_c (gu_wsX8_falses_5 _ gm_4) (gi_c (gu_wsX8_falses_5 _ gm_5) (gi_c (gu_wsX8_falses_5 _ gm_6) (gi_c (gu_wsX8_falses_5 _ gm_7) (gi_c (gu_wsX8_falses_5 _ gm_8) (gi_c (gu_wsX8_falses_5 _ gm_9) (gi_c (gu_wsX8_falses_5 _ gm_10) (gi_c (gu_wsX8_falses_5 _ gm_11) (gi_c (gu_wsX8_falses_5 _ gm_12) (gi_c (gu_wsX8_falses_5 _ gm_13) (gi_c (gu_wsX8_falses_5 _ gm_14) (gi_c (gu_wsX8_falses_5 _ gm_15) (gi_c (gu_wsX8_falses_5 _ gm_16) (gi_c (gu_wsX8_falses_5 _ gm_17) (gi_c (gu_wsX8_falses_5 _ gm_18) (gi_c (gu_wsX8_falses_5 _ gm_19) (gi_c (gu_wsX8_falses_5 _ gm_20) (gi_c (gu_wsX8_falses_5 _ gm_21) (gi_c (gu_wsX8_falses_5 _ gm_22) (gi_c (gu_wsX8_falses_5 _ gm_23) gi_0)))))))))))))))))))))))) (gi_c (gu_wsX8_falses_6 _ gm_0) (gi_c (gu_wsX8_falses_6 _ gm_1) (gi_c (gu_wsX8_falses_6 _ gm_2) (gi_c (gu_wsX8_falses_6 _ gm_3) (gi_c (gu_wsX8_falses_6 _ gm_4) (gi_c (gu_wsX8_falses_6 _ gm_5) (gi_c (gu_wsX8_falses_6 _ gm_6) (gi_c (gu_wsX8_falses_6 _ gm_7) (gi_c (gu_wsX8_falses_6 _ gm_8) (gi_c (gu_wsX8_falses_6 _ gm_9) gi_0)))))))))))))) (gu_wsX8_falses_9)) (gu_wsX8_falses_10)) (gu_wsX8_falses_11)) (gu_wsX8_falses_8))) (by decide +kernel)
set_option maxRecDepth 20000 in
theorem gX8_falses_X6_passesFalsely : GoodIn wsX8_falses (wsV RX8 132 RX6 yX6_passesFalsely wsX6_passesFalsely) := goodIn_app (goodIn_sub (gi_c (gu_wsX8_falses_1 _ gm_23) (gi_c (gu_wsX8_falses_2 _ gm_0) (gi_c (gu_wsX8_falses_2 _ gm_1) (gi_c (gu_wsX8_falses_2 _ gm_2) gi_0)))) (by decide +kernel)) ggX8_falses_X6_passesFalsely
theorem dX8_falses_0 : decode cX8_falses 0 = .ok (.aload_n 0, 1) := by decide +kernel
theorem dX8_falses_1 : decode cX8_falses 1 = .ok (.iload_n 1, 1) := by decide +kernel
theorem dX8_falses_2 : decode cX8_falses 2 = .ok (.invokevirtual 110, 3) := by decide +kernel
theorem dX8_falses_5 : decode cX8_falses 5 = .ok (.astore_n 3, 1) := by decide +kernel
theorem dX8_falses_6 : decode cX8_falses 6 = .ok (.aload_n 0, 1) := by decide +kernel
theorem dX8_falses_7 : decode cX8_falses 7 = .ok (.iload_n 2, 1) := by decide +kernel
theorem dX8_falses_8 : decode cX8_falses 8 = .ok (.invokevirtual 46, 3) := by decide +kernel
theorem dX8_falses_11 : decode cX8_falses 11 = .ok (.astore 4, 2) := by decide +kernel
theorem dX8_falses_13 : decode cX8_falses 13 = .ok (.aload_n 3, 1) := by decide +kernel
theorem dX8_falses_14 : decode cX8_falses 14 = .ok (.ifnull 8, 3) := by decide +kernel
theorem dX8_falses_17 : decode cX8_falses 17 = .ok (.aload 4, 2) := by decide +kernel
theorem dX8_falses_19 : decode cX8_falses 19 = .ok (.ifnonnull 5, 3) := by decide +kernel
theorem dX8_falses_22 : decode cX8_falses 22 = .ok (.iconst (-1), 1) := by decide +kernel
theorem dX8_falses_23 : decode cX8_falses 23 = .ok (.ireturn, 1) := by decide +kernel
theorem dX8_falses_24 : decode cX8_falses 24 = .ok (.iconst 0, 1) := by decide +kernel
theorem dX8_falses_25 : decode cX8_falses 25 = .ok (.istore 5, 2) := by decide +kernel
theorem dX8_falses_27 : decode cX8_falses 27 = .ok (.iconst 0, 1) := by decide +kernel
theorem dX8_falses_28 : decode cX8_falses 28 = .ok (.istore 6, 2) := by decide +kernel
theorem dX8_falses_30 : decode cX8_falses 30 = .ok (.iload 6, 2) := by decide +kernel
theorem dX8_falses_32 : decode cX8_falses 32 = .ok (.aload 4, 2) := by decide +kernel
theorem dX8_falses_34 : decode cX8_falses 34 = .ok (.invokevirtual 61, 3) := by decide +kernel
theorem dX8_falses_37 : decode cX8_falses 37 = .ok (.if_icmp .ge 26, 3) := by decide +kernel
theorem dX8_falses_40 : decode cX8_falses 40 = .ok (.aload_n 3, 1) := by decide +kernel
theorem dX8_falses_41 : decode cX8_falses 41 = .ok (.aload 4, 2) := by decide +kernel
theorem dX8_falses_43 : decode cX8_falses 43 = .ok (.iload 6, 2) := by decide +kernel
theorem dX8_falses_45 : decode cX8_falses 45 = .ok (.invokevirtual 68, 3) := by decide +kernel
theorem dX8_falses_48 : decode cX8_falses 48 = .ok (.invokevirtual 132, 3) := by decide +kernel
theorem dX8_falses_51 : decode cX8_falses 51 = .ok (.ifCond .eq 6, 3) := by decide +kernel
theorem dX8_falses_54 : decode cX8_falses 54 = .ok (.iinc 5 1, 3) := by decide +kernel
theorem dX8_falses_57 : decode cX8_falses 57 = .ok (.iinc 6 1, 3) := by decide +kernel
theorem dX8_falses_60 : decode cX8_falses 60 = .ok (.goto (-30), 3) := by decide +kernel
theorem dX8_falses_63 : decode cX8_falses 63 = .ok (.iload 5, 2) := by decide +kernel
theorem dX8_falses_65 : decode cX8_falses 65 = .ok (.ireturn, 1) := by decide +kernel
set_option maxRecDepth 20000 in
theorem gu_wsX8_falseOne_1 : ∀ w ∈ wsX8_falseOne_r1, w ∈ wsX8_falseOne := fun _ h => List.mem_cons_of_mem _ (List.mem_append_left _ (List.mem_append_left _ (List.mem_append_left _ (List.mem_append_left _ (List.mem_append_left _ (List.mem_append_left _ h))))))
set_option maxRecDepth 20000 in
theorem gu_wsX8_falseOne_7 : ∀ w ∈ wsX80, w ∈ wsX8_falseOne := fun _ h => List.mem_cons_of_mem _ (List.mem_append_left _ (List.mem_append_left _ (List.mem_append_left _ (List.mem_append_left _ (List.mem_append_right _ h)))))
set_option maxRecDepth 20000 in
theorem ggX8_falseOne_X8_sieveAt : GoodIn wsX8_falseOne wsX8_sieveAt := goodIn_sub (gi_c (gu_wsX8_falseOne_1 _ gm_4) (gi_a (gi_c (gu_wsX8_falseOne_1 _ gm_5) (gi_c (gu_wsX8_falseOne_1 _ gm_6) gi_0)) (gu_wsX8_falseOne_7))) (by decide +kernel)
set_option maxRecDepth 20000 in
theorem gX8_falseOne_X8_sieveAt : GoodIn wsX8_falseOne (wsV RX8 110 RX8 yX8_sieveAt wsX8_sieveAt) := goodIn_app (goodIn_sub (gi_c (gu_wsX8_falseOne_1 _ gm_0) (gi_c (gu_wsX8_falseOne_1 _ gm_1) (gi_c (gu_wsX8_falseOne_1 _ gm_2) (gi_c (gu_wsX8_falseOne_1 _ gm_3) gi_0)))) (by decide +kernel)) ggX8_falseOne_X8_sieveAt
set_option maxRecDepth 20000 in
theorem ggX8_falseOne_X8_worldAt : GoodIn wsX8_falseOne wsX8_worldAt := goodIn_sub (gi_c (gu_wsX8_falseOne_1 _ gm_10) (gi_a (gi_c (gu_wsX8_falseOne_1 _ gm_11) gi_0) (gu_wsX8_falseOne_7))) (by decide +kernel)
set_option maxRecDepth 20000 in
theorem gX8_falseOne_X8_worldAt : GoodIn wsX8_falseOne (wsV RX8 46 RX8 yX8_worldAt wsX8_worldAt) := goodIn_app (goodIn_sub (gi_c (gu_wsX8_falseOne_1 _ gm_7) (gi_c (gu_wsX8_falseOne_1 _ gm_8) (gi_c (gu_wsX8_falseOne_1 _ gm_9) (gi_c (gu_wsX8_falseOne_1 _ gm_3) gi_0)))) (by decide +kernel)) ggX8_falseOne_X8_worldAt
set_option maxRecDepth 20000 in
theorem gu_wsX8_falseOne_8 : ∀ w ∈ wsX00, w ∈ wsX8_falseOne := fun _ h => List.mem_cons_of_mem _ (List.mem_append_left _ (List.mem_append_left _ (List.mem_append_left _ (List.mem_append_right _ h))))
set_option maxRecDepth 20000 in
theorem ggX8_falseOne_X0_count : GoodIn wsX8_falseOne wsX0_count := goodIn_sub (gi_c (gu_wsX8_falseOne_1 _ gm_16) (gi_a (gi_c (gu_wsX8_falseOne_1 _ gm_17) gi_0) (gu_wsX8_falseOne_8))) (by decide +kernel)
set_option maxRecDepth 20000 in
theorem gX8_falseOne_X0_count : GoodIn wsX8_falseOne (wsV RX8 61 RX0 yX0_count wsX0_count) := goodIn_app (goodIn_sub (gi_c (gu_wsX8_falseOne_1 _ gm_12) (gi_c (gu_wsX8_falseOne_1 _ gm_13) (gi_c (gu_wsX8_falseOne_1 _ gm_14) (gi_c (gu_wsX8_falseOne_1 _ gm_15) gi_0)))) (by decide +kernel)) ggX8_falseOne_X0_count
set_option maxRecDepth 20000 in
theorem ggX8_falseOne_X0_at : GoodIn wsX8_falseOne wsX0_at := goodIn_sub (gi_c (gu_wsX8_falseOne_1 _ gm_21) (gi_a (gi_c (gu_wsX8_falseOne_1 _ gm_17) (gi_c (gu_wsX8_falseOne_1 _ gm_22) gi_0)) (gu_wsX8_falseOne_8))) (by decide +kernel)
set_option maxRecDepth 20000 in
theorem gX8_falseOne_X0_at : GoodIn wsX8_falseOne (wsV RX8 68 RX0 yX0_at wsX0_at) := goodIn_app (goodIn_sub (gi_c (gu_wsX8_falseOne_1 _ gm_18) (gi_c (gu_wsX8_falseOne_1 _ gm_19) (gi_c (gu_wsX8_falseOne_1 _ gm_20) (gi_c (gu_wsX8_falseOne_1 _ gm_15) gi_0)))) (by decide +kernel)) ggX8_falseOne_X0_at
set_option maxRecDepth 20000 in
theorem gu_wsX8_falseOne_3 : ∀ w ∈ wsX8_falseOne_r3, w ∈ wsX8_falseOne := fun _ h => List.mem_cons_of_mem _ (List.mem_append_left _ (List.mem_append_left _ (List.mem_append_left _ (List.mem_append_left _ (List.mem_append_left _ (List.mem_append_right _ (List.mem_append_right _ (List.mem_append_left _ h))))))))
set_option maxRecDepth 20000 in
theorem gu_wsX8_falseOne_2 : ∀ w ∈ wsX8_falseOne_r2, w ∈ wsX8_falseOne := fun _ h => List.mem_cons_of_mem _ (List.mem_append_left _ (List.mem_append_left _ (List.mem_append_left _ (List.mem_append_left _ (List.mem_append_left _ (List.mem_append_right _ (List.mem_append_left _ h)))))))
set_option maxRecDepth 20000 in
theorem gu_wsX8_falseOne_4 : ∀ w ∈ wsX8_falseOne_r4, w ∈ wsX8_falseOne := fun _ h => List.mem_cons_of_mem _ (List.mem_append_left _ (List.mem_append_left _ (List.mem_append_left _ (List.mem_append_left _ (List.mem_append_left _ (List.mem_append_right _ (List.mem_append_right _ (List.mem_append_right _ (List.mem_append_left _ h)))))))))
set_option maxRecDepth 20000 in
theorem gu_wsX8_falseOne_5 : ∀ w ∈ wsX8_falseOne_r5, w ∈ wsX8_falseOne := fun _ h => List.mem_cons_of_mem _ (List.mem_append_left _ (List.mem_append_left _ (List.mem_append_left _ (List.mem_append_left _ (List.mem_append_left _ (List.mem_append_right _ (List.mem_append_right _ (List.mem_append_right _ (List.mem_append_right _ (List.mem_append_left _ h))))))))))
set_option maxRecDepth 20000 in
theorem gu_wsX8_falseOne_6 : ∀ w ∈ wsX8_falseOne_r6, w ∈ wsX8_falseOne := fun _ h => List.mem_cons_of_mem _ (List.mem_append_left _ (List.mem_append_left _ (List.mem_append_left _ (List.mem_append_left _ (List.mem_append_left _ (List.mem_append_right _ (List.mem_append_right _ (List.mem_append_right _ (List.mem_append_right _ (List.mem_append_right _ h))))))))))
set_option maxRecDepth 20000 in
theorem gu_wsX8_falseOne_9 : ∀ w ∈ wsX60, w ∈ wsX8_falseOne := fun _ h => List.mem_cons_of_mem _ (List.mem_append_left _ (List.mem_append_left _ (List.mem_append_right _ h)))
set_option maxRecDepth 20000 in
theorem gu_wsX8_falseOne_10 : ∀ w ∈ wsX30, w ∈ wsX8_falseOne := fun _ h => List.mem_cons_of_mem _ (List.mem_append_left _ (List.mem_append_right _ h))
set_option maxRecDepth 20000 in
theorem gu_wsX8_falseOne_11 : ∀ w ∈ wsX10, w ∈ wsX8_falseOne := fun _ h => List.mem_cons_of_mem _ (List.mem_append_right _ h)
set_option maxRecDepth 20000 in
theorem ggX8_falseOne_X6_passesFalsely : GoodIn wsX8_falseOne wsX6_passesFalsely := goodIn_sub (gi_c (gu_wsX8_falseOne_2 _ gm_3) (gi_a (gi_a (gi_a (gi_a (gi_a (gi_c (gu_wsX8_falseOne_2 _ gm_4) (gi_c (gu_wsX8_falseOne_2 _ gm_5) (gi_c (gu_wsX8_falseOne_2 _ gm_6) (gi_c (gu_wsX8_falseOne_2 _ gm_7) (gi_c (gu_wsX8_falseOne_2 _ gm_2) (gi_c (gu_wsX8_falseOne_2 _ gm_8) (gi_c (gu_wsX8_falseOne_2 _ gm_9) (gi_c (gu_wsX8_falseOne_2 _ gm_10) (gi_c (gu_wsX8_falseOne_2 _ gm_11) (gi_c (gu_wsX8_falseOne_2 _ gm_12) (gi_c (gu_wsX8_falseOne_2 _ gm_13) (gi_c (gu_wsX8_falseOne_2 _ gm_14) (gi_c (gu_wsX8_falseOne_2 _ gm_15) (gi_c (gu_wsX8_falseOne_2 _ gm_16) (gi_c (gu_wsX8_falseOne_2 _ gm_17) (gi_c (gu_wsX8_falseOne_2 _ gm_18) (gi_c (gu_wsX8_falseOne_2 _ gm_19) (gi_c (gu_wsX8_falseOne_2 _ gm_20) (gi_c (gu_wsX8_falseOne_2 _ gm_21) (gi_c (gu_wsX8_falseOne_2 _ gm_22) (gi_c (gu_wsX8_falseOne_2 _ gm_23) (gi_c (gu_wsX8_falseOne_3 _ gm_0) (gi_c (gu_wsX8_falseOne_3 _ gm_1) (gi_c (gu_wsX8_falseOne_3 _ gm_2) gi_0)))))))))))))))))))))))) (gi_a (gi_c (gu_wsX8_falseOne_3 _ gm_3) (gi_c (gu_wsX8_falseOne_3 _ gm_4) (gi_c (gu_wsX8_falseOne_3 _ gm_5) (gi_c (gu_wsX8_falseOne_3 _ gm_6) (gi_c (gu_wsX8_falseOne_3 _ gm_7) (gi_c (gu_wsX8_falseOne_3 _ gm_8) (gi_c (gu_wsX8_falseOne_3 _ gm_9) (gi_c (gu_wsX8_falseOne_3 _ gm_10) (gi_c (gu_wsX8_falseOne_3 _ gm_11) (gi_c (gu_wsX8_falseOne_3 _ gm_12) (gi_c (gu_wsX8_falseOne_3 _ gm_13) (gi_c (gu_wsX8_falseOne_3 _ gm_14) (gi_c (gu_wsX8_falseOne_3 _ gm_15) (gi_c (gu_wsX8_falseOne_3 _ gm_16) (gi_c (gu_wsX8_falseOne_3 _ gm_17) (gi_c (gu_wsX8_falseOne_3 _ gm_18) (gi_c (gu_wsX8_falseOne_3 _ gm_19) (gi_c (gu_wsX8_falseOne_3 _ gm_20) (gi_c (gu_wsX8_falseOne_3 _ gm_21) (gi_c (gu_wsX8_falseOne_3 _ gm_22) (gi_c (gu_wsX8_falseOne_3 _ gm_23) (gi_c (gu_wsX8_falseOne_4 _ gm_0) (gi_c (gu_wsX8_falseOne_4 _ gm_1) (gi_c (gu_wsX8_falseOne_1 _ gm_15) gi_0)))))))))))))))))))))))) (gi_a (gi_c (gu_wsX8_falseOne_4 _ gm_2) (gi_c (gu_wsX8_falseOne_1 _ gm_17) (gi_c (gu_wsX8_falseOne_1 _ gm_22) (gi_c (gu_wsX8_falseOne_4 _ gm_3) (gi_c (gu_wsX8_falseOne_4 _ gm_4) (gi_c (gu_wsX8_falseOne_4 _ gm_5) (gi_c (gu_wsX8_falseOne_4 _ gm_6) (gi_c (gu_wsX8_falseOne_4 _ gm_7) (gi_c (gu_wsX8_falseOne_4 _ gm_8) (gi_c (gu_wsX8_falseOne_4 _ gm_9) (gi_c (gu_wsX8_falseOne_4 _ gm_10) (gi_c (gu_wsX8_falseOne_4 _ gm_11) (gi_c (gu_wsX8_falseOne_4 _ gm_12) (gi_c (gu_wsX8_falseOne_4 _ gm_13) (gi_c (gu_wsX8_falseOne_4 _ gm_14) (gi_c (gu_wsX8_falseOne_4 _ gm_15) (gi_c (gu_wsX8_falseOne_4 _ gm_16) (gi_c (gu_wsX8_falseOne_4 _ gm_17) (gi_c (gu_wsX8_falseOne_4 _ gm_18) (gi_c (gu_wsX8_falseOne_4 _ gm_19) (gi_c (gu_wsX8_falseOne_4 _ gm_20) (gi_c (gu_wsX8_falseOne_4 _ gm_21) (gi_c (gu_wsX8_falseOne_4 _ gm_22) (gi_c (gu_wsX8_falseOne_4 _ gm_23) gi_0)))))))))))))))))))))))) (gi_a (gi_c (gu_wsX8_falseOne_5 _ gm_0) (gi_c (gu_wsX8_falseOne_5 _ gm_1) (gi_c (gu_wsX8_falseOne_5 _ gm_2) (gi_c (gu_wsX8_falseOne_5 _ gm_3) (gi_c (gu_wsX8_falseOne_5 _ gm_4) (gi_c (gu_wsX8_falseOne_5 _ gm_5) (gi_c (gu_wsX8_falseOne_5 _ gm_6) (gi_c (gu_wsX8_falseOne_5 _ gm_7) (gi_c (gu_wsX8_falseOne_5 _ gm_8) (gi_c (gu_wsX8_falseOne_5 _ gm_9) (gi_c (gu_wsX8_falseOne_5 _ gm_10) (gi_c (gu_wsX8_falseOne_5 _ gm_11) (gi_c (gu_wsX8_falseOne_5 _ gm_12) (gi_c (gu_wsX8_falseOne_5 _ gm_13) (gi_c (gu_wsX8_falseOne_5 _ gm_14) (gi_c (gu_wsX8_falseOne_5 _ gm_15) (gi_c (gu_wsX8_falseOne_5 _ gm_16) (gi_c (gu_wsX8_falseOne_5 _ gm_17) (gi_c (gu_wsX8_falseOne_5 _ gm_18) (gi_c (gu_wsX8_falseOne_5 _ gm_19) (gi_c (gu_wsX8_falseOne_5 _ gm_20) (gi_c (gu_wsX8_falseOne_5 _ gm_21) (gi_c (gu_wsX8_falseOne_5 _ gm_22) (gi_c (gu_wsX8_falseOne_5 _ gm_23) gi_0)))))))))))))))))))))))) (gi_c (gu_wsX8_falseOne_6 _ gm_0) (gi_c (gu_wsX8_falseOne_6 _ gm_1) (gi_c (gu_wsX8_falseOne_6 _ gm_2) (gi_c (gu_wsX8_falseOne_6 _ gm_3) (gi_c (gu_wsX8_falseOne_6 _ gm_4) (gi_c (gu_wsX8_falseOne_6 _ gm_5) (gi_c (gu_wsX8_falseOne_6 _ gm_6) (gi_c (gu_wsX8_falseOne_6 _ gm_7) (gi_c (gu_wsX8_falseOne_6 _ gm_8) (gi_c (gu_wsX8_falseOne_6 _ gm_9) gi_0)))))))))))))) (gu_wsX8_falseOne_9)) (gu_wsX8_falseOne_10)) (gu_wsX8_falseOne_11)) (gu_wsX8_falseOne_8))) (by decide +kernel)
set_option maxRecDepth 20000 in
theorem gX8_falseOne_X6_passesFalsely : GoodIn wsX8_falseOne (wsV RX8 132 RX6 yX6_passesFalsely wsX6_passesFalsely) := goodIn_app (goodIn_sub (gi_c (gu_wsX8_falseOne_1 _ gm_23) (gi_c (gu_wsX8_falseOne_2 _ gm_0) (gi_c (gu_wsX8_falseOne_2 _ gm_1) (gi_c (gu_wsX8_falseOne_2 _ gm_2) gi_0)))) (by decide +kernel)) ggX8_falseOne_X6_passesFalsely
theorem dX8_falseOne_0 : decode cX8_falseOne 0 = .ok (.aload_n 0, 1) := by decide +kernel
theorem dX8_falseOne_1 : decode cX8_falseOne 1 = .ok (.iload_n 1, 1) := by decide +kernel
theorem dX8_falseOne_2 : decode cX8_falseOne 2 = .ok (.invokevirtual 110, 3) := by decide +kernel
theorem dX8_falseOne_5 : decode cX8_falseOne 5 = .ok (.astore 4, 2) := by decide +kernel
theorem dX8_falseOne_7 : decode cX8_falseOne 7 = .ok (.aload_n 0, 1) := by decide +kernel
theorem dX8_falseOne_8 : decode cX8_falseOne 8 = .ok (.iload_n 2, 1) := by decide +kernel
theorem dX8_falseOne_9 : decode cX8_falseOne 9 = .ok (.invokevirtual 46, 3) := by decide +kernel
theorem dX8_falseOne_12 : decode cX8_falseOne 12 = .ok (.astore 5, 2) := by decide +kernel
theorem dX8_falseOne_14 : decode cX8_falseOne 14 = .ok (.aload 4, 2) := by decide +kernel
theorem dX8_falseOne_16 : decode cX8_falseOne 16 = .ok (.ifnull 12, 3) := by decide +kernel
theorem dX8_falseOne_19 : decode cX8_falseOne 19 = .ok (.aload 5, 2) := by decide +kernel
theorem dX8_falseOne_21 : decode cX8_falseOne 21 = .ok (.ifnull 7, 3) := by decide +kernel
theorem dX8_falseOne_24 : decode cX8_falseOne 24 = .ok (.iload_n 3, 1) := by decide +kernel
theorem dX8_falseOne_25 : decode cX8_falseOne 25 = .ok (.ifCond .ge 5, 3) := by decide +kernel
theorem dX8_falseOne_28 : decode cX8_falseOne 28 = .ok (.lconst 0, 1) := by decide +kernel
theorem dX8_falseOne_29 : decode cX8_falseOne 29 = .ok (.lreturn, 1) := by decide +kernel
theorem dX8_falseOne_30 : decode cX8_falseOne 30 = .ok (.iload_n 3, 1) := by decide +kernel
theorem dX8_falseOne_31 : decode cX8_falseOne 31 = .ok (.istore 6, 2) := by decide +kernel
theorem dX8_falseOne_33 : decode cX8_falseOne 33 = .ok (.iconst 0, 1) := by decide +kernel
theorem dX8_falseOne_34 : decode cX8_falseOne 34 = .ok (.istore 7, 2) := by decide +kernel
theorem dX8_falseOne_36 : decode cX8_falseOne 36 = .ok (.iload 7, 2) := by decide +kernel
theorem dX8_falseOne_38 : decode cX8_falseOne 38 = .ok (.aload 5, 2) := by decide +kernel
theorem dX8_falseOne_40 : decode cX8_falseOne 40 = .ok (.invokevirtual 61, 3) := by decide +kernel
theorem dX8_falseOne_43 : decode cX8_falseOne 43 = .ok (.if_icmp .ge 40, 3) := by decide +kernel
theorem dX8_falseOne_46 : decode cX8_falseOne 46 = .ok (.aload 4, 2) := by decide +kernel
theorem dX8_falseOne_48 : decode cX8_falseOne 48 = .ok (.aload 5, 2) := by decide +kernel
theorem dX8_falseOne_50 : decode cX8_falseOne 50 = .ok (.iload 7, 2) := by decide +kernel
theorem dX8_falseOne_52 : decode cX8_falseOne 52 = .ok (.invokevirtual 68, 3) := by decide +kernel
theorem dX8_falseOne_55 : decode cX8_falseOne 55 = .ok (.invokevirtual 132, 3) := by decide +kernel
theorem dX8_falseOne_58 : decode cX8_falseOne 58 = .ok (.ifCond .eq 19, 3) := by decide +kernel
theorem dX8_falseOne_61 : decode cX8_falseOne 61 = .ok (.iload 6, 2) := by decide +kernel
theorem dX8_falseOne_63 : decode cX8_falseOne 63 = .ok (.ifCond .ne 11, 3) := by decide +kernel
theorem dX8_falseOne_66 : decode cX8_falseOne 66 = .ok (.aload 5, 2) := by decide +kernel
theorem dX8_falseOne_68 : decode cX8_falseOne 68 = .ok (.iload 7, 2) := by decide +kernel
theorem dX8_falseOne_70 : decode cX8_falseOne 70 = .ok (.invokevirtual 68, 3) := by decide +kernel
theorem dX8_falseOne_73 : decode cX8_falseOne 73 = .ok (.lreturn, 1) := by decide +kernel
theorem dX8_falseOne_74 : decode cX8_falseOne 74 = .ok (.iinc 6 (-1), 3) := by decide +kernel
theorem dX8_falseOne_77 : decode cX8_falseOne 77 = .ok (.iinc 7 1, 3) := by decide +kernel
theorem dX8_falseOne_80 : decode cX8_falseOne 80 = .ok (.goto (-44), 3) := by decide +kernel
theorem dX8_falseOne_83 : decode cX8_falseOne 83 = .ok (.lconst 0, 1) := by decide +kernel
theorem dX8_falseOne_84 : decode cX8_falseOne 84 = .ok (.lreturn, 1) := by decide +kernel
set_option maxRecDepth 20000 in
theorem gu_wsX8_missed_1 : ∀ w ∈ wsX8_missed_r1, w ∈ wsX8_missed := fun _ h => List.mem_cons_of_mem _ (List.mem_append_left _ (List.mem_append_left _ (List.mem_append_left _ (List.mem_append_left _ (List.mem_append_left _ (List.mem_append_left _ h))))))
set_option maxRecDepth 20000 in
theorem gu_wsX8_missed_7 : ∀ w ∈ wsX80, w ∈ wsX8_missed := fun _ h => List.mem_cons_of_mem _ (List.mem_append_left _ (List.mem_append_left _ (List.mem_append_left _ (List.mem_append_right _ h))))
set_option maxRecDepth 20000 in
theorem ggX8_missed_X8_sieveAt : GoodIn wsX8_missed wsX8_sieveAt := goodIn_sub (gi_c (gu_wsX8_missed_1 _ gm_4) (gi_a (gi_c (gu_wsX8_missed_1 _ gm_5) (gi_c (gu_wsX8_missed_1 _ gm_6) gi_0)) (gu_wsX8_missed_7))) (by decide +kernel)
set_option maxRecDepth 20000 in
theorem gX8_missed_X8_sieveAt : GoodIn wsX8_missed (wsV RX8 110 RX8 yX8_sieveAt wsX8_sieveAt) := goodIn_app (goodIn_sub (gi_c (gu_wsX8_missed_1 _ gm_0) (gi_c (gu_wsX8_missed_1 _ gm_1) (gi_c (gu_wsX8_missed_1 _ gm_2) (gi_c (gu_wsX8_missed_1 _ gm_3) gi_0)))) (by decide +kernel)) ggX8_missed_X8_sieveAt
set_option maxRecDepth 20000 in
theorem gu_wsX8_missed_8 : ∀ w ∈ wsX00, w ∈ wsX8_missed := fun _ h => List.mem_cons_of_mem _ (List.mem_append_left _ (List.mem_append_left _ (List.mem_append_right _ h)))
set_option maxRecDepth 20000 in
theorem ggX8_missed_X0_count : GoodIn wsX8_missed wsX0_count := goodIn_sub (gi_c (gu_wsX8_missed_1 _ gm_11) (gi_a (gi_c (gu_wsX8_missed_1 _ gm_12) gi_0) (gu_wsX8_missed_8))) (by decide +kernel)
set_option maxRecDepth 20000 in
theorem gX8_missed_X0_count : GoodIn wsX8_missed (wsV RX8 61 RX0 yX0_count wsX0_count) := goodIn_app (goodIn_sub (gi_c (gu_wsX8_missed_1 _ gm_7) (gi_c (gu_wsX8_missed_1 _ gm_8) (gi_c (gu_wsX8_missed_1 _ gm_9) (gi_c (gu_wsX8_missed_1 _ gm_10) gi_0)))) (by decide +kernel)) ggX8_missed_X0_count
set_option maxRecDepth 20000 in
theorem ggX8_missed_X0_at : GoodIn wsX8_missed wsX0_at := goodIn_sub (gi_c (gu_wsX8_missed_1 _ gm_16) (gi_a (gi_c (gu_wsX8_missed_1 _ gm_12) (gi_c (gu_wsX8_missed_1 _ gm_17) gi_0)) (gu_wsX8_missed_8))) (by decide +kernel)
set_option maxRecDepth 20000 in
theorem gX8_missed_X0_at : GoodIn wsX8_missed (wsV RX8 68 RX0 yX0_at wsX0_at) := goodIn_app (goodIn_sub (gi_c (gu_wsX8_missed_1 _ gm_13) (gi_c (gu_wsX8_missed_1 _ gm_14) (gi_c (gu_wsX8_missed_1 _ gm_15) (gi_c (gu_wsX8_missed_1 _ gm_10) gi_0)))) (by decide +kernel)) ggX8_missed_X0_at
set_option maxRecDepth 20000 in
theorem gu_wsX8_missed_2 : ∀ w ∈ wsX8_missed_r2, w ∈ wsX8_missed := fun _ h => List.mem_cons_of_mem _ (List.mem_append_left _ (List.mem_append_left _ (List.mem_append_left _ (List.mem_append_left _ (List.mem_append_left _ (List.mem_append_right _ (List.mem_append_left _ h)))))))
set_option maxRecDepth 20000 in
theorem gu_wsX8_missed_3 : ∀ w ∈ wsX8_missed_r3, w ∈ wsX8_missed := fun _ h => List.mem_cons_of_mem _ (List.mem_append_left _ (List.mem_append_left _ (List.mem_append_left _ (List.mem_append_left _ (List.mem_append_left _ (List.mem_append_right _ (List.mem_append_right _ (List.mem_append_left _ h))))))))
set_option maxRecDepth 20000 in
theorem gu_wsX8_missed_4 : ∀ w ∈ wsX8_missed_r4, w ∈ wsX8_missed := fun _ h => List.mem_cons_of_mem _ (List.mem_append_left _ (List.mem_append_left _ (List.mem_append_left _ (List.mem_append_left _ (List.mem_append_left _ (List.mem_append_right _ (List.mem_append_right _ (List.mem_append_right _ (List.mem_append_left _ h)))))))))
set_option maxRecDepth 20000 in
theorem gu_wsX8_missed_5 : ∀ w ∈ wsX8_missed_r5, w ∈ wsX8_missed := fun _ h => List.mem_cons_of_mem _ (List.mem_append_left _ (List.mem_append_left _ (List.mem_append_left _ (List.mem_append_left _ (List.mem_append_left _ (List.mem_append_right _ (List.mem_append_right _ (List.mem_append_right _ (List.mem_append_right _ h)))))))))
set_option maxRecDepth 20000 in
theorem gu_wsX8_missed_6 : ∀ w ∈ wsX60, w ∈ wsX8_missed := fun _ h => List.mem_cons_of_mem _ (List.mem_append_left _ (List.mem_append_left _ (List.mem_append_left _ (List.mem_append_left _ (List.mem_append_right _ h)))))
set_option maxRecDepth 20000 in
theorem gu_wsX8_missed_9 : ∀ w ∈ wsX30, w ∈ wsX8_missed := fun _ h => List.mem_cons_of_mem _ (List.mem_append_left _ (List.mem_append_right _ h))
set_option maxRecDepth 20000 in
theorem gu_wsX8_missed_10 : ∀ w ∈ wsX10, w ∈ wsX8_missed := fun _ h => List.mem_cons_of_mem _ (List.mem_append_right _ h)
set_option maxRecDepth 20000 in
theorem ggX8_missed_X6_passes : GoodIn wsX8_missed wsX6_passes := goodIn_sub (gi_c (gu_wsX8_missed_1 _ gm_22) (gi_a (gi_a (gi_a (gi_a (gi_a (gi_c (gu_wsX8_missed_1 _ gm_23) (gi_c (gu_wsX8_missed_2 _ gm_0) (gi_c (gu_wsX8_missed_2 _ gm_1) (gi_c (gu_wsX8_missed_2 _ gm_2) (gi_c (gu_wsX8_missed_2 _ gm_3) (gi_c (gu_wsX8_missed_2 _ gm_4) (gi_c (gu_wsX8_missed_2 _ gm_5) (gi_c (gu_wsX8_missed_2 _ gm_6) (gi_c (gu_wsX8_missed_2 _ gm_7) (gi_c (gu_wsX8_missed_2 _ gm_8) (gi_c (gu_wsX8_missed_2 _ gm_9) (gi_c (gu_wsX8_missed_2 _ gm_10) (gi_c (gu_wsX8_missed_2 _ gm_11) (gi_c (gu_wsX8_missed_2 _ gm_12) (gi_c (gu_wsX8_missed_2 _ gm_13) (gi_c (gu_wsX8_missed_2 _ gm_14) (gi_c (gu_wsX8_missed_2 _ gm_15) (gi_c (gu_wsX8_missed_2 _ gm_16) (gi_c (gu_wsX8_missed_2 _ gm_17) (gi_c (gu_wsX8_missed_2 _ gm_18) (gi_c (gu_wsX8_missed_2 _ gm_19) (gi_c (gu_wsX8_missed_2 _ gm_20) (gi_c (gu_wsX8_missed_2 _ gm_21) (gi_c (gu_wsX8_missed_2 _ gm_22) gi_0)))))))))))))))))))))))) (gi_a (gi_c (gu_wsX8_missed_2 _ gm_23) (gi_c (gu_wsX8_missed_3 _ gm_0) (gi_c (gu_wsX8_missed_3 _ gm_1) (gi_c (gu_wsX8_missed_3 _ gm_2) (gi_c (gu_wsX8_missed_3 _ gm_3) (gi_c (gu_wsX8_missed_3 _ gm_4) (gi_c (gu_wsX8_missed_3 _ gm_5) (gi_c (gu_wsX8_missed_3 _ gm_6) (gi_c (gu_wsX8_missed_3 _ gm_7) (gi_c (gu_wsX8_missed_3 _ gm_8) (gi_c (gu_wsX8_missed_3 _ gm_9) (gi_c (gu_wsX8_missed_3 _ gm_10) (gi_c (gu_wsX8_missed_3 _ gm_11) (gi_c (gu_wsX8_missed_3 _ gm_12) (gi_c (gu_wsX8_missed_3 _ gm_13) (gi_c (gu_wsX8_missed_3 _ gm_14) (gi_c (gu_wsX8_missed_3 _ gm_15) (gi_c (gu_wsX8_missed_1 _ gm_10) (gi_c (gu_wsX8_missed_3 _ gm_16) (gi_c (gu_wsX8_missed_1 _ gm_12) (gi_c (gu_wsX8_missed_1 _ gm_17) (gi_c (gu_wsX8_missed_3 _ gm_17) (gi_c (gu_wsX8_missed_3 _ gm_18) (gi_c (gu_wsX8_missed_3 _ gm_19) gi_0)))))))))))))))))))))))) (gi_a (gi_c (gu_wsX8_missed_3 _ gm_20) (gi_c (gu_wsX8_missed_3 _ gm_21) (gi_c (gu_wsX8_missed_3 _ gm_22) (gi_c (gu_wsX8_missed_3 _ gm_23) (gi_c (gu_wsX8_missed_4 _ gm_0) (gi_c (gu_wsX8_missed_4 _ gm_1) (gi_c (gu_wsX8_missed_4 _ gm_2) (gi_c (gu_wsX8_missed_4 _ gm_3) (gi_c (gu_wsX8_missed_4 _ gm_4) (gi_c (gu_wsX8_missed_4 _ gm_5) (gi_c (gu_wsX8_missed_4 _ gm_6) (gi_c (gu_wsX8_missed_4 _ gm_7) (gi_c (gu_wsX8_missed_4 _ gm_8) (gi_c (gu_wsX8_missed_4 _ gm_9) (gi_c (gu_wsX8_missed_4 _ gm_10) (gi_c (gu_wsX8_missed_4 _ gm_11) (gi_c (gu_wsX8_missed_4 _ gm_12) (gi_c (gu_wsX8_missed_4 _ gm_13) (gi_c (gu_wsX8_missed_4 _ gm_14) (gi_c (gu_wsX8_missed_4 _ gm_15) (gi_c (gu_wsX8_missed_4 _ gm_16) (gi_c (gu_wsX8_missed_1 _ gm_21) (gi_c (gu_wsX8_missed_4 _ gm_17) (gi_c (gu_wsX8_missed_4 _ gm_18) gi_0)))))))))))))))))))))))) (gi_a (gi_c (gu_wsX8_missed_4 _ gm_19) (gi_c (gu_wsX8_missed_4 _ gm_20) (gi_c (gu_wsX8_missed_4 _ gm_21) (gi_c (gu_wsX8_missed_4 _ gm_22) (gi_c (gu_wsX8_missed_4 _ gm_23) (gi_c (gu_wsX8_missed_5 _ gm_0) (gi_c (gu_wsX8_missed_5 _ gm_1) (gi_c (gu_wsX8_missed_5 _ gm_2) (gi_c (gu_wsX8_missed_5 _ gm_3) (gi_c (gu_wsX8_missed_5 _ gm_4) (gi_c (gu_wsX8_missed_5 _ gm_5) (gi_c (gu_wsX8_missed_5 _ gm_6) (gi_c (gu_wsX8_missed_5 _ gm_7) (gi_c (gu_wsX8_missed_5 _ gm_8) (gi_c (gu_wsX8_missed_5 _ gm_9) (gi_c (gu_wsX8_missed_5 _ gm_10) (gi_c (gu_wsX8_missed_5 _ gm_11) (gi_c (gu_wsX8_missed_5 _ gm_12) (gi_c (gu_wsX8_missed_5 _ gm_13) (gi_c (gu_wsX8_missed_5 _ gm_14) (gi_c (gu_wsX8_missed_5 _ gm_15) (gi_c (gu_wsX8_missed_5 _ gm_16) (gi_c (gu_wsX8_missed_5 _ gm_17) (gi_c (gu_wsX8_missed_5 _ gm_18) gi_0)))))))))))))))))))))))) (gi_c (gu_wsX8_missed_5 _ gm_19) (gi_c (gu_wsX8_missed_5 _ gm_20) (gi_c (gu_wsX8_missed_5 _ gm_21) (gi_c (gu_wsX8_missed_5 _ gm_22) gi_0)))))))) (gu_wsX8_missed_6)) (gu_wsX8_missed_9)) (gu_wsX8_missed_10)) (gu_wsX8_missed_8))) (by decide +kernel)
set_option maxRecDepth 20000 in
theorem gX8_missed_X6_passes : GoodIn wsX8_missed (wsV RX8 125 RX6 yX6_passes wsX6_passes) := goodIn_app (goodIn_sub (gi_c (gu_wsX8_missed_1 _ gm_18) (gi_c (gu_wsX8_missed_1 _ gm_19) (gi_c (gu_wsX8_missed_1 _ gm_20) (gi_c (gu_wsX8_missed_1 _ gm_21) gi_0)))) (by decide +kernel)) ggX8_missed_X6_passes
theorem dX8_missed_0 : decode cX8_missed 0 = .ok (.aload_n 0, 1) := by decide +kernel
theorem dX8_missed_1 : decode cX8_missed 1 = .ok (.iload_n 1, 1) := by decide +kernel
theorem dX8_missed_2 : decode cX8_missed 2 = .ok (.invokevirtual 110, 3) := by decide +kernel
theorem dX8_missed_5 : decode cX8_missed 5 = .ok (.astore_n 2, 1) := by decide +kernel
theorem dX8_missed_6 : decode cX8_missed 6 = .ok (.aload_n 2, 1) := by decide +kernel
theorem dX8_missed_7 : decode cX8_missed 7 = .ok (.ifnonnull 5, 3) := by decide +kernel
theorem dX8_missed_10 : decode cX8_missed 10 = .ok (.iconst (-1), 1) := by decide +kernel
theorem dX8_missed_11 : decode cX8_missed 11 = .ok (.ireturn, 1) := by decide +kernel
theorem dX8_missed_12 : decode cX8_missed 12 = .ok (.iconst 0, 1) := by decide +kernel
theorem dX8_missed_13 : decode cX8_missed 13 = .ok (.istore_n 3, 1) := by decide +kernel
theorem dX8_missed_14 : decode cX8_missed 14 = .ok (.iconst 0, 1) := by decide +kernel
theorem dX8_missed_15 : decode cX8_missed 15 = .ok (.istore 4, 2) := by decide +kernel
theorem dX8_missed_17 : decode cX8_missed 17 = .ok (.iload 4, 2) := by decide +kernel
theorem dX8_missed_19 : decode cX8_missed 19 = .ok (.aload_n 2, 1) := by decide +kernel
theorem dX8_missed_20 : decode cX8_missed 20 = .ok (.getfield 95, 3) := by decide +kernel
theorem dX8_missed_23 : decode cX8_missed 23 = .ok (.invokevirtual 61, 3) := by decide +kernel
theorem dX8_missed_26 : decode cX8_missed 26 = .ok (.if_icmp .ge 28, 3) := by decide +kernel
theorem dX8_missed_29 : decode cX8_missed 29 = .ok (.aload_n 2, 1) := by decide +kernel
theorem dX8_missed_30 : decode cX8_missed 30 = .ok (.aload_n 2, 1) := by decide +kernel
theorem dX8_missed_31 : decode cX8_missed 31 = .ok (.getfield 95, 3) := by decide +kernel
theorem dX8_missed_34 : decode cX8_missed 34 = .ok (.iload 4, 2) := by decide +kernel
theorem dX8_missed_36 : decode cX8_missed 36 = .ok (.invokevirtual 68, 3) := by decide +kernel
theorem dX8_missed_39 : decode cX8_missed 39 = .ok (.invokevirtual 125, 3) := by decide +kernel
theorem dX8_missed_42 : decode cX8_missed 42 = .ok (.ifCond .ne 6, 3) := by decide +kernel
theorem dX8_missed_45 : decode cX8_missed 45 = .ok (.iinc 3 1, 3) := by decide +kernel
theorem dX8_missed_48 : decode cX8_missed 48 = .ok (.iinc 4 1, 3) := by decide +kernel
theorem dX8_missed_51 : decode cX8_missed 51 = .ok (.goto (-34), 3) := by decide +kernel
theorem dX8_missed_54 : decode cX8_missed 54 = .ok (.iload_n 3, 1) := by decide +kernel
theorem dX8_missed_55 : decode cX8_missed 55 = .ok (.ireturn, 1) := by decide +kernel
set_option maxRecDepth 20000 in
theorem gu_wsX8_join_1 : ∀ w ∈ wsX8_join_r1, w ∈ wsX8_join := fun _ h => List.mem_cons_of_mem _ (List.mem_append_left _ (List.mem_append_left _ (List.mem_append_left _ (List.mem_append_left _ h))))
set_option maxRecDepth 20000 in
theorem gu_wsX8_join_7 : ∀ w ∈ wsX80, w ∈ wsX8_join := fun _ h => List.mem_cons_of_mem _ (List.mem_append_left _ (List.mem_append_right _ h))
set_option maxRecDepth 20000 in
theorem ggX8_join_X8_sieveAt : GoodIn wsX8_join wsX8_sieveAt := goodIn_sub (gi_c (gu_wsX8_join_1 _ gm_5) (gi_a (gi_c (gu_wsX8_join_1 _ gm_0) (gi_c (gu_wsX8_join_1 _ gm_6) gi_0)) (gu_wsX8_join_7))) (by decide +kernel)
set_option maxRecDepth 20000 in
theorem gX8_join_X8_sieveAt : GoodIn wsX8_join (wsV RX8 110 RX8 yX8_sieveAt wsX8_sieveAt) := goodIn_app (goodIn_sub (gi_c (gu_wsX8_join_1 _ gm_1) (gi_c (gu_wsX8_join_1 _ gm_2) (gi_c (gu_wsX8_join_1 _ gm_3) (gi_c (gu_wsX8_join_1 _ gm_4) gi_0)))) (by decide +kernel)) ggX8_join_X8_sieveAt
set_option maxRecDepth 20000 in
theorem gu_wsX8_join_6 : ∀ w ∈ wsX60, w ∈ wsX8_join := fun _ h => List.mem_cons_of_mem _ (List.mem_append_left _ (List.mem_append_left _ (List.mem_append_right _ h)))
set_option maxRecDepth 20000 in
theorem ggX8_join_X6_isMarkedLike : GoodIn wsX8_join wsX6_isMarkedLike := goodIn_sub (gi_c (gu_wsX8_join_1 _ gm_11) (gi_a (gi_c (gu_wsX8_join_1 _ gm_12) (gi_c (gu_wsX8_join_1 _ gm_13) (gi_c (gu_wsX8_join_1 _ gm_14) (gi_c (gu_wsX8_join_1 _ gm_15) gi_0)))) (gu_wsX8_join_6))) (by decide +kernel)
set_option maxRecDepth 20000 in
theorem gX8_join_X6_isMarkedLike : GoodIn wsX8_join (wsV RX8 135 RX6 yX6_isMarkedLike wsX6_isMarkedLike) := goodIn_app (goodIn_sub (gi_c (gu_wsX8_join_1 _ gm_7) (gi_c (gu_wsX8_join_1 _ gm_8) (gi_c (gu_wsX8_join_1 _ gm_9) (gi_c (gu_wsX8_join_1 _ gm_10) gi_0)))) (by decide +kernel)) ggX8_join_X6_isMarkedLike
set_option maxRecDepth 20000 in
theorem gu_wsX8_join_2 : ∀ w ∈ wsX8_join_r2, w ∈ wsX8_join := fun _ h => List.mem_cons_of_mem _ (List.mem_append_left _ (List.mem_append_left _ (List.mem_append_left _ (List.mem_append_right _ (List.mem_append_left _ h)))))
set_option maxRecDepth 20000 in
theorem gu_wsX8_join_8 : ∀ w ∈ wsX00, w ∈ wsX8_join := fun _ h => List.mem_cons_of_mem _ (List.mem_append_right _ h)
set_option maxRecDepth 20000 in
theorem ggX8_join_X8_nextSlot : GoodIn wsX8_join wsX8_nextSlot := goodIn_sub (gi_c (gu_wsX8_join_1 _ gm_19) (gi_a (gi_a (gi_a (gi_c (gu_wsX8_join_1 _ gm_0) (gi_c (gu_wsX8_join_1 _ gm_6) (gi_c (gu_wsX8_join_1 _ gm_20) (gi_c (gu_wsX8_join_1 _ gm_21) (gi_c (gu_wsX8_join_1 _ gm_10) (gi_c (gu_wsX8_join_1 _ gm_22) (gi_c (gu_wsX8_join_1 _ gm_23) (gi_c (gu_wsX8_join_2 _ gm_0) (gi_c (gu_wsX8_join_2 _ gm_1) (gi_c (gu_wsX8_join_2 _ gm_2) (gi_c (gu_wsX8_join_2 _ gm_3) (gi_c (gu_wsX8_join_2 _ gm_4) (gi_c (gu_wsX8_join_2 _ gm_5) (gi_c (gu_wsX8_join_2 _ gm_6) (gi_c (gu_wsX8_join_2 _ gm_7) (gi_c (gu_wsX8_join_2 _ gm_8) (gi_c (gu_wsX8_join_2 _ gm_9) (gi_c (gu_wsX8_join_2 _ gm_10) (gi_c (gu_wsX8_join_2 _ gm_11) (gi_c (gu_wsX8_join_2 _ gm_12) (gi_c (gu_wsX8_join_2 _ gm_13) gi_0))))))))))))))))))))) (gu_wsX8_join_7)) (gu_wsX8_join_6)) (gu_wsX8_join_8))) (by decide +kernel)
set_option maxRecDepth 20000 in
theorem gX8_join_X8_nextSlot : GoodIn wsX8_join (wsV RX8 76 RX8 yX8_nextSlot wsX8_nextSlot) := goodIn_app (goodIn_sub (gi_c (gu_wsX8_join_1 _ gm_16) (gi_c (gu_wsX8_join_1 _ gm_17) (gi_c (gu_wsX8_join_1 _ gm_18) (gi_c (gu_wsX8_join_1 _ gm_4) gi_0)))) (by decide +kernel)) ggX8_join_X8_nextSlot
set_option maxRecDepth 20000 in
theorem ggX8_join_X0_count : GoodIn wsX8_join wsX0_count := goodIn_sub (gi_c (gu_wsX8_join_2 _ gm_17) (gi_a (gi_c (gu_wsX8_join_2 _ gm_18) gi_0) (gu_wsX8_join_8))) (by decide +kernel)
set_option maxRecDepth 20000 in
theorem gX8_join_X0_count : GoodIn wsX8_join (wsV RX8 61 RX0 yX0_count wsX0_count) := goodIn_app (goodIn_sub (gi_c (gu_wsX8_join_2 _ gm_14) (gi_c (gu_wsX8_join_2 _ gm_15) (gi_c (gu_wsX8_join_2 _ gm_16) (gi_c (gu_wsX8_join_2 _ gm_7) gi_0)))) (by decide +kernel)) ggX8_join_X0_count
set_option maxRecDepth 20000 in
theorem gu_wsX8_join_3 : ∀ w ∈ wsX8_join_r3, w ∈ wsX8_join := fun _ h => List.mem_cons_of_mem _ (List.mem_append_left _ (List.mem_append_left _ (List.mem_append_left _ (List.mem_append_right _ (List.mem_append_right _ (List.mem_append_left _ h))))))
set_option maxRecDepth 20000 in
theorem ggX8_join_X6_begin : GoodIn wsX8_join wsX6_begin := goodIn_sub (gi_c (gu_wsX8_join_2 _ gm_22) (gi_a (gi_a (gi_c (gu_wsX8_join_1 _ gm_12) (gi_c (gu_wsX8_join_1 _ gm_13) (gi_c (gu_wsX8_join_1 _ gm_14) (gi_c (gu_wsX8_join_1 _ gm_15) (gi_c (gu_wsX8_join_2 _ gm_8) (gi_c (gu_wsX8_join_2 _ gm_4) (gi_c (gu_wsX8_join_2 _ gm_23) (gi_c (gu_wsX8_join_3 _ gm_0) (gi_c (gu_wsX8_join_3 _ gm_1) (gi_c (gu_wsX8_join_2 _ gm_7) (gi_c (gu_wsX8_join_3 _ gm_2) (gi_c (gu_wsX8_join_2 _ gm_18) (gi_c (gu_wsX8_join_3 _ gm_3) (gi_c (gu_wsX8_join_3 _ gm_4) (gi_c (gu_wsX8_join_3 _ gm_5) (gi_c (gu_wsX8_join_3 _ gm_6) gi_0)))))))))))))))) (gu_wsX8_join_6)) (gu_wsX8_join_8))) (by decide +kernel)
set_option maxRecDepth 20000 in
theorem gX8_join_X6_begin : GoodIn wsX8_join (wsV RX8 80 RX6 yX6_begin wsX6_begin) := goodIn_app (goodIn_sub (gi_c (gu_wsX8_join_2 _ gm_19) (gi_c (gu_wsX8_join_2 _ gm_20) (gi_c (gu_wsX8_join_2 _ gm_21) (gi_c (gu_wsX8_join_1 _ gm_10) gi_0)))) (by decide +kernel)) ggX8_join_X6_begin
set_option maxRecDepth 20000 in
theorem ggX8_join_X6_joinBits : GoodIn wsX8_join wsX6_joinBits := goodIn_sub (gi_c (gu_wsX8_join_3 _ gm_10) (gi_a (gi_c (gu_wsX8_join_1 _ gm_13) (gi_c (gu_wsX8_join_3 _ gm_11) (gi_c (gu_wsX8_join_3 _ gm_12) (gi_c (gu_wsX8_join_3 _ gm_13) (gi_c (gu_wsX8_join_1 _ gm_10) (gi_c (gu_wsX8_join_3 _ gm_14) (gi_c (gu_wsX8_join_2 _ gm_4) (gi_c (gu_wsX8_join_3 _ gm_15) (gi_c (gu_wsX8_join_3 _ gm_16) (gi_c (gu_wsX8_join_3 _ gm_17) (gi_c (gu_wsX8_join_3 _ gm_18) gi_0))))))))))) (gu_wsX8_join_6))) (by decide +kernel)
set_option maxRecDepth 20000 in
theorem gX8_join_X6_joinBits : GoodIn wsX8_join (wsV RX8 148 RX6 yX6_joinBits wsX6_joinBits) := goodIn_app (goodIn_sub (gi_c (gu_wsX8_join_3 _ gm_7) (gi_c (gu_wsX8_join_3 _ gm_8) (gi_c (gu_wsX8_join_3 _ gm_9) (gi_c (gu_wsX8_join_1 _ gm_10) gi_0)))) (by decide +kernel)) ggX8_join_X6_joinBits
set_option maxRecDepth 20000 in
theorem gu_wsX8_join_4 : ∀ w ∈ wsX8_join_r4, w ∈ wsX8_join := fun _ h => List.mem_cons_of_mem _ (List.mem_append_left _ (List.mem_append_left _ (List.mem_append_left _ (List.mem_append_right _ (List.mem_append_right _ (List.mem_append_right _ (List.mem_append_left _ h)))))))
set_option maxRecDepth 20000 in
theorem ggX8_join_X0_becomeShared : GoodIn wsX8_join wsX0_becomeShared := goodIn_sub (gi_c (gu_wsX8_join_3 _ gm_22) (gi_a (gi_c (gu_wsX8_join_2 _ gm_18) (gi_c (gu_wsX8_join_2 _ gm_13) (gi_c (gu_wsX8_join_3 _ gm_23) (gi_c (gu_wsX8_join_3 _ gm_0) (gi_c (gu_wsX8_join_3 _ gm_1) (gi_c (gu_wsX8_join_2 _ gm_7) (gi_c (gu_wsX8_join_3 _ gm_2) (gi_c (gu_wsX8_join_4 _ gm_0) (gi_c (gu_wsX8_join_4 _ gm_1) (gi_c (gu_wsX8_join_4 _ gm_2) (gi_c (gu_wsX8_join_4 _ gm_3) (gi_c (gu_wsX8_join_4 _ gm_4) (gi_c (gu_wsX8_join_4 _ gm_5) (gi_c (gu_wsX8_join_4 _ gm_6) (gi_c (gu_wsX8_join_4 _ gm_7) gi_0))))))))))))))) (gu_wsX8_join_8))) (by decide +kernel)
set_option maxRecDepth 20000 in
theorem gX8_join_X0_becomeShared : GoodIn wsX8_join (wsV RX8 152 RX0 yX0_becomeShared wsX0_becomeShared) := goodIn_app (goodIn_sub (gi_c (gu_wsX8_join_3 _ gm_19) (gi_c (gu_wsX8_join_3 _ gm_20) (gi_c (gu_wsX8_join_3 _ gm_21) (gi_c (gu_wsX8_join_2 _ gm_7) gi_0)))) (by decide +kernel)) ggX8_join_X0_becomeShared
set_option maxRecDepth 20000 in
theorem gu_wsX8_join_5 : ∀ w ∈ wsX8_join_r5, w ∈ wsX8_join := fun _ h => List.mem_cons_of_mem _ (List.mem_append_left _ (List.mem_append_left _ (List.mem_append_left _ (List.mem_append_right _ (List.mem_append_right _ (List.mem_append_right _ (List.mem_append_right _ h)))))))
set_option maxRecDepth 20000 in
theorem ggX8_join_X0_becomeTogether : GoodIn wsX8_join wsX0_becomeTogether := goodIn_sub (gi_c (gu_wsX8_join_4 _ gm_11) (gi_a (gi_c (gu_wsX8_join_2 _ gm_18) (gi_c (gu_wsX8_join_2 _ gm_13) (gi_c (gu_wsX8_join_4 _ gm_12) (gi_c (gu_wsX8_join_4 _ gm_13) (gi_c (gu_wsX8_join_4 _ gm_14) (gi_c (gu_wsX8_join_2 _ gm_7) (gi_c (gu_wsX8_join_4 _ gm_15) (gi_c (gu_wsX8_join_4 _ gm_16) (gi_c (gu_wsX8_join_4 _ gm_17) (gi_c (gu_wsX8_join_4 _ gm_18) (gi_c (gu_wsX8_join_4 _ gm_19) (gi_c (gu_wsX8_join_4 _ gm_20) (gi_c (gu_wsX8_join_4 _ gm_21) (gi_c (gu_wsX8_join_4 _ gm_22) (gi_c (gu_wsX8_join_4 _ gm_23) (gi_c (gu_wsX8_join_4 _ gm_4) (gi_c (gu_wsX8_join_4 _ gm_5) (gi_c (gu_wsX8_join_4 _ gm_6) (gi_c (gu_wsX8_join_4 _ gm_7) (gi_c (gu_wsX8_join_5 _ gm_0) (gi_c (gu_wsX8_join_5 _ gm_1) (gi_c (gu_wsX8_join_5 _ gm_2) (gi_c (gu_wsX8_join_5 _ gm_3) gi_0))))))))))))))))))))))) (gu_wsX8_join_8))) (by decide +kernel)
set_option maxRecDepth 20000 in
theorem gX8_join_X0_becomeTogether : GoodIn wsX8_join (wsV RX8 155 RX0 yX0_becomeTogether wsX0_becomeTogether) := goodIn_app (goodIn_sub (gi_c (gu_wsX8_join_4 _ gm_8) (gi_c (gu_wsX8_join_4 _ gm_9) (gi_c (gu_wsX8_join_4 _ gm_10) (gi_c (gu_wsX8_join_2 _ gm_7) gi_0)))) (by decide +kernel)) ggX8_join_X0_becomeTogether
theorem dX8_join_0 : decode cX8_join 0 = .ok (.aload_n 0, 1) := by decide +kernel
theorem dX8_join_1 : decode cX8_join 1 = .ok (.iload_n 2, 1) := by decide +kernel
theorem dX8_join_2 : decode cX8_join 2 = .ok (.invokevirtual 110, 3) := by decide +kernel
theorem dX8_join_5 : decode cX8_join 5 = .ok (.astore 4, 2) := by decide +kernel
theorem dX8_join_7 : decode cX8_join 7 = .ok (.aload_n 0, 1) := by decide +kernel
theorem dX8_join_8 : decode cX8_join 8 = .ok (.iload_n 3, 1) := by decide +kernel
theorem dX8_join_9 : decode cX8_join 9 = .ok (.invokevirtual 110, 3) := by decide +kernel
theorem dX8_join_12 : decode cX8_join 12 = .ok (.astore 5, 2) := by decide +kernel
theorem dX8_join_14 : decode cX8_join 14 = .ok (.aload 4, 2) := by decide +kernel
theorem dX8_join_16 : decode cX8_join 16 = .ok (.ifnull 17, 3) := by decide +kernel
theorem dX8_join_19 : decode cX8_join 19 = .ok (.aload 5, 2) := by decide +kernel
theorem dX8_join_21 : decode cX8_join 21 = .ok (.ifnull 12, 3) := by decide +kernel
theorem dX8_join_24 : decode cX8_join 24 = .ok (.iload_n 1, 1) := by decide +kernel
theorem dX8_join_25 : decode cX8_join 25 = .ok (.ifCond .lt 8, 3) := by decide +kernel
theorem dX8_join_28 : decode cX8_join 28 = .ok (.iload_n 1, 1) := by decide +kernel
theorem dX8_join_29 : decode cX8_join 29 = .ok (.iconst 1, 1) := by decide +kernel
theorem dX8_join_30 : decode cX8_join 30 = .ok (.if_icmp .le 5, 3) := by decide +kernel
theorem dX8_join_33 : decode cX8_join 33 = .ok (.iconst (-1), 1) := by decide +kernel
theorem dX8_join_34 : decode cX8_join 34 = .ok (.ireturn, 1) := by decide +kernel
theorem dX8_join_35 : decode cX8_join 35 = .ok (.aload 4, 2) := by decide +kernel
theorem dX8_join_37 : decode cX8_join 37 = .ok (.aload 5, 2) := by decide +kernel
theorem dX8_join_39 : decode cX8_join 39 = .ok (.invokevirtual 135, 3) := by decide +kernel
theorem dX8_join_42 : decode cX8_join 42 = .ok (.ifCond .ne 6, 3) := by decide +kernel
theorem dX8_join_45 : decode cX8_join 45 = .ok (.bipush (-2), 2) := by decide +kernel
theorem dX8_join_47 : decode cX8_join 47 = .ok (.ireturn, 1) := by decide +kernel
theorem dX8_join_48 : decode cX8_join 48 = .ok (.aload_n 0, 1) := by decide +kernel
theorem dX8_join_49 : decode cX8_join 49 = .ok (.invokevirtual 76, 3) := by decide +kernel
theorem dX8_join_52 : decode cX8_join 52 = .ok (.astore 6, 2) := by decide +kernel
theorem dX8_join_54 : decode cX8_join 54 = .ok (.iload_n 1, 1) := by decide +kernel
theorem dX8_join_55 : decode cX8_join 55 = .ok (.iconst 1, 1) := by decide +kernel
theorem dX8_join_56 : decode cX8_join 56 = .ok (.if_icmp .ne 7, 3) := by decide +kernel
theorem dX8_join_59 : decode cX8_join 59 = .ok (.iconst 1, 1) := by decide +kernel
theorem dX8_join_60 : decode cX8_join 60 = .ok (.goto 4, 3) := by decide +kernel
theorem dX8_join_63 : decode cX8_join 63 = .ok (.iconst 0, 1) := by decide +kernel
theorem dX8_join_64 : decode cX8_join 64 = .ok (.istore 7, 2) := by decide +kernel
theorem dX8_join_66 : decode cX8_join 66 = .ok (.aload 6, 2) := by decide +kernel
theorem dX8_join_68 : decode cX8_join 68 = .ok (.ifnull 31, 3) := by decide +kernel
theorem dX8_join_71 : decode cX8_join 71 = .ok (.iload 7, 2) := by decide +kernel
theorem dX8_join_73 : decode cX8_join 73 = .ok (.ifCond .ne 29, 3) := by decide +kernel
theorem dX8_join_76 : decode cX8_join 76 = .ok (.aload 4, 2) := by decide +kernel
theorem dX8_join_78 : decode cX8_join 78 = .ok (.getfield 95, 3) := by decide +kernel
theorem dX8_join_81 : decode cX8_join 81 = .ok (.invokevirtual 61, 3) := by decide +kernel
theorem dX8_join_84 : decode cX8_join 84 = .ok (.aload 5, 2) := by decide +kernel
theorem dX8_join_86 : decode cX8_join 86 = .ok (.getfield 95, 3) := by decide +kernel
theorem dX8_join_89 : decode cX8_join 89 = .ok (.invokevirtual 61, 3) := by decide +kernel
theorem dX8_join_92 : decode cX8_join 92 = .ok (.iadd, 1) := by decide +kernel
theorem dX8_join_93 : decode cX8_join 93 = .ok (.sipush 1000, 3) := by decide +kernel
theorem dX8_join_96 : decode cX8_join 96 = .ok (.if_icmp .le 6, 3) := by decide +kernel
theorem dX8_join_99 : decode cX8_join 99 = .ok (.bipush (-4), 2) := by decide +kernel
theorem dX8_join_101 : decode cX8_join 101 = .ok (.ireturn, 1) := by decide +kernel
theorem dX8_join_102 : decode cX8_join 102 = .ok (.aload 6, 2) := by decide +kernel
theorem dX8_join_104 : decode cX8_join 104 = .ok (.iconst 0, 1) := by decide +kernel
theorem dX8_join_105 : decode cX8_join 105 = .ok (.aload 4, 2) := by decide +kernel
theorem dX8_join_107 : decode cX8_join 107 = .ok (.getfield 139, 3) := by decide +kernel
theorem dX8_join_110 : decode cX8_join 110 = .ok (.aload 4, 2) := by decide +kernel
theorem dX8_join_112 : decode cX8_join 112 = .ok (.getfield 142, 3) := by decide +kernel
theorem dX8_join_115 : decode cX8_join 115 = .ok (.aload 4, 2) := by decide +kernel
theorem dX8_join_117 : decode cX8_join 117 = .ok (.getfield 145, 3) := by decide +kernel
theorem dX8_join_120 : decode cX8_join 120 = .ok (.invokevirtual 80, 3) := by decide +kernel
theorem dX8_join_123 : decode cX8_join 123 = .ok (.aload 6, 2) := by decide +kernel
theorem dX8_join_125 : decode cX8_join 125 = .ok (.iload 7, 2) := by decide +kernel
theorem dX8_join_127 : decode cX8_join 127 = .ok (.aload 4, 2) := by decide +kernel
theorem dX8_join_129 : decode cX8_join 129 = .ok (.aload 5, 2) := by decide +kernel
theorem dX8_join_131 : decode cX8_join 131 = .ok (.invokevirtual 148, 3) := by decide +kernel
theorem dX8_join_134 : decode cX8_join 134 = .ok (.iload 7, 2) := by decide +kernel
theorem dX8_join_136 : decode cX8_join 136 = .ok (.ifCond .eq 24, 3) := by decide +kernel
theorem dX8_join_139 : decode cX8_join 139 = .ok (.aload 6, 2) := by decide +kernel
theorem dX8_join_141 : decode cX8_join 141 = .ok (.getfield 95, 3) := by decide +kernel
theorem dX8_join_144 : decode cX8_join 144 = .ok (.aload 4, 2) := by decide +kernel
theorem dX8_join_146 : decode cX8_join 146 = .ok (.getfield 95, 3) := by decide +kernel
theorem dX8_join_149 : decode cX8_join 149 = .ok (.aload 5, 2) := by decide +kernel
theorem dX8_join_151 : decode cX8_join 151 = .ok (.getfield 95, 3) := by decide +kernel
theorem dX8_join_154 : decode cX8_join 154 = .ok (.invokevirtual 152, 3) := by decide +kernel
theorem dX8_join_157 : decode cX8_join 157 = .ok (.goto 21, 3) := by decide +kernel
theorem dX8_join_160 : decode cX8_join 160 = .ok (.aload 6, 2) := by decide +kernel
theorem dX8_join_162 : decode cX8_join 162 = .ok (.getfield 95, 3) := by decide +kernel
theorem dX8_join_165 : decode cX8_join 165 = .ok (.aload 4, 2) := by decide +kernel
theorem dX8_join_167 : decode cX8_join 167 = .ok (.getfield 95, 3) := by decide +kernel
theorem dX8_join_170 : decode cX8_join 170 = .ok (.aload 5, 2) := by decide +kernel
theorem dX8_join_172 : decode cX8_join 172 = .ok (.getfield 95, 3) := by decide +kernel
theorem dX8_join_175 : decode cX8_join 175 = .ok (.invokevirtual 155, 3) := by decide +kernel
theorem dX8_join_178 : decode cX8_join 178 = .ok (.aload_n 0, 1) := by decide +kernel
theorem dX8_join_179 : decode cX8_join 179 = .ok (.dup, 1) := by decide +kernel
theorem dX8_join_180 : decode cX8_join 180 = .ok (.getfield 84, 3) := by decide +kernel
theorem dX8_join_183 : decode cX8_join 183 = .ok (.dup_x1, 1) := by decide +kernel
theorem dX8_join_184 : decode cX8_join 184 = .ok (.iconst 1, 1) := by decide +kernel
theorem dX8_join_185 : decode cX8_join 185 = .ok (.iadd, 1) := by decide +kernel
theorem dX8_join_186 : decode cX8_join 186 = .ok (.putfield 84, 3) := by decide +kernel
theorem dX8_join_189 : decode cX8_join 189 = .ok (.ireturn, 1) := by decide +kernel
set_option maxRecDepth 20000 in
theorem gu_wsX8_fold_1 : ∀ w ∈ wsX8_fold_r1, w ∈ wsX8_fold := fun _ h => List.mem_cons_of_mem _ (List.mem_append_left _ (List.mem_append_left _ (List.mem_append_left _ (List.mem_append_left _ h))))
set_option maxRecDepth 20000 in
theorem gu_wsX8_fold_5 : ∀ w ∈ wsX80, w ∈ wsX8_fold := fun _ h => List.mem_cons_of_mem _ (List.mem_append_left _ (List.mem_append_right _ h))
set_option maxRecDepth 20000 in
theorem ggX8_fold_X8_sieveAt : GoodIn wsX8_fold wsX8_sieveAt := goodIn_sub (gi_c (gu_wsX8_fold_1 _ gm_5) (gi_a (gi_c (gu_wsX8_fold_1 _ gm_0) (gi_c (gu_wsX8_fold_1 _ gm_6) gi_0)) (gu_wsX8_fold_5))) (by decide +kernel)
set_option maxRecDepth 20000 in
theorem gX8_fold_X8_sieveAt : GoodIn wsX8_fold (wsV RX8 110 RX8 yX8_sieveAt wsX8_sieveAt) := goodIn_app (goodIn_sub (gi_c (gu_wsX8_fold_1 _ gm_1) (gi_c (gu_wsX8_fold_1 _ gm_2) (gi_c (gu_wsX8_fold_1 _ gm_3) (gi_c (gu_wsX8_fold_1 _ gm_4) gi_0)))) (by decide +kernel)) ggX8_fold_X8_sieveAt
set_option maxRecDepth 20000 in
theorem gu_wsX8_fold_2 : ∀ w ∈ wsX8_fold_r2, w ∈ wsX8_fold := fun _ h => List.mem_cons_of_mem _ (List.mem_append_left _ (List.mem_append_left _ (List.mem_append_left _ (List.mem_append_right _ (List.mem_append_left _ h)))))
set_option maxRecDepth 20000 in
theorem gu_wsX8_fold_4 : ∀ w ∈ wsX60, w ∈ wsX8_fold := fun _ h => List.mem_cons_of_mem _ (List.mem_append_left _ (List.mem_append_left _ (List.mem_append_right _ h)))
set_option maxRecDepth 20000 in
theorem gu_wsX8_fold_6 : ∀ w ∈ wsX00, w ∈ wsX8_fold := fun _ h => List.mem_cons_of_mem _ (List.mem_append_right _ h)
set_option maxRecDepth 20000 in
theorem ggX8_fold_X8_nextSlot : GoodIn wsX8_fold wsX8_nextSlot := goodIn_sub (gi_c (gu_wsX8_fold_1 _ gm_10) (gi_a (gi_a (gi_a (gi_c (gu_wsX8_fold_1 _ gm_0) (gi_c (gu_wsX8_fold_1 _ gm_6) (gi_c (gu_wsX8_fold_1 _ gm_11) (gi_c (gu_wsX8_fold_1 _ gm_12) (gi_c (gu_wsX8_fold_1 _ gm_13) (gi_c (gu_wsX8_fold_1 _ gm_14) (gi_c (gu_wsX8_fold_1 _ gm_15) (gi_c (gu_wsX8_fold_1 _ gm_16) (gi_c (gu_wsX8_fold_1 _ gm_17) (gi_c (gu_wsX8_fold_1 _ gm_18) (gi_c (gu_wsX8_fold_1 _ gm_19) (gi_c (gu_wsX8_fold_1 _ gm_20) (gi_c (gu_wsX8_fold_1 _ gm_21) (gi_c (gu_wsX8_fold_1 _ gm_22) (gi_c (gu_wsX8_fold_1 _ gm_23) (gi_c (gu_wsX8_fold_2 _ gm_0) (gi_c (gu_wsX8_fold_2 _ gm_1) (gi_c (gu_wsX8_fold_2 _ gm_2) (gi_c (gu_wsX8_fold_2 _ gm_3) (gi_c (gu_wsX8_fold_2 _ gm_4) (gi_c (gu_wsX8_fold_2 _ gm_5) gi_0))))))))))))))))))))) (gu_wsX8_fold_5)) (gu_wsX8_fold_4)) (gu_wsX8_fold_6))) (by decide +kernel)
set_option maxRecDepth 20000 in
theorem gX8_fold_X8_nextSlot : GoodIn wsX8_fold (wsV RX8 76 RX8 yX8_nextSlot wsX8_nextSlot) := goodIn_app (goodIn_sub (gi_c (gu_wsX8_fold_1 _ gm_7) (gi_c (gu_wsX8_fold_1 _ gm_8) (gi_c (gu_wsX8_fold_1 _ gm_9) (gi_c (gu_wsX8_fold_1 _ gm_4) gi_0)))) (by decide +kernel)) ggX8_fold_X8_nextSlot
set_option maxRecDepth 20000 in
theorem ggX8_fold_X6_begin : GoodIn wsX8_fold wsX6_begin := goodIn_sub (gi_c (gu_wsX8_fold_2 _ gm_9) (gi_a (gi_a (gi_c (gu_wsX8_fold_2 _ gm_10) (gi_c (gu_wsX8_fold_2 _ gm_11) (gi_c (gu_wsX8_fold_2 _ gm_12) (gi_c (gu_wsX8_fold_2 _ gm_13) (gi_c (gu_wsX8_fold_2 _ gm_0) (gi_c (gu_wsX8_fold_1 _ gm_20) (gi_c (gu_wsX8_fold_2 _ gm_14) (gi_c (gu_wsX8_fold_2 _ gm_15) (gi_c (gu_wsX8_fold_2 _ gm_16) (gi_c (gu_wsX8_fold_1 _ gm_23) (gi_c (gu_wsX8_fold_2 _ gm_17) (gi_c (gu_wsX8_fold_2 _ gm_18) (gi_c (gu_wsX8_fold_2 _ gm_19) (gi_c (gu_wsX8_fold_2 _ gm_20) (gi_c (gu_wsX8_fold_2 _ gm_21) (gi_c (gu_wsX8_fold_2 _ gm_22) gi_0)))))))))))))))) (gu_wsX8_fold_4)) (gu_wsX8_fold_6))) (by decide +kernel)
set_option maxRecDepth 20000 in
theorem gX8_fold_X6_begin : GoodIn wsX8_fold (wsV RX8 80 RX6 yX6_begin wsX6_begin) := goodIn_app (goodIn_sub (gi_c (gu_wsX8_fold_2 _ gm_6) (gi_c (gu_wsX8_fold_2 _ gm_7) (gi_c (gu_wsX8_fold_2 _ gm_8) (gi_c (gu_wsX8_fold_1 _ gm_13) gi_0)))) (by decide +kernel)) ggX8_fold_X6_begin
set_option maxRecDepth 20000 in
theorem gu_wsX8_fold_3 : ∀ w ∈ wsX8_fold_r3, w ∈ wsX8_fold := fun _ h => List.mem_cons_of_mem _ (List.mem_append_left _ (List.mem_append_left _ (List.mem_append_left _ (List.mem_append_right _ (List.mem_append_right _ h)))))
set_option maxRecDepth 20000 in
theorem ggX8_fold_X6_foldBits : GoodIn wsX8_fold wsX6_foldBits := goodIn_sub (gi_c (gu_wsX8_fold_3 _ gm_2) (gi_a (gi_c (gu_wsX8_fold_2 _ gm_11) (gi_c (gu_wsX8_fold_3 _ gm_3) (gi_c (gu_wsX8_fold_3 _ gm_4) (gi_c (gu_wsX8_fold_3 _ gm_5) (gi_c (gu_wsX8_fold_1 _ gm_13) (gi_c (gu_wsX8_fold_3 _ gm_6) (gi_c (gu_wsX8_fold_1 _ gm_20) (gi_c (gu_wsX8_fold_3 _ gm_7) (gi_c (gu_wsX8_fold_3 _ gm_8) (gi_c (gu_wsX8_fold_3 _ gm_9) (gi_c (gu_wsX8_fold_3 _ gm_10) gi_0))))))))))) (gu_wsX8_fold_4))) (by decide +kernel)
set_option maxRecDepth 20000 in
theorem gX8_fold_X6_foldBits : GoodIn wsX8_fold (wsV RX8 158 RX6 yX6_foldBits wsX6_foldBits) := goodIn_app (goodIn_sub (gi_c (gu_wsX8_fold_2 _ gm_23) (gi_c (gu_wsX8_fold_3 _ gm_0) (gi_c (gu_wsX8_fold_3 _ gm_1) (gi_c (gu_wsX8_fold_1 _ gm_13) gi_0)))) (by decide +kernel)) ggX8_fold_X6_foldBits
set_option maxRecDepth 20000 in
theorem ggX8_fold_X0_copyFrom : GoodIn wsX8_fold wsX0_copyFrom := goodIn_sub (gi_c (gu_wsX8_fold_3 _ gm_14) (gi_a (gi_c (gu_wsX8_fold_2 _ gm_5) (gi_c (gu_wsX8_fold_2 _ gm_18) (gi_c (gu_wsX8_fold_3 _ gm_15) (gi_c (gu_wsX8_fold_3 _ gm_16) (gi_c (gu_wsX8_fold_3 _ gm_17) (gi_c (gu_wsX8_fold_3 _ gm_18) gi_0)))))) (gu_wsX8_fold_6))) (by decide +kernel)
set_option maxRecDepth 20000 in
theorem gX8_fold_X0_copyFrom : GoodIn wsX8_fold (wsV RX8 50 RX0 yX0_copyFrom wsX0_copyFrom) := goodIn_app (goodIn_sub (gi_c (gu_wsX8_fold_3 _ gm_11) (gi_c (gu_wsX8_fold_3 _ gm_12) (gi_c (gu_wsX8_fold_3 _ gm_13) (gi_c (gu_wsX8_fold_1 _ gm_23) gi_0)))) (by decide +kernel)) ggX8_fold_X0_copyFrom
theorem dX8_fold_0 : decode cX8_fold 0 = .ok (.aload_n 0, 1) := by decide +kernel
theorem dX8_fold_1 : decode cX8_fold 1 = .ok (.iload_n 1, 1) := by decide +kernel
theorem dX8_fold_2 : decode cX8_fold 2 = .ok (.invokevirtual 110, 3) := by decide +kernel
theorem dX8_fold_5 : decode cX8_fold 5 = .ok (.astore_n 2, 1) := by decide +kernel
theorem dX8_fold_6 : decode cX8_fold 6 = .ok (.aload_n 2, 1) := by decide +kernel
theorem dX8_fold_7 : decode cX8_fold 7 = .ok (.ifnonnull 5, 3) := by decide +kernel
theorem dX8_fold_10 : decode cX8_fold 10 = .ok (.iconst (-1), 1) := by decide +kernel
theorem dX8_fold_11 : decode cX8_fold 11 = .ok (.ireturn, 1) := by decide +kernel
theorem dX8_fold_12 : decode cX8_fold 12 = .ok (.aload_n 2, 1) := by decide +kernel
theorem dX8_fold_13 : decode cX8_fold 13 = .ok (.getfield 122, 3) := by decide +kernel
theorem dX8_fold_16 : decode cX8_fold 16 = .ok (.ifCond .ne 12, 3) := by decide +kernel
theorem dX8_fold_19 : decode cX8_fold 19 = .ok (.aload_n 2, 1) := by decide +kernel
theorem dX8_fold_20 : decode cX8_fold 20 = .ok (.getfield 139, 3) := by decide +kernel
theorem dX8_fold_23 : decode cX8_fold 23 = .ok (.bipush 8, 2) := by decide +kernel
theorem dX8_fold_25 : decode cX8_fold 25 = .ok (.if_icmp .gt 6, 3) := by decide +kernel
theorem dX8_fold_28 : decode cX8_fold 28 = .ok (.bipush (-2), 2) := by decide +kernel
theorem dX8_fold_30 : decode cX8_fold 30 = .ok (.ireturn, 1) := by decide +kernel
theorem dX8_fold_31 : decode cX8_fold 31 = .ok (.aload_n 0, 1) := by decide +kernel
theorem dX8_fold_32 : decode cX8_fold 32 = .ok (.invokevirtual 76, 3) := by decide +kernel
theorem dX8_fold_35 : decode cX8_fold 35 = .ok (.astore_n 3, 1) := by decide +kernel
theorem dX8_fold_36 : decode cX8_fold 36 = .ok (.aload_n 3, 1) := by decide +kernel
theorem dX8_fold_37 : decode cX8_fold 37 = .ok (.ifnonnull 6, 3) := by decide +kernel
theorem dX8_fold_40 : decode cX8_fold 40 = .ok (.bipush (-4), 2) := by decide +kernel
theorem dX8_fold_42 : decode cX8_fold 42 = .ok (.ireturn, 1) := by decide +kernel
theorem dX8_fold_43 : decode cX8_fold 43 = .ok (.aload_n 3, 1) := by decide +kernel
theorem dX8_fold_44 : decode cX8_fold 44 = .ok (.iconst 0, 1) := by decide +kernel
theorem dX8_fold_45 : decode cX8_fold 45 = .ok (.aload_n 2, 1) := by decide +kernel
theorem dX8_fold_46 : decode cX8_fold 46 = .ok (.getfield 139, 3) := by decide +kernel
theorem dX8_fold_49 : decode cX8_fold 49 = .ok (.iconst 2, 1) := by decide +kernel
theorem dX8_fold_50 : decode cX8_fold 50 = .ok (.idiv, 1) := by decide +kernel
theorem dX8_fold_51 : decode cX8_fold 51 = .ok (.aload_n 2, 1) := by decide +kernel
theorem dX8_fold_52 : decode cX8_fold 52 = .ok (.getfield 142, 3) := by decide +kernel
theorem dX8_fold_55 : decode cX8_fold 55 = .ok (.aload_n 2, 1) := by decide +kernel
theorem dX8_fold_56 : decode cX8_fold 56 = .ok (.getfield 145, 3) := by decide +kernel
theorem dX8_fold_59 : decode cX8_fold 59 = .ok (.invokevirtual 80, 3) := by decide +kernel
theorem dX8_fold_62 : decode cX8_fold 62 = .ok (.aload_n 3, 1) := by decide +kernel
theorem dX8_fold_63 : decode cX8_fold 63 = .ok (.aload_n 2, 1) := by decide +kernel
theorem dX8_fold_64 : decode cX8_fold 64 = .ok (.invokevirtual 158, 3) := by decide +kernel
theorem dX8_fold_67 : decode cX8_fold 67 = .ok (.aload_n 3, 1) := by decide +kernel
theorem dX8_fold_68 : decode cX8_fold 68 = .ok (.getfield 95, 3) := by decide +kernel
theorem dX8_fold_71 : decode cX8_fold 71 = .ok (.aload_n 2, 1) := by decide +kernel
theorem dX8_fold_72 : decode cX8_fold 72 = .ok (.getfield 95, 3) := by decide +kernel
theorem dX8_fold_75 : decode cX8_fold 75 = .ok (.invokevirtual 50, 3) := by decide +kernel
theorem dX8_fold_78 : decode cX8_fold 78 = .ok (.aload_n 0, 1) := by decide +kernel
theorem dX8_fold_79 : decode cX8_fold 79 = .ok (.dup, 1) := by decide +kernel
theorem dX8_fold_80 : decode cX8_fold 80 = .ok (.getfield 84, 3) := by decide +kernel
theorem dX8_fold_83 : decode cX8_fold 83 = .ok (.dup_x1, 1) := by decide +kernel
theorem dX8_fold_84 : decode cX8_fold 84 = .ok (.iconst 1, 1) := by decide +kernel
theorem dX8_fold_85 : decode cX8_fold 85 = .ok (.iadd, 1) := by decide +kernel
theorem dX8_fold_86 : decode cX8_fold 86 = .ok (.putfield 84, 3) := by decide +kernel
theorem dX8_fold_89 : decode cX8_fold 89 = .ok (.ireturn, 1) := by decide +kernel
set_option maxRecDepth 20000 in
theorem gu_wsX8_about_1 : ∀ w ∈ wsX8_about_r1, w ∈ wsX8_about := fun _ h => List.mem_cons_of_mem _ (List.mem_append_left _ (List.mem_append_left _ (List.mem_append_left _ (List.mem_append_left _ (List.mem_append_left _ (List.mem_append_left _ h))))))
set_option maxRecDepth 20000 in
theorem gu_wsX8_about_5 : ∀ w ∈ wsX80, w ∈ wsX8_about := fun _ h => List.mem_cons_of_mem _ (List.mem_append_left _ (List.mem_append_left _ (List.mem_append_left _ (List.mem_append_right _ h))))
set_option maxRecDepth 20000 in
theorem ggX8_about_X8_sieveAt : GoodIn wsX8_about wsX8_sieveAt := goodIn_sub (gi_c (gu_wsX8_about_1 _ gm_4) (gi_a (gi_c (gu_wsX8_about_1 _ gm_5) (gi_c (gu_wsX8_about_1 _ gm_6) gi_0)) (gu_wsX8_about_5))) (by decide +kernel)
set_option maxRecDepth 20000 in
theorem gX8_about_X8_sieveAt : GoodIn wsX8_about (wsV RX8 110 RX8 yX8_sieveAt wsX8_sieveAt) := goodIn_app (goodIn_sub (gi_c (gu_wsX8_about_1 _ gm_0) (gi_c (gu_wsX8_about_1 _ gm_1) (gi_c (gu_wsX8_about_1 _ gm_2) (gi_c (gu_wsX8_about_1 _ gm_3) gi_0)))) (by decide +kernel)) ggX8_about_X8_sieveAt
set_option maxRecDepth 20000 in
theorem gu_wsX8_about_6 : ∀ w ∈ wsX00, w ∈ wsX8_about := fun _ h => List.mem_cons_of_mem _ (List.mem_append_left _ (List.mem_append_left _ (List.mem_append_right _ h)))
set_option maxRecDepth 20000 in
theorem ggX8_about_X0_count : GoodIn wsX8_about wsX0_count := goodIn_sub (gi_c (gu_wsX8_about_1 _ gm_11) (gi_a (gi_c (gu_wsX8_about_1 _ gm_12) gi_0) (gu_wsX8_about_6))) (by decide +kernel)
set_option maxRecDepth 20000 in
theorem gX8_about_X0_count : GoodIn wsX8_about (wsV RX8 61 RX0 yX0_count wsX0_count) := goodIn_app (goodIn_sub (gi_c (gu_wsX8_about_1 _ gm_7) (gi_c (gu_wsX8_about_1 _ gm_8) (gi_c (gu_wsX8_about_1 _ gm_9) (gi_c (gu_wsX8_about_1 _ gm_10) gi_0)))) (by decide +kernel)) ggX8_about_X0_count
set_option maxRecDepth 20000 in
theorem gu_wsX8_about_2 : ∀ w ∈ wsX8_about_r2, w ∈ wsX8_about := fun _ h => List.mem_cons_of_mem _ (List.mem_append_left _ (List.mem_append_left _ (List.mem_append_left _ (List.mem_append_left _ (List.mem_append_left _ (List.mem_append_right _ (List.mem_append_left _ h)))))))
set_option maxRecDepth 20000 in
theorem gu_wsX8_about_4 : ∀ w ∈ wsX60, w ∈ wsX8_about := fun _ h => List.mem_cons_of_mem _ (List.mem_append_left _ (List.mem_append_left _ (List.mem_append_left _ (List.mem_append_left _ (List.mem_append_right _ h)))))
set_option maxRecDepth 20000 in
theorem gu_wsX8_about_7 : ∀ w ∈ wsX30, w ∈ wsX8_about := fun _ h => List.mem_cons_of_mem _ (List.mem_append_left _ (List.mem_append_right _ h))
set_option maxRecDepth 20000 in
theorem gu_wsX8_about_8 : ∀ w ∈ wsX10, w ∈ wsX8_about := fun _ h => List.mem_cons_of_mem _ (List.mem_append_right _ h)
set_option maxRecDepth 20000 in
theorem ggX8_about_X6_weight : GoodIn wsX8_about wsX6_weight := goodIn_sub (gi_c (gu_wsX8_about_1 _ gm_17) (gi_a (gi_a (gi_a (gi_a (gi_c (gu_wsX8_about_1 _ gm_18) (gi_c (gu_wsX8_about_1 _ gm_19) (gi_c (gu_wsX8_about_1 _ gm_20) (gi_c (gu_wsX8_about_1 _ gm_21) (gi_c (gu_wsX8_about_1 _ gm_22) (gi_c (gu_wsX8_about_1 _ gm_23) (gi_c (gu_wsX8_about_2 _ gm_0) (gi_c (gu_wsX8_about_2 _ gm_1) (gi_c (gu_wsX8_about_2 _ gm_2) (gi_c (gu_wsX8_about_2 _ gm_3) (gi_c (gu_wsX8_about_2 _ gm_4) (gi_c (gu_wsX8_about_2 _ gm_5) (gi_c (gu_wsX8_about_1 _ gm_8) (gi_c (gu_wsX8_about_1 _ gm_9) (gi_c (gu_wsX8_about_1 _ gm_10) (gi_c (gu_wsX8_about_1 _ gm_11) (gi_c (gu_wsX8_about_1 _ gm_12) (gi_c (gu_wsX8_about_2 _ gm_6) (gi_c (gu_wsX8_about_2 _ gm_7) (gi_c (gu_wsX8_about_2 _ gm_8) (gi_c (gu_wsX8_about_2 _ gm_9) (gi_c (gu_wsX8_about_2 _ gm_10) (gi_c (gu_wsX8_about_2 _ gm_11) gi_0))))))))))))))))))))))) (gu_wsX8_about_4)) (gu_wsX8_about_7)) (gu_wsX8_about_6)) (gu_wsX8_about_8))) (by decide +kernel)
set_option maxRecDepth 20000 in
theorem gX8_about_X6_weight : GoodIn wsX8_about (wsV RX8 161 RX6 yX6_weight wsX6_weight) := goodIn_app (goodIn_sub (gi_c (gu_wsX8_about_1 _ gm_13) (gi_c (gu_wsX8_about_1 _ gm_14) (gi_c (gu_wsX8_about_1 _ gm_15) (gi_c (gu_wsX8_about_1 _ gm_16) gi_0)))) (by decide +kernel)) ggX8_about_X6_weight
set_option maxRecDepth 20000 in
theorem gu_wsX8_about_3 : ∀ w ∈ wsX8_about_r3, w ∈ wsX8_about := fun _ h => List.mem_cons_of_mem _ (List.mem_append_left _ (List.mem_append_left _ (List.mem_append_left _ (List.mem_append_left _ (List.mem_append_left _ (List.mem_append_right _ (List.mem_append_right _ h)))))))
set_option maxRecDepth 20000 in
theorem ggX8_about_X6_filled : GoodIn wsX8_about wsX6_filled := goodIn_sub (gi_c (gu_wsX8_about_2 _ gm_15) (gi_a (gi_a (gi_a (gi_a (gi_c (gu_wsX8_about_1 _ gm_18) (gi_c (gu_wsX8_about_1 _ gm_20) (gi_c (gu_wsX8_about_2 _ gm_16) (gi_c (gu_wsX8_about_2 _ gm_17) (gi_c (gu_wsX8_about_2 _ gm_18) (gi_c (gu_wsX8_about_2 _ gm_0) (gi_c (gu_wsX8_about_2 _ gm_19) (gi_c (gu_wsX8_about_2 _ gm_2) (gi_c (gu_wsX8_about_2 _ gm_5) (gi_c (gu_wsX8_about_1 _ gm_8) (gi_c (gu_wsX8_about_1 _ gm_9) (gi_c (gu_wsX8_about_1 _ gm_10) (gi_c (gu_wsX8_about_1 _ gm_11) (gi_c (gu_wsX8_about_1 _ gm_12) (gi_c (gu_wsX8_about_2 _ gm_20) (gi_c (gu_wsX8_about_2 _ gm_21) (gi_c (gu_wsX8_about_2 _ gm_22) (gi_c (gu_wsX8_about_1 _ gm_16) (gi_c (gu_wsX8_about_2 _ gm_23) (gi_c (gu_wsX8_about_1 _ gm_19) (gi_c (gu_wsX8_about_3 _ gm_0) (gi_c (gu_wsX8_about_3 _ gm_1) (gi_c (gu_wsX8_about_3 _ gm_2) (gi_c (gu_wsX8_about_3 _ gm_3) gi_0)))))))))))))))))))))))) (gi_c (gu_wsX8_about_3 _ gm_4) gi_0)) (gu_wsX8_about_4)) (gu_wsX8_about_7)) (gu_wsX8_about_6))) (by decide +kernel)
set_option maxRecDepth 20000 in
theorem gX8_about_X6_filled : GoodIn wsX8_about (wsV RX8 164 RX6 yX6_filled wsX6_filled) := goodIn_app (goodIn_sub (gi_c (gu_wsX8_about_2 _ gm_12) (gi_c (gu_wsX8_about_2 _ gm_13) (gi_c (gu_wsX8_about_2 _ gm_14) (gi_c (gu_wsX8_about_1 _ gm_16) gi_0)))) (by decide +kernel)) ggX8_about_X6_filled
theorem dX8_about_0 : decode cX8_about 0 = .ok (.aload_n 0, 1) := by decide +kernel
theorem dX8_about_1 : decode cX8_about 1 = .ok (.iload_n 1, 1) := by decide +kernel
theorem dX8_about_2 : decode cX8_about 2 = .ok (.invokevirtual 110, 3) := by decide +kernel
theorem dX8_about_5 : decode cX8_about 5 = .ok (.astore_n 3, 1) := by decide +kernel
theorem dX8_about_6 : decode cX8_about 6 = .ok (.aload_n 3, 1) := by decide +kernel
theorem dX8_about_7 : decode cX8_about 7 = .ok (.ifnonnull 5, 3) := by decide +kernel
theorem dX8_about_10 : decode cX8_about 10 = .ok (.iconst (-1), 1) := by decide +kernel
theorem dX8_about_11 : decode cX8_about 11 = .ok (.ireturn, 1) := by decide +kernel
theorem dX8_about_12 : decode cX8_about 12 = .ok (.iload_n 2, 1) := by decide +kernel
theorem dX8_about_13 : decode cX8_about 13 = .ok (.tableswitch 81 0 6 #[43, 48, 53, 58, 63, 71, 76], 43) := by decide +kernel
theorem dX8_about_56 : decode cX8_about 56 = .ok (.aload_n 3, 1) := by decide +kernel
theorem dX8_about_57 : decode cX8_about 57 = .ok (.getfield 122, 3) := by decide +kernel
theorem dX8_about_60 : decode cX8_about 60 = .ok (.ireturn, 1) := by decide +kernel
theorem dX8_about_61 : decode cX8_about 61 = .ok (.aload_n 3, 1) := by decide +kernel
theorem dX8_about_62 : decode cX8_about 62 = .ok (.getfield 139, 3) := by decide +kernel
theorem dX8_about_65 : decode cX8_about 65 = .ok (.ireturn, 1) := by decide +kernel
theorem dX8_about_66 : decode cX8_about 66 = .ok (.aload_n 3, 1) := by decide +kernel
theorem dX8_about_67 : decode cX8_about 67 = .ok (.getfield 142, 3) := by decide +kernel
theorem dX8_about_70 : decode cX8_about 70 = .ok (.ireturn, 1) := by decide +kernel
theorem dX8_about_71 : decode cX8_about 71 = .ok (.aload_n 3, 1) := by decide +kernel
theorem dX8_about_72 : decode cX8_about 72 = .ok (.getfield 145, 3) := by decide +kernel
theorem dX8_about_75 : decode cX8_about 75 = .ok (.ireturn, 1) := by decide +kernel
theorem dX8_about_76 : decode cX8_about 76 = .ok (.aload_n 3, 1) := by decide +kernel
theorem dX8_about_77 : decode cX8_about 77 = .ok (.getfield 95, 3) := by decide +kernel
theorem dX8_about_80 : decode cX8_about 80 = .ok (.invokevirtual 61, 3) := by decide +kernel
theorem dX8_about_83 : decode cX8_about 83 = .ok (.ireturn, 1) := by decide +kernel
theorem dX8_about_84 : decode cX8_about 84 = .ok (.aload_n 3, 1) := by decide +kernel
theorem dX8_about_85 : decode cX8_about 85 = .ok (.invokevirtual 161, 3) := by decide +kernel
theorem dX8_about_88 : decode cX8_about 88 = .ok (.ireturn, 1) := by decide +kernel
theorem dX8_about_89 : decode cX8_about 89 = .ok (.aload_n 3, 1) := by decide +kernel
theorem dX8_about_90 : decode cX8_about 90 = .ok (.invokevirtual 164, 3) := by decide +kernel
theorem dX8_about_93 : decode cX8_about 93 = .ok (.ireturn, 1) := by decide +kernel
theorem dX8_about_94 : decode cX8_about 94 = .ok (.iconst (-1), 1) := by decide +kernel
theorem dX8_about_95 : decode cX8_about 95 = .ok (.ireturn, 1) := by decide +kernel
set_option maxRecDepth 20000 in
theorem gu_wsX8_cell_1 : ∀ w ∈ ([Cond.methodLink RX8 110 yX8_sieveAt, Cond.instanceMethod yX8_sieveAt, Cond.selects RX8 yX8_sieveAt yX8_sieveAt, Cond.initialized RX8, Cond.code yX8_sieveAt cX8_sieveAt 2 (some (.object "SieveCabinet$Sieve")), Cond.fieldLink RX8 84 "SieveCabinet" "made" "I", Cond.fieldLink RX8 17 "SieveCabinet" "slots" "[LSieveCabinet$Sieve;", Cond.methodLink RX8 167 yX6_places, Cond.instanceMethod yX6_places, Cond.selects RX6 yX6_places yX6_places, Cond.initialized RX6, Cond.code yX6_places cX6_places 1 (some .int), Cond.fieldLink RX6 22 "SieveCabinet$Sieve" "kind" "I", Cond.fieldLink RX6 26 "SieveCabinet$Sieve" "size" "I", Cond.methodLink RX8 168 yX6_cellAt, Cond.instanceMethod yX6_cellAt, Cond.selects RX6 yX6_cellAt yX6_cellAt, Cond.code yX6_cellAt cX6_cellAt 2 (some .int), Cond.fieldLink RX6 9 "SieveCabinet$Sieve" "cells" "[I"] : List Cond), w ∈ wsX8_cell := fun _ h => List.mem_cons_of_mem _ (List.mem_append_left _ (List.mem_append_left _ h))
set_option maxRecDepth 20000 in
theorem gu_wsX8_cell_3 : ∀ w ∈ wsX80, w ∈ wsX8_cell := fun _ h => List.mem_cons_of_mem _ (List.mem_append_right _ h)
set_option maxRecDepth 20000 in
theorem ggX8_cell_X8_sieveAt : GoodIn wsX8_cell wsX8_sieveAt := goodIn_sub (gi_c (gu_wsX8_cell_1 _ gm_4) (gi_a (gi_c (gu_wsX8_cell_1 _ gm_5) (gi_c (gu_wsX8_cell_1 _ gm_6) gi_0)) (gu_wsX8_cell_3))) (by decide +kernel)
set_option maxRecDepth 20000 in
theorem gX8_cell_X8_sieveAt : GoodIn wsX8_cell (wsV RX8 110 RX8 yX8_sieveAt wsX8_sieveAt) := goodIn_app (goodIn_sub (gi_c (gu_wsX8_cell_1 _ gm_0) (gi_c (gu_wsX8_cell_1 _ gm_1) (gi_c (gu_wsX8_cell_1 _ gm_2) (gi_c (gu_wsX8_cell_1 _ gm_3) gi_0)))) (by decide +kernel)) ggX8_cell_X8_sieveAt
set_option maxRecDepth 20000 in
theorem gu_wsX8_cell_2 : ∀ w ∈ wsX60, w ∈ wsX8_cell := fun _ h => List.mem_cons_of_mem _ (List.mem_append_left _ (List.mem_append_right _ h))
set_option maxRecDepth 20000 in
theorem ggX8_cell_X6_places : GoodIn wsX8_cell wsX6_places := goodIn_sub (gi_c (gu_wsX8_cell_1 _ gm_11) (gi_a (gi_c (gu_wsX8_cell_1 _ gm_12) (gi_c (gu_wsX8_cell_1 _ gm_13) gi_0)) (gu_wsX8_cell_2))) (by decide +kernel)
set_option maxRecDepth 20000 in
theorem gX8_cell_X6_places : GoodIn wsX8_cell (wsV RX8 167 RX6 yX6_places wsX6_places) := goodIn_app (goodIn_sub (gi_c (gu_wsX8_cell_1 _ gm_7) (gi_c (gu_wsX8_cell_1 _ gm_8) (gi_c (gu_wsX8_cell_1 _ gm_9) (gi_c (gu_wsX8_cell_1 _ gm_10) gi_0)))) (by decide +kernel)) ggX8_cell_X6_places
set_option maxRecDepth 20000 in
theorem ggX8_cell_X6_cellAt : GoodIn wsX8_cell wsX6_cellAt := goodIn_sub (gi_c (gu_wsX8_cell_1 _ gm_17) (gi_a (gi_c (gu_wsX8_cell_1 _ gm_18) gi_0) (gu_wsX8_cell_2))) (by decide +kernel)
set_option maxRecDepth 20000 in
theorem gX8_cell_X6_cellAt : GoodIn wsX8_cell (wsV RX8 168 RX6 yX6_cellAt wsX6_cellAt) := goodIn_app (goodIn_sub (gi_c (gu_wsX8_cell_1 _ gm_14) (gi_c (gu_wsX8_cell_1 _ gm_15) (gi_c (gu_wsX8_cell_1 _ gm_16) (gi_c (gu_wsX8_cell_1 _ gm_10) gi_0)))) (by decide +kernel)) ggX8_cell_X6_cellAt
theorem dX8_cell_0 : decode cX8_cell 0 = .ok (.aload_n 0, 1) := by decide +kernel
theorem dX8_cell_1 : decode cX8_cell 1 = .ok (.iload_n 1, 1) := by decide +kernel
theorem dX8_cell_2 : decode cX8_cell 2 = .ok (.invokevirtual 110, 3) := by decide +kernel
theorem dX8_cell_5 : decode cX8_cell 5 = .ok (.astore_n 3, 1) := by decide +kernel
theorem dX8_cell_6 : decode cX8_cell 6 = .ok (.aload_n 3, 1) := by decide +kernel
theorem dX8_cell_7 : decode cX8_cell 7 = .ok (.ifnull 15, 3) := by decide +kernel
theorem dX8_cell_10 : decode cX8_cell 10 = .ok (.iload_n 2, 1) := by decide +kernel
theorem dX8_cell_11 : decode cX8_cell 11 = .ok (.ifCond .lt 11, 3) := by decide +kernel
theorem dX8_cell_14 : decode cX8_cell 14 = .ok (.iload_n 2, 1) := by decide +kernel
theorem dX8_cell_15 : decode cX8_cell 15 = .ok (.aload_n 3, 1) := by decide +kernel
theorem dX8_cell_16 : decode cX8_cell 16 = .ok (.invokevirtual 167, 3) := by decide +kernel
theorem dX8_cell_19 : decode cX8_cell 19 = .ok (.if_icmp .lt 5, 3) := by decide +kernel
theorem dX8_cell_22 : decode cX8_cell 22 = .ok (.iconst (-1), 1) := by decide +kernel
theorem dX8_cell_23 : decode cX8_cell 23 = .ok (.ireturn, 1) := by decide +kernel
theorem dX8_cell_24 : decode cX8_cell 24 = .ok (.aload_n 3, 1) := by decide +kernel
theorem dX8_cell_25 : decode cX8_cell 25 = .ok (.getfield 122, 3) := by decide +kernel
theorem dX8_cell_28 : decode cX8_cell 28 = .ok (.iconst 4, 1) := by decide +kernel
theorem dX8_cell_29 : decode cX8_cell 29 = .ok (.if_icmp .ne 8, 3) := by decide +kernel
theorem dX8_cell_32 : decode cX8_cell 32 = .ok (.bipush (-2), 2) := by decide +kernel
theorem dX8_cell_34 : decode cX8_cell 34 = .ok (.goto 8, 3) := by decide +kernel
theorem dX8_cell_37 : decode cX8_cell 37 = .ok (.aload_n 3, 1) := by decide +kernel
theorem dX8_cell_38 : decode cX8_cell 38 = .ok (.iload_n 2, 1) := by decide +kernel
theorem dX8_cell_39 : decode cX8_cell 39 = .ok (.invokevirtual 168, 3) := by decide +kernel
theorem dX8_cell_42 : decode cX8_cell 42 = .ok (.ireturn, 1) := by decide +kernel
set_option maxRecDepth 20000 in
theorem gu_wsX8_layer_1 : ∀ w ∈ wsX8_layer_r1, w ∈ wsX8_layer := fun _ h => List.mem_cons_of_mem _ (List.mem_append_left _ (List.mem_append_left _ (List.mem_append_left _ (List.mem_append_left _ (List.mem_append_left _ h)))))
set_option maxRecDepth 20000 in
theorem gu_wsX8_layer_4 : ∀ w ∈ wsX80, w ∈ wsX8_layer := fun _ h => List.mem_cons_of_mem _ (List.mem_append_left _ (List.mem_append_left _ (List.mem_append_right _ h)))
set_option maxRecDepth 20000 in
theorem ggX8_layer_X8_sieveAt : GoodIn wsX8_layer wsX8_sieveAt := goodIn_sub (gi_c (gu_wsX8_layer_1 _ gm_4) (gi_a (gi_c (gu_wsX8_layer_1 _ gm_5) (gi_c (gu_wsX8_layer_1 _ gm_6) gi_0)) (gu_wsX8_layer_4))) (by decide +kernel)
set_option maxRecDepth 20000 in
theorem gX8_layer_X8_sieveAt : GoodIn wsX8_layer (wsV RX8 110 RX8 yX8_sieveAt wsX8_sieveAt) := goodIn_app (goodIn_sub (gi_c (gu_wsX8_layer_1 _ gm_0) (gi_c (gu_wsX8_layer_1 _ gm_1) (gi_c (gu_wsX8_layer_1 _ gm_2) (gi_c (gu_wsX8_layer_1 _ gm_3) gi_0)))) (by decide +kernel)) ggX8_layer_X8_sieveAt
set_option maxRecDepth 20000 in
theorem gu_wsX8_layer_2 : ∀ w ∈ wsX8_layer_r2, w ∈ wsX8_layer := fun _ h => List.mem_cons_of_mem _ (List.mem_append_left _ (List.mem_append_left _ (List.mem_append_left _ (List.mem_append_left _ (List.mem_append_right _ h)))))
set_option maxRecDepth 20000 in
theorem gu_wsX8_layer_5 : ∀ w ∈ wsX30, w ∈ wsX8_layer := fun _ h => List.mem_cons_of_mem _ (List.mem_append_left _ (List.mem_append_right _ h))
set_option maxRecDepth 20000 in
theorem gu_wsX8_layer_6 : ∀ w ∈ wsX10, w ∈ wsX8_layer := fun _ h => List.mem_cons_of_mem _ (List.mem_append_right _ h)
set_option maxRecDepth 20000 in
theorem ggX8_layer_X3_fact : GoodIn wsX8_layer wsX3_fact := goodIn_sub (gi_c (gu_wsX8_layer_1 _ gm_11) (gi_a (gi_a (gi_c (gu_wsX8_layer_1 _ gm_12) (gi_c (gu_wsX8_layer_1 _ gm_13) (gi_c (gu_wsX8_layer_1 _ gm_14) (gi_c (gu_wsX8_layer_1 _ gm_15) (gi_c (gu_wsX8_layer_1 _ gm_16) (gi_c (gu_wsX8_layer_1 _ gm_17) (gi_c (gu_wsX8_layer_1 _ gm_18) (gi_c (gu_wsX8_layer_1 _ gm_19) (gi_c (gu_wsX8_layer_1 _ gm_20) (gi_c (gu_wsX8_layer_1 _ gm_21) (gi_c (gu_wsX8_layer_1 _ gm_22) (gi_c (gu_wsX8_layer_1 _ gm_23) (gi_c (gu_wsX8_layer_2 _ gm_0) (gi_c (gu_wsX8_layer_2 _ gm_1) (gi_c (gu_wsX8_layer_2 _ gm_2) (gi_c (gu_wsX8_layer_2 _ gm_3) (gi_c (gu_wsX8_layer_2 _ gm_4) (gi_c (gu_wsX8_layer_2 _ gm_5) (gi_c (gu_wsX8_layer_2 _ gm_6) (gi_c (gu_wsX8_layer_2 _ gm_7) (gi_c (gu_wsX8_layer_2 _ gm_8) gi_0))))))))))))))))))))) (gu_wsX8_layer_5)) (gu_wsX8_layer_6))) (by decide +kernel)
set_option maxRecDepth 20000 in
theorem gX8_layer_X3_fact : GoodIn wsX8_layer (wsV RX8 176 RX3 yX3_fact wsX3_fact) := goodIn_app (goodIn_sub (gi_c (gu_wsX8_layer_1 _ gm_7) (gi_c (gu_wsX8_layer_1 _ gm_8) (gi_c (gu_wsX8_layer_1 _ gm_9) (gi_c (gu_wsX8_layer_1 _ gm_10) gi_0)))) (by decide +kernel)) ggX8_layer_X3_fact
theorem dX8_layer_0 : decode cX8_layer 0 = .ok (.aload_n 0, 1) := by decide +kernel
theorem dX8_layer_1 : decode cX8_layer 1 = .ok (.iload_n 1, 1) := by decide +kernel
theorem dX8_layer_2 : decode cX8_layer 2 = .ok (.invokevirtual 110, 3) := by decide +kernel
theorem dX8_layer_5 : decode cX8_layer 5 = .ok (.astore 4, 2) := by decide +kernel
theorem dX8_layer_7 : decode cX8_layer 7 = .ok (.aload 4, 2) := by decide +kernel
theorem dX8_layer_9 : decode cX8_layer 9 = .ok (.ifnull 12, 3) := by decide +kernel
theorem dX8_layer_12 : decode cX8_layer 12 = .ok (.iload_n 3, 1) := by decide +kernel
theorem dX8_layer_13 : decode cX8_layer 13 = .ok (.ifCond .lt 8, 3) := by decide +kernel
theorem dX8_layer_16 : decode cX8_layer 16 = .ok (.iload_n 3, 1) := by decide +kernel
theorem dX8_layer_17 : decode cX8_layer 17 = .ok (.iconst 2, 1) := by decide +kernel
theorem dX8_layer_18 : decode cX8_layer 18 = .ok (.if_icmp .le 5, 3) := by decide +kernel
theorem dX8_layer_21 : decode cX8_layer 21 = .ok (.iconst (-1), 1) := by decide +kernel
theorem dX8_layer_22 : decode cX8_layer 22 = .ok (.ireturn, 1) := by decide +kernel
theorem dX8_layer_23 : decode cX8_layer 23 = .ok (.aload 4, 2) := by decide +kernel
theorem dX8_layer_25 : decode cX8_layer 25 = .ok (.getfield 122, 3) := by decide +kernel
theorem dX8_layer_28 : decode cX8_layer 28 = .ok (.iconst 4, 1) := by decide +kernel
theorem dX8_layer_29 : decode cX8_layer 29 = .ok (.if_icmp .ne 11, 3) := by decide +kernel
theorem dX8_layer_32 : decode cX8_layer 32 = .ok (.aload 4, 2) := by decide +kernel
theorem dX8_layer_34 : decode cX8_layer 34 = .ok (.getfield 172, 3) := by decide +kernel
theorem dX8_layer_37 : decode cX8_layer 37 = .ok (.ifnonnull 6, 3) := by decide +kernel
theorem dX8_layer_40 : decode cX8_layer 40 = .ok (.bipush (-2), 2) := by decide +kernel
theorem dX8_layer_42 : decode cX8_layer 42 = .ok (.ireturn, 1) := by decide +kernel
theorem dX8_layer_43 : decode cX8_layer 43 = .ok (.aload 4, 2) := by decide +kernel
theorem dX8_layer_45 : decode cX8_layer 45 = .ok (.getfield 172, 3) := by decide +kernel
theorem dX8_layer_48 : decode cX8_layer 48 = .ok (.iload_n 2, 1) := by decide +kernel
theorem dX8_layer_49 : decode cX8_layer 49 = .ok (.iload_n 3, 1) := by decide +kernel
theorem dX8_layer_50 : decode cX8_layer 50 = .ok (.invokevirtual 176, 3) := by decide +kernel
theorem dX8_layer_53 : decode cX8_layer 53 = .ok (.ireturn, 1) := by decide +kernel
set_option maxRecDepth 20000 in
theorem gu_wsX8_mark_1 : ∀ w ∈ wsX8_mark_r1, w ∈ wsX8_mark := fun _ h => List.mem_cons_of_mem _ (List.mem_append_left _ (List.mem_append_left _ (List.mem_append_left _ h)))
set_option maxRecDepth 20000 in
theorem gu_wsX8_mark_5 : ∀ w ∈ wsX80, w ∈ wsX8_mark := fun _ h => List.mem_cons_of_mem _ (List.mem_append_right _ h)
set_option maxRecDepth 20000 in
theorem ggX8_mark_X8_sieveAt : GoodIn wsX8_mark wsX8_sieveAt := goodIn_sub (gi_c (gu_wsX8_mark_1 _ gm_4) (gi_a (gi_c (gu_wsX8_mark_1 _ gm_5) (gi_c (gu_wsX8_mark_1 _ gm_6) gi_0)) (gu_wsX8_mark_5))) (by decide +kernel)
set_option maxRecDepth 20000 in
theorem gX8_mark_X8_sieveAt : GoodIn wsX8_mark (wsV RX8 110 RX8 yX8_sieveAt wsX8_sieveAt) := goodIn_app (goodIn_sub (gi_c (gu_wsX8_mark_1 _ gm_0) (gi_c (gu_wsX8_mark_1 _ gm_1) (gi_c (gu_wsX8_mark_1 _ gm_2) (gi_c (gu_wsX8_mark_1 _ gm_3) gi_0)))) (by decide +kernel)) ggX8_mark_X8_sieveAt
set_option maxRecDepth 20000 in
theorem gu_wsX8_mark_4 : ∀ w ∈ wsX60, w ∈ wsX8_mark := fun _ h => List.mem_cons_of_mem _ (List.mem_append_left _ (List.mem_append_right _ h))
set_option maxRecDepth 20000 in
theorem ggX8_mark_X6_spots : GoodIn wsX8_mark wsX6_spots := goodIn_sub (gi_c (gu_wsX8_mark_1 _ gm_11) (gi_a (gi_c (gu_wsX8_mark_1 _ gm_12) (gi_c (gu_wsX8_mark_1 _ gm_13) gi_0)) (gu_wsX8_mark_4))) (by decide +kernel)
set_option maxRecDepth 20000 in
theorem gX8_mark_X6_spots : GoodIn wsX8_mark (wsV RX8 182 RX6 yX6_spots wsX6_spots) := goodIn_app (goodIn_sub (gi_c (gu_wsX8_mark_1 _ gm_7) (gi_c (gu_wsX8_mark_1 _ gm_8) (gi_c (gu_wsX8_mark_1 _ gm_9) (gi_c (gu_wsX8_mark_1 _ gm_10) gi_0)))) (by decide +kernel)) ggX8_mark_X6_spots
set_option maxRecDepth 20000 in
theorem gu_wsX8_mark_2 : ∀ w ∈ wsX8_mark_r2, w ∈ wsX8_mark := fun _ h => List.mem_cons_of_mem _ (List.mem_append_left _ (List.mem_append_left _ (List.mem_append_right _ (List.mem_append_left _ h))))
set_option maxRecDepth 20000 in
theorem gu_wsX8_mark_3 : ∀ w ∈ wsX8_mark_r3, w ∈ wsX8_mark := fun _ h => List.mem_cons_of_mem _ (List.mem_append_left _ (List.mem_append_left _ (List.mem_append_right _ (List.mem_append_right _ h))))
set_option maxRecDepth 20000 in
theorem ggX8_mark_X6_spot : GoodIn wsX8_mark wsX6_spot := goodIn_sub (gi_c (gu_wsX8_mark_1 _ gm_17) (gi_a (gi_a (gi_c (gu_wsX8_mark_1 _ gm_18) (gi_c (gu_wsX8_mark_1 _ gm_12) (gi_c (gu_wsX8_mark_1 _ gm_19) (gi_c (gu_wsX8_mark_1 _ gm_20) (gi_c (gu_wsX8_mark_1 _ gm_21) (gi_c (gu_wsX8_mark_1 _ gm_22) (gi_c (gu_wsX8_mark_1 _ gm_23) (gi_c (gu_wsX8_mark_2 _ gm_0) (gi_c (gu_wsX8_mark_2 _ gm_1) (gi_c (gu_wsX8_mark_2 _ gm_2) (gi_c (gu_wsX8_mark_2 _ gm_3) (gi_c (gu_wsX8_mark_2 _ gm_4) (gi_c (gu_wsX8_mark_2 _ gm_5) (gi_c (gu_wsX8_mark_2 _ gm_6) (gi_c (gu_wsX8_mark_2 _ gm_7) (gi_c (gu_wsX8_mark_2 _ gm_8) (gi_c (gu_wsX8_mark_2 _ gm_9) (gi_c (gu_wsX8_mark_2 _ gm_10) (gi_c (gu_wsX8_mark_2 _ gm_11) (gi_c (gu_wsX8_mark_2 _ gm_12) (gi_c (gu_wsX8_mark_2 _ gm_13) (gi_c (gu_wsX8_mark_2 _ gm_14) (gi_c (gu_wsX8_mark_2 _ gm_15) (gi_c (gu_wsX8_mark_2 _ gm_16) gi_0)))))))))))))))))))))))) (gi_c (gu_wsX8_mark_2 _ gm_17) (gi_c (gu_wsX8_mark_2 _ gm_18) (gi_c (gu_wsX8_mark_2 _ gm_19) (gi_c (gu_wsX8_mark_2 _ gm_20) (gi_c (gu_wsX8_mark_2 _ gm_21) (gi_c (gu_wsX8_mark_2 _ gm_22) (gi_c (gu_wsX8_mark_2 _ gm_23) (gi_c (gu_wsX8_mark_3 _ gm_0) (gi_c (gu_wsX8_mark_3 _ gm_1) (gi_c (gu_wsX8_mark_3 _ gm_2) (gi_c (gu_wsX8_mark_3 _ gm_3) (gi_c (gu_wsX8_mark_3 _ gm_4) gi_0))))))))))))) (gu_wsX8_mark_4))) (by decide +kernel)
set_option maxRecDepth 20000 in
theorem gX8_mark_X6_spot : GoodIn wsX8_mark (wsV RX8 185 RX6 yX6_spot wsX6_spot) := goodIn_app (goodIn_sub (gi_c (gu_wsX8_mark_1 _ gm_14) (gi_c (gu_wsX8_mark_1 _ gm_15) (gi_c (gu_wsX8_mark_1 _ gm_16) (gi_c (gu_wsX8_mark_1 _ gm_10) gi_0)))) (by decide +kernel)) ggX8_mark_X6_spot
theorem dX8_mark_0 : decode cX8_mark 0 = .ok (.aload_n 0, 1) := by decide +kernel
theorem dX8_mark_1 : decode cX8_mark 1 = .ok (.iload_n 1, 1) := by decide +kernel
theorem dX8_mark_2 : decode cX8_mark 2 = .ok (.invokevirtual 110, 3) := by decide +kernel
theorem dX8_mark_5 : decode cX8_mark 5 = .ok (.astore 5, 2) := by decide +kernel
theorem dX8_mark_7 : decode cX8_mark 7 = .ok (.aload 5, 2) := by decide +kernel
theorem dX8_mark_9 : decode cX8_mark 9 = .ok (.ifnonnull 5, 3) := by decide +kernel
theorem dX8_mark_12 : decode cX8_mark 12 = .ok (.iconst (-1), 1) := by decide +kernel
theorem dX8_mark_13 : decode cX8_mark 13 = .ok (.ireturn, 1) := by decide +kernel
theorem dX8_mark_14 : decode cX8_mark 14 = .ok (.aload 5, 2) := by decide +kernel
theorem dX8_mark_16 : decode cX8_mark 16 = .ok (.getfield 122, 3) := by decide +kernel
theorem dX8_mark_19 : decode cX8_mark 19 = .ok (.iconst 4, 1) := by decide +kernel
theorem dX8_mark_20 : decode cX8_mark 20 = .ok (.if_icmp .ne 6, 3) := by decide +kernel
theorem dX8_mark_23 : decode cX8_mark 23 = .ok (.bipush (-2), 2) := by decide +kernel
theorem dX8_mark_25 : decode cX8_mark 25 = .ok (.ireturn, 1) := by decide +kernel
theorem dX8_mark_26 : decode cX8_mark 26 = .ok (.iload 4, 2) := by decide +kernel
theorem dX8_mark_28 : decode cX8_mark 28 = .ok (.ifCond .lt 13, 3) := by decide +kernel
theorem dX8_mark_31 : decode cX8_mark 31 = .ok (.iload 4, 2) := by decide +kernel
theorem dX8_mark_33 : decode cX8_mark 33 = .ok (.aload 5, 2) := by decide +kernel
theorem dX8_mark_35 : decode cX8_mark 35 = .ok (.invokevirtual 182, 3) := by decide +kernel
theorem dX8_mark_38 : decode cX8_mark 38 = .ok (.if_icmp .lt 7, 3) := by decide +kernel
theorem dX8_mark_41 : decode cX8_mark 41 = .ok (.iconst (-1), 1) := by decide +kernel
theorem dX8_mark_42 : decode cX8_mark 42 = .ok (.goto 11, 3) := by decide +kernel
theorem dX8_mark_45 : decode cX8_mark 45 = .ok (.aload 5, 2) := by decide +kernel
theorem dX8_mark_47 : decode cX8_mark 47 = .ok (.lload_n 2, 1) := by decide +kernel
theorem dX8_mark_48 : decode cX8_mark 48 = .ok (.iload 4, 2) := by decide +kernel
theorem dX8_mark_50 : decode cX8_mark 50 = .ok (.invokevirtual 185, 3) := by decide +kernel
theorem dX8_mark_53 : decode cX8_mark 53 = .ok (.ireturn, 1) := by decide +kernel
set_option maxRecDepth 20000 in
theorem gu_wsX8_fewest_1 : ∀ w ∈ wsX8_fewest_r1, w ∈ wsX8_fewest := fun _ h => List.mem_cons_of_mem _ (List.mem_append_left _ (List.mem_append_left _ (List.mem_append_left _ (List.mem_append_left _ (List.mem_append_left _ h)))))
set_option maxRecDepth 20000 in
theorem gu_wsX8_fewest_6 : ∀ w ∈ wsX80, w ∈ wsX8_fewest := fun _ h => List.mem_cons_of_mem _ (List.mem_append_left _ (List.mem_append_left _ (List.mem_append_left _ (List.mem_append_right _ h))))
set_option maxRecDepth 20000 in
theorem ggX8_fewest_X8_worldAt : GoodIn wsX8_fewest wsX8_worldAt := goodIn_sub (gi_c (gu_wsX8_fewest_1 _ gm_6) (gi_a (gi_c (gu_wsX8_fewest_1 _ gm_7) gi_0) (gu_wsX8_fewest_6))) (by decide +kernel)
set_option maxRecDepth 20000 in
theorem gX8_fewest_X8_worldAt : GoodIn wsX8_fewest (wsV RX8 46 RX8 yX8_worldAt wsX8_worldAt) := goodIn_app (goodIn_sub (gi_c (gu_wsX8_fewest_1 _ gm_2) (gi_c (gu_wsX8_fewest_1 _ gm_3) (gi_c (gu_wsX8_fewest_1 _ gm_4) (gi_c (gu_wsX8_fewest_1 _ gm_5) gi_0)))) (by decide +kernel)) ggX8_fewest_X8_worldAt
set_option maxRecDepth 20000 in
theorem gu_wsX8_fewest_2 : ∀ w ∈ wsX8_fewest_r2, w ∈ wsX8_fewest := fun _ h => List.mem_cons_of_mem _ (List.mem_append_left _ (List.mem_append_left _ (List.mem_append_left _ (List.mem_append_left _ (List.mem_append_right _ (List.mem_append_left _ h))))))
set_option maxRecDepth 20000 in
theorem gu_wsX8_fewest_7 : ∀ w ∈ wsX00, w ∈ wsX8_fewest := fun _ h => List.mem_cons_of_mem _ (List.mem_append_left _ (List.mem_append_left _ (List.mem_append_right _ h)))
set_option maxRecDepth 20000 in
theorem ggX8_fewest_X0_becomeWithout : GoodIn wsX8_fewest wsX0_becomeWithout := goodIn_sub (gi_c (gu_wsX8_fewest_1 _ gm_12) (gi_a (gi_c (gu_wsX8_fewest_1 _ gm_13) (gi_c (gu_wsX8_fewest_1 _ gm_14) (gi_c (gu_wsX8_fewest_1 _ gm_15) (gi_c (gu_wsX8_fewest_1 _ gm_16) (gi_c (gu_wsX8_fewest_1 _ gm_17) (gi_c (gu_wsX8_fewest_1 _ gm_11) (gi_c (gu_wsX8_fewest_1 _ gm_18) (gi_c (gu_wsX8_fewest_1 _ gm_19) (gi_c (gu_wsX8_fewest_1 _ gm_20) (gi_c (gu_wsX8_fewest_1 _ gm_21) (gi_c (gu_wsX8_fewest_1 _ gm_22) (gi_c (gu_wsX8_fewest_1 _ gm_23) (gi_c (gu_wsX8_fewest_2 _ gm_0) (gi_c (gu_wsX8_fewest_2 _ gm_1) (gi_c (gu_wsX8_fewest_2 _ gm_2) (gi_c (gu_wsX8_fewest_2 _ gm_3) (gi_c (gu_wsX8_fewest_2 _ gm_4) (gi_c (gu_wsX8_fewest_2 _ gm_5) (gi_c (gu_wsX8_fewest_2 _ gm_6) (gi_c (gu_wsX8_fewest_2 _ gm_7) (gi_c (gu_wsX8_fewest_2 _ gm_8) (gi_c (gu_wsX8_fewest_2 _ gm_9) (gi_c (gu_wsX8_fewest_2 _ gm_10) gi_0))))))))))))))))))))))) (gu_wsX8_fewest_7))) (by decide +kernel)
set_option maxRecDepth 20000 in
theorem gX8_fewest_X0_becomeWithout : GoodIn wsX8_fewest (wsV RX8 102 RX0 yX0_becomeWithout wsX0_becomeWithout) := goodIn_app (goodIn_sub (gi_c (gu_wsX8_fewest_1 _ gm_8) (gi_c (gu_wsX8_fewest_1 _ gm_9) (gi_c (gu_wsX8_fewest_1 _ gm_10) (gi_c (gu_wsX8_fewest_1 _ gm_11) gi_0)))) (by decide +kernel)) ggX8_fewest_X0_becomeWithout
set_option maxRecDepth 20000 in
theorem gu_wsX8_fewest_3 : ∀ w ∈ wsX8_fewest_r3, w ∈ wsX8_fewest := fun _ h => List.mem_cons_of_mem _ (List.mem_append_left _ (List.mem_append_left _ (List.mem_append_left _ (List.mem_append_left _ (List.mem_append_right _ (List.mem_append_right _ (List.mem_append_left _ h)))))))
set_option maxRecDepth 20000 in
theorem gu_wsX8_fewest_8 : ∀ w ∈ wsX20, w ∈ wsX8_fewest := fun _ h => List.mem_cons_of_mem _ (List.mem_append_left _ (List.mem_append_right _ h))
set_option maxRecDepth 20000 in
theorem ggX8_fewest_X2_begin : GoodIn wsX8_fewest wsX2_begin := goodIn_sub (gi_c (gu_wsX8_fewest_2 _ gm_15) (gi_a (gi_a (gi_c (gu_wsX8_fewest_2 _ gm_16) (gi_c (gu_wsX8_fewest_2 _ gm_17) (gi_c (gu_wsX8_fewest_2 _ gm_18) (gi_c (gu_wsX8_fewest_2 _ gm_19) (gi_c (gu_wsX8_fewest_2 _ gm_20) (gi_c (gu_wsX8_fewest_2 _ gm_21) (gi_c (gu_wsX8_fewest_2 _ gm_22) (gi_c (gu_wsX8_fewest_1 _ gm_11) (gi_c (gu_wsX8_fewest_2 _ gm_23) (gi_c (gu_wsX8_fewest_1 _ gm_13) (gi_c (gu_wsX8_fewest_3 _ gm_0) (gi_c (gu_wsX8_fewest_3 _ gm_1) (gi_c (gu_wsX8_fewest_3 _ gm_2) (gi_c (gu_wsX8_fewest_3 _ gm_3) (gi_c (gu_wsX8_fewest_1 _ gm_14) (gi_c (gu_wsX8_fewest_3 _ gm_4) (gi_c (gu_wsX8_fewest_3 _ gm_5) (gi_c (gu_wsX8_fewest_3 _ gm_6) (gi_c (gu_wsX8_fewest_3 _ gm_7) (gi_c (gu_wsX8_fewest_3 _ gm_8) (gi_c (gu_wsX8_fewest_3 _ gm_9) (gi_c (gu_wsX8_fewest_3 _ gm_10) gi_0)))))))))))))))))))))) (gu_wsX8_fewest_8)) (gu_wsX8_fewest_7))) (by decide +kernel)
set_option maxRecDepth 20000 in
theorem gX8_fewest_X2_begin : GoodIn wsX8_fewest (wsV RX8 189 RX2 yX2_begin wsX2_begin) := goodIn_app (goodIn_sub (gi_c (gu_wsX8_fewest_2 _ gm_11) (gi_c (gu_wsX8_fewest_2 _ gm_12) (gi_c (gu_wsX8_fewest_2 _ gm_13) (gi_c (gu_wsX8_fewest_2 _ gm_14) gi_0)))) (by decide +kernel)) ggX8_fewest_X2_begin
set_option maxRecDepth 20000 in
theorem gu_wsX8_fewest_4 : ∀ w ∈ wsX8_fewest_r4, w ∈ wsX8_fewest := fun _ h => List.mem_cons_of_mem _ (List.mem_append_left _ (List.mem_append_left _ (List.mem_append_left _ (List.mem_append_left _ (List.mem_append_right _ (List.mem_append_right _ (List.mem_append_right _ (List.mem_append_left _ h))))))))
set_option maxRecDepth 20000 in
theorem gu_wsX8_fewest_5 : ∀ w ∈ wsX8_fewest_r5, w ∈ wsX8_fewest := fun _ h => List.mem_cons_of_mem _ (List.mem_append_left _ (List.mem_append_left _ (List.mem_append_left _ (List.mem_append_left _ (List.mem_append_right _ (List.mem_append_right _ (List.mem_append_right _ (List.mem_append_right _ h))))))))
set_option maxRecDepth 20000 in
theorem gu_wsX8_fewest_9 : ∀ w ∈ wsX10, w ∈ wsX8_fewest := fun _ h => List.mem_cons_of_mem _ (List.mem_append_right _ h)
set_option maxRecDepth 20000 in
theorem ggX8_fewest_X2_choose : GoodIn wsX8_fewest wsX2_choose := goodIn_sub (gi_c (gu_wsX8_fewest_3 _ gm_14) (gi_a (gi_a (gi_a (gi_c (gu_wsX8_fewest_3 _ gm_15) (gi_c (gu_wsX8_fewest_3 _ gm_16) (gi_c (gu_wsX8_fewest_3 _ gm_17) (gi_c (gu_wsX8_fewest_3 _ gm_18) (gi_c (gu_wsX8_fewest_3 _ gm_19) (gi_c (gu_wsX8_fewest_3 _ gm_20) (gi_c (gu_wsX8_fewest_3 _ gm_21) (gi_c (gu_wsX8_fewest_3 _ gm_22) (gi_c (gu_wsX8_fewest_3 _ gm_23) (gi_c (gu_wsX8_fewest_4 _ gm_0) (gi_c (gu_wsX8_fewest_4 _ gm_1) (gi_c (gu_wsX8_fewest_4 _ gm_2) (gi_c (gu_wsX8_fewest_4 _ gm_3) (gi_c (gu_wsX8_fewest_4 _ gm_4) (gi_c (gu_wsX8_fewest_4 _ gm_5) (gi_c (gu_wsX8_fewest_4 _ gm_6) (gi_c (gu_wsX8_fewest_4 _ gm_7) (gi_c (gu_wsX8_fewest_4 _ gm_8) (gi_c (gu_wsX8_fewest_4 _ gm_9) (gi_c (gu_wsX8_fewest_4 _ gm_10) (gi_c (gu_wsX8_fewest_4 _ gm_11) (gi_c (gu_wsX8_fewest_4 _ gm_12) (gi_c (gu_wsX8_fewest_2 _ gm_14) (gi_c (gu_wsX8_fewest_4 _ gm_13) gi_0)))))))))))))))))))))))) (gi_a (gi_c (gu_wsX8_fewest_2 _ gm_16) (gi_c (gu_wsX8_fewest_2 _ gm_17) (gi_c (gu_wsX8_fewest_4 _ gm_14) (gi_c (gu_wsX8_fewest_4 _ gm_15) (gi_c (gu_wsX8_fewest_3 _ gm_6) (gi_c (gu_wsX8_fewest_4 _ gm_16) (gi_c (gu_wsX8_fewest_4 _ gm_17) (gi_c (gu_wsX8_fewest_4 _ gm_18) (gi_c (gu_wsX8_fewest_4 _ gm_19) (gi_c (gu_wsX8_fewest_4 _ gm_20) (gi_c (gu_wsX8_fewest_4 _ gm_21) (gi_c (gu_wsX8_fewest_4 _ gm_22) (gi_c (gu_wsX8_fewest_4 _ gm_23) (gi_c (gu_wsX8_fewest_5 _ gm_0) (gi_c (gu_wsX8_fewest_5 _ gm_1) (gi_c (gu_wsX8_fewest_2 _ gm_18) (gi_c (gu_wsX8_fewest_2 _ gm_19) (gi_c (gu_wsX8_fewest_5 _ gm_2) (gi_c (gu_wsX8_fewest_5 _ gm_3) (gi_c (gu_wsX8_fewest_5 _ gm_4) (gi_c (gu_wsX8_fewest_5 _ gm_5) (gi_c (gu_wsX8_fewest_5 _ gm_6) (gi_c (gu_wsX8_fewest_5 _ gm_7) (gi_c (gu_wsX8_fewest_5 _ gm_8) gi_0)))))))))))))))))))))))) (gi_c (gu_wsX8_fewest_5 _ gm_9) (gi_c (gu_wsX8_fewest_5 _ gm_10) gi_0)))) (gu_wsX8_fewest_8)) (gu_wsX8_fewest_9))) (by decide +kernel)
set_option maxRecDepth 20000 in
theorem gX8_fewest_X2_choose : GoodIn wsX8_fewest (wsV RX8 192 RX2 yX2_choose wsX2_choose) := goodIn_app (goodIn_sub (gi_c (gu_wsX8_fewest_3 _ gm_11) (gi_c (gu_wsX8_fewest_3 _ gm_12) (gi_c (gu_wsX8_fewest_3 _ gm_13) (gi_c (gu_wsX8_fewest_2 _ gm_14) gi_0)))) (by decide +kernel)) ggX8_fewest_X2_choose
theorem dX8_fewest_0 : decode cX8_fewest 0 = .ok (.aload_n 0, 1) := by decide +kernel
theorem dX8_fewest_1 : decode cX8_fewest 1 = .ok (.iload_n 1, 1) := by decide +kernel
theorem dX8_fewest_2 : decode cX8_fewest 2 = .ok (.invokevirtual 46, 3) := by decide +kernel
theorem dX8_fewest_5 : decode cX8_fewest 5 = .ok (.astore 5, 2) := by decide +kernel
theorem dX8_fewest_7 : decode cX8_fewest 7 = .ok (.aload_n 0, 1) := by decide +kernel
theorem dX8_fewest_8 : decode cX8_fewest 8 = .ok (.iload_n 2, 1) := by decide +kernel
theorem dX8_fewest_9 : decode cX8_fewest 9 = .ok (.invokevirtual 46, 3) := by decide +kernel
theorem dX8_fewest_12 : decode cX8_fewest 12 = .ok (.astore 6, 2) := by decide +kernel
theorem dX8_fewest_14 : decode cX8_fewest 14 = .ok (.aload 5, 2) := by decide +kernel
theorem dX8_fewest_16 : decode cX8_fewest 16 = .ok (.ifnull 21, 3) := by decide +kernel
theorem dX8_fewest_19 : decode cX8_fewest 19 = .ok (.aload 6, 2) := by decide +kernel
theorem dX8_fewest_21 : decode cX8_fewest 21 = .ok (.ifnull 16, 3) := by decide +kernel
theorem dX8_fewest_24 : decode cX8_fewest 24 = .ok (.iload_n 3, 1) := by decide +kernel
theorem dX8_fewest_25 : decode cX8_fewest 25 = .ok (.bipush 8, 2) := by decide +kernel
theorem dX8_fewest_27 : decode cX8_fewest 27 = .ok (.if_icmp .lt 10, 3) := by decide +kernel
theorem dX8_fewest_30 : decode cX8_fewest 30 = .ok (.iload_n 3, 1) := by decide +kernel
theorem dX8_fewest_31 : decode cX8_fewest 31 = .ok (.sipush 4096, 3) := by decide +kernel
theorem dX8_fewest_34 : decode cX8_fewest 34 = .ok (.if_icmp .le 5, 3) := by decide +kernel
theorem dX8_fewest_37 : decode cX8_fewest 37 = .ok (.iconst (-1), 1) := by decide +kernel
theorem dX8_fewest_38 : decode cX8_fewest 38 = .ok (.ireturn, 1) := by decide +kernel
theorem dX8_fewest_39 : decode cX8_fewest 39 = .ok (.aload_n 0, 1) := by decide +kernel
theorem dX8_fewest_40 : decode cX8_fewest 40 = .ok (.getfield 26, 3) := by decide +kernel
theorem dX8_fewest_43 : decode cX8_fewest 43 = .ok (.aload 6, 2) := by decide +kernel
theorem dX8_fewest_45 : decode cX8_fewest 45 = .ok (.aload 5, 2) := by decide +kernel
theorem dX8_fewest_47 : decode cX8_fewest 47 = .ok (.invokevirtual 102, 3) := by decide +kernel
theorem dX8_fewest_50 : decode cX8_fewest 50 = .ok (.aload_n 0, 1) := by decide +kernel
theorem dX8_fewest_51 : decode cX8_fewest 51 = .ok (.getfield 42, 3) := by decide +kernel
theorem dX8_fewest_54 : decode cX8_fewest 54 = .ok (.aload 5, 2) := by decide +kernel
theorem dX8_fewest_56 : decode cX8_fewest 56 = .ok (.aload_n 0, 1) := by decide +kernel
theorem dX8_fewest_57 : decode cX8_fewest 57 = .ok (.getfield 26, 3) := by decide +kernel
theorem dX8_fewest_60 : decode cX8_fewest 60 = .ok (.iload 4, 2) := by decide +kernel
theorem dX8_fewest_62 : decode cX8_fewest 62 = .ok (.invokevirtual 189, 3) := by decide +kernel
theorem dX8_fewest_65 : decode cX8_fewest 65 = .ok (.aload_n 0, 1) := by decide +kernel
theorem dX8_fewest_66 : decode cX8_fewest 66 = .ok (.getfield 42, 3) := by decide +kernel
theorem dX8_fewest_69 : decode cX8_fewest 69 = .ok (.iload_n 3, 1) := by decide +kernel
theorem dX8_fewest_70 : decode cX8_fewest 70 = .ok (.invokevirtual 192, 3) := by decide +kernel
theorem dX8_fewest_73 : decode cX8_fewest 73 = .ok (.ireturn, 1) := by decide +kernel
theorem dX8_remove_0 : decode cX8_remove 0 = .ok (.aload_n 0, 1) := by decide +kernel
theorem dX8_remove_1 : decode cX8_remove 1 = .ok (.getfield 84, 3) := by decide +kernel
theorem dX8_remove_4 : decode cX8_remove 4 = .ok (.ifCond .gt 5, 3) := by decide +kernel
theorem dX8_remove_7 : decode cX8_remove 7 = .ok (.iconst (-1), 1) := by decide +kernel
theorem dX8_remove_8 : decode cX8_remove 8 = .ok (.ireturn, 1) := by decide +kernel
theorem dX8_remove_9 : decode cX8_remove 9 = .ok (.aload_n 0, 1) := by decide +kernel
theorem dX8_remove_10 : decode cX8_remove 10 = .ok (.dup, 1) := by decide +kernel
theorem dX8_remove_11 : decode cX8_remove 11 = .ok (.getfield 84, 3) := by decide +kernel
theorem dX8_remove_14 : decode cX8_remove 14 = .ok (.iconst 1, 1) := by decide +kernel
theorem dX8_remove_15 : decode cX8_remove 15 = .ok (.isub, 1) := by decide +kernel
theorem dX8_remove_16 : decode cX8_remove 16 = .ok (.putfield 84, 3) := by decide +kernel
theorem dX8_remove_19 : decode cX8_remove 19 = .ok (.aload_n 0, 1) := by decide +kernel
theorem dX8_remove_20 : decode cX8_remove 20 = .ok (.getfield 84, 3) := by decide +kernel
theorem dX8_remove_23 : decode cX8_remove 23 = .ok (.ireturn, 1) := by decide +kernel
theorem dX8_sieves_0 : decode cX8_sieves 0 = .ok (.aload_n 0, 1) := by decide +kernel
theorem dX8_sieves_1 : decode cX8_sieves 1 = .ok (.getfield 84, 3) := by decide +kernel
theorem dX8_sieves_4 : decode cX8_sieves 4 = .ok (.ireturn, 1) := by decide +kernel
theorem dX8_worldAt_0 : decode cX8_worldAt 0 = .ok (.iload_n 1, 1) := by decide +kernel
theorem dX8_worldAt_1 : decode cX8_worldAt 1 = .ok (.ifCond .lt 18, 3) := by decide +kernel
theorem dX8_worldAt_4 : decode cX8_worldAt 4 = .ok (.iload_n 1, 1) := by decide +kernel
theorem dX8_worldAt_5 : decode cX8_worldAt 5 = .ok (.bipush 8, 2) := by decide +kernel
theorem dX8_worldAt_7 : decode cX8_worldAt 7 = .ok (.if_icmp .ge 12, 3) := by decide +kernel
theorem dX8_worldAt_10 : decode cX8_worldAt 10 = .ok (.aload_n 0, 1) := by decide +kernel
theorem dX8_worldAt_11 : decode cX8_worldAt 11 = .ok (.getfield 11, 3) := by decide +kernel
theorem dX8_worldAt_14 : decode cX8_worldAt 14 = .ok (.iload_n 1, 1) := by decide +kernel
theorem dX8_worldAt_15 : decode cX8_worldAt 15 = .ok (.aaload, 1) := by decide +kernel
theorem dX8_worldAt_16 : decode cX8_worldAt 16 = .ok (.goto 4, 3) := by decide +kernel
theorem dX8_worldAt_19 : decode cX8_worldAt 19 = .ok (.aconst_null, 1) := by decide +kernel
theorem dX8_worldAt_20 : decode cX8_worldAt 20 = .ok (.areturn, 1) := by decide +kernel
theorem dX8_sieveAt_0 : decode cX8_sieveAt 0 = .ok (.iload_n 1, 1) := by decide +kernel
theorem dX8_sieveAt_1 : decode cX8_sieveAt 1 = .ok (.ifCond .lt 26, 3) := by decide +kernel
theorem dX8_sieveAt_4 : decode cX8_sieveAt 4 = .ok (.iload_n 1, 1) := by decide +kernel
theorem dX8_sieveAt_5 : decode cX8_sieveAt 5 = .ok (.aload_n 0, 1) := by decide +kernel
theorem dX8_sieveAt_6 : decode cX8_sieveAt 6 = .ok (.getfield 84, 3) := by decide +kernel
theorem dX8_sieveAt_9 : decode cX8_sieveAt 9 = .ok (.if_icmp .ge 18, 3) := by decide +kernel
theorem dX8_sieveAt_12 : decode cX8_sieveAt 12 = .ok (.iload_n 1, 1) := by decide +kernel
theorem dX8_sieveAt_13 : decode cX8_sieveAt 13 = .ok (.bipush 30, 2) := by decide +kernel
theorem dX8_sieveAt_15 : decode cX8_sieveAt 15 = .ok (.if_icmp .ge 12, 3) := by decide +kernel
theorem dX8_sieveAt_18 : decode cX8_sieveAt 18 = .ok (.aload_n 0, 1) := by decide +kernel
theorem dX8_sieveAt_19 : decode cX8_sieveAt 19 = .ok (.getfield 17, 3) := by decide +kernel
theorem dX8_sieveAt_22 : decode cX8_sieveAt 22 = .ok (.iload_n 1, 1) := by decide +kernel
theorem dX8_sieveAt_23 : decode cX8_sieveAt 23 = .ok (.aaload, 1) := by decide +kernel
theorem dX8_sieveAt_24 : decode cX8_sieveAt 24 = .ok (.goto 4, 3) := by decide +kernel
theorem dX8_sieveAt_27 : decode cX8_sieveAt 27 = .ok (.aconst_null, 1) := by decide +kernel
theorem dX8_sieveAt_28 : decode cX8_sieveAt 28 = .ok (.areturn, 1) := by decide +kernel
set_option maxRecDepth 20000 in
theorem gu_wsX8_nextSlot_1 : ∀ w ∈ ([Cond.fieldLink RX8 84 "SieveCabinet" "made" "I", Cond.fieldLink RX8 17 "SieveCabinet" "slots" "[LSieveCabinet$Sieve;", Cond.classLink RX8 15 RX6, Cond.instantiable RX6 7, Cond.initialized RX6, Cond.instanceMethod yX6_init, Cond.code yX6_init cX6_init 1 none, Cond.methodLink RX6 3 objectInit, Cond.instanceMethod objectInit, Cond.code objectInit ⟨#[0xb1]⟩ 1 none, Cond.arrayClass .int, Cond.fieldLink RX6 9 "SieveCabinet$Sieve" "cells" "[I", Cond.classLink RX6 15 RX0, Cond.instantiable RX0 2, Cond.initialized RX0, Cond.fieldLink RX6 18 "SieveCabinet$Sieve" "contents" "LSieveCabinet$Bag;", Cond.instanceMethod yX0_init, Cond.code yX0_init cX0_init 1 none, Cond.methodLink RX0 3 objectInit, Cond.arrayClass .long, Cond.fieldLink RX0 9 "SieveCabinet$Bag" "row" "[J"] : List Cond), w ∈ wsX8_nextSlot := fun _ h => List.mem_cons_of_mem _ (List.mem_append_left _ (List.mem_append_left _ (List.mem_append_left _ h)))
set_option maxRecDepth 20000 in
theorem gu_wsX8_nextSlot_3 : ∀ w ∈ wsX60, w ∈ wsX8_nextSlot := fun _ h => List.mem_cons_of_mem _ (List.mem_append_left _ (List.mem_append_right _ h))
set_option maxRecDepth 20000 in
theorem gu_wsX8_nextSlot_4 : ∀ w ∈ wsX00, w ∈ wsX8_nextSlot := fun _ h => List.mem_cons_of_mem _ (List.mem_append_right _ h)
set_option maxRecDepth 20000 in
theorem ggX8_nextSlot_X6_init : GoodIn wsX8_nextSlot wsX6_init := goodIn_sub (gi_c (gu_wsX8_nextSlot_1 _ gm_6) (gi_a (gi_a (gi_c (gu_wsX8_nextSlot_1 _ gm_7) (gi_c (gu_wsX8_nextSlot_1 _ gm_8) (gi_c (gu_wsX8_nextSlot_1 _ gm_9) (gi_c (gu_wsX8_nextSlot_1 _ gm_10) (gi_c (gu_wsX8_nextSlot_1 _ gm_11) (gi_c (gu_wsX8_nextSlot_1 _ gm_12) (gi_c (gu_wsX8_nextSlot_1 _ gm_13) (gi_c (gu_wsX8_nextSlot_1 _ gm_14) (gi_c (gu_wsX8_nextSlot_1 _ gm_15) (gi_c (gu_wsX8_nextSlot_1 _ gm_16) (gi_c (gu_wsX8_nextSlot_1 _ gm_17) (gi_c (gu_wsX8_nextSlot_1 _ gm_18) (gi_c (gu_wsX8_nextSlot_1 _ gm_19) (gi_c (gu_wsX8_nextSlot_1 _ gm_20) gi_0)))))))))))))) (gu_wsX8_nextSlot_3)) (gu_wsX8_nextSlot_4))) (by decide +kernel)
set_option maxRecDepth 20000 in
theorem gX8_nextSlot_X6_init_n195 : GoodIn wsX8_nextSlot (wsX6_init) := ggX8_nextSlot_X6_init
theorem dX8_nextSlot_0 : decode cX8_nextSlot 0 = .ok (.aload_n 0, 1) := by decide +kernel
theorem dX8_nextSlot_1 : decode cX8_nextSlot 1 = .ok (.getfield 84, 3) := by decide +kernel
theorem dX8_nextSlot_4 : decode cX8_nextSlot 4 = .ok (.ifCond .lt 12, 3) := by decide +kernel
theorem dX8_nextSlot_7 : decode cX8_nextSlot 7 = .ok (.aload_n 0, 1) := by decide +kernel
theorem dX8_nextSlot_8 : decode cX8_nextSlot 8 = .ok (.getfield 84, 3) := by decide +kernel
theorem dX8_nextSlot_11 : decode cX8_nextSlot 11 = .ok (.bipush 30, 2) := by decide +kernel
theorem dX8_nextSlot_13 : decode cX8_nextSlot 13 = .ok (.if_icmp .lt 5, 3) := by decide +kernel
theorem dX8_nextSlot_16 : decode cX8_nextSlot 16 = .ok (.aconst_null, 1) := by decide +kernel
theorem dX8_nextSlot_17 : decode cX8_nextSlot 17 = .ok (.areturn, 1) := by decide +kernel
theorem dX8_nextSlot_18 : decode cX8_nextSlot 18 = .ok (.aload_n 0, 1) := by decide +kernel
theorem dX8_nextSlot_19 : decode cX8_nextSlot 19 = .ok (.getfield 17, 3) := by decide +kernel
theorem dX8_nextSlot_22 : decode cX8_nextSlot 22 = .ok (.aload_n 0, 1) := by decide +kernel
theorem dX8_nextSlot_23 : decode cX8_nextSlot 23 = .ok (.getfield 84, 3) := by decide +kernel
theorem dX8_nextSlot_26 : decode cX8_nextSlot 26 = .ok (.aaload, 1) := by decide +kernel
theorem dX8_nextSlot_27 : decode cX8_nextSlot 27 = .ok (.ifnonnull 19, 3) := by decide +kernel
theorem dX8_nextSlot_30 : decode cX8_nextSlot 30 = .ok (.aload_n 0, 1) := by decide +kernel
theorem dX8_nextSlot_31 : decode cX8_nextSlot 31 = .ok (.getfield 17, 3) := by decide +kernel
theorem dX8_nextSlot_34 : decode cX8_nextSlot 34 = .ok (.aload_n 0, 1) := by decide +kernel
theorem dX8_nextSlot_35 : decode cX8_nextSlot 35 = .ok (.getfield 84, 3) := by decide +kernel
theorem dX8_nextSlot_38 : decode cX8_nextSlot 38 = .ok (.new 15, 3) := by decide +kernel
theorem dX8_nextSlot_41 : decode cX8_nextSlot 41 = .ok (.dup, 1) := by decide +kernel
theorem dX8_nextSlot_42 : decode cX8_nextSlot 42 = .ok (.invokespecial 195, 3) := by decide +kernel
theorem dX8_nextSlot_45 : decode cX8_nextSlot 45 = .ok (.aastore, 1) := by decide +kernel
theorem dX8_nextSlot_46 : decode cX8_nextSlot 46 = .ok (.aload_n 0, 1) := by decide +kernel
theorem dX8_nextSlot_47 : decode cX8_nextSlot 47 = .ok (.getfield 17, 3) := by decide +kernel
theorem dX8_nextSlot_50 : decode cX8_nextSlot 50 = .ok (.aload_n 0, 1) := by decide +kernel
theorem dX8_nextSlot_51 : decode cX8_nextSlot 51 = .ok (.getfield 84, 3) := by decide +kernel
theorem dX8_nextSlot_54 : decode cX8_nextSlot 54 = .ok (.aaload, 1) := by decide +kernel
theorem dX8_nextSlot_55 : decode cX8_nextSlot 55 = .ok (.areturn, 1) := by decide +kernel
set_option maxRecDepth 20000 in
theorem gu_wsX8_isMakeable_1 : ∀ w ∈ ([Cond.methodLink RX8 196 yX8_isPowerOfTwo, Cond.static yX8_isPowerOfTwo, Cond.initialized RX8, Cond.code yX8_isPowerOfTwo cX8_isPowerOfTwo 3 (some .boolean)] : List Cond), w ∈ wsX8_isMakeable := fun _ h => List.mem_cons_of_mem _ h
set_option maxRecDepth 20000 in
theorem ggX8_isMakeable_X8_isPowerOfTwo : GoodIn wsX8_isMakeable wsX8_isPowerOfTwo := goodIn_sub (gi_c (gu_wsX8_isMakeable_1 _ gm_3) (gi_0)) (by decide +kernel)
set_option maxRecDepth 20000 in
theorem gX8_isMakeable_X8_isPowerOfTwo : GoodIn wsX8_isMakeable (va_wsS RX8 196 yX8_isPowerOfTwo wsX8_isPowerOfTwo) := goodIn_app (goodIn_sub (gi_c (gu_wsX8_isMakeable_1 _ gm_0) (gi_c (gu_wsX8_isMakeable_1 _ gm_1) (gi_c (gu_wsX8_isMakeable_1 _ gm_2) gi_0))) (by decide +kernel)) ggX8_isMakeable_X8_isPowerOfTwo
theorem dX8_isMakeable_0 : decode cX8_isMakeable 0 = .ok (.iload_n 0, 1) := by decide +kernel
theorem dX8_isMakeable_1 : decode cX8_isMakeable 1 = .ok (.iconst 2, 1) := by decide +kernel
theorem dX8_isMakeable_2 : decode cX8_isMakeable 2 = .ok (.if_icmp .ne 12, 3) := by decide +kernel
theorem dX8_isMakeable_5 : decode cX8_isMakeable 5 = .ok (.iload_n 1, 1) := by decide +kernel
theorem dX8_isMakeable_6 : decode cX8_isMakeable 6 = .ok (.iconst 1, 1) := by decide +kernel
theorem dX8_isMakeable_7 : decode cX8_isMakeable 7 = .ok (.sipush 256, 3) := by decide +kernel
theorem dX8_isMakeable_10 : decode cX8_isMakeable 10 = .ok (.invokestatic 196, 3) := by decide +kernel
theorem dX8_isMakeable_13 : decode cX8_isMakeable 13 = .ok (.ireturn, 1) := by decide +kernel
theorem dX8_isMakeable_14 : decode cX8_isMakeable 14 = .ok (.iload_n 0, 1) := by decide +kernel
theorem dX8_isMakeable_15 : decode cX8_isMakeable 15 = .ok (.ifCond .eq 10, 3) := by decide +kernel
theorem dX8_isMakeable_18 : decode cX8_isMakeable 18 = .ok (.iload_n 0, 1) := by decide +kernel
theorem dX8_isMakeable_19 : decode cX8_isMakeable 19 = .ok (.iconst 1, 1) := by decide +kernel
theorem dX8_isMakeable_20 : decode cX8_isMakeable 20 = .ok (.if_icmp .eq 5, 3) := by decide +kernel
theorem dX8_isMakeable_23 : decode cX8_isMakeable 23 = .ok (.iconst 0, 1) := by decide +kernel
theorem dX8_isMakeable_24 : decode cX8_isMakeable 24 = .ok (.ireturn, 1) := by decide +kernel
theorem dX8_isMakeable_25 : decode cX8_isMakeable 25 = .ok (.iload_n 1, 1) := by decide +kernel
theorem dX8_isMakeable_26 : decode cX8_isMakeable 26 = .ok (.bipush 8, 2) := by decide +kernel
theorem dX8_isMakeable_28 : decode cX8_isMakeable 28 = .ok (.sipush 4096, 3) := by decide +kernel
theorem dX8_isMakeable_31 : decode cX8_isMakeable 31 = .ok (.invokestatic 196, 3) := by decide +kernel
theorem dX8_isMakeable_34 : decode cX8_isMakeable 34 = .ok (.ifCond .eq 18, 3) := by decide +kernel
theorem dX8_isMakeable_37 : decode cX8_isMakeable 37 = .ok (.iload_n 2, 1) := by decide +kernel
theorem dX8_isMakeable_38 : decode cX8_isMakeable 38 = .ok (.iconst 1, 1) := by decide +kernel
theorem dX8_isMakeable_39 : decode cX8_isMakeable 39 = .ok (.if_icmp .lt 13, 3) := by decide +kernel
theorem dX8_isMakeable_42 : decode cX8_isMakeable 42 = .ok (.iload_n 2, 1) := by decide +kernel
theorem dX8_isMakeable_43 : decode cX8_isMakeable 43 = .ok (.bipush 8, 2) := by decide +kernel
theorem dX8_isMakeable_45 : decode cX8_isMakeable 45 = .ok (.if_icmp .gt 7, 3) := by decide +kernel
theorem dX8_isMakeable_48 : decode cX8_isMakeable 48 = .ok (.iconst 1, 1) := by decide +kernel
theorem dX8_isMakeable_49 : decode cX8_isMakeable 49 = .ok (.goto 4, 3) := by decide +kernel
theorem dX8_isMakeable_52 : decode cX8_isMakeable 52 = .ok (.iconst 0, 1) := by decide +kernel
theorem dX8_isMakeable_53 : decode cX8_isMakeable 53 = .ok (.ireturn, 1) := by decide +kernel
theorem dX8_isPowerOfTwo_0 : decode cX8_isPowerOfTwo 0 = .ok (.iload_n 0, 1) := by decide +kernel
theorem dX8_isPowerOfTwo_1 : decode cX8_isPowerOfTwo 1 = .ok (.iload_n 1, 1) := by decide +kernel
theorem dX8_isPowerOfTwo_2 : decode cX8_isPowerOfTwo 2 = .ok (.if_icmp .lt 20, 3) := by decide +kernel
theorem dX8_isPowerOfTwo_5 : decode cX8_isPowerOfTwo 5 = .ok (.iload_n 0, 1) := by decide +kernel
theorem dX8_isPowerOfTwo_6 : decode cX8_isPowerOfTwo 6 = .ok (.iload_n 2, 1) := by decide +kernel
theorem dX8_isPowerOfTwo_7 : decode cX8_isPowerOfTwo 7 = .ok (.if_icmp .gt 15, 3) := by decide +kernel
theorem dX8_isPowerOfTwo_10 : decode cX8_isPowerOfTwo 10 = .ok (.iload_n 0, 1) := by decide +kernel
theorem dX8_isPowerOfTwo_11 : decode cX8_isPowerOfTwo 11 = .ok (.iload_n 0, 1) := by decide +kernel
theorem dX8_isPowerOfTwo_12 : decode cX8_isPowerOfTwo 12 = .ok (.iconst 1, 1) := by decide +kernel
theorem dX8_isPowerOfTwo_13 : decode cX8_isPowerOfTwo 13 = .ok (.isub, 1) := by decide +kernel
theorem dX8_isPowerOfTwo_14 : decode cX8_isPowerOfTwo 14 = .ok (.iand, 1) := by decide +kernel
theorem dX8_isPowerOfTwo_15 : decode cX8_isPowerOfTwo 15 = .ok (.ifCond .ne 7, 3) := by decide +kernel
theorem dX8_isPowerOfTwo_18 : decode cX8_isPowerOfTwo 18 = .ok (.iconst 1, 1) := by decide +kernel
theorem dX8_isPowerOfTwo_19 : decode cX8_isPowerOfTwo 19 = .ok (.goto 4, 3) := by decide +kernel
theorem dX8_isPowerOfTwo_22 : decode cX8_isPowerOfTwo 22 = .ok (.iconst 0, 1) := by decide +kernel
theorem dX8_isPowerOfTwo_23 : decode cX8_isPowerOfTwo 23 = .ok (.ireturn, 1) := by decide +kernel
