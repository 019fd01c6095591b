theorem dX5_settle_0 : decode cX5_settle 0 = .ok (.aload_n 0, 1) := by decide +kernel
theorem dX5_settle_1 : decode cX5_settle 1 = .ok (.iload_n 1, 1) := by decide +kernel
theorem dX5_settle_2 : decode cX5_settle 2 = .ok (.iconst 0, 1) := by decide +kernel
theorem dX5_settle_3 : decode cX5_settle 3 = .ok (.invokestatic 38, 3) := by decide +kernel
theorem dX5_settle_6 : decode cX5_settle 6 = .ok (.istore_n 3, 1) := by decide +kernel
theorem dX5_settle_7 : decode cX5_settle 7 = .ok (.aload_n 0, 1) := by decide +kernel
theorem dX5_settle_8 : decode cX5_settle 8 = .ok (.iload_n 3, 1) := by decide +kernel
theorem dX5_settle_9 : decode cX5_settle 9 = .ok (.iload_n 2, 1) := by decide +kernel
theorem dX5_settle_10 : decode cX5_settle 10 = .ok (.invokevirtual 46, 3) := by decide +kernel
theorem dX5_settle_13 : decode cX5_settle 13 = .ok (.iload_n 3, 1) := by decide +kernel
theorem dX5_settle_14 : decode cX5_settle 14 = .ok (.ifCond .lt 7, 3) := by decide +kernel
theorem dX5_settle_17 : decode cX5_settle 17 = .ok (.iconst 1, 1) := by decide +kernel
theorem dX5_settle_18 : decode cX5_settle 18 = .ok (.goto 4, 3) := by decide +kernel
theorem dX5_settle_21 : decode cX5_settle 21 = .ok (.iconst 0, 1) := by decide +kernel
theorem dX5_settle_22 : decode cX5_settle 22 = .ok (.ireturn, 1) := by decide +kernel
set_option maxRecDepth 20000 in
theorem gu_wsX5_findIn_1 : ∀ w ∈ ([Cond.methodLink RX5 50 yX6_cellAt, Cond.instanceMethod yX6_cellAt, Cond.selects RX6 yX6_cellAt yX6_cellAt, Cond.initialized RX6, Cond.code yX6_cellAt cX6_cellAt 2 (some .int), Cond.fieldLink RX6 9 "SieveCabinet$Sieve" "cells" "[I"] : List Cond), w ∈ wsX5_findIn := fun _ h => List.mem_cons_of_mem _ (List.mem_append_left _ h)
set_option maxRecDepth 20000 in
theorem gu_wsX5_findIn_2 : ∀ w ∈ wsX60, w ∈ wsX5_findIn := fun _ h => List.mem_cons_of_mem _ (List.mem_append_right _ h)
set_option maxRecDepth 20000 in
theorem ggX5_findIn_X6_cellAt : GoodIn wsX5_findIn wsX6_cellAt := goodIn_sub (gi_c (gu_wsX5_findIn_1 _ gm_4) (gi_a (gi_c (gu_wsX5_findIn_1 _ gm_5) gi_0) (gu_wsX5_findIn_2))) (by decide +kernel)
set_option maxRecDepth 20000 in
theorem gX5_findIn_X6_cellAt : GoodIn wsX5_findIn (wsV RX5 50 RX6 yX6_cellAt wsX6_cellAt) := goodIn_app (goodIn_sub (gi_c (gu_wsX5_findIn_1 _ gm_0) (gi_c (gu_wsX5_findIn_1 _ gm_1) (gi_c (gu_wsX5_findIn_1 _ gm_2) (gi_c (gu_wsX5_findIn_1 _ gm_3) gi_0)))) (by decide +kernel)) ggX5_findIn_X6_cellAt
theorem dX5_findIn_0 : decode cX5_findIn 0 = .ok (.iconst 0, 1) := by decide +kernel
theorem dX5_findIn_1 : decode cX5_findIn 1 = .ok (.istore_n 3, 1) := by decide +kernel
theorem dX5_findIn_2 : decode cX5_findIn 2 = .ok (.iload_n 3, 1) := by decide +kernel
theorem dX5_findIn_3 : decode cX5_findIn 3 = .ok (.iconst 4, 1) := by decide +kernel
theorem dX5_findIn_4 : decode cX5_findIn 4 = .ok (.if_icmp .ge 29, 3) := by decide +kernel
theorem dX5_findIn_7 : decode cX5_findIn 7 = .ok (.iconst 4, 1) := by decide +kernel
theorem dX5_findIn_8 : decode cX5_findIn 8 = .ok (.iload_n 1, 1) := by decide +kernel
theorem dX5_findIn_9 : decode cX5_findIn 9 = .ok (.imul, 1) := by decide +kernel
theorem dX5_findIn_10 : decode cX5_findIn 10 = .ok (.iload_n 3, 1) := by decide +kernel
theorem dX5_findIn_11 : decode cX5_findIn 11 = .ok (.iadd, 1) := by decide +kernel
theorem dX5_findIn_12 : decode cX5_findIn 12 = .ok (.istore 4, 2) := by decide +kernel
theorem dX5_findIn_14 : decode cX5_findIn 14 = .ok (.aload_n 0, 1) := by decide +kernel
theorem dX5_findIn_15 : decode cX5_findIn 15 = .ok (.iload 4, 2) := by decide +kernel
theorem dX5_findIn_17 : decode cX5_findIn 17 = .ok (.invokevirtual 50, 3) := by decide +kernel
theorem dX5_findIn_20 : decode cX5_findIn 20 = .ok (.iload_n 2, 1) := by decide +kernel
theorem dX5_findIn_21 : decode cX5_findIn 21 = .ok (.if_icmp .ne 6, 3) := by decide +kernel
theorem dX5_findIn_24 : decode cX5_findIn 24 = .ok (.iload 4, 2) := by decide +kernel
theorem dX5_findIn_26 : decode cX5_findIn 26 = .ok (.ireturn, 1) := by decide +kernel
theorem dX5_findIn_27 : decode cX5_findIn 27 = .ok (.iinc 3 1, 3) := by decide +kernel
theorem dX5_findIn_30 : decode cX5_findIn 30 = .ok (.goto (-28), 3) := by decide +kernel
theorem dX5_findIn_33 : decode cX5_findIn 33 = .ok (.iconst (-1), 1) := by decide +kernel
theorem dX5_findIn_34 : decode cX5_findIn 34 = .ok (.ireturn, 1) := by decide +kernel
set_option maxRecDepth 20000 in
theorem gu_wsX5_push_1 : ∀ w ∈ wsX5_push_r1, w ∈ wsX5_push := fun _ h => List.mem_cons_of_mem _ (List.mem_append_left _ (List.mem_append_left _ h))
set_option maxRecDepth 20000 in
theorem gu_wsX5_push_3 : ∀ w ∈ wsX60, w ∈ wsX5_push := fun _ h => List.mem_cons_of_mem _ (List.mem_append_right _ h)
set_option maxRecDepth 20000 in
theorem ggX5_push_X5_change : GoodIn wsX5_push wsX5_change := goodIn_sub (gi_c (gu_wsX5_push_1 _ gm_3) (gi_a (gi_c (gu_wsX5_push_1 _ gm_4) (gi_c (gu_wsX5_push_1 _ gm_5) (gi_c (gu_wsX5_push_1 _ gm_6) (gi_c (gu_wsX5_push_1 _ gm_7) (gi_c (gu_wsX5_push_1 _ gm_8) (gi_c (gu_wsX5_push_1 _ gm_9) (gi_c (gu_wsX5_push_1 _ gm_10) (gi_c (gu_wsX5_push_1 _ gm_11) (gi_c (gu_wsX5_push_1 _ gm_12) (gi_c (gu_wsX5_push_1 _ gm_13) gi_0)))))))))) (gu_wsX5_push_3))) (by decide +kernel)
set_option maxRecDepth 20000 in
theorem gX5_push_X5_change : GoodIn wsX5_push (va_wsS RX5 54 yX5_change wsX5_change) := goodIn_app (goodIn_sub (gi_c (gu_wsX5_push_1 _ gm_0) (gi_c (gu_wsX5_push_1 _ gm_1) (gi_c (gu_wsX5_push_1 _ gm_2) gi_0))) (by decide +kernel)) ggX5_push_X5_change
set_option maxRecDepth 20000 in
theorem ggX5_push_X4_otherNest : GoodIn wsX5_push wsX4_otherNest := goodIn_sub (gi_c (gu_wsX5_push_1 _ gm_17) (gi_c (gu_wsX5_push_1 _ gm_18) (gi_c (gu_wsX5_push_1 _ gm_19) (gi_c (gu_wsX5_push_1 _ gm_20) (gi_c (gu_wsX5_push_1 _ gm_16) (gi_c (gu_wsX5_push_1 _ gm_21) gi_0)))))) (by decide +kernel)
set_option maxRecDepth 20000 in
theorem gX5_push_X4_otherNest : GoodIn wsX5_push (va_wsS RX5 42 yX4_otherNest wsX4_otherNest) := goodIn_app (goodIn_sub (gi_c (gu_wsX5_push_1 _ gm_14) (gi_c (gu_wsX5_push_1 _ gm_15) (gi_c (gu_wsX5_push_1 _ gm_16) gi_0))) (by decide +kernel)) ggX5_push_X4_otherNest
set_option maxRecDepth 20000 in
theorem gu_wsX5_push_2 : ∀ w ∈ wsX5_push_r2, w ∈ wsX5_push := fun _ h => List.mem_cons_of_mem _ (List.mem_append_left _ (List.mem_append_right _ h))
set_option maxRecDepth 20000 in
theorem ggX5_push_X5_settle : GoodIn wsX5_push wsX5_settle := goodIn_sub (gi_c (gu_wsX5_push_2 _ gm_0) (gi_a (gi_c (gu_wsX5_push_2 _ gm_1) (gi_c (gu_wsX5_push_2 _ gm_2) (gi_c (gu_wsX5_push_1 _ gm_2) (gi_c (gu_wsX5_push_2 _ gm_3) (gi_c (gu_wsX5_push_1 _ gm_4) (gi_c (gu_wsX5_push_1 _ gm_5) (gi_c (gu_wsX5_push_1 _ gm_6) (gi_c (gu_wsX5_push_1 _ gm_7) (gi_c (gu_wsX5_push_1 _ gm_8) (gi_c (gu_wsX5_push_1 _ gm_9) (gi_c (gu_wsX5_push_1 _ gm_10) (gi_c (gu_wsX5_push_1 _ gm_11) (gi_c (gu_wsX5_push_1 _ gm_12) (gi_c (gu_wsX5_push_1 _ gm_13) gi_0)))))))))))))) (gu_wsX5_push_3))) (by decide +kernel)
set_option maxRecDepth 20000 in
theorem gX5_push_X5_settle : GoodIn wsX5_push (va_wsS RX5 25 yX5_settle wsX5_settle) := goodIn_app (goodIn_sub (gi_c (gu_wsX5_push_1 _ gm_22) (gi_c (gu_wsX5_push_1 _ gm_23) (gi_c (gu_wsX5_push_1 _ gm_2) gi_0))) (by decide +kernel)) ggX5_push_X5_settle
set_option maxRecDepth 20000 in
theorem ggX5_push_X5_pushBack : GoodIn wsX5_push wsX5_pushBack := goodIn_sub (gi_c (gu_wsX5_push_2 _ gm_6) (gi_a (gi_c (gu_wsX5_push_1 _ gm_14) (gi_c (gu_wsX5_push_1 _ gm_15) (gi_c (gu_wsX5_push_1 _ gm_16) (gi_c (gu_wsX5_push_1 _ gm_17) (gi_c (gu_wsX5_push_1 _ gm_18) (gi_c (gu_wsX5_push_1 _ gm_19) (gi_c (gu_wsX5_push_1 _ gm_20) (gi_c (gu_wsX5_push_1 _ gm_21) (gi_c (gu_wsX5_push_1 _ gm_0) (gi_c (gu_wsX5_push_1 _ gm_1) (gi_c (gu_wsX5_push_1 _ gm_2) (gi_c (gu_wsX5_push_1 _ gm_3) (gi_c (gu_wsX5_push_1 _ gm_4) (gi_c (gu_wsX5_push_1 _ gm_5) (gi_c (gu_wsX5_push_1 _ gm_6) (gi_c (gu_wsX5_push_1 _ gm_7) (gi_c (gu_wsX5_push_1 _ gm_8) (gi_c (gu_wsX5_push_1 _ gm_9) (gi_c (gu_wsX5_push_1 _ gm_10) (gi_c (gu_wsX5_push_1 _ gm_11) (gi_c (gu_wsX5_push_1 _ gm_12) (gi_c (gu_wsX5_push_1 _ gm_13) gi_0)))))))))))))))))))))) (gu_wsX5_push_3))) (by decide +kernel)
set_option maxRecDepth 20000 in
theorem gX5_push_X5_pushBack : GoodIn wsX5_push (va_wsS RX5 58 yX5_pushBack wsX5_pushBack) := goodIn_app (goodIn_sub (gi_c (gu_wsX5_push_2 _ gm_4) (gi_c (gu_wsX5_push_2 _ gm_5) (gi_c (gu_wsX5_push_1 _ gm_2) gi_0))) (by decide +kernel)) ggX5_push_X5_pushBack
theorem dX5_push_0 : decode cX5_push 0 = .ok (.iload_n 1, 1) := by decide +kernel
theorem dX5_push_1 : decode cX5_push 1 = .ok (.istore_n 3, 1) := by decide +kernel
theorem dX5_push_2 : decode cX5_push 2 = .ok (.iload_n 2, 1) := by decide +kernel
theorem dX5_push_3 : decode cX5_push 3 = .ok (.istore 4, 2) := by decide +kernel
theorem dX5_push_5 : decode cX5_push 5 = .ok (.iconst 0, 1) := by decide +kernel
theorem dX5_push_6 : decode cX5_push 6 = .ok (.istore 5, 2) := by decide +kernel
theorem dX5_push_8 : decode cX5_push 8 = .ok (.iload 5, 2) := by decide +kernel
theorem dX5_push_10 : decode cX5_push 10 = .ok (.sipush 200, 3) := by decide +kernel
theorem dX5_push_13 : decode cX5_push 13 = .ok (.if_icmp .ge 43, 3) := by decide +kernel
theorem dX5_push_16 : decode cX5_push 16 = .ok (.aload_n 0, 1) := by decide +kernel
theorem dX5_push_17 : decode cX5_push 17 = .ok (.iload_n 3, 1) := by decide +kernel
theorem dX5_push_18 : decode cX5_push 18 = .ok (.iload 5, 2) := by decide +kernel
theorem dX5_push_20 : decode cX5_push 20 = .ok (.iload 4, 2) := by decide +kernel
theorem dX5_push_22 : decode cX5_push 22 = .ok (.invokestatic 54, 3) := by decide +kernel
theorem dX5_push_25 : decode cX5_push 25 = .ok (.istore 4, 2) := by decide +kernel
theorem dX5_push_27 : decode cX5_push 27 = .ok (.iload_n 3, 1) := by decide +kernel
theorem dX5_push_28 : decode cX5_push 28 = .ok (.iload 4, 2) := by decide +kernel
theorem dX5_push_30 : decode cX5_push 30 = .ok (.aload_n 0, 1) := by decide +kernel
theorem dX5_push_31 : decode cX5_push 31 = .ok (.getfield 15, 3) := by decide +kernel
theorem dX5_push_34 : decode cX5_push 34 = .ok (.invokestatic 42, 3) := by decide +kernel
theorem dX5_push_37 : decode cX5_push 37 = .ok (.istore_n 3, 1) := by decide +kernel
theorem dX5_push_38 : decode cX5_push 38 = .ok (.aload_n 0, 1) := by decide +kernel
theorem dX5_push_39 : decode cX5_push 39 = .ok (.iload_n 3, 1) := by decide +kernel
theorem dX5_push_40 : decode cX5_push 40 = .ok (.iload 4, 2) := by decide +kernel
theorem dX5_push_42 : decode cX5_push 42 = .ok (.invokestatic 25, 3) := by decide +kernel
theorem dX5_push_45 : decode cX5_push 45 = .ok (.ifCond .eq 5, 3) := by decide +kernel
theorem dX5_push_48 : decode cX5_push 48 = .ok (.iconst 1, 1) := by decide +kernel
theorem dX5_push_49 : decode cX5_push 49 = .ok (.ireturn, 1) := by decide +kernel
theorem dX5_push_50 : decode cX5_push 50 = .ok (.iinc 5 1, 3) := by decide +kernel
theorem dX5_push_53 : decode cX5_push 53 = .ok (.goto (-45), 3) := by decide +kernel
theorem dX5_push_56 : decode cX5_push 56 = .ok (.aload_n 0, 1) := by decide +kernel
theorem dX5_push_57 : decode cX5_push 57 = .ok (.iload_n 3, 1) := by decide +kernel
theorem dX5_push_58 : decode cX5_push 58 = .ok (.iload 4, 2) := by decide +kernel
theorem dX5_push_60 : decode cX5_push 60 = .ok (.invokestatic 58, 3) := by decide +kernel
theorem dX5_push_63 : decode cX5_push 63 = .ok (.iconst 0, 1) := by decide +kernel
theorem dX5_push_64 : decode cX5_push 64 = .ok (.ireturn, 1) := by decide +kernel
set_option maxRecDepth 20000 in
theorem gu_wsX5_pushBack_1 : ∀ w ∈ ([Cond.methodLink RX5 42 yX4_otherNest, Cond.static yX4_otherNest, Cond.initialized RX4, Cond.code yX4_otherNest cX4_otherNest 3 (some .int), Cond.constantLong RX4 21 (2654435761), Cond.methodLink RX4 17 yX4_rest, Cond.static yX4_rest, Cond.code yX4_rest cX4_rest 3 (some .int), Cond.methodLink RX5 54 yX5_change, Cond.static yX5_change, Cond.initialized RX5, Cond.code yX5_change cX5_change 6 (some .int), Cond.methodLink RX5 50 yX6_cellAt, Cond.instanceMethod yX6_cellAt, Cond.selects RX6 yX6_cellAt yX6_cellAt, Cond.initialized RX6, Cond.code yX6_cellAt cX6_cellAt 2 (some .int), Cond.fieldLink RX6 9 "SieveCabinet$Sieve" "cells" "[I", Cond.methodLink RX5 46 yX6_setCell, Cond.instanceMethod yX6_setCell, Cond.selects RX6 yX6_setCell yX6_setCell, Cond.code yX6_setCell cX6_setCell 3 none] : List Cond), w ∈ wsX5_pushBack := fun _ h => List.mem_cons_of_mem _ (List.mem_append_left _ h)
set_option maxRecDepth 20000 in
theorem ggX5_pushBack_X4_otherNest : GoodIn wsX5_pushBack wsX4_otherNest := goodIn_sub (gi_c (gu_wsX5_pushBack_1 _ gm_3) (gi_c (gu_wsX5_pushBack_1 _ gm_4) (gi_c (gu_wsX5_pushBack_1 _ gm_5) (gi_c (gu_wsX5_pushBack_1 _ gm_6) (gi_c (gu_wsX5_pushBack_1 _ gm_2) (gi_c (gu_wsX5_pushBack_1 _ gm_7) gi_0)))))) (by decide +kernel)
set_option maxRecDepth 20000 in
theorem gX5_pushBack_X4_otherNest : GoodIn wsX5_pushBack (va_wsS RX5 42 yX4_otherNest wsX4_otherNest) := goodIn_app (goodIn_sub (gi_c (gu_wsX5_pushBack_1 _ gm_0) (gi_c (gu_wsX5_pushBack_1 _ gm_1) (gi_c (gu_wsX5_pushBack_1 _ gm_2) gi_0))) (by decide +kernel)) ggX5_pushBack_X4_otherNest
set_option maxRecDepth 20000 in
theorem gu_wsX5_pushBack_2 : ∀ w ∈ wsX60, w ∈ wsX5_pushBack := fun _ h => List.mem_cons_of_mem _ (List.mem_append_right _ h)
set_option maxRecDepth 20000 in
theorem ggX5_pushBack_X5_change : GoodIn wsX5_pushBack wsX5_change := goodIn_sub (gi_c (gu_wsX5_pushBack_1 _ gm_11) (gi_a (gi_c (gu_wsX5_pushBack_1 _ gm_12) (gi_c (gu_wsX5_pushBack_1 _ gm_13) (gi_c (gu_wsX5_pushBack_1 _ gm_14) (gi_c (gu_wsX5_pushBack_1 _ gm_15) (gi_c (gu_wsX5_pushBack_1 _ gm_16) (gi_c (gu_wsX5_pushBack_1 _ gm_17) (gi_c (gu_wsX5_pushBack_1 _ gm_18) (gi_c (gu_wsX5_pushBack_1 _ gm_19) (gi_c (gu_wsX5_pushBack_1 _ gm_20) (gi_c (gu_wsX5_pushBack_1 _ gm_21) gi_0)))))))))) (gu_wsX5_pushBack_2))) (by decide +kernel)
set_option maxRecDepth 20000 in
theorem gX5_pushBack_X5_change : GoodIn wsX5_pushBack (va_wsS RX5 54 yX5_change wsX5_change) := goodIn_app (goodIn_sub (gi_c (gu_wsX5_pushBack_1 _ gm_8) (gi_c (gu_wsX5_pushBack_1 _ gm_9) (gi_c (gu_wsX5_pushBack_1 _ gm_10) gi_0))) (by decide +kernel)) ggX5_pushBack_X5_change
theorem dX5_pushBack_0 : decode cX5_pushBack 0 = .ok (.iload_n 1, 1) := by decide +kernel
theorem dX5_pushBack_1 : decode cX5_pushBack 1 = .ok (.istore_n 3, 1) := by decide +kernel
theorem dX5_pushBack_2 : decode cX5_pushBack 2 = .ok (.iload_n 2, 1) := by decide +kernel
theorem dX5_pushBack_3 : decode cX5_pushBack 3 = .ok (.istore 4, 2) := by decide +kernel
theorem dX5_pushBack_5 : decode cX5_pushBack 5 = .ok (.sipush 199, 3) := by decide +kernel
theorem dX5_pushBack_8 : decode cX5_pushBack 8 = .ok (.istore 5, 2) := by decide +kernel
theorem dX5_pushBack_10 : decode cX5_pushBack 10 = .ok (.iload 5, 2) := by decide +kernel
theorem dX5_pushBack_12 : decode cX5_pushBack 12 = .ok (.ifCond .lt 31, 3) := by decide +kernel
theorem dX5_pushBack_15 : decode cX5_pushBack 15 = .ok (.iload_n 3, 1) := by decide +kernel
theorem dX5_pushBack_16 : decode cX5_pushBack 16 = .ok (.iload 4, 2) := by decide +kernel
theorem dX5_pushBack_18 : decode cX5_pushBack 18 = .ok (.aload_n 0, 1) := by decide +kernel
theorem dX5_pushBack_19 : decode cX5_pushBack 19 = .ok (.getfield 15, 3) := by decide +kernel
theorem dX5_pushBack_22 : decode cX5_pushBack 22 = .ok (.invokestatic 42, 3) := by decide +kernel
theorem dX5_pushBack_25 : decode cX5_pushBack 25 = .ok (.istore_n 3, 1) := by decide +kernel
theorem dX5_pushBack_26 : decode cX5_pushBack 26 = .ok (.aload_n 0, 1) := by decide +kernel
theorem dX5_pushBack_27 : decode cX5_pushBack 27 = .ok (.iload_n 3, 1) := by decide +kernel
theorem dX5_pushBack_28 : decode cX5_pushBack 28 = .ok (.iload 5, 2) := by decide +kernel
theorem dX5_pushBack_30 : decode cX5_pushBack 30 = .ok (.iload 4, 2) := by decide +kernel
theorem dX5_pushBack_32 : decode cX5_pushBack 32 = .ok (.invokestatic 54, 3) := by decide +kernel
theorem dX5_pushBack_35 : decode cX5_pushBack 35 = .ok (.istore 4, 2) := by decide +kernel
theorem dX5_pushBack_37 : decode cX5_pushBack 37 = .ok (.iinc 5 (-1), 3) := by decide +kernel
theorem dX5_pushBack_40 : decode cX5_pushBack 40 = .ok (.goto (-30), 3) := by decide +kernel
theorem dX5_pushBack_43 : decode cX5_pushBack 43 = .ok (.return_, 1) := by decide +kernel
set_option maxRecDepth 20000 in
theorem gu_wsX5_change_1 : ∀ w ∈ ([Cond.methodLink RX5 50 yX6_cellAt, Cond.instanceMethod yX6_cellAt, Cond.selects RX6 yX6_cellAt yX6_cellAt, Cond.initialized RX6, Cond.code yX6_cellAt cX6_cellAt 2 (some .int), Cond.fieldLink RX6 9 "SieveCabinet$Sieve" "cells" "[I", Cond.methodLink RX5 46 yX6_setCell, Cond.instanceMethod yX6_setCell, Cond.selects RX6 yX6_setCell yX6_setCell, Cond.code yX6_setCell cX6_setCell 3 none] : List Cond), w ∈ wsX5_change := fun _ h => List.mem_cons_of_mem _ (List.mem_append_left _ h)
set_option maxRecDepth 20000 in
theorem gu_wsX5_change_2 : ∀ w ∈ wsX60, w ∈ wsX5_change := fun _ h => List.mem_cons_of_mem _ (List.mem_append_right _ h)
set_option maxRecDepth 20000 in
theorem ggX5_change_X6_cellAt : GoodIn wsX5_change wsX6_cellAt := goodIn_sub (gi_c (gu_wsX5_change_1 _ gm_4) (gi_a (gi_c (gu_wsX5_change_1 _ gm_5) gi_0) (gu_wsX5_change_2))) (by decide +kernel)
set_option maxRecDepth 20000 in
theorem gX5_change_X6_cellAt : GoodIn wsX5_change (wsV RX5 50 RX6 yX6_cellAt wsX6_cellAt) := goodIn_app (goodIn_sub (gi_c (gu_wsX5_change_1 _ gm_0) (gi_c (gu_wsX5_change_1 _ gm_1) (gi_c (gu_wsX5_change_1 _ gm_2) (gi_c (gu_wsX5_change_1 _ gm_3) gi_0)))) (by decide +kernel)) ggX5_change_X6_cellAt
set_option maxRecDepth 20000 in
theorem ggX5_change_X6_setCell : GoodIn wsX5_change wsX6_setCell := goodIn_sub (gi_c (gu_wsX5_change_1 _ gm_9) (gi_a (gi_c (gu_wsX5_change_1 _ gm_5) gi_0) (gu_wsX5_change_2))) (by decide +kernel)
set_option maxRecDepth 20000 in
theorem gX5_change_X6_setCell : GoodIn wsX5_change (wsV RX5 46 RX6 yX6_setCell wsX6_setCell) := goodIn_app (goodIn_sub (gi_c (gu_wsX5_change_1 _ gm_6) (gi_c (gu_wsX5_change_1 _ gm_7) (gi_c (gu_wsX5_change_1 _ gm_8) (gi_c (gu_wsX5_change_1 _ gm_3) gi_0)))) (by decide +kernel)) ggX5_change_X6_setCell
theorem dX5_change_0 : decode cX5_change 0 = .ok (.iconst 4, 1) := by decide +kernel
theorem dX5_change_1 : decode cX5_change 1 = .ok (.iload_n 1, 1) := by decide +kernel
theorem dX5_change_2 : decode cX5_change 2 = .ok (.imul, 1) := by decide +kernel
theorem dX5_change_3 : decode cX5_change 3 = .ok (.iload_n 2, 1) := by decide +kernel
theorem dX5_change_4 : decode cX5_change 4 = .ok (.iconst 4, 1) := by decide +kernel
theorem dX5_change_5 : decode cX5_change 5 = .ok (.irem, 1) := by decide +kernel
theorem dX5_change_6 : decode cX5_change 6 = .ok (.iadd, 1) := by decide +kernel
theorem dX5_change_7 : decode cX5_change 7 = .ok (.istore 4, 2) := by decide +kernel
theorem dX5_change_9 : decode cX5_change 9 = .ok (.aload_n 0, 1) := by decide +kernel
theorem dX5_change_10 : decode cX5_change 10 = .ok (.iload 4, 2) := by decide +kernel
theorem dX5_change_12 : decode cX5_change 12 = .ok (.invokevirtual 50, 3) := by decide +kernel
theorem dX5_change_15 : decode cX5_change 15 = .ok (.istore 5, 2) := by decide +kernel
theorem dX5_change_17 : decode cX5_change 17 = .ok (.aload_n 0, 1) := by decide +kernel
theorem dX5_change_18 : decode cX5_change 18 = .ok (.iload 4, 2) := by decide +kernel
theorem dX5_change_20 : decode cX5_change 20 = .ok (.iload_n 3, 1) := by decide +kernel
theorem dX5_change_21 : decode cX5_change 21 = .ok (.invokevirtual 46, 3) := by decide +kernel
theorem dX5_change_24 : decode cX5_change 24 = .ok (.iload 5, 2) := by decide +kernel
theorem dX5_change_26 : decode cX5_change 26 = .ok (.ireturn, 1) := by decide +kernel
set_option maxRecDepth 20000 in
theorem gu_wsX6_init_1 : ∀ w ∈ ([Cond.methodLink RX6 3 objectInit, Cond.instanceMethod objectInit, Cond.code objectInit ⟨#[0xb1]⟩ 1 none, Cond.arrayClass .int, Cond.fieldLink RX6 9 "SieveCabinet$Sieve" "cells" "[I", Cond.classLink RX6 15 RX0, Cond.instantiable RX0 2, Cond.initialized RX0, Cond.fieldLink RX6 18 "SieveCabinet$Sieve" "contents" "LSieveCabinet$Bag;", Cond.instanceMethod yX0_init, Cond.code yX0_init cX0_init 1 none, Cond.methodLink RX0 3 objectInit, Cond.arrayClass .long, Cond.fieldLink RX0 9 "SieveCabinet$Bag" "row" "[J"] : List Cond), w ∈ wsX6_init := fun _ h => List.mem_cons_of_mem _ (List.mem_append_left _ (List.mem_append_left _ h))
set_option maxRecDepth 20000 in
theorem gu_wsX6_init_3 : ∀ w ∈ wsX00, w ∈ wsX6_init := fun _ h => List.mem_cons_of_mem _ (List.mem_append_right _ h)
set_option maxRecDepth 20000 in
theorem ggX6_init_X0_init : GoodIn wsX6_init wsX0_init := goodIn_sub (gi_c (gu_wsX6_init_1 _ gm_10) (gi_a (gi_c (gu_wsX6_init_1 _ gm_11) (gi_c (gu_wsX6_init_1 _ gm_1) (gi_c (gu_wsX6_init_1 _ gm_2) (gi_c (gu_wsX6_init_1 _ gm_12) (gi_c (gu_wsX6_init_1 _ gm_13) gi_0))))) (gu_wsX6_init_3))) (by decide +kernel)
set_option maxRecDepth 20000 in
theorem gX6_init_X0_init_n17 : GoodIn wsX6_init (wsX0_init) := ggX6_init_X0_init
theorem dX6_init_0 : decode cX6_init 0 = .ok (.aload_n 0, 1) := by decide +kernel
theorem dX6_init_1 : decode cX6_init 1 = .ok (.invokespecial 3, 3) := by decide +kernel
theorem dX6_init_4 : decode cX6_init 4 = .ok (.aload_n 0, 1) := by decide +kernel
theorem dX6_init_5 : decode cX6_init 5 = .ok (.sipush 4096, 3) := by decide +kernel
theorem dX6_init_8 : decode cX6_init 8 = .ok (.newarray .int, 2) := by decide +kernel
theorem dX6_init_10 : decode cX6_init 10 = .ok (.putfield 9, 3) := by decide +kernel
theorem dX6_init_13 : decode cX6_init 13 = .ok (.aload_n 0, 1) := by decide +kernel
theorem dX6_init_14 : decode cX6_init 14 = .ok (.new 15, 3) := by decide +kernel
theorem dX6_init_17 : decode cX6_init 17 = .ok (.dup, 1) := by decide +kernel
theorem dX6_init_18 : decode cX6_init 18 = .ok (.invokespecial 17, 3) := by decide +kernel
theorem dX6_init_21 : decode cX6_init 21 = .ok (.putfield 18, 3) := by decide +kernel
theorem dX6_init_24 : decode cX6_init 24 = .ok (.return_, 1) := by decide +kernel
set_option maxRecDepth 20000 in
theorem gu_wsX6_begin_1 : ∀ w ∈ ([Cond.fieldLink RX6 22 "SieveCabinet$Sieve" "kind" "I", Cond.fieldLink RX6 26 "SieveCabinet$Sieve" "size" "I", Cond.fieldLink RX6 29 "SieveCabinet$Sieve" "marks" "I", Cond.fieldLink RX6 32 "SieveCabinet$Sieve" "seed" "I", Cond.fieldLink RX6 18 "SieveCabinet$Sieve" "contents" "LSieveCabinet$Bag;", Cond.fieldLink RX6 9 "SieveCabinet$Sieve" "cells" "[I", Cond.methodLink RX6 35 yX0_empty, Cond.instanceMethod yX0_empty, Cond.selects RX0 yX0_empty yX0_empty, Cond.initialized RX0, Cond.code yX0_empty cX0_empty 1 none, Cond.fieldLink RX0 15 "SieveCabinet$Bag" "count" "I", Cond.methodLink RX6 38 yJ7_fill_53178, Cond.static yJ7_fill_53178, Cond.initialized RJ7, Cond.code yJ7_fill_53178 cJ7_fill_53178 4 none] : List Cond), w ∈ wsX6_begin := fun _ h => List.mem_cons_of_mem _ (List.mem_append_left _ (List.mem_append_left _ h))
set_option maxRecDepth 20000 in
theorem gu_wsX6_begin_3 : ∀ w ∈ wsX00, w ∈ wsX6_begin := fun _ h => List.mem_cons_of_mem _ (List.mem_append_right _ h)
set_option maxRecDepth 20000 in
theorem ggX6_begin_X0_empty : GoodIn wsX6_begin wsX0_empty := goodIn_sub (gi_c (gu_wsX6_begin_1 _ gm_10) (gi_a (gi_c (gu_wsX6_begin_1 _ gm_11) gi_0) (gu_wsX6_begin_3))) (by decide +kernel)
set_option maxRecDepth 20000 in
theorem gX6_begin_X0_empty : GoodIn wsX6_begin (wsV RX6 35 RX0 yX0_empty wsX0_empty) := goodIn_app (goodIn_sub (gi_c (gu_wsX6_begin_1 _ gm_6) (gi_c (gu_wsX6_begin_1 _ gm_7) (gi_c (gu_wsX6_begin_1 _ gm_8) (gi_c (gu_wsX6_begin_1 _ gm_9) gi_0)))) (by decide +kernel)) ggX6_begin_X0_empty
set_option maxRecDepth 20000 in
theorem ggX6_begin_J7_fill_53178 : GoodIn wsX6_begin wsJ7_fill_53178 := goodIn_sub (gi_c (gu_wsX6_begin_1 _ gm_15) (gi_0)) (by decide +kernel)
set_option maxRecDepth 20000 in
theorem gX6_begin_J7_fill_53178 : GoodIn wsX6_begin (va_wsS RX6 38 yJ7_fill_53178 wsJ7_fill_53178) := goodIn_app (goodIn_sub (gi_c (gu_wsX6_begin_1 _ gm_12) (gi_c (gu_wsX6_begin_1 _ gm_13) (gi_c (gu_wsX6_begin_1 _ gm_14) gi_0))) (by decide +kernel)) ggX6_begin_J7_fill_53178
theorem dX6_begin_0 : decode cX6_begin 0 = .ok (.aload_n 0, 1) := by decide +kernel
theorem dX6_begin_1 : decode cX6_begin 1 = .ok (.iload_n 1, 1) := by decide +kernel
theorem dX6_begin_2 : decode cX6_begin 2 = .ok (.putfield 22, 3) := by decide +kernel
theorem dX6_begin_5 : decode cX6_begin 5 = .ok (.aload_n 0, 1) := by decide +kernel
theorem dX6_begin_6 : decode cX6_begin 6 = .ok (.iload_n 2, 1) := by decide +kernel
theorem dX6_begin_7 : decode cX6_begin 7 = .ok (.putfield 26, 3) := by decide +kernel
theorem dX6_begin_10 : decode cX6_begin 10 = .ok (.aload_n 0, 1) := by decide +kernel
theorem dX6_begin_11 : decode cX6_begin 11 = .ok (.iload_n 3, 1) := by decide +kernel
theorem dX6_begin_12 : decode cX6_begin 12 = .ok (.putfield 29, 3) := by decide +kernel
theorem dX6_begin_15 : decode cX6_begin 15 = .ok (.aload_n 0, 1) := by decide +kernel
theorem dX6_begin_16 : decode cX6_begin 16 = .ok (.iload 4, 2) := by decide +kernel
theorem dX6_begin_18 : decode cX6_begin 18 = .ok (.putfield 32, 3) := by decide +kernel
theorem dX6_begin_21 : decode cX6_begin 21 = .ok (.aload_n 0, 1) := by decide +kernel
theorem dX6_begin_22 : decode cX6_begin 22 = .ok (.getfield 18, 3) := by decide +kernel
theorem dX6_begin_25 : decode cX6_begin 25 = .ok (.invokevirtual 35, 3) := by decide +kernel
theorem dX6_begin_28 : decode cX6_begin 28 = .ok (.aload_n 0, 1) := by decide +kernel
theorem dX6_begin_29 : decode cX6_begin 29 = .ok (.getfield 9, 3) := by decide +kernel
theorem dX6_begin_32 : decode cX6_begin 32 = .ok (.iconst 0, 1) := by decide +kernel
theorem dX6_begin_33 : decode cX6_begin 33 = .ok (.invokestatic 38, 3) := by decide +kernel
theorem dX6_begin_36 : decode cX6_begin 36 = .ok (.return_, 1) := by decide +kernel
set_option maxRecDepth 20000 in
theorem gu_wsX6_beginLayered_2 : ∀ w ∈ wsX6_beginLayered_r2, w ∈ wsX6_beginLayered := fun _ h => List.mem_cons_of_mem _ (List.mem_append_left _ (List.mem_append_left _ (List.mem_append_left _ (List.mem_append_left _ (List.mem_append_right _ (List.mem_append_left _ h))))))
set_option maxRecDepth 20000 in
theorem gu_wsX6_beginLayered_1 : ∀ w ∈ wsX6_beginLayered_r1, w ∈ wsX6_beginLayered := fun _ h => List.mem_cons_of_mem _ (List.mem_append_left _ (List.mem_append_left _ (List.mem_append_left _ (List.mem_append_left _ (List.mem_append_left _ h)))))
set_option maxRecDepth 20000 in
theorem gu_wsX6_beginLayered_9 : ∀ w ∈ wsX30, w ∈ wsX6_beginLayered := fun _ h => List.mem_cons_of_mem _ (List.mem_append_left _ (List.mem_append_left _ (List.mem_append_right _ h)))
set_option maxRecDepth 20000 in
theorem gu_wsX6_beginLayered_10 : ∀ w ∈ wsX00, w ∈ wsX6_beginLayered := fun _ h => List.mem_cons_of_mem _ (List.mem_append_left _ (List.mem_append_right _ h))
set_option maxRecDepth 20000 in
theorem gu_wsX6_beginLayered_11 : ∀ w ∈ wsX10, w ∈ wsX6_beginLayered := fun _ h => List.mem_cons_of_mem _ (List.mem_append_right _ h)
set_option maxRecDepth 20000 in
theorem ggX6_beginLayered_X3_init : GoodIn wsX6_beginLayered wsX3_init := goodIn_sub (gi_c (gu_wsX6_beginLayered_1 _ gm_6) (gi_a (gi_a (gi_a (gi_c (gu_wsX6_beginLayered_1 _ gm_7) (gi_c (gu_wsX6_beginLayered_1 _ gm_8) (gi_c (gu_wsX6_beginLayered_1 _ gm_9) (gi_c (gu_wsX6_beginLayered_1 _ gm_10) (gi_c (gu_wsX6_beginLayered_1 _ gm_11) (gi_c (gu_wsX6_beginLayered_1 _ gm_12) (gi_c (gu_wsX6_beginLayered_1 _ gm_13) (gi_c (gu_wsX6_beginLayered_1 _ gm_14) (gi_c (gu_wsX6_beginLayered_1 _ gm_15) (gi_c (gu_wsX6_beginLayered_1 _ gm_16) (gi_c (gu_wsX6_beginLayered_1 _ gm_17) (gi_c (gu_wsX6_beginLayered_1 _ gm_18) (gi_c (gu_wsX6_beginLayered_1 _ gm_19) (gi_c (gu_wsX6_beginLayered_1 _ gm_20) (gi_c (gu_wsX6_beginLayered_1 _ gm_21) (gi_c (gu_wsX6_beginLayered_1 _ gm_22) (gi_c (gu_wsX6_beginLayered_1 _ gm_23) (gi_c (gu_wsX6_beginLayered_2 _ gm_0) (gi_c (gu_wsX6_beginLayered_2 _ gm_1) (gi_c (gu_wsX6_beginLayered_2 _ gm_2) (gi_c (gu_wsX6_beginLayered_2 _ gm_3) (gi_c (gu_wsX6_beginLayered_2 _ gm_4) gi_0)))))))))))))))))))))) (gu_wsX6_beginLayered_9)) (gu_wsX6_beginLayered_10)) (gu_wsX6_beginLayered_11))) (by decide +kernel)
set_option maxRecDepth 20000 in
theorem gX6_beginLayered_X3_init : GoodIn wsX6_beginLayered (wsX3_init) := ggX6_beginLayered_X3_init
set_option maxRecDepth 20000 in
theorem gu_wsX6_beginLayered_3 : ∀ w ∈ wsX6_beginLayered_r3, w ∈ wsX6_beginLayered := fun _ h => List.mem_cons_of_mem _ (List.mem_append_left _ (List.mem_append_left _ (List.mem_append_left _ (List.mem_append_left _ (List.mem_append_right _ (List.mem_append_right _ (List.mem_append_left _ h)))))))
set_option maxRecDepth 20000 in
theorem gu_wsX6_beginLayered_4 : ∀ w ∈ wsX6_beginLayered_r4, w ∈ wsX6_beginLayered := fun _ h => List.mem_cons_of_mem _ (List.mem_append_left _ (List.mem_append_left _ (List.mem_append_left _ (List.mem_append_left _ (List.mem_append_right _ (List.mem_append_right _ (List.mem_append_right _ (List.mem_append_left _ h))))))))
set_option maxRecDepth 20000 in
theorem gu_wsX6_beginLayered_5 : ∀ w ∈ wsX6_beginLayered_r5, w ∈ wsX6_beginLayered := fun _ h => List.mem_cons_of_mem _ (List.mem_append_left _ (List.mem_append_left _ (List.mem_append_left _ (List.mem_append_left _ (List.mem_append_right _ (List.mem_append_right _ (List.mem_append_right _ (List.mem_append_right _ (List.mem_append_left _ h)))))))))
set_option maxRecDepth 20000 in
theorem gu_wsX6_beginLayered_6 : ∀ w ∈ wsX6_beginLayered_r6, w ∈ wsX6_beginLayered := fun _ h => List.mem_cons_of_mem _ (List.mem_append_left _ (List.mem_append_left _ (List.mem_append_left _ (List.mem_append_left _ (List.mem_append_right _ (List.mem_append_right _ (List.mem_append_right _ (List.mem_append_right _ (List.mem_append_right _ (List.mem_append_left _ h))))))))))
set_option maxRecDepth 20000 in
theorem ggX6_beginLayered_X3_build : GoodIn wsX6_beginLayered wsX3_build := goodIn_sub (gi_c (gu_wsX6_beginLayered_2 _ gm_8) (gi_a (gi_a (gi_a (gi_a (gi_c (gu_wsX6_beginLayered_2 _ gm_9) (gi_c (gu_wsX6_beginLayered_2 _ gm_10) (gi_c (gu_wsX6_beginLayered_1 _ gm_17) (gi_c (gu_wsX6_beginLayered_2 _ gm_11) (gi_c (gu_wsX6_beginLayered_2 _ gm_12) (gi_c (gu_wsX6_beginLayered_2 _ gm_13) (gi_c (gu_wsX6_beginLayered_1 _ gm_16) (gi_c (gu_wsX6_beginLayered_2 _ gm_14) (gi_c (gu_wsX6_beginLayered_2 _ gm_15) (gi_c (gu_wsX6_beginLayered_2 _ gm_16) (gi_c (gu_wsX6_beginLayered_2 _ gm_17) (gi_c (gu_wsX6_beginLayered_2 _ gm_18) (gi_c (gu_wsX6_beginLayered_1 _ gm_3) (gi_c (gu_wsX6_beginLayered_2 _ gm_19) (gi_c (gu_wsX6_beginLayered_1 _ gm_11) (gi_c (gu_wsX6_beginLayered_1 _ gm_13) (gi_c (gu_wsX6_beginLayered_2 _ gm_20) (gi_c (gu_wsX6_beginLayered_2 _ gm_21) (gi_c (gu_wsX6_beginLayered_2 _ gm_22) (gi_c (gu_wsX6_beginLayered_2 _ gm_23) (gi_c (gu_wsX6_beginLayered_3 _ gm_0) (gi_c (gu_wsX6_beginLayered_3 _ gm_1) (gi_c (gu_wsX6_beginLayered_3 _ gm_2) (gi_c (gu_wsX6_beginLayered_3 _ gm_3) gi_0)))))))))))))))))))))))) (gi_a (gi_c (gu_wsX6_beginLayered_3 _ gm_4) (gi_c (gu_wsX6_beginLayered_3 _ gm_5) (gi_c (gu_wsX6_beginLayered_1 _ gm_19) (gi_c (gu_wsX6_beginLayered_3 _ gm_6) (gi_c (gu_wsX6_beginLayered_3 _ gm_7) (gi_c (gu_wsX6_beginLayered_3 _ gm_8) (gi_c (gu_wsX6_beginLayered_3 _ gm_9) (gi_c (gu_wsX6_beginLayered_3 _ gm_10) (gi_c (gu_wsX6_beginLayered_3 _ gm_11) (gi_c (gu_wsX6_beginLayered_3 _ gm_12) (gi_c (gu_wsX6_beginLayered_3 _ gm_13) (gi_c (gu_wsX6_beginLayered_3 _ gm_14) (gi_c (gu_wsX6_beginLayered_2 _ gm_4) (gi_c (gu_wsX6_beginLayered_3 _ gm_15) (gi_c (gu_wsX6_beginLayered_3 _ gm_16) (gi_c (gu_wsX6_beginLayered_3 _ gm_17) (gi_c (gu_wsX6_beginLayered_3 _ gm_18) (gi_c (gu_wsX6_beginLayered_3 _ gm_19) (gi_c (gu_wsX6_beginLayered_3 _ gm_20) (gi_c (gu_wsX6_beginLayered_3 _ gm_21) (gi_c (gu_wsX6_beginLayered_3 _ gm_22) (gi_c (gu_wsX6_beginLayered_2 _ gm_0) (gi_c (gu_wsX6_beginLayered_3 _ gm_23) (gi_c (gu_wsX6_beginLayered_4 _ gm_0) gi_0)))))))))))))))))))))))) (gi_a (gi_c (gu_wsX6_beginLayered_4 _ gm_1) (gi_c (gu_wsX6_beginLayered_4 _ gm_2) (gi_c (gu_wsX6_beginLayered_4 _ gm_3) (gi_c (gu_wsX6_beginLayered_4 _ gm_4) (gi_c (gu_wsX6_beginLayered_4 _ gm_5) (gi_c (gu_wsX6_beginLayered_4 _ gm_6) (gi_c (gu_wsX6_beginLayered_4 _ gm_7) (gi_c (gu_wsX6_beginLayered_4 _ gm_8) (gi_c (gu_wsX6_beginLayered_4 _ gm_9) (gi_c (gu_wsX6_beginLayered_4 _ gm_10) (gi_c (gu_wsX6_beginLayered_4 _ gm_11) (gi_c (gu_wsX6_beginLayered_4 _ gm_12) (gi_c (gu_wsX6_beginLayered_4 _ gm_13) (gi_c (gu_wsX6_beginLayered_4 _ gm_14) (gi_c (gu_wsX6_beginLayered_4 _ gm_15) (gi_c (gu_wsX6_beginLayered_4 _ gm_16) (gi_c (gu_wsX6_beginLayered_4 _ gm_17) (gi_c (gu_wsX6_beginLayered_4 _ gm_18) (gi_c (gu_wsX6_beginLayered_4 _ gm_19) (gi_c (gu_wsX6_beginLayered_4 _ gm_20) (gi_c (gu_wsX6_beginLayered_4 _ gm_21) (gi_c (gu_wsX6_beginLayered_4 _ gm_22) (gi_c (gu_wsX6_beginLayered_4 _ gm_23) (gi_c (gu_wsX6_beginLayered_5 _ gm_0) gi_0)))))))))))))))))))))))) (gi_a (gi_c (gu_wsX6_beginLayered_5 _ gm_1) (gi_c (gu_wsX6_beginLayered_5 _ gm_2) (gi_c (gu_wsX6_beginLayered_5 _ gm_3) (gi_c (gu_wsX6_beginLayered_5 _ gm_4) (gi_c (gu_wsX6_beginLayered_5 _ gm_5) (gi_c (gu_wsX6_beginLayered_5 _ gm_6) (gi_c (gu_wsX6_beginLayered_5 _ gm_7) (gi_c (gu_wsX6_beginLayered_5 _ gm_8) (gi_c (gu_wsX6_beginLayered_5 _ gm_9) (gi_c (gu_wsX6_beginLayered_5 _ gm_10) (gi_c (gu_wsX6_beginLayered_5 _ gm_11) (gi_c (gu_wsX6_beginLayered_5 _ gm_12) (gi_c (gu_wsX6_beginLayered_5 _ gm_13) (gi_c (gu_wsX6_beginLayered_5 _ gm_14) (gi_c (gu_wsX6_beginLayered_5 _ gm_15) (gi_c (gu_wsX6_beginLayered_5 _ gm_16) (gi_c (gu_wsX6_beginLayered_5 _ gm_17) (gi_c (gu_wsX6_beginLayered_5 _ gm_18) (gi_c (gu_wsX6_beginLayered_5 _ gm_19) (gi_c (gu_wsX6_beginLayered_5 _ gm_20) (gi_c (gu_wsX6_beginLayered_5 _ gm_21) (gi_c (gu_wsX6_beginLayered_5 _ gm_22) (gi_c (gu_wsX6_beginLayered_5 _ gm_23) (gi_c (gu_wsX6_beginLayered_6 _ gm_0) gi_0)))))))))))))))))))))))) (gi_c (gu_wsX6_beginLayered_6 _ gm_1) (gi_c (gu_wsX6_beginLayered_6 _ gm_2) (gi_c (gu_wsX6_beginLayered_6 _ gm_3) (gi_c (gu_wsX6_beginLayered_6 _ gm_4) (gi_c (gu_wsX6_beginLayered_6 _ gm_5) gi_0))))))))) (gu_wsX6_beginLayered_9)) (gu_wsX6_beginLayered_10)) (gu_wsX6_beginLayered_11))) (by decide +kernel)
set_option maxRecDepth 20000 in
theorem gX6_beginLayered_X3_build : GoodIn wsX6_beginLayered (wsV RX6 51 RX3 yX3_build wsX3_build) := goodIn_app (goodIn_sub (gi_c (gu_wsX6_beginLayered_2 _ gm_5) (gi_c (gu_wsX6_beginLayered_2 _ gm_6) (gi_c (gu_wsX6_beginLayered_2 _ gm_7) (gi_c (gu_wsX6_beginLayered_1 _ gm_3) gi_0)))) (by decide +kernel)) ggX6_beginLayered_X3_build
set_option maxRecDepth 20000 in
theorem ggX6_beginLayered_X3_count : GoodIn wsX6_beginLayered wsX3_count := goodIn_sub (gi_c (gu_wsX6_beginLayered_6 _ gm_9) (gi_a (gi_c (gu_wsX6_beginLayered_2 _ gm_9) gi_0) (gu_wsX6_beginLayered_9))) (by decide +kernel)
set_option maxRecDepth 20000 in
theorem gX6_beginLayered_X3_count : GoodIn wsX6_beginLayered (wsV RX6 55 RX3 yX3_count wsX3_count) := goodIn_app (goodIn_sub (gi_c (gu_wsX6_beginLayered_6 _ gm_6) (gi_c (gu_wsX6_beginLayered_6 _ gm_7) (gi_c (gu_wsX6_beginLayered_6 _ gm_8) (gi_c (gu_wsX6_beginLayered_1 _ gm_3) gi_0)))) (by decide +kernel)) ggX6_beginLayered_X3_count
set_option maxRecDepth 20000 in
theorem gu_wsX6_beginLayered_7 : ∀ w ∈ wsX6_beginLayered_r7, w ∈ wsX6_beginLayered := fun _ h => List.mem_cons_of_mem _ (List.mem_append_left _ (List.mem_append_left _ (List.mem_append_left _ (List.mem_append_left _ (List.mem_append_right _ (List.mem_append_right _ (List.mem_append_right _ (List.mem_append_right _ (List.mem_append_right _ (List.mem_append_right _ h))))))))))
set_option maxRecDepth 20000 in
theorem gu_wsX6_beginLayered_8 : ∀ w ∈ wsX60, w ∈ wsX6_beginLayered := fun _ h => List.mem_cons_of_mem _ (List.mem_append_left _ (List.mem_append_left _ (List.mem_append_left _ (List.mem_append_right _ h))))
set_option maxRecDepth 20000 in
theorem ggX6_beginLayered_X6_begin : GoodIn wsX6_beginLayered wsX6_begin := goodIn_sub (gi_c (gu_wsX6_beginLayered_6 _ gm_14) (gi_a (gi_a (gi_c (gu_wsX6_beginLayered_6 _ gm_15) (gi_c (gu_wsX6_beginLayered_6 _ gm_16) (gi_c (gu_wsX6_beginLayered_6 _ gm_17) (gi_c (gu_wsX6_beginLayered_6 _ gm_18) (gi_c (gu_wsX6_beginLayered_6 _ gm_19) (gi_c (gu_wsX6_beginLayered_6 _ gm_20) (gi_c (gu_wsX6_beginLayered_6 _ gm_21) (gi_c (gu_wsX6_beginLayered_2 _ gm_12) (gi_c (gu_wsX6_beginLayered_2 _ gm_13) (gi_c (gu_wsX6_beginLayered_1 _ gm_16) (gi_c (gu_wsX6_beginLayered_2 _ gm_14) (gi_c (gu_wsX6_beginLayered_2 _ gm_15) (gi_c (gu_wsX6_beginLayered_6 _ gm_22) (gi_c (gu_wsX6_beginLayered_6 _ gm_23) (gi_c (gu_wsX6_beginLayered_3 _ gm_17) (gi_c (gu_wsX6_beginLayered_7 _ gm_0) gi_0)))))))))))))))) (gu_wsX6_beginLayered_8)) (gu_wsX6_beginLayered_10))) (by decide +kernel)
set_option maxRecDepth 20000 in
theorem gX6_beginLayered_X6_begin : GoodIn wsX6_beginLayered (wsV RX6 59 RX6 yX6_begin wsX6_begin) := goodIn_app (goodIn_sub (gi_c (gu_wsX6_beginLayered_6 _ gm_10) (gi_c (gu_wsX6_beginLayered_6 _ gm_11) (gi_c (gu_wsX6_beginLayered_6 _ gm_12) (gi_c (gu_wsX6_beginLayered_6 _ gm_13) gi_0)))) (by decide +kernel)) ggX6_beginLayered_X6_begin
theorem dX6_beginLayered_0 : decode cX6_beginLayered 0 = .ok (.aload_n 0, 1) := by decide +kernel
theorem dX6_beginLayered_1 : decode cX6_beginLayered 1 = .ok (.getfield 44, 3) := by decide +kernel
theorem dX6_beginLayered_4 : decode cX6_beginLayered 4 = .ok (.ifnonnull 14, 3) := by decide +kernel
theorem dX6_beginLayered_7 : decode cX6_beginLayered 7 = .ok (.aload_n 0, 1) := by decide +kernel
theorem dX6_beginLayered_8 : decode cX6_beginLayered 8 = .ok (.new 48, 3) := by decide +kernel
theorem dX6_beginLayered_11 : decode cX6_beginLayered 11 = .ok (.dup, 1) := by decide +kernel
theorem dX6_beginLayered_12 : decode cX6_beginLayered 12 = .ok (.invokespecial 50, 3) := by decide +kernel
theorem dX6_beginLayered_15 : decode cX6_beginLayered 15 = .ok (.putfield 44, 3) := by decide +kernel
theorem dX6_beginLayered_18 : decode cX6_beginLayered 18 = .ok (.aload_n 0, 1) := by decide +kernel
theorem dX6_beginLayered_19 : decode cX6_beginLayered 19 = .ok (.getfield 44, 3) := by decide +kernel
theorem dX6_beginLayered_22 : decode cX6_beginLayered 22 = .ok (.aload_n 1, 1) := by decide +kernel
theorem dX6_beginLayered_23 : decode cX6_beginLayered 23 = .ok (.aload_n 2, 1) := by decide +kernel
theorem dX6_beginLayered_24 : decode cX6_beginLayered 24 = .ok (.aload_n 3, 1) := by decide +kernel
theorem dX6_beginLayered_25 : decode cX6_beginLayered 25 = .ok (.iload 4, 2) := by decide +kernel
theorem dX6_beginLayered_27 : decode cX6_beginLayered 27 = .ok (.invokevirtual 51, 3) := by decide +kernel
theorem dX6_beginLayered_30 : decode cX6_beginLayered 30 = .ok (.aload_n 0, 1) := by decide +kernel
theorem dX6_beginLayered_31 : decode cX6_beginLayered 31 = .ok (.iconst 4, 1) := by decide +kernel
theorem dX6_beginLayered_32 : decode cX6_beginLayered 32 = .ok (.aload_n 0, 1) := by decide +kernel
theorem dX6_beginLayered_33 : decode cX6_beginLayered 33 = .ok (.getfield 44, 3) := by decide +kernel
theorem dX6_beginLayered_36 : decode cX6_beginLayered 36 = .ok (.invokevirtual 55, 3) := by decide +kernel
theorem dX6_beginLayered_39 : decode cX6_beginLayered 39 = .ok (.iconst 3, 1) := by decide +kernel
theorem dX6_beginLayered_40 : decode cX6_beginLayered 40 = .ok (.iload 4, 2) := by decide +kernel
theorem dX6_beginLayered_42 : decode cX6_beginLayered 42 = .ok (.invokevirtual 59, 3) := by decide +kernel
theorem dX6_beginLayered_45 : decode cX6_beginLayered 45 = .ok (.return_, 1) := by decide +kernel
theorem dX6_isOpen_0 : decode cX6_isOpen 0 = .ok (.aload_n 0, 1) := by decide +kernel
theorem dX6_isOpen_1 : decode cX6_isOpen 1 = .ok (.getfield 22, 3) := by decide +kernel
theorem dX6_isOpen_4 : decode cX6_isOpen 4 = .ok (.ifCond .eq 19, 3) := by decide +kernel
theorem dX6_isOpen_7 : decode cX6_isOpen 7 = .ok (.aload_n 0, 1) := by decide +kernel
theorem dX6_isOpen_8 : decode cX6_isOpen 8 = .ok (.getfield 22, 3) := by decide +kernel
theorem dX6_isOpen_11 : decode cX6_isOpen 11 = .ok (.iconst 1, 1) := by decide +kernel
theorem dX6_isOpen_12 : decode cX6_isOpen 12 = .ok (.if_icmp .eq 11, 3) := by decide +kernel
theorem dX6_isOpen_15 : decode cX6_isOpen 15 = .ok (.aload_n 0, 1) := by decide +kernel
theorem dX6_isOpen_16 : decode cX6_isOpen 16 = .ok (.getfield 22, 3) := by decide +kernel
theorem dX6_isOpen_19 : decode cX6_isOpen 19 = .ok (.iconst 2, 1) := by decide +kernel
theorem dX6_isOpen_20 : decode cX6_isOpen 20 = .ok (.if_icmp .ne 7, 3) := by decide +kernel
theorem dX6_isOpen_23 : decode cX6_isOpen 23 = .ok (.iconst 1, 1) := by decide +kernel
theorem dX6_isOpen_24 : decode cX6_isOpen 24 = .ok (.goto 4, 3) := by decide +kernel
theorem dX6_isOpen_27 : decode cX6_isOpen 27 = .ok (.iconst 0, 1) := by decide +kernel
theorem dX6_isOpen_28 : decode cX6_isOpen 28 = .ok (.ireturn, 1) := by decide +kernel
theorem dX6_isMarkedLike_0 : decode cX6_isMarkedLike 0 = .ok (.aload_n 0, 1) := by decide +kernel
theorem dX6_isMarkedLike_1 : decode cX6_isMarkedLike 1 = .ok (.getfield 22, 3) := by decide +kernel
theorem dX6_isMarkedLike_4 : decode cX6_isMarkedLike 4 = .ok (.ifCond .ne 47, 3) := by decide +kernel
theorem dX6_isMarkedLike_7 : decode cX6_isMarkedLike 7 = .ok (.aload_n 1, 1) := by decide +kernel
theorem dX6_isMarkedLike_8 : decode cX6_isMarkedLike 8 = .ok (.getfield 22, 3) := by decide +kernel
theorem dX6_isMarkedLike_11 : decode cX6_isMarkedLike 11 = .ok (.ifCond .ne 40, 3) := by decide +kernel
theorem dX6_isMarkedLike_14 : decode cX6_isMarkedLike 14 = .ok (.aload_n 0, 1) := by decide +kernel
theorem dX6_isMarkedLike_15 : decode cX6_isMarkedLike 15 = .ok (.getfield 26, 3) := by decide +kernel
theorem dX6_isMarkedLike_18 : decode cX6_isMarkedLike 18 = .ok (.aload_n 1, 1) := by decide +kernel
theorem dX6_isMarkedLike_19 : decode cX6_isMarkedLike 19 = .ok (.getfield 26, 3) := by decide +kernel
theorem dX6_isMarkedLike_22 : decode cX6_isMarkedLike 22 = .ok (.if_icmp .ne 29, 3) := by decide +kernel
theorem dX6_isMarkedLike_25 : decode cX6_isMarkedLike 25 = .ok (.aload_n 0, 1) := by decide +kernel
theorem dX6_isMarkedLike_26 : decode cX6_isMarkedLike 26 = .ok (.getfield 29, 3) := by decide +kernel
theorem dX6_isMarkedLike_29 : decode cX6_isMarkedLike 29 = .ok (.aload_n 1, 1) := by decide +kernel
theorem dX6_isMarkedLike_30 : decode cX6_isMarkedLike 30 = .ok (.getfield 29, 3) := by decide +kernel
theorem dX6_isMarkedLike_33 : decode cX6_isMarkedLike 33 = .ok (.if_icmp .ne 18, 3) := by decide +kernel
theorem dX6_isMarkedLike_36 : decode cX6_isMarkedLike 36 = .ok (.aload_n 0, 1) := by decide +kernel
theorem dX6_isMarkedLike_37 : decode cX6_isMarkedLike 37 = .ok (.getfield 32, 3) := by decide +kernel
theorem dX6_isMarkedLike_40 : decode cX6_isMarkedLike 40 = .ok (.aload_n 1, 1) := by decide +kernel
theorem dX6_isMarkedLike_41 : decode cX6_isMarkedLike 41 = .ok (.getfield 32, 3) := by decide +kernel
theorem dX6_isMarkedLike_44 : decode cX6_isMarkedLike 44 = .ok (.if_icmp .ne 7, 3) := by decide +kernel
theorem dX6_isMarkedLike_47 : decode cX6_isMarkedLike 47 = .ok (.iconst 1, 1) := by decide +kernel
theorem dX6_isMarkedLike_48 : decode cX6_isMarkedLike 48 = .ok (.goto 4, 3) := by decide +kernel
theorem dX6_isMarkedLike_51 : decode cX6_isMarkedLike 51 = .ok (.iconst 0, 1) := by decide +kernel
theorem dX6_isMarkedLike_52 : decode cX6_isMarkedLike 52 = .ok (.ireturn, 1) := by decide +kernel
theorem dX6_places_0 : decode cX6_places 0 = .ok (.aload_n 0, 1) := by decide +kernel
theorem dX6_places_1 : decode cX6_places 1 = .ok (.getfield 22, 3) := by decide +kernel
theorem dX6_places_4 : decode cX6_places 4 = .ok (.iconst 2, 1) := by decide +kernel
theorem dX6_places_5 : decode cX6_places 5 = .ok (.if_icmp .ne 12, 3) := by decide +kernel
theorem dX6_places_8 : decode cX6_places 8 = .ok (.iconst 4, 1) := by decide +kernel
theorem dX6_places_9 : decode cX6_places 9 = .ok (.aload_n 0, 1) := by decide +kernel
theorem dX6_places_10 : decode cX6_places 10 = .ok (.getfield 26, 3) := by decide +kernel
theorem dX6_places_13 : decode cX6_places 13 = .ok (.imul, 1) := by decide +kernel
theorem dX6_places_14 : decode cX6_places 14 = .ok (.goto 7, 3) := by decide +kernel
theorem dX6_places_17 : decode cX6_places 17 = .ok (.aload_n 0, 1) := by decide +kernel
theorem dX6_places_18 : decode cX6_places 18 = .ok (.getfield 26, 3) := by decide +kernel
theorem dX6_places_21 : decode cX6_places 21 = .ok (.ireturn, 1) := by decide +kernel
theorem dX6_cellAt_0 : decode cX6_cellAt 0 = .ok (.iload_n 1, 1) := by decide +kernel
theorem dX6_cellAt_1 : decode cX6_cellAt 1 = .ok (.ifCond .lt 21, 3) := by decide +kernel
theorem dX6_cellAt_4 : decode cX6_cellAt 4 = .ok (.iload_n 1, 1) := by decide +kernel
theorem dX6_cellAt_5 : decode cX6_cellAt 5 = .ok (.aload_n 0, 1) := by decide +kernel
theorem dX6_cellAt_6 : decode cX6_cellAt 6 = .ok (.getfield 9, 3) := by decide +kernel
theorem dX6_cellAt_9 : decode cX6_cellAt 9 = .ok (.arraylength, 1) := by decide +kernel
theorem dX6_cellAt_10 : decode cX6_cellAt 10 = .ok (.if_icmp .ge 12, 3) := by decide +kernel
theorem dX6_cellAt_13 : decode cX6_cellAt 13 = .ok (.aload_n 0, 1) := by decide +kernel
theorem dX6_cellAt_14 : decode cX6_cellAt 14 = .ok (.getfield 9, 3) := by decide +kernel
theorem dX6_cellAt_17 : decode cX6_cellAt 17 = .ok (.iload_n 1, 1) := by decide +kernel
theorem dX6_cellAt_18 : decode cX6_cellAt 18 = .ok (.iaload, 1) := by decide +kernel
theorem dX6_cellAt_19 : decode cX6_cellAt 19 = .ok (.goto 4, 3) := by decide +kernel
theorem dX6_cellAt_22 : decode cX6_cellAt 22 = .ok (.iconst 0, 1) := by decide +kernel
theorem dX6_cellAt_23 : decode cX6_cellAt 23 = .ok (.ireturn, 1) := by decide +kernel
theorem dX6_setCell_0 : decode cX6_setCell 0 = .ok (.iload_n 1, 1) := by decide +kernel
theorem dX6_setCell_1 : decode cX6_setCell 1 = .ok (.ifCond .lt 19, 3) := by decide +kernel
theorem dX6_setCell_4 : decode cX6_setCell 4 = .ok (.iload_n 1, 1) := by decide +kernel
theorem dX6_setCell_5 : decode cX6_setCell 5 = .ok (.aload_n 0, 1) := by decide +kernel
theorem dX6_setCell_6 : decode cX6_setCell 6 = .ok (.getfield 9, 3) := by decide +kernel
theorem dX6_setCell_9 : decode cX6_setCell 9 = .ok (.arraylength, 1) := by decide +kernel
theorem dX6_setCell_10 : decode cX6_setCell 10 = .ok (.if_icmp .ge 10, 3) := by decide +kernel
theorem dX6_setCell_13 : decode cX6_setCell 13 = .ok (.aload_n 0, 1) := by decide +kernel
theorem dX6_setCell_14 : decode cX6_setCell 14 = .ok (.getfield 9, 3) := by decide +kernel
theorem dX6_setCell_17 : decode cX6_setCell 17 = .ok (.iload_n 1, 1) := by decide +kernel
theorem dX6_setCell_18 : decode cX6_setCell 18 = .ok (.iload_n 2, 1) := by decide +kernel
theorem dX6_setCell_19 : decode cX6_setCell 19 = .ok (.iastore, 1) := by decide +kernel
theorem dX6_setCell_20 : decode cX6_setCell 20 = .ok (.return_, 1) := by decide +kernel
set_option maxRecDepth 20000 in
theorem gu_wsX6_enter_1 : ∀ w ∈ wsX6_enter_r1, w ∈ wsX6_enter := fun _ h => List.mem_cons_of_mem _ (List.mem_append_left _ (List.mem_append_left _ (List.mem_append_left _ h)))
set_option maxRecDepth 20000 in
theorem gu_wsX6_enter_6 : ∀ w ∈ wsX00, w ∈ wsX6_enter := fun _ h => List.mem_cons_of_mem _ (List.mem_append_right _ h)
set_option maxRecDepth 20000 in
theorem ggX6_enter_X0_isFull : GoodIn wsX6_enter wsX0_isFull := goodIn_sub (gi_c (gu_wsX6_enter_1 _ gm_7) (gi_a (gi_c (gu_wsX6_enter_1 _ gm_8) gi_0) (gu_wsX6_enter_6))) (by decide +kernel)
set_option maxRecDepth 20000 in
theorem gX6_enter_X0_isFull : GoodIn wsX6_enter (wsV RX6 63 RX0 yX0_isFull wsX0_isFull) := goodIn_app (goodIn_sub (gi_c (gu_wsX6_enter_1 _ gm_3) (gi_c (gu_wsX6_enter_1 _ gm_4) (gi_c (gu_wsX6_enter_1 _ gm_5) (gi_c (gu_wsX6_enter_1 _ gm_6) gi_0)))) (by decide +kernel)) ggX6_enter_X0_isFull
set_option maxRecDepth 20000 in
theorem ggX6_enter_X4_of : GoodIn wsX6_enter wsX4_of := goodIn_sub (gi_c (gu_wsX6_enter_1 _ gm_12) (gi_c (gu_wsX6_enter_1 _ gm_13) (gi_c (gu_wsX6_enter_1 _ gm_14) (gi_c (gu_wsX6_enter_1 _ gm_15) gi_0)))) (by decide +kernel)
set_option maxRecDepth 20000 in
theorem gX6_enter_X4_of : GoodIn wsX6_enter (va_wsS RX6 67 yX4_of wsX4_of) := goodIn_app (goodIn_sub (gi_c (gu_wsX6_enter_1 _ gm_9) (gi_c (gu_wsX6_enter_1 _ gm_10) (gi_c (gu_wsX6_enter_1 _ gm_11) gi_0))) (by decide +kernel)) ggX6_enter_X4_of
set_option maxRecDepth 20000 in
theorem gu_wsX6_enter_2 : ∀ w ∈ wsX6_enter_r2, w ∈ wsX6_enter := fun _ h => List.mem_cons_of_mem _ (List.mem_append_left _ (List.mem_append_left _ (List.mem_append_right _ (List.mem_append_left _ h))))
set_option maxRecDepth 20000 in
theorem gu_wsX6_enter_3 : ∀ w ∈ wsX6_enter_r3, w ∈ wsX6_enter := fun _ h => List.mem_cons_of_mem _ (List.mem_append_left _ (List.mem_append_left _ (List.mem_append_right _ (List.mem_append_right _ (List.mem_append_left _ h)))))
set_option maxRecDepth 20000 in
theorem gu_wsX6_enter_5 : ∀ w ∈ wsX60, w ∈ wsX6_enter := fun _ h => List.mem_cons_of_mem _ (List.mem_append_left _ (List.mem_append_right _ h))
set_option maxRecDepth 20000 in
theorem ggX6_enter_X5_enter : GoodIn wsX6_enter wsX5_enter := goodIn_sub (gi_c (gu_wsX6_enter_1 _ gm_19) (gi_a (gi_a (gi_c (gu_wsX6_enter_1 _ gm_20) (gi_c (gu_wsX6_enter_1 _ gm_21) (gi_c (gu_wsX6_enter_1 _ gm_11) (gi_c (gu_wsX6_enter_1 _ gm_22) (gi_c (gu_wsX6_enter_1 _ gm_23) (gi_c (gu_wsX6_enter_2 _ gm_0) (gi_c (gu_wsX6_enter_2 _ gm_1) (gi_c (gu_wsX6_enter_2 _ gm_2) (gi_c (gu_wsX6_enter_2 _ gm_3) (gi_c (gu_wsX6_enter_2 _ gm_4) (gi_c (gu_wsX6_enter_2 _ gm_5) (gi_c (gu_wsX6_enter_2 _ gm_6) (gi_c (gu_wsX6_enter_2 _ gm_7) (gi_c (gu_wsX6_enter_1 _ gm_18) (gi_c (gu_wsX6_enter_2 _ gm_8) (gi_c (gu_wsX6_enter_2 _ gm_9) (gi_c (gu_wsX6_enter_2 _ gm_10) (gi_c (gu_wsX6_enter_2 _ gm_11) (gi_c (gu_wsX6_enter_2 _ gm_12) (gi_c (gu_wsX6_enter_2 _ gm_13) (gi_c (gu_wsX6_enter_2 _ gm_14) (gi_c (gu_wsX6_enter_2 _ gm_15) (gi_c (gu_wsX6_enter_2 _ gm_16) (gi_c (gu_wsX6_enter_2 _ gm_17) gi_0)))))))))))))))))))))))) (gi_c (gu_wsX6_enter_2 _ gm_18) (gi_c (gu_wsX6_enter_2 _ gm_19) (gi_c (gu_wsX6_enter_2 _ gm_20) (gi_c (gu_wsX6_enter_2 _ gm_21) (gi_c (gu_wsX6_enter_2 _ gm_22) (gi_c (gu_wsX6_enter_2 _ gm_23) (gi_c (gu_wsX6_enter_3 _ gm_0) (gi_c (gu_wsX6_enter_3 _ gm_1) (gi_c (gu_wsX6_enter_3 _ gm_2) (gi_c (gu_wsX6_enter_3 _ gm_3) (gi_c (gu_wsX6_enter_3 _ gm_4) (gi_c (gu_wsX6_enter_3 _ gm_5) (gi_c (gu_wsX6_enter_3 _ gm_6) (gi_c (gu_wsX6_enter_3 _ gm_7) (gi_c (gu_wsX6_enter_3 _ gm_8) (gi_c (gu_wsX6_enter_3 _ gm_9) (gi_c (gu_wsX6_enter_3 _ gm_10) (gi_c (gu_wsX6_enter_3 _ gm_11) (gi_c (gu_wsX6_enter_3 _ gm_12) (gi_c (gu_wsX6_enter_3 _ gm_13) gi_0))))))))))))))))))))) (gu_wsX6_enter_5))) (by decide +kernel)
set_option maxRecDepth 20000 in
theorem gX6_enter_X5_enter : GoodIn wsX6_enter (va_wsS RX6 73 yX5_enter wsX5_enter) := goodIn_app (goodIn_sub (gi_c (gu_wsX6_enter_1 _ gm_16) (gi_c (gu_wsX6_enter_1 _ gm_17) (gi_c (gu_wsX6_enter_1 _ gm_18) gi_0))) (by decide +kernel)) ggX6_enter_X5_enter
set_option maxRecDepth 20000 in
theorem gu_wsX6_enter_4 : ∀ w ∈ wsX6_enter_r4, w ∈ wsX6_enter := fun _ h => List.mem_cons_of_mem _ (List.mem_append_left _ (List.mem_append_left _ (List.mem_append_right _ (List.mem_append_right _ (List.mem_append_right _ h)))))
set_option maxRecDepth 20000 in
theorem ggX6_enter_X6_raiseMarks : GoodIn wsX6_enter wsX6_raiseMarks := goodIn_sub (gi_c (gu_wsX6_enter_3 _ gm_17) (gi_a (gi_c (gu_wsX6_enter_1 _ gm_2) (gi_c (gu_wsX6_enter_3 _ gm_18) (gi_c (gu_wsX6_enter_3 _ gm_19) (gi_c (gu_wsX6_enter_3 _ gm_20) (gi_c (gu_wsX6_enter_3 _ gm_21) (gi_c (gu_wsX6_enter_3 _ gm_22) (gi_c (gu_wsX6_enter_3 _ gm_23) (gi_c (gu_wsX6_enter_4 _ gm_0) (gi_c (gu_wsX6_enter_4 _ gm_1) (gi_c (gu_wsX6_enter_1 _ gm_11) (gi_c (gu_wsX6_enter_4 _ gm_2) (gi_c (gu_wsX6_enter_2 _ gm_5) (gi_c (gu_wsX6_enter_4 _ gm_3) (gi_c (gu_wsX6_enter_2 _ gm_13) (gi_c (gu_wsX6_enter_2 _ gm_14) (gi_c (gu_wsX6_enter_2 _ gm_15) (gi_c (gu_wsX6_enter_2 _ gm_16) (gi_c (gu_wsX6_enter_2 _ gm_17) (gi_c (gu_wsX6_enter_4 _ gm_4) (gi_c (gu_wsX6_enter_2 _ gm_19) (gi_c (gu_wsX6_enter_2 _ gm_20) (gi_c (gu_wsX6_enter_2 _ gm_21) gi_0)))))))))))))))))))))) (gu_wsX6_enter_5))) (by decide +kernel)
set_option maxRecDepth 20000 in
theorem gX6_enter_X6_raiseMarks : GoodIn wsX6_enter (wsV RX6 79 RX6 yX6_raiseMarks wsX6_raiseMarks) := goodIn_app (goodIn_sub (gi_c (gu_wsX6_enter_3 _ gm_14) (gi_c (gu_wsX6_enter_3 _ gm_15) (gi_c (gu_wsX6_enter_3 _ gm_16) (gi_c (gu_wsX6_enter_2 _ gm_15) gi_0)))) (by decide +kernel)) ggX6_enter_X6_raiseMarks
set_option maxRecDepth 20000 in
theorem ggX6_enter_X0_insert : GoodIn wsX6_enter wsX0_insert := goodIn_sub (gi_c (gu_wsX6_enter_4 _ gm_8) (gi_a (gi_c (gu_wsX6_enter_4 _ gm_9) (gi_c (gu_wsX6_enter_1 _ gm_8) (gi_c (gu_wsX6_enter_4 _ gm_10) (gi_c (gu_wsX6_enter_4 _ gm_11) (gi_c (gu_wsX6_enter_4 _ gm_12) (gi_c (gu_wsX6_enter_4 _ gm_13) (gi_c (gu_wsX6_enter_4 _ gm_14) (gi_c (gu_wsX6_enter_1 _ gm_4) (gi_c (gu_wsX6_enter_1 _ gm_5) (gi_c (gu_wsX6_enter_1 _ gm_6) (gi_c (gu_wsX6_enter_1 _ gm_7) (gi_c (gu_wsX6_enter_4 _ gm_15) (gi_c (gu_wsX6_enter_4 _ gm_16) (gi_c (gu_wsX6_enter_4 _ gm_17) (gi_c (gu_wsX6_enter_4 _ gm_18) gi_0))))))))))))))) (gu_wsX6_enter_6))) (by decide +kernel)
set_option maxRecDepth 20000 in
theorem gX6_enter_X0_insert : GoodIn wsX6_enter (wsV RX6 83 RX0 yX0_insert wsX0_insert) := goodIn_app (goodIn_sub (gi_c (gu_wsX6_enter_4 _ gm_5) (gi_c (gu_wsX6_enter_4 _ gm_6) (gi_c (gu_wsX6_enter_4 _ gm_7) (gi_c (gu_wsX6_enter_1 _ gm_6) gi_0)))) (by decide +kernel)) ggX6_enter_X0_insert
set_option maxRecDepth 20000 in
theorem ggX6_enter_X0_count : GoodIn wsX6_enter wsX0_count := goodIn_sub (gi_c (gu_wsX6_enter_4 _ gm_22) (gi_a (gi_c (gu_wsX6_enter_1 _ gm_8) gi_0) (gu_wsX6_enter_6))) (by decide +kernel)
set_option maxRecDepth 20000 in
theorem gX6_enter_X0_count : GoodIn wsX6_enter (wsV RX6 87 RX0 yX0_count wsX0_count) := goodIn_app (goodIn_sub (gi_c (gu_wsX6_enter_4 _ gm_19) (gi_c (gu_wsX6_enter_4 _ gm_20) (gi_c (gu_wsX6_enter_4 _ gm_21) (gi_c (gu_wsX6_enter_1 _ gm_6) gi_0)))) (by decide +kernel)) ggX6_enter_X0_count
theorem dX6_enter_0 : decode cX6_enter 0 = .ok (.aload_n 0, 1) := by decide +kernel
theorem dX6_enter_1 : decode cX6_enter 1 = .ok (.getfield 18, 3) := by decide +kernel
theorem dX6_enter_4 : decode cX6_enter 4 = .ok (.invokevirtual 63, 3) := by decide +kernel
theorem dX6_enter_7 : decode cX6_enter 7 = .ok (.ifCond .eq 6, 3) := by decide +kernel
theorem dX6_enter_10 : decode cX6_enter 10 = .ok (.bipush (-4), 2) := by decide +kernel
theorem dX6_enter_12 : decode cX6_enter 12 = .ok (.ireturn, 1) := by decide +kernel
theorem dX6_enter_13 : decode cX6_enter 13 = .ok (.lload_n 1, 1) := by decide +kernel
theorem dX6_enter_14 : decode cX6_enter 14 = .ok (.aload_n 0, 1) := by decide +kernel
theorem dX6_enter_15 : decode cX6_enter 15 = .ok (.getfield 32, 3) := by decide +kernel
theorem dX6_enter_18 : decode cX6_enter 18 = .ok (.invokestatic 67, 3) := by decide +kernel
theorem dX6_enter_21 : decode cX6_enter 21 = .ok (.lstore_n 3, 1) := by decide +kernel
theorem dX6_enter_22 : decode cX6_enter 22 = .ok (.aload_n 0, 1) := by decide +kernel
theorem dX6_enter_23 : decode cX6_enter 23 = .ok (.getfield 22, 3) := by decide +kernel
theorem dX6_enter_26 : decode cX6_enter 26 = .ok (.iconst 2, 1) := by decide +kernel
theorem dX6_enter_27 : decode cX6_enter 27 = .ok (.if_icmp .ne 14, 3) := by decide +kernel
theorem dX6_enter_30 : decode cX6_enter 30 = .ok (.aload_n 0, 1) := by decide +kernel
theorem dX6_enter_31 : decode cX6_enter 31 = .ok (.lload_n 3, 1) := by decide +kernel
theorem dX6_enter_32 : decode cX6_enter 32 = .ok (.invokestatic 73, 3) := by decide +kernel
theorem dX6_enter_35 : decode cX6_enter 35 = .ok (.ifCond .ne 6, 3) := by decide +kernel
theorem dX6_enter_38 : decode cX6_enter 38 = .ok (.bipush (-3), 2) := by decide +kernel
theorem dX6_enter_40 : decode cX6_enter 40 = .ok (.ireturn, 1) := by decide +kernel
theorem dX6_enter_41 : decode cX6_enter 41 = .ok (.aload_n 0, 1) := by decide +kernel
theorem dX6_enter_42 : decode cX6_enter 42 = .ok (.getfield 22, 3) := by decide +kernel
theorem dX6_enter_45 : decode cX6_enter 45 = .ok (.iconst 2, 1) := by decide +kernel
theorem dX6_enter_46 : decode cX6_enter 46 = .ok (.if_icmp .eq 8, 3) := by decide +kernel
theorem dX6_enter_49 : decode cX6_enter 49 = .ok (.aload_n 0, 1) := by decide +kernel
theorem dX6_enter_50 : decode cX6_enter 50 = .ok (.lload_n 3, 1) := by decide +kernel
theorem dX6_enter_51 : decode cX6_enter 51 = .ok (.invokevirtual 79, 3) := by decide +kernel
theorem dX6_enter_54 : decode cX6_enter 54 = .ok (.aload_n 0, 1) := by decide +kernel
theorem dX6_enter_55 : decode cX6_enter 55 = .ok (.getfield 18, 3) := by decide +kernel
theorem dX6_enter_58 : decode cX6_enter 58 = .ok (.lload_n 1, 1) := by decide +kernel
theorem dX6_enter_59 : decode cX6_enter 59 = .ok (.invokevirtual 83, 3) := by decide +kernel
theorem dX6_enter_62 : decode cX6_enter 62 = .ok (.pop, 1) := by decide +kernel
theorem dX6_enter_63 : decode cX6_enter 63 = .ok (.aload_n 0, 1) := by decide +kernel
theorem dX6_enter_64 : decode cX6_enter 64 = .ok (.getfield 18, 3) := by decide +kernel
theorem dX6_enter_67 : decode cX6_enter 67 = .ok (.invokevirtual 87, 3) := by decide +kernel
theorem dX6_enter_70 : decode cX6_enter 70 = .ok (.ireturn, 1) := by decide +kernel
set_option maxRecDepth 20000 in
theorem gu_wsX6_leave_1 : ∀ w ∈ wsX6_leave_r1, w ∈ wsX6_leave := fun _ h => List.mem_cons_of_mem _ (List.mem_append_left _ (List.mem_append_left _ (List.mem_append_left _ h)))
set_option maxRecDepth 20000 in
theorem ggX6_leave_X4_of : GoodIn wsX6_leave wsX4_of := goodIn_sub (gi_c (gu_wsX6_leave_1 _ gm_6) (gi_c (gu_wsX6_leave_1 _ gm_7) (gi_c (gu_wsX6_leave_1 _ gm_8) (gi_c (gu_wsX6_leave_1 _ gm_9) gi_0)))) (by decide +kernel)
set_option maxRecDepth 20000 in
theorem gX6_leave_X4_of : GoodIn wsX6_leave (va_wsS RX6 67 yX4_of wsX4_of) := goodIn_app (goodIn_sub (gi_c (gu_wsX6_leave_1 _ gm_3) (gi_c (gu_wsX6_leave_1 _ gm_4) (gi_c (gu_wsX6_leave_1 _ gm_5) gi_0))) (by decide +kernel)) ggX6_leave_X4_of
set_option maxRecDepth 20000 in
theorem gu_wsX6_leave_2 : ∀ w ∈ wsX6_leave_r2, w ∈ wsX6_leave := fun _ h => List.mem_cons_of_mem _ (List.mem_append_left _ (List.mem_append_left _ (List.mem_append_right _ (List.mem_append_left _ h))))
set_option maxRecDepth 20000 in
theorem gu_wsX6_leave_4 : ∀ w ∈ wsX60, w ∈ wsX6_leave := fun _ h => List.mem_cons_of_mem _ (List.mem_append_left _ (List.mem_append_right _ h))
set_option maxRecDepth 20000 in
theorem ggX6_leave_X5_find : GoodIn wsX6_leave wsX5_find := goodIn_sub (gi_c (gu_wsX6_leave_1 _ gm_13) (gi_a (gi_a (gi_c (gu_wsX6_leave_1 _ gm_14) (gi_c (gu_wsX6_leave_1 _ gm_15) (gi_c (gu_wsX6_leave_1 _ gm_5) (gi_c (gu_wsX6_leave_1 _ gm_16) (gi_c (gu_wsX6_leave_1 _ gm_17) (gi_c (gu_wsX6_leave_1 _ gm_18) (gi_c (gu_wsX6_leave_1 _ gm_19) (gi_c (gu_wsX6_leave_1 _ gm_20) (gi_c (gu_wsX6_leave_1 _ gm_21) (gi_c (gu_wsX6_leave_1 _ gm_22) (gi_c (gu_wsX6_leave_1 _ gm_23) (gi_c (gu_wsX6_leave_2 _ gm_0) (gi_c (gu_wsX6_leave_2 _ gm_1) (gi_c (gu_wsX6_leave_1 _ gm_12) (gi_c (gu_wsX6_leave_2 _ gm_2) (gi_c (gu_wsX6_leave_2 _ gm_3) (gi_c (gu_wsX6_leave_2 _ gm_4) (gi_c (gu_wsX6_leave_2 _ gm_5) (gi_c (gu_wsX6_leave_2 _ gm_6) (gi_c (gu_wsX6_leave_2 _ gm_7) (gi_c (gu_wsX6_leave_2 _ gm_8) (gi_c (gu_wsX6_leave_2 _ gm_9) (gi_c (gu_wsX6_leave_2 _ gm_10) (gi_c (gu_wsX6_leave_2 _ gm_11) gi_0)))))))))))))))))))))))) (gi_c (gu_wsX6_leave_2 _ gm_12) (gi_c (gu_wsX6_leave_2 _ gm_13) (gi_c (gu_wsX6_leave_2 _ gm_14) (gi_c (gu_wsX6_leave_2 _ gm_15) gi_0))))) (gu_wsX6_leave_4))) (by decide +kernel)
set_option maxRecDepth 20000 in
theorem gX6_leave_X5_find : GoodIn wsX6_leave (va_wsS RX6 88 yX5_find wsX5_find) := goodIn_app (goodIn_sub (gi_c (gu_wsX6_leave_1 _ gm_10) (gi_c (gu_wsX6_leave_1 _ gm_11) (gi_c (gu_wsX6_leave_1 _ gm_12) gi_0))) (by decide +kernel)) ggX6_leave_X5_find
set_option maxRecDepth 20000 in
theorem ggX6_leave_X6_setCell : GoodIn wsX6_leave wsX6_setCell := goodIn_sub (gi_c (gu_wsX6_leave_2 _ gm_19) (gi_a (gi_c (gu_wsX6_leave_2 _ gm_8) gi_0) (gu_wsX6_leave_4))) (by decide +kernel)
set_option maxRecDepth 20000 in
theorem gX6_leave_X6_setCell : GoodIn wsX6_leave (wsV RX6 92 RX6 yX6_setCell wsX6_setCell) := goodIn_app (goodIn_sub (gi_c (gu_wsX6_leave_2 _ gm_16) (gi_c (gu_wsX6_leave_2 _ gm_17) (gi_c (gu_wsX6_leave_2 _ gm_18) (gi_c (gu_wsX6_leave_2 _ gm_6) gi_0)))) (by decide +kernel)) ggX6_leave_X6_setCell
set_option maxRecDepth 20000 in
theorem gu_wsX6_leave_3 : ∀ w ∈ wsX6_leave_r3, w ∈ wsX6_leave := fun _ h => List.mem_cons_of_mem _ (List.mem_append_left _ (List.mem_append_left _ (List.mem_append_right _ (List.mem_append_right _ h))))
set_option maxRecDepth 20000 in
theorem ggX6_leave_X6_lowerMarks : GoodIn wsX6_leave wsX6_lowerMarks := goodIn_sub (gi_c (gu_wsX6_leave_2 _ gm_23) (gi_a (gi_c (gu_wsX6_leave_3 _ gm_0) (gi_c (gu_wsX6_leave_3 _ gm_1) (gi_c (gu_wsX6_leave_3 _ gm_2) (gi_c (gu_wsX6_leave_3 _ gm_3) (gi_c (gu_wsX6_leave_1 _ gm_5) (gi_c (gu_wsX6_leave_3 _ gm_4) (gi_c (gu_wsX6_leave_1 _ gm_23) (gi_c (gu_wsX6_leave_3 _ gm_5) (gi_c (gu_wsX6_leave_2 _ gm_4) (gi_c (gu_wsX6_leave_2 _ gm_5) (gi_c (gu_wsX6_leave_2 _ gm_6) (gi_c (gu_wsX6_leave_2 _ gm_7) (gi_c (gu_wsX6_leave_2 _ gm_8) (gi_c (gu_wsX6_leave_2 _ gm_16) (gi_c (gu_wsX6_leave_2 _ gm_17) (gi_c (gu_wsX6_leave_2 _ gm_18) (gi_c (gu_wsX6_leave_2 _ gm_19) gi_0))))))))))))))))) (gu_wsX6_leave_4))) (by decide +kernel)
set_option maxRecDepth 20000 in
theorem gX6_leave_X6_lowerMarks : GoodIn wsX6_leave (wsV RX6 96 RX6 yX6_lowerMarks wsX6_lowerMarks) := goodIn_app (goodIn_sub (gi_c (gu_wsX6_leave_2 _ gm_20) (gi_c (gu_wsX6_leave_2 _ gm_21) (gi_c (gu_wsX6_leave_2 _ gm_22) (gi_c (gu_wsX6_leave_2 _ gm_6) gi_0)))) (by decide +kernel)) ggX6_leave_X6_lowerMarks
set_option maxRecDepth 20000 in
theorem gu_wsX6_leave_5 : ∀ w ∈ wsX00, w ∈ wsX6_leave := fun _ h => List.mem_cons_of_mem _ (List.mem_append_right _ h)
set_option maxRecDepth 20000 in
theorem ggX6_leave_X0_takeOne : GoodIn wsX6_leave wsX0_takeOne := goodIn_sub (gi_c (gu_wsX6_leave_3 _ gm_10) (gi_a (gi_c (gu_wsX6_leave_3 _ gm_11) (gi_c (gu_wsX6_leave_3 _ gm_12) (gi_c (gu_wsX6_leave_3 _ gm_13) (gi_c (gu_wsX6_leave_3 _ gm_14) (gi_c (gu_wsX6_leave_3 _ gm_15) (gi_c (gu_wsX6_leave_3 _ gm_16) (gi_c (gu_wsX6_leave_3 _ gm_17) (gi_c (gu_wsX6_leave_3 _ gm_18) (gi_c (gu_wsX6_leave_3 _ gm_19) (gi_c (gu_wsX6_leave_3 _ gm_9) (gi_c (gu_wsX6_leave_3 _ gm_20) gi_0))))))))))) (gu_wsX6_leave_5))) (by decide +kernel)
set_option maxRecDepth 20000 in
theorem gX6_leave_X0_takeOne : GoodIn wsX6_leave (wsV RX6 99 RX0 yX0_takeOne wsX0_takeOne) := goodIn_app (goodIn_sub (gi_c (gu_wsX6_leave_3 _ gm_6) (gi_c (gu_wsX6_leave_3 _ gm_7) (gi_c (gu_wsX6_leave_3 _ gm_8) (gi_c (gu_wsX6_leave_3 _ gm_9) gi_0)))) (by decide +kernel)) ggX6_leave_X0_takeOne
theorem dX6_leave_0 : decode cX6_leave 0 = .ok (.lload_n 1, 1) := by decide +kernel
theorem dX6_leave_1 : decode cX6_leave 1 = .ok (.aload_n 0, 1) := by decide +kernel
theorem dX6_leave_2 : decode cX6_leave 2 = .ok (.getfield 32, 3) := by decide +kernel
theorem dX6_leave_5 : decode cX6_leave 5 = .ok (.invokestatic 67, 3) := by decide +kernel
theorem dX6_leave_8 : decode cX6_leave 8 = .ok (.lstore_n 3, 1) := by decide +kernel
theorem dX6_leave_9 : decode cX6_leave 9 = .ok (.aload_n 0, 1) := by decide +kernel
theorem dX6_leave_10 : decode cX6_leave 10 = .ok (.getfield 22, 3) := by decide +kernel
theorem dX6_leave_13 : decode cX6_leave 13 = .ok (.iconst 2, 1) := by decide +kernel
theorem dX6_leave_14 : decode cX6_leave 14 = .ok (.if_icmp .ne 16, 3) := by decide +kernel
theorem dX6_leave_17 : decode cX6_leave 17 = .ok (.aload_n 0, 1) := by decide +kernel
theorem dX6_leave_18 : decode cX6_leave 18 = .ok (.aload_n 0, 1) := by decide +kernel
theorem dX6_leave_19 : decode cX6_leave 19 = .ok (.lload_n 3, 1) := by decide +kernel
theorem dX6_leave_20 : decode cX6_leave 20 = .ok (.invokestatic 88, 3) := by decide +kernel
theorem dX6_leave_23 : decode cX6_leave 23 = .ok (.iconst 0, 1) := by decide +kernel
theorem dX6_leave_24 : decode cX6_leave 24 = .ok (.invokevirtual 92, 3) := by decide +kernel
theorem dX6_leave_27 : decode cX6_leave 27 = .ok (.goto 8, 3) := by decide +kernel
theorem dX6_leave_30 : decode cX6_leave 30 = .ok (.aload_n 0, 1) := by decide +kernel
theorem dX6_leave_31 : decode cX6_leave 31 = .ok (.lload_n 3, 1) := by decide +kernel
theorem dX6_leave_32 : decode cX6_leave 32 = .ok (.invokevirtual 96, 3) := by decide +kernel
theorem dX6_leave_35 : decode cX6_leave 35 = .ok (.aload_n 0, 1) := by decide +kernel
theorem dX6_leave_36 : decode cX6_leave 36 = .ok (.getfield 18, 3) := by decide +kernel
theorem dX6_leave_39 : decode cX6_leave 39 = .ok (.lload_n 1, 1) := by decide +kernel
theorem dX6_leave_40 : decode cX6_leave 40 = .ok (.invokevirtual 99, 3) := by decide +kernel
theorem dX6_leave_43 : decode cX6_leave 43 = .ok (.pop, 1) := by decide +kernel
theorem dX6_leave_44 : decode cX6_leave 44 = .ok (.return_, 1) := by decide +kernel
set_option maxRecDepth 20000 in
theorem gu_wsX6_passes_2 : ∀ w ∈ wsX6_passes_r2, w ∈ wsX6_passes := fun _ h => List.mem_cons_of_mem _ (List.mem_append_left _ (List.mem_append_left _ (List.mem_append_left _ (List.mem_append_left _ (List.mem_append_right _ (List.mem_append_left _ h))))))
set_option maxRecDepth 20000 in
theorem gu_wsX6_passes_1 : ∀ w ∈ wsX6_passes_r1, w ∈ wsX6_passes := fun _ h => List.mem_cons_of_mem _ (List.mem_append_left _ (List.mem_append_left _ (List.mem_append_left _ (List.mem_append_left _ (List.mem_append_left _ h)))))
set_option maxRecDepth 20000 in
theorem gu_wsX6_passes_3 : ∀ w ∈ wsX6_passes_r3, w ∈ wsX6_passes := fun _ h => List.mem_cons_of_mem _ (List.mem_append_left _ (List.mem_append_left _ (List.mem_append_left _ (List.mem_append_left _ (List.mem_append_right _ (List.mem_append_right _ (List.mem_append_left _ h)))))))
set_option maxRecDepth 20000 in
theorem gu_wsX6_passes_7 : ∀ w ∈ wsX30, w ∈ wsX6_passes := fun _ h => List.mem_cons_of_mem _ (List.mem_append_left _ (List.mem_append_left _ (List.mem_append_right _ h)))
set_option maxRecDepth 20000 in
theorem gu_wsX6_passes_8 : ∀ w ∈ wsX10, w ∈ wsX6_passes := fun _ h => List.mem_cons_of_mem _ (List.mem_append_left _ (List.mem_append_right _ h))
set_option maxRecDepth 20000 in
theorem gu_wsX6_passes_9 : ∀ w ∈ wsX00, w ∈ wsX6_passes := fun _ h => List.mem_cons_of_mem _ (List.mem_append_right _ h)
set_option maxRecDepth 20000 in
theorem ggX6_passes_X3_passes : GoodIn wsX6_passes wsX3_passes := goodIn_sub (gi_c (gu_wsX6_passes_1 _ gm_7) (gi_a (gi_a (gi_a (gi_a (gi_c (gu_wsX6_passes_1 _ gm_8) (gi_c (gu_wsX6_passes_1 _ gm_9) (gi_c (gu_wsX6_passes_1 _ gm_10) (gi_c (gu_wsX6_passes_1 _ gm_11) (gi_c (gu_wsX6_passes_1 _ gm_12) (gi_c (gu_wsX6_passes_1 _ gm_6) (gi_c (gu_wsX6_passes_1 _ gm_13) (gi_c (gu_wsX6_passes_1 _ gm_14) (gi_c (gu_wsX6_passes_1 _ gm_15) (gi_c (gu_wsX6_passes_1 _ gm_16) (gi_c (gu_wsX6_passes_1 _ gm_17) (gi_c (gu_wsX6_passes_1 _ gm_18) (gi_c (gu_wsX6_passes_1 _ gm_19) (gi_c (gu_wsX6_passes_1 _ gm_20) (gi_c (gu_wsX6_passes_1 _ gm_21) (gi_c (gu_wsX6_passes_1 _ gm_22) (gi_c (gu_wsX6_passes_1 _ gm_23) (gi_c (gu_wsX6_passes_2 _ gm_0) (gi_c (gu_wsX6_passes_2 _ gm_1) (gi_c (gu_wsX6_passes_2 _ gm_2) (gi_c (gu_wsX6_passes_2 _ gm_3) (gi_c (gu_wsX6_passes_2 _ gm_4) (gi_c (gu_wsX6_passes_2 _ gm_5) (gi_c (gu_wsX6_passes_2 _ gm_6) gi_0)))))))))))))))))))))))) (gi_c (gu_wsX6_passes_2 _ gm_7) (gi_c (gu_wsX6_passes_2 _ gm_8) (gi_c (gu_wsX6_passes_2 _ gm_9) (gi_c (gu_wsX6_passes_2 _ gm_10) (gi_c (gu_wsX6_passes_2 _ gm_11) (gi_c (gu_wsX6_passes_2 _ gm_12) (gi_c (gu_wsX6_passes_2 _ gm_13) (gi_c (gu_wsX6_passes_2 _ gm_14) (gi_c (gu_wsX6_passes_2 _ gm_15) (gi_c (gu_wsX6_passes_2 _ gm_16) (gi_c (gu_wsX6_passes_2 _ gm_17) (gi_c (gu_wsX6_passes_2 _ gm_18) (gi_c (gu_wsX6_passes_2 _ gm_19) (gi_c (gu_wsX6_passes_2 _ gm_20) (gi_c (gu_wsX6_passes_2 _ gm_21) (gi_c (gu_wsX6_passes_2 _ gm_22) (gi_c (gu_wsX6_passes_2 _ gm_23) (gi_c (gu_wsX6_passes_3 _ gm_0) gi_0))))))))))))))))))) (gu_wsX6_passes_7)) (gu_wsX6_passes_8)) (gu_wsX6_passes_9))) (by decide +kernel)
set_option maxRecDepth 20000 in
theorem gX6_passes_X3_passes : GoodIn wsX6_passes (wsV RX6 102 RX3 yX3_passes wsX3_passes) := goodIn_app (goodIn_sub (gi_c (gu_wsX6_passes_1 _ gm_3) (gi_c (gu_wsX6_passes_1 _ gm_4) (gi_c (gu_wsX6_passes_1 _ gm_5) (gi_c (gu_wsX6_passes_1 _ gm_6) gi_0)))) (by decide +kernel)) ggX6_passes_X3_passes
set_option maxRecDepth 20000 in
theorem ggX6_passes_X4_of : GoodIn wsX6_passes wsX4_of := goodIn_sub (gi_c (gu_wsX6_passes_1 _ gm_19) (gi_c (gu_wsX6_passes_1 _ gm_20) (gi_c (gu_wsX6_passes_1 _ gm_21) (gi_c (gu_wsX6_passes_1 _ gm_22) gi_0)))) (by decide +kernel)
set_option maxRecDepth 20000 in
theorem gX6_passes_X4_of : GoodIn wsX6_passes (va_wsS RX6 67 yX4_of wsX4_of) := goodIn_app (goodIn_sub (gi_c (gu_wsX6_passes_3 _ gm_1) (gi_c (gu_wsX6_passes_1 _ gm_17) (gi_c (gu_wsX6_passes_1 _ gm_18) gi_0))) (by decide +kernel)) ggX6_passes_X4_of
set_option maxRecDepth 20000 in
theorem gu_wsX6_passes_4 : ∀ w ∈ wsX6_passes_r4, w ∈ wsX6_passes := fun _ h => List.mem_cons_of_mem _ (List.mem_append_left _ (List.mem_append_left _ (List.mem_append_left _ (List.mem_append_left _ (List.mem_append_right _ (List.mem_append_right _ (List.mem_append_right _ (List.mem_append_left _ h))))))))
set_option maxRecDepth 20000 in
theorem gu_wsX6_passes_6 : ∀ w ∈ wsX60, w ∈ wsX6_passes := fun _ h => List.mem_cons_of_mem _ (List.mem_append_left _ (List.mem_append_left _ (List.mem_append_left _ (List.mem_append_right _ h))))
set_option maxRecDepth 20000 in
theorem ggX6_passes_X5_find : GoodIn wsX6_passes wsX5_find := goodIn_sub (gi_c (gu_wsX6_passes_3 _ gm_5) (gi_a (gi_a (gi_c (gu_wsX6_passes_3 _ gm_6) (gi_c (gu_wsX6_passes_3 _ gm_7) (gi_c (gu_wsX6_passes_1 _ gm_18) (gi_c (gu_wsX6_passes_3 _ gm_8) (gi_c (gu_wsX6_passes_3 _ gm_9) (gi_c (gu_wsX6_passes_3 _ gm_10) (gi_c (gu_wsX6_passes_3 _ gm_11) (gi_c (gu_wsX6_passes_3 _ gm_12) (gi_c (gu_wsX6_passes_3 _ gm_13) (gi_c (gu_wsX6_passes_3 _ gm_14) (gi_c (gu_wsX6_passes_2 _ gm_8) (gi_c (gu_wsX6_passes_3 _ gm_15) (gi_c (gu_wsX6_passes_3 _ gm_16) (gi_c (gu_wsX6_passes_3 _ gm_4) (gi_c (gu_wsX6_passes_3 _ gm_17) (gi_c (gu_wsX6_passes_3 _ gm_18) (gi_c (gu_wsX6_passes_3 _ gm_19) (gi_c (gu_wsX6_passes_3 _ gm_20) (gi_c (gu_wsX6_passes_3 _ gm_21) (gi_c (gu_wsX6_passes_3 _ gm_22) (gi_c (gu_wsX6_passes_3 _ gm_23) (gi_c (gu_wsX6_passes_4 _ gm_0) (gi_c (gu_wsX6_passes_4 _ gm_1) (gi_c (gu_wsX6_passes_4 _ gm_2) gi_0)))))))))))))))))))))))) (gi_c (gu_wsX6_passes_4 _ gm_3) (gi_c (gu_wsX6_passes_4 _ gm_4) (gi_c (gu_wsX6_passes_4 _ gm_5) (gi_c (gu_wsX6_passes_4 _ gm_6) gi_0))))) (gu_wsX6_passes_6))) (by decide +kernel)
set_option maxRecDepth 20000 in
theorem gX6_passes_X5_find : GoodIn wsX6_passes (va_wsS RX6 88 yX5_find wsX5_find) := goodIn_app (goodIn_sub (gi_c (gu_wsX6_passes_3 _ gm_2) (gi_c (gu_wsX6_passes_3 _ gm_3) (gi_c (gu_wsX6_passes_3 _ gm_4) gi_0))) (by decide +kernel)) ggX6_passes_X5_find
set_option maxRecDepth 20000 in
theorem ggX6_passes_X6_passesSolved : GoodIn wsX6_passes wsX6_passesSolved := goodIn_sub (gi_c (gu_wsX6_passes_4 _ gm_10) (gi_a (gi_c (gu_wsX6_passes_4 _ gm_11) (gi_c (gu_wsX6_passes_4 _ gm_12) (gi_c (gu_wsX6_passes_4 _ gm_13) (gi_c (gu_wsX6_passes_1 _ gm_18) (gi_c (gu_wsX6_passes_4 _ gm_14) (gi_c (gu_wsX6_passes_4 _ gm_15) (gi_c (gu_wsX6_passes_3 _ gm_9) (gi_c (gu_wsX6_passes_3 _ gm_10) (gi_c (gu_wsX6_passes_3 _ gm_11) (gi_c (gu_wsX6_passes_4 _ gm_16) (gi_c (gu_wsX6_passes_3 _ gm_19) (gi_c (gu_wsX6_passes_3 _ gm_20) (gi_c (gu_wsX6_passes_3 _ gm_21) (gi_c (gu_wsX6_passes_3 _ gm_22) (gi_c (gu_wsX6_passes_3 _ gm_23) (gi_c (gu_wsX6_passes_4 _ gm_17) (gi_c (gu_wsX6_passes_4 _ gm_18) (gi_c (gu_wsX6_passes_4 _ gm_19) (gi_c (gu_wsX6_passes_4 _ gm_20) (gi_c (gu_wsX6_passes_4 _ gm_21) gi_0)))))))))))))))))))) (gu_wsX6_passes_6))) (by decide +kernel)
set_option maxRecDepth 20000 in
theorem gX6_passes_X6_passesSolved : GoodIn wsX6_passes (wsV RX6 105 RX6 yX6_passesSolved wsX6_passesSolved) := goodIn_app (goodIn_sub (gi_c (gu_wsX6_passes_4 _ gm_7) (gi_c (gu_wsX6_passes_4 _ gm_8) (gi_c (gu_wsX6_passes_4 _ gm_9) (gi_c (gu_wsX6_passes_3 _ gm_21) gi_0)))) (by decide +kernel)) ggX6_passes_X6_passesSolved
set_option maxRecDepth 20000 in
theorem gu_wsX6_passes_5 : ∀ w ∈ wsX6_passes_r5, w ∈ wsX6_passes := fun _ h => List.mem_cons_of_mem _ (List.mem_append_left _ (List.mem_append_left _ (List.mem_append_left _ (List.mem_append_left _ (List.mem_append_right _ (List.mem_append_right _ (List.mem_append_right _ (List.mem_append_right _ h))))))))
set_option maxRecDepth 20000 in
theorem ggX6_passes_X6_hasMarks : GoodIn wsX6_passes wsX6_hasMarks := goodIn_sub (gi_c (gu_wsX6_passes_5 _ gm_1) (gi_a (gi_c (gu_wsX6_passes_5 _ gm_2) (gi_c (gu_wsX6_passes_4 _ gm_11) (gi_c (gu_wsX6_passes_5 _ gm_3) (gi_c (gu_wsX6_passes_2 _ gm_6) (gi_c (gu_wsX6_passes_1 _ gm_18) (gi_c (gu_wsX6_passes_2 _ gm_7) (gi_c (gu_wsX6_passes_2 _ gm_8) (gi_c (gu_wsX6_passes_4 _ gm_16) (gi_c (gu_wsX6_passes_3 _ gm_19) (gi_c (gu_wsX6_passes_3 _ gm_20) (gi_c (gu_wsX6_passes_3 _ gm_21) (gi_c (gu_wsX6_passes_3 _ gm_22) (gi_c (gu_wsX6_passes_3 _ gm_23) gi_0))))))))))))) (gu_wsX6_passes_6))) (by decide +kernel)
set_option maxRecDepth 20000 in
theorem gX6_passes_X6_hasMarks : GoodIn wsX6_passes (wsV RX6 108 RX6 yX6_hasMarks wsX6_hasMarks) := goodIn_app (goodIn_sub (gi_c (gu_wsX6_passes_4 _ gm_22) (gi_c (gu_wsX6_passes_4 _ gm_23) (gi_c (gu_wsX6_passes_5 _ gm_0) (gi_c (gu_wsX6_passes_3 _ gm_21) gi_0)))) (by decide +kernel)) ggX6_passes_X6_hasMarks
theorem dX6_passes_0 : decode cX6_passes 0 = .ok (.aload_n 0, 1) := by decide +kernel
theorem dX6_passes_1 : decode cX6_passes 1 = .ok (.getfield 22, 3) := by decide +kernel
theorem dX6_passes_4 : decode cX6_passes 4 = .ok (.iconst 4, 1) := by decide +kernel
theorem dX6_passes_5 : decode cX6_passes 5 = .ok (.if_icmp .ne 27, 3) := by decide +kernel
theorem dX6_passes_8 : decode cX6_passes 8 = .ok (.aload_n 0, 1) := by decide +kernel
theorem dX6_passes_9 : decode cX6_passes 9 = .ok (.getfield 44, 3) := by decide +kernel
theorem dX6_passes_12 : decode cX6_passes 12 = .ok (.ifnull 18, 3) := by decide +kernel
theorem dX6_passes_15 : decode cX6_passes 15 = .ok (.aload_n 0, 1) := by decide +kernel
theorem dX6_passes_16 : decode cX6_passes 16 = .ok (.getfield 44, 3) := by decide +kernel
theorem dX6_passes_19 : decode cX6_passes 19 = .ok (.lload_n 1, 1) := by decide +kernel
theorem dX6_passes_20 : decode cX6_passes 20 = .ok (.invokevirtual 102, 3) := by decide +kernel
theorem dX6_passes_23 : decode cX6_passes 23 = .ok (.ifCond .eq 7, 3) := by decide +kernel
theorem dX6_passes_26 : decode cX6_passes 26 = .ok (.iconst 1, 1) := by decide +kernel
theorem dX6_passes_27 : decode cX6_passes 27 = .ok (.goto 4, 3) := by decide +kernel
theorem dX6_passes_30 : decode cX6_passes 30 = .ok (.iconst 0, 1) := by decide +kernel
theorem dX6_passes_31 : decode cX6_passes 31 = .ok (.ireturn, 1) := by decide +kernel
theorem dX6_passes_32 : decode cX6_passes 32 = .ok (.lload_n 1, 1) := by decide +kernel
theorem dX6_passes_33 : decode cX6_passes 33 = .ok (.aload_n 0, 1) := by decide +kernel
theorem dX6_passes_34 : decode cX6_passes 34 = .ok (.getfield 32, 3) := by decide +kernel
theorem dX6_passes_37 : decode cX6_passes 37 = .ok (.invokestatic 67, 3) := by decide +kernel
theorem dX6_passes_40 : decode cX6_passes 40 = .ok (.lstore_n 3, 1) := by decide +kernel
theorem dX6_passes_41 : decode cX6_passes 41 = .ok (.aload_n 0, 1) := by decide +kernel
theorem dX6_passes_42 : decode cX6_passes 42 = .ok (.getfield 22, 3) := by decide +kernel
theorem dX6_passes_45 : decode cX6_passes 45 = .ok (.lookupswitch 47 #[(2, 27), (3, 41)], 27) := by decide +kernel
theorem dX6_passes_72 : decode cX6_passes 72 = .ok (.aload_n 0, 1) := by decide +kernel
theorem dX6_passes_73 : decode cX6_passes 73 = .ok (.lload_n 3, 1) := by decide +kernel
theorem dX6_passes_74 : decode cX6_passes 74 = .ok (.invokestatic 88, 3) := by decide +kernel
theorem dX6_passes_77 : decode cX6_passes 77 = .ok (.ifCond .lt 7, 3) := by decide +kernel
theorem dX6_passes_80 : decode cX6_passes 80 = .ok (.iconst 1, 1) := by decide +kernel
theorem dX6_passes_81 : decode cX6_passes 81 = .ok (.goto 4, 3) := by decide +kernel
theorem dX6_passes_84 : decode cX6_passes 84 = .ok (.iconst 0, 1) := by decide +kernel
theorem dX6_passes_85 : decode cX6_passes 85 = .ok (.ireturn, 1) := by decide +kernel
theorem dX6_passes_86 : decode cX6_passes 86 = .ok (.aload_n 0, 1) := by decide +kernel
theorem dX6_passes_87 : decode cX6_passes 87 = .ok (.lload_n 3, 1) := by decide +kernel
theorem dX6_passes_88 : decode cX6_passes 88 = .ok (.invokevirtual 105, 3) := by decide +kernel
theorem dX6_passes_91 : decode cX6_passes 91 = .ok (.ireturn, 1) := by decide +kernel
theorem dX6_passes_92 : decode cX6_passes 92 = .ok (.aload_n 0, 1) := by decide +kernel
theorem dX6_passes_93 : decode cX6_passes 93 = .ok (.lload_n 3, 1) := by decide +kernel
theorem dX6_passes_94 : decode cX6_passes 94 = .ok (.invokevirtual 108, 3) := by decide +kernel
theorem dX6_passes_97 : decode cX6_passes 97 = .ok (.ireturn, 1) := by decide +kernel
set_option maxRecDepth 20000 in
theorem gu_wsX6_passesFalsely_2 : ∀ w ∈ wsX6_passesFalsely_r2, w ∈ wsX6_passesFalsely := fun _ h => List.mem_cons_of_mem _ (List.mem_append_left _ (List.mem_append_left _ (List.mem_append_left _ (List.mem_append_left _ (List.mem_append_right _ (List.mem_append_left _ h))))))
set_option maxRecDepth 20000 in
theorem gu_wsX6_passesFalsely_1 : ∀ w ∈ wsX6_passesFalsely_r1, w ∈ wsX6_passesFalsely := fun _ h => List.mem_cons_of_mem _ (List.mem_append_left _ (List.mem_append_left _ (List.mem_append_left _ (List.mem_append_left _ (List.mem_append_left _ h)))))
set_option maxRecDepth 20000 in
theorem gu_wsX6_passesFalsely_3 : ∀ w ∈ wsX6_passesFalsely_r3, w ∈ wsX6_passesFalsely := fun _ h => List.mem_cons_of_mem _ (List.mem_append_left _ (List.mem_append_left _ (List.mem_append_left _ (List.mem_append_left _ (List.mem_append_right _ (List.mem_append_right _ (List.mem_append_left _ h)))))))
set_option maxRecDepth 20000 in
theorem gu_wsX6_passesFalsely_4 : ∀ w ∈ wsX6_passesFalsely_r4, w ∈ wsX6_passesFalsely := fun _ h => List.mem_cons_of_mem _ (List.mem_append_left _ (List.mem_append_left _ (List.mem_append_left _ (List.mem_append_left _ (List.mem_append_right _ (List.mem_append_right _ (List.mem_append_right _ (List.mem_append_left _ h))))))))
set_option maxRecDepth 20000 in
theorem gu_wsX6_passesFalsely_5 : ∀ w ∈ wsX6_passesFalsely_r5, w ∈ wsX6_passesFalsely := fun _ h => List.mem_cons_of_mem _ (List.mem_append_left _ (List.mem_append_left _ (List.mem_append_left _ (List.mem_append_left _ (List.mem_append_right _ (List.mem_append_right _ (List.mem_append_right _ (List.mem_append_right _ h))))))))
set_option maxRecDepth 20000 in
theorem gu_wsX6_passesFalsely_6 : ∀ w ∈ wsX60, w ∈ wsX6_passesFalsely := fun _ h => List.mem_cons_of_mem _ (List.mem_append_left _ (List.mem_append_left _ (List.mem_append_left _ (List.mem_append_right _ h))))
set_option maxRecDepth 20000 in
theorem gu_wsX6_passesFalsely_7 : ∀ w ∈ wsX30, w ∈ wsX6_passesFalsely := fun _ h => List.mem_cons_of_mem _ (List.mem_append_left _ (List.mem_append_left _ (List.mem_append_right _ h)))
set_option maxRecDepth 20000 in
theorem gu_wsX6_passesFalsely_8 : ∀ w ∈ wsX10, w ∈ wsX6_passesFalsely := fun _ h => List.mem_cons_of_mem _ (List.mem_append_left _ (List.mem_append_right _ h))
set_option maxRecDepth 20000 in
theorem gu_wsX6_passesFalsely_9 : ∀ w ∈ wsX00, w ∈ wsX6_passesFalsely := fun _ h => List.mem_cons_of_mem _ (List.mem_append_right _ h)
set_option maxRecDepth 20000 in
theorem ggX6_passesFalsely_X6_passes : GoodIn wsX6_passesFalsely wsX6_passes := goodIn_sub (gi_c (gu_wsX6_passesFalsely_1 _ gm_5) (gi_a (gi_a (gi_a (gi_a (gi_a (gi_c (gu_wsX6_passesFalsely_1 _ gm_6) (gi_c (gu_wsX6_passesFalsely_1 _ gm_7) (gi_c (gu_wsX6_passesFalsely_1 _ gm_8) (gi_c (gu_wsX6_passesFalsely_1 _ gm_9) (gi_c (gu_wsX6_passesFalsely_1 _ gm_10) (gi_c (gu_wsX6_passesFalsely_1 _ gm_11) (gi_c (gu_wsX6_passesFalsely_1 _ gm_12) (gi_c (gu_wsX6_passesFalsely_1 _ gm_13) (gi_c (gu_wsX6_passesFalsely_1 _ gm_14) (gi_c (gu_wsX6_passesFalsely_1 _ gm_15) (gi_c (gu_wsX6_passesFalsely_1 _ gm_16) (gi_c (gu_wsX6_passesFalsely_1 _ gm_17) (gi_c (gu_wsX6_passesFalsely_1 _ gm_18) (gi_c (gu_wsX6_passesFalsely_1 _ gm_19) (gi_c (gu_wsX6_passesFalsely_1 _ gm_20) (gi_c (gu_wsX6_passesFalsely_1 _ gm_21) (gi_c (gu_wsX6_passesFalsely_1 _ gm_22) (gi_c (gu_wsX6_passesFalsely_1 _ gm_23) (gi_c (gu_wsX6_passesFalsely_2 _ gm_0) (gi_c (gu_wsX6_passesFalsely_2 _ gm_1) (gi_c (gu_wsX6_passesFalsely_2 _ gm_2) (gi_c (gu_wsX6_passesFalsely_2 _ gm_3) (gi_c (gu_wsX6_passesFalsely_2 _ gm_4) (gi_c (gu_wsX6_passesFalsely_2 _ gm_5) gi_0)))))))))))))))))))))))) (gi_a (gi_c (gu_wsX6_passesFalsely_2 _ gm_6) (gi_c (gu_wsX6_passesFalsely_2 _ gm_7) (gi_c (gu_wsX6_passesFalsely_2 _ gm_8) (gi_c (gu_wsX6_passesFalsely_2 _ gm_9) (gi_c (gu_wsX6_passesFalsely_2 _ gm_10) (gi_c (gu_wsX6_passesFalsely_2 _ gm_11) (gi_c (gu_wsX6_passesFalsely_2 _ gm_12) (gi_c (gu_wsX6_passesFalsely_2 _ gm_13) (gi_c (gu_wsX6_passesFalsely_2 _ gm_14) (gi_c (gu_wsX6_passesFalsely_2 _ gm_15) (gi_c (gu_wsX6_passesFalsely_2 _ gm_16) (gi_c (gu_wsX6_passesFalsely_2 _ gm_17) (gi_c (gu_wsX6_passesFalsely_2 _ gm_18) (gi_c (gu_wsX6_passesFalsely_2 _ gm_19) (gi_c (gu_wsX6_passesFalsely_2 _ gm_20) (gi_c (gu_wsX6_passesFalsely_2 _ gm_21) (gi_c (gu_wsX6_passesFalsely_2 _ gm_22) (gi_c (gu_wsX6_passesFalsely_2 _ gm_23) (gi_c (gu_wsX6_passesFalsely_3 _ gm_0) (gi_c (gu_wsX6_passesFalsely_3 _ gm_1) (gi_c (gu_wsX6_passesFalsely_3 _ gm_2) (gi_c (gu_wsX6_passesFalsely_3 _ gm_3) (gi_c (gu_wsX6_passesFalsely_3 _ gm_4) (gi_c (gu_wsX6_passesFalsely_3 _ gm_5) gi_0)))))))))))))))))))))))) (gi_a (gi_c (gu_wsX6_passesFalsely_3 _ gm_6) (gi_c (gu_wsX6_passesFalsely_3 _ gm_7) (gi_c (gu_wsX6_passesFalsely_3 _ gm_8) (gi_c (gu_wsX6_passesFalsely_3 _ gm_9) (gi_c (gu_wsX6_passesFalsely_3 _ gm_10) (gi_c (gu_wsX6_passesFalsely_3 _ gm_11) (gi_c (gu_wsX6_passesFalsely_3 _ gm_12) (gi_c (gu_wsX6_passesFalsely_3 _ gm_13) (gi_c (gu_wsX6_passesFalsely_3 _ gm_14) (gi_c (gu_wsX6_passesFalsely_3 _ gm_15) (gi_c (gu_wsX6_passesFalsely_3 _ gm_16) (gi_c (gu_wsX6_passesFalsely_3 _ gm_17) (gi_c (gu_wsX6_passesFalsely_3 _ gm_18) (gi_c (gu_wsX6_passesFalsely_3 _ gm_19) (gi_c (gu_wsX6_passesFalsely_3 _ gm_20) (gi_c (gu_wsX6_passesFalsely_3 _ gm_21) (gi_c (gu_wsX6_passesFalsely_3 _ gm_22) (gi_c (gu_wsX6_passesFalsely_3 _ gm_23) (gi_c (gu_wsX6_passesFalsely_4 _ gm_0) (gi_c (gu_wsX6_passesFalsely_4 _ gm_1) (gi_c (gu_wsX6_passesFalsely_4 _ gm_2) (gi_c (gu_wsX6_passesFalsely_1 _ gm_4) (gi_c (gu_wsX6_passesFalsely_4 _ gm_3) (gi_c (gu_wsX6_passesFalsely_4 _ gm_4) gi_0)))))))))))))))))))))))) (gi_a (gi_c (gu_wsX6_passesFalsely_4 _ gm_5) (gi_c (gu_wsX6_passesFalsely_4 _ gm_6) (gi_c (gu_wsX6_passesFalsely_4 _ gm_7) (gi_c (gu_wsX6_passesFalsely_4 _ gm_8) (gi_c (gu_wsX6_passesFalsely_4 _ gm_9) (gi_c (gu_wsX6_passesFalsely_4 _ gm_10) (gi_c (gu_wsX6_passesFalsely_4 _ gm_11) (gi_c (gu_wsX6_passesFalsely_4 _ gm_12) (gi_c (gu_wsX6_passesFalsely_4 _ gm_13) (gi_c (gu_wsX6_passesFalsely_4 _ gm_14) (gi_c (gu_wsX6_passesFalsely_4 _ gm_15) (gi_c (gu_wsX6_passesFalsely_4 _ gm_16) (gi_c (gu_wsX6_passesFalsely_4 _ gm_17) (gi_c (gu_wsX6_passesFalsely_4 _ gm_18) (gi_c (gu_wsX6_passesFalsely_4 _ gm_19) (gi_c (gu_wsX6_passesFalsely_4 _ gm_20) (gi_c (gu_wsX6_passesFalsely_4 _ gm_21) (gi_c (gu_wsX6_passesFalsely_4 _ gm_22) (gi_c (gu_wsX6_passesFalsely_4 _ gm_23) (gi_c (gu_wsX6_passesFalsely_5 _ gm_0) (gi_c (gu_wsX6_passesFalsely_5 _ gm_1) (gi_c (gu_wsX6_passesFalsely_5 _ gm_2) (gi_c (gu_wsX6_passesFalsely_5 _ gm_3) (gi_c (gu_wsX6_passesFalsely_5 _ gm_4) gi_0)))))))))))))))))))))))) (gi_c (gu_wsX6_passesFalsely_5 _ gm_5) (gi_c (gu_wsX6_passesFalsely_5 _ gm_6) (gi_c (gu_wsX6_passesFalsely_5 _ gm_7) (gi_c (gu_wsX6_passesFalsely_5 _ gm_8) gi_0)))))))) (gu_wsX6_passesFalsely_6)) (gu_wsX6_passesFalsely_7)) (gu_wsX6_passesFalsely_8)) (gu_wsX6_passesFalsely_9))) (by decide +kernel)
set_option maxRecDepth 20000 in
theorem gX6_passesFalsely_X6_passes : GoodIn wsX6_passesFalsely (wsV RX6 111 RX6 yX6_passes wsX6_passes) := goodIn_app (goodIn_sub (gi_c (gu_wsX6_passesFalsely_1 _ gm_1) (gi_c (gu_wsX6_passesFalsely_1 _ gm_2) (gi_c (gu_wsX6_passesFalsely_1 _ gm_3) (gi_c (gu_wsX6_passesFalsely_1 _ gm_4) gi_0)))) (by decide +kernel)) ggX6_passesFalsely_X6_passes
set_option maxRecDepth 20000 in
theorem ggX6_passesFalsely_X0_has : GoodIn wsX6_passesFalsely wsX0_has := goodIn_sub (gi_c (gu_wsX6_passesFalsely_3 _ gm_0) (gi_a (gi_c (gu_wsX6_passesFalsely_3 _ gm_1) (gi_c (gu_wsX6_passesFalsely_3 _ gm_2) (gi_c (gu_wsX6_passesFalsely_3 _ gm_3) (gi_c (gu_wsX6_passesFalsely_3 _ gm_4) (gi_c (gu_wsX6_passesFalsely_3 _ gm_5) (gi_c (gu_wsX6_passesFalsely_2 _ gm_23) (gi_c (gu_wsX6_passesFalsely_3 _ gm_6) gi_0))))))) (gu_wsX6_passesFalsely_9))) (by decide +kernel)
set_option maxRecDepth 20000 in
theorem gX6_passesFalsely_X0_has : GoodIn wsX6_passesFalsely (wsV RX6 112 RX0 yX0_has wsX0_has) := goodIn_app (goodIn_sub (gi_c (gu_wsX6_passesFalsely_5 _ gm_9) (gi_c (gu_wsX6_passesFalsely_2 _ gm_21) (gi_c (gu_wsX6_passesFalsely_2 _ gm_22) (gi_c (gu_wsX6_passesFalsely_2 _ gm_23) gi_0)))) (by decide +kernel)) ggX6_passesFalsely_X0_has
theorem dX6_passesFalsely_0 : decode cX6_passesFalsely 0 = .ok (.aload_n 0, 1) := by decide +kernel
theorem dX6_passesFalsely_1 : decode cX6_passesFalsely 1 = .ok (.lload_n 1, 1) := by decide +kernel
theorem dX6_passesFalsely_2 : decode cX6_passesFalsely 2 = .ok (.invokevirtual 111, 3) := by decide +kernel
theorem dX6_passesFalsely_5 : decode cX6_passesFalsely 5 = .ok (.ifCond .eq 18, 3) := by decide +kernel
theorem dX6_passesFalsely_8 : decode cX6_passesFalsely 8 = .ok (.aload_n 0, 1) := by decide +kernel
theorem dX6_passesFalsely_9 : decode cX6_passesFalsely 9 = .ok (.getfield 18, 3) := by decide +kernel
theorem dX6_passesFalsely_12 : decode cX6_passesFalsely 12 = .ok (.lload_n 1, 1) := by decide +kernel
theorem dX6_passesFalsely_13 : decode cX6_passesFalsely 13 = .ok (.invokevirtual 112, 3) := by decide +kernel
theorem dX6_passesFalsely_16 : decode cX6_passesFalsely 16 = .ok (.ifCond .ne 7, 3) := by decide +kernel
theorem dX6_passesFalsely_19 : decode cX6_passesFalsely 19 = .ok (.iconst 1, 1) := by decide +kernel
theorem dX6_passesFalsely_20 : decode cX6_passesFalsely 20 = .ok (.goto 4, 3) := by decide +kernel
theorem dX6_passesFalsely_23 : decode cX6_passesFalsely 23 = .ok (.iconst 0, 1) := by decide +kernel
theorem dX6_passesFalsely_24 : decode cX6_passesFalsely 24 = .ok (.ireturn, 1) := by decide +kernel
set_option maxRecDepth 20000 in
theorem gu_wsX6_joinBits_1 : ∀ w ∈ ([Cond.fieldLink RX6 26 "SieveCabinet$Sieve" "size" "I", Cond.methodLink RX6 115 yX6_cellAt, Cond.instanceMethod yX6_cellAt, Cond.selects RX6 yX6_cellAt yX6_cellAt, Cond.initialized RX6, Cond.code yX6_cellAt cX6_cellAt 2 (some .int), Cond.fieldLink RX6 9 "SieveCabinet$Sieve" "cells" "[I", Cond.methodLink RX6 92 yX6_setCell, Cond.instanceMethod yX6_setCell, Cond.selects RX6 yX6_setCell yX6_setCell, Cond.code yX6_setCell cX6_setCell 3 none] : List Cond), w ∈ wsX6_joinBits := fun _ h => List.mem_cons_of_mem _ (List.mem_append_left _ h)
set_option maxRecDepth 20000 in
theorem gu_wsX6_joinBits_2 : ∀ w ∈ wsX60, w ∈ wsX6_joinBits := fun _ h => List.mem_cons_of_mem _ (List.mem_append_right _ h)
set_option maxRecDepth 20000 in
theorem ggX6_joinBits_X6_cellAt : GoodIn wsX6_joinBits wsX6_cellAt := goodIn_sub (gi_c (gu_wsX6_joinBits_1 _ gm_5) (gi_a (gi_c (gu_wsX6_joinBits_1 _ gm_6) gi_0) (gu_wsX6_joinBits_2))) (by decide +kernel)
set_option maxRecDepth 20000 in
theorem gX6_joinBits_X6_cellAt : GoodIn wsX6_joinBits (wsV RX6 115 RX6 yX6_cellAt wsX6_cellAt) := goodIn_app (goodIn_sub (gi_c (gu_wsX6_joinBits_1 _ gm_1) (gi_c (gu_wsX6_joinBits_1 _ gm_2) (gi_c (gu_wsX6_joinBits_1 _ gm_3) (gi_c (gu_wsX6_joinBits_1 _ gm_4) gi_0)))) (by decide +kernel)) ggX6_joinBits_X6_cellAt
set_option maxRecDepth 20000 in
theorem ggX6_joinBits_X6_setCell : GoodIn wsX6_joinBits wsX6_setCell := goodIn_sub (gi_c (gu_wsX6_joinBits_1 _ gm_10) (gi_a (gi_c (gu_wsX6_joinBits_1 _ gm_6) gi_0) (gu_wsX6_joinBits_2))) (by decide +kernel)
set_option maxRecDepth 20000 in
theorem gX6_joinBits_X6_setCell : GoodIn wsX6_joinBits (wsV RX6 92 RX6 yX6_setCell wsX6_setCell) := goodIn_app (goodIn_sub (gi_c (gu_wsX6_joinBits_1 _ gm_7) (gi_c (gu_wsX6_joinBits_1 _ gm_8) (gi_c (gu_wsX6_joinBits_1 _ gm_9) (gi_c (gu_wsX6_joinBits_1 _ gm_4) gi_0)))) (by decide +kernel)) ggX6_joinBits_X6_setCell
theorem dX6_joinBits_0 : decode cX6_joinBits 0 = .ok (.iconst 0, 1) := by decide +kernel
theorem dX6_joinBits_1 : decode cX6_joinBits 1 = .ok (.istore 4, 2) := by decide +kernel
theorem dX6_joinBits_3 : decode cX6_joinBits 3 = .ok (.iload 4, 2) := by decide +kernel
theorem dX6_joinBits_5 : decode cX6_joinBits 5 = .ok (.aload_n 0, 1) := by decide +kernel
theorem dX6_joinBits_6 : decode cX6_joinBits 6 = .ok (.getfield 26, 3) := by decide +kernel
theorem dX6_joinBits_9 : decode cX6_joinBits 9 = .ok (.if_icmp .ge 48, 3) := by decide +kernel
theorem dX6_joinBits_12 : decode cX6_joinBits 12 = .ok (.aload_n 2, 1) := by decide +kernel
theorem dX6_joinBits_13 : decode cX6_joinBits 13 = .ok (.iload 4, 2) := by decide +kernel
theorem dX6_joinBits_15 : decode cX6_joinBits 15 = .ok (.invokevirtual 115, 3) := by decide +kernel
theorem dX6_joinBits_18 : decode cX6_joinBits 18 = .ok (.istore 5, 2) := by decide +kernel
theorem dX6_joinBits_20 : decode cX6_joinBits 20 = .ok (.aload_n 3, 1) := by decide +kernel
theorem dX6_joinBits_21 : decode cX6_joinBits 21 = .ok (.iload 4, 2) := by decide +kernel
theorem dX6_joinBits_23 : decode cX6_joinBits 23 = .ok (.invokevirtual 115, 3) := by decide +kernel
theorem dX6_joinBits_26 : decode cX6_joinBits 26 = .ok (.istore 6, 2) := by decide +kernel
theorem dX6_joinBits_28 : decode cX6_joinBits 28 = .ok (.aload_n 0, 1) := by decide +kernel
theorem dX6_joinBits_29 : decode cX6_joinBits 29 = .ok (.iload 4, 2) := by decide +kernel
theorem dX6_joinBits_31 : decode cX6_joinBits 31 = .ok (.iload_n 1, 1) := by decide +kernel
theorem dX6_joinBits_32 : decode cX6_joinBits 32 = .ok (.ifCond .eq 11, 3) := by decide +kernel
theorem dX6_joinBits_35 : decode cX6_joinBits 35 = .ok (.iload 5, 2) := by decide +kernel
theorem dX6_joinBits_37 : decode cX6_joinBits 37 = .ok (.iload 6, 2) := by decide +kernel
theorem dX6_joinBits_39 : decode cX6_joinBits 39 = .ok (.iand, 1) := by decide +kernel
theorem dX6_joinBits_40 : decode cX6_joinBits 40 = .ok (.goto 8, 3) := by decide +kernel
theorem dX6_joinBits_43 : decode cX6_joinBits 43 = .ok (.iload 5, 2) := by decide +kernel
theorem dX6_joinBits_45 : decode cX6_joinBits 45 = .ok (.iload 6, 2) := by decide +kernel
theorem dX6_joinBits_47 : decode cX6_joinBits 47 = .ok (.ior, 1) := by decide +kernel
theorem dX6_joinBits_48 : decode cX6_joinBits 48 = .ok (.invokevirtual 92, 3) := by decide +kernel
theorem dX6_joinBits_51 : decode cX6_joinBits 51 = .ok (.iinc 4 1, 3) := by decide +kernel
theorem dX6_joinBits_54 : decode cX6_joinBits 54 = .ok (.goto (-51), 3) := by decide +kernel
theorem dX6_joinBits_57 : decode cX6_joinBits 57 = .ok (.return_, 1) := by decide +kernel
set_option maxRecDepth 20000 in
theorem gu_wsX6_foldBits_1 : ∀ w ∈ ([Cond.fieldLink RX6 26 "SieveCabinet$Sieve" "size" "I", Cond.methodLink RX6 115 yX6_cellAt, Cond.instanceMethod yX6_cellAt, Cond.selects RX6 yX6_cellAt yX6_cellAt, Cond.initialized RX6, Cond.code yX6_cellAt cX6_cellAt 2 (some .int), Cond.fieldLink RX6 9 "SieveCabinet$Sieve" "cells" "[I", Cond.methodLink RX6 92 yX6_setCell, Cond.instanceMethod yX6_setCell, Cond.selects RX6 yX6_setCell yX6_setCell, Cond.code yX6_setCell cX6_setCell 3 none] : List Cond), w ∈ wsX6_foldBits := fun _ h => List.mem_cons_of_mem _ (List.mem_append_left _ h)
set_option maxRecDepth 20000 in
theorem gu_wsX6_foldBits_2 : ∀ w ∈ wsX60, w ∈ wsX6_foldBits := fun _ h => List.mem_cons_of_mem _ (List.mem_append_right _ h)
set_option maxRecDepth 20000 in
theorem ggX6_foldBits_X6_cellAt : GoodIn wsX6_foldBits wsX6_cellAt := goodIn_sub (gi_c (gu_wsX6_foldBits_1 _ gm_5) (gi_a (gi_c (gu_wsX6_foldBits_1 _ gm_6) gi_0) (gu_wsX6_foldBits_2))) (by decide +kernel)
set_option maxRecDepth 20000 in
theorem gX6_foldBits_X6_cellAt : GoodIn wsX6_foldBits (wsV RX6 115 RX6 yX6_cellAt wsX6_cellAt) := goodIn_app (goodIn_sub (gi_c (gu_wsX6_foldBits_1 _ gm_1) (gi_c (gu_wsX6_foldBits_1 _ gm_2) (gi_c (gu_wsX6_foldBits_1 _ gm_3) (gi_c (gu_wsX6_foldBits_1 _ gm_4) gi_0)))) (by decide +kernel)) ggX6_foldBits_X6_cellAt
set_option maxRecDepth 20000 in
theorem ggX6_foldBits_X6_setCell : GoodIn wsX6_foldBits wsX6_setCell := goodIn_sub (gi_c (gu_wsX6_foldBits_1 _ gm_10) (gi_a (gi_c (gu_wsX6_foldBits_1 _ gm_6) gi_0) (gu_wsX6_foldBits_2))) (by decide +kernel)
set_option maxRecDepth 20000 in
theorem gX6_foldBits_X6_setCell : GoodIn wsX6_foldBits (wsV RX6 92 RX6 yX6_setCell wsX6_setCell) := goodIn_app (goodIn_sub (gi_c (gu_wsX6_foldBits_1 _ gm_7) (gi_c (gu_wsX6_foldBits_1 _ gm_8) (gi_c (gu_wsX6_foldBits_1 _ gm_9) (gi_c (gu_wsX6_foldBits_1 _ gm_4) gi_0)))) (by decide +kernel)) ggX6_foldBits_X6_setCell
theorem dX6_foldBits_0 : decode cX6_foldBits 0 = .ok (.iconst 0, 1) := by decide +kernel
theorem dX6_foldBits_1 : decode cX6_foldBits 1 = .ok (.istore_n 2, 1) := by decide +kernel
theorem dX6_foldBits_2 : decode cX6_foldBits 2 = .ok (.iload_n 2, 1) := by decide +kernel
theorem dX6_foldBits_3 : decode cX6_foldBits 3 = .ok (.aload_n 0, 1) := by decide +kernel
theorem dX6_foldBits_4 : decode cX6_foldBits 4 = .ok (.getfield 26, 3) := by decide +kernel
theorem dX6_foldBits_7 : decode cX6_foldBits 7 = .ok (.if_icmp .ge 30, 3) := by decide +kernel
theorem dX6_foldBits_10 : decode cX6_foldBits 10 = .ok (.aload_n 0, 1) := by decide +kernel
theorem dX6_foldBits_11 : decode cX6_foldBits 11 = .ok (.iload_n 2, 1) := by decide +kernel
theorem dX6_foldBits_12 : decode cX6_foldBits 12 = .ok (.aload_n 1, 1) := by decide +kernel
theorem dX6_foldBits_13 : decode cX6_foldBits 13 = .ok (.iload_n 2, 1) := by decide +kernel
theorem dX6_foldBits_14 : decode cX6_foldBits 14 = .ok (.invokevirtual 115, 3) := by decide +kernel
theorem dX6_foldBits_17 : decode cX6_foldBits 17 = .ok (.aload_n 1, 1) := by decide +kernel
theorem dX6_foldBits_18 : decode cX6_foldBits 18 = .ok (.iload_n 2, 1) := by decide +kernel
theorem dX6_foldBits_19 : decode cX6_foldBits 19 = .ok (.aload_n 0, 1) := by decide +kernel
theorem dX6_foldBits_20 : decode cX6_foldBits 20 = .ok (.getfield 26, 3) := by decide +kernel
theorem dX6_foldBits_23 : decode cX6_foldBits 23 = .ok (.iadd, 1) := by decide +kernel
theorem dX6_foldBits_24 : decode cX6_foldBits 24 = .ok (.invokevirtual 115, 3) := by decide +kernel
theorem dX6_foldBits_27 : decode cX6_foldBits 27 = .ok (.ior, 1) := by decide +kernel
theorem dX6_foldBits_28 : decode cX6_foldBits 28 = .ok (.invokevirtual 92, 3) := by decide +kernel
theorem dX6_foldBits_31 : decode cX6_foldBits 31 = .ok (.iinc 2 1, 3) := by decide +kernel
theorem dX6_foldBits_34 : decode cX6_foldBits 34 = .ok (.goto (-32), 3) := by decide +kernel
theorem dX6_foldBits_37 : decode cX6_foldBits 37 = .ok (.return_, 1) := by decide +kernel
set_option maxRecDepth 20000 in
theorem gu_wsX6_weight_1 : ∀ w ∈ ([Cond.fieldLink RX6 22 "SieveCabinet$Sieve" "kind" "I", Cond.fieldLink RX6 26 "SieveCabinet$Sieve" "size" "I", Cond.fieldLink RX6 44 "SieveCabinet$Sieve" "layers" "LSieveCabinet$Layers;", Cond.methodLink RX6 119 yX3_weight, Cond.instanceMethod yX3_weight, Cond.selects RX3 yX3_weight yX3_weight, Cond.initialized RX3, Cond.code yX3_weight cX3_weight 3 (some .int), Cond.fieldLink RX3 24 "SieveCabinet$Layers" "rest" "LSieveCabinet$Bag;", Cond.fieldLink RX3 29 "SieveCabinet$Layers" "count" "I", Cond.fieldLink RX3 13 "SieveCabinet$Layers" "rows" "[LSieveCabinet$BitRow;", Cond.methodLink RX3 33 yX0_count, Cond.instanceMethod yX0_count, Cond.selects RX0 yX0_count yX0_count, Cond.initialized RX0, Cond.code yX0_count cX0_count 1 (some .int), Cond.fieldLink RX0 15 "SieveCabinet$Bag" "count" "I", Cond.methodLink RX3 66 yX1_size, Cond.instanceMethod yX1_size, Cond.selects RX1 yX1_size yX1_size, Cond.initialized RX1, Cond.code yX1_size cX1_size 1 (some .int), Cond.fieldLink RX1 24 "SieveCabinet$BitRow" "size" "I"] : List Cond), w ∈ wsX6_weight := fun _ h => List.mem_cons_of_mem _ (List.mem_append_left _ (List.mem_append_left _ (List.mem_append_left _ (List.mem_append_left _ h))))
set_option maxRecDepth 20000 in
theorem gu_wsX6_weight_3 : ∀ w ∈ wsX30, w ∈ wsX6_weight := fun _ h => List.mem_cons_of_mem _ (List.mem_append_left _ (List.mem_append_left _ (List.mem_append_right _ h)))
set_option maxRecDepth 20000 in
theorem gu_wsX6_weight_4 : ∀ w ∈ wsX00, w ∈ wsX6_weight := fun _ h => List.mem_cons_of_mem _ (List.mem_append_left _ (List.mem_append_right _ h))
set_option maxRecDepth 20000 in
theorem gu_wsX6_weight_5 : ∀ w ∈ wsX10, w ∈ wsX6_weight := fun _ h => List.mem_cons_of_mem _ (List.mem_append_right _ h)
set_option maxRecDepth 20000 in
theorem ggX6_weight_X3_weight : GoodIn wsX6_weight wsX3_weight := goodIn_sub (gi_c (gu_wsX6_weight_1 _ gm_7) (gi_a (gi_a (gi_a (gi_c (gu_wsX6_weight_1 _ gm_8) (gi_c (gu_wsX6_weight_1 _ gm_9) (gi_c (gu_wsX6_weight_1 _ gm_10) (gi_c (gu_wsX6_weight_1 _ gm_11) (gi_c (gu_wsX6_weight_1 _ gm_12) (gi_c (gu_wsX6_weight_1 _ gm_13) (gi_c (gu_wsX6_weight_1 _ gm_14) (gi_c (gu_wsX6_weight_1 _ gm_15) (gi_c (gu_wsX6_weight_1 _ gm_16) (gi_c (gu_wsX6_weight_1 _ gm_17) (gi_c (gu_wsX6_weight_1 _ gm_18) (gi_c (gu_wsX6_weight_1 _ gm_19) (gi_c (gu_wsX6_weight_1 _ gm_20) (gi_c (gu_wsX6_weight_1 _ gm_21) (gi_c (gu_wsX6_weight_1 _ gm_22) gi_0))))))))))))))) (gu_wsX6_weight_3)) (gu_wsX6_weight_4)) (gu_wsX6_weight_5))) (by decide +kernel)
set_option maxRecDepth 20000 in
theorem gX6_weight_X3_weight : GoodIn wsX6_weight (wsV RX6 119 RX3 yX3_weight wsX3_weight) := goodIn_app (goodIn_sub (gi_c (gu_wsX6_weight_1 _ gm_3) (gi_c (gu_wsX6_weight_1 _ gm_4) (gi_c (gu_wsX6_weight_1 _ gm_5) (gi_c (gu_wsX6_weight_1 _ gm_6) gi_0)))) (by decide +kernel)) ggX6_weight_X3_weight
theorem dX6_weight_0 : decode cX6_weight 0 = .ok (.aload_n 0, 1) := by decide +kernel
theorem dX6_weight_1 : decode cX6_weight 1 = .ok (.getfield 22, 3) := by decide +kernel
theorem dX6_weight_4 : decode cX6_weight 4 = .ok (.tableswitch 74 1 4 #[32, 39, 47, 55], 32) := by decide +kernel
theorem dX6_weight_36 : decode cX6_weight 36 = .ok (.iconst 4, 1) := by decide +kernel
theorem dX6_weight_37 : decode cX6_weight 37 = .ok (.aload_n 0, 1) := by decide +kernel
theorem dX6_weight_38 : decode cX6_weight 38 = .ok (.getfield 26, 3) := by decide +kernel
theorem dX6_weight_41 : decode cX6_weight 41 = .ok (.imul, 1) := by decide +kernel
theorem dX6_weight_42 : decode cX6_weight 42 = .ok (.ireturn, 1) := by decide +kernel
theorem dX6_weight_43 : decode cX6_weight 43 = .ok (.bipush 32, 2) := by decide +kernel
theorem dX6_weight_45 : decode cX6_weight 45 = .ok (.aload_n 0, 1) := by decide +kernel
theorem dX6_weight_46 : decode cX6_weight 46 = .ok (.getfield 26, 3) := by decide +kernel
theorem dX6_weight_49 : decode cX6_weight 49 = .ok (.imul, 1) := by decide +kernel
theorem dX6_weight_50 : decode cX6_weight 50 = .ok (.ireturn, 1) := by decide +kernel
theorem dX6_weight_51 : decode cX6_weight 51 = .ok (.bipush 8, 2) := by decide +kernel
theorem dX6_weight_53 : decode cX6_weight 53 = .ok (.aload_n 0, 1) := by decide +kernel
theorem dX6_weight_54 : decode cX6_weight 54 = .ok (.getfield 26, 3) := by decide +kernel
theorem dX6_weight_57 : decode cX6_weight 57 = .ok (.imul, 1) := by decide +kernel
theorem dX6_weight_58 : decode cX6_weight 58 = .ok (.ireturn, 1) := by decide +kernel
theorem dX6_weight_59 : decode cX6_weight 59 = .ok (.aload_n 0, 1) := by decide +kernel
theorem dX6_weight_60 : decode cX6_weight 60 = .ok (.getfield 44, 3) := by decide +kernel
theorem dX6_weight_63 : decode cX6_weight 63 = .ok (.ifnonnull 7, 3) := by decide +kernel
theorem dX6_weight_66 : decode cX6_weight 66 = .ok (.iconst 0, 1) := by decide +kernel
theorem dX6_weight_67 : decode cX6_weight 67 = .ok (.goto 10, 3) := by decide +kernel
theorem dX6_weight_70 : decode cX6_weight 70 = .ok (.aload_n 0, 1) := by decide +kernel
theorem dX6_weight_71 : decode cX6_weight 71 = .ok (.getfield 44, 3) := by decide +kernel
theorem dX6_weight_74 : decode cX6_weight 74 = .ok (.invokevirtual 119, 3) := by decide +kernel
theorem dX6_weight_77 : decode cX6_weight 77 = .ok (.ireturn, 1) := by decide +kernel
theorem dX6_weight_78 : decode cX6_weight 78 = .ok (.aload_n 0, 1) := by decide +kernel
theorem dX6_weight_79 : decode cX6_weight 79 = .ok (.getfield 26, 3) := by decide +kernel
theorem dX6_weight_82 : decode cX6_weight 82 = .ok (.ireturn, 1) := by decide +kernel
set_option maxRecDepth 20000 in
theorem gu_wsX6_filled_1 : ∀ w ∈ wsX6_filled_r1, w ∈ wsX6_filled := fun _ h => List.mem_cons_of_mem _ (List.mem_append_left _ (List.mem_append_left _ (List.mem_append_left _ (List.mem_append_left _ h))))
set_option maxRecDepth 20000 in
theorem gu_wsX6_filled_4 : ∀ w ∈ wsX30, w ∈ wsX6_filled := fun _ h => List.mem_cons_of_mem _ (List.mem_append_left _ (List.mem_append_right _ h))
set_option maxRecDepth 20000 in
theorem gu_wsX6_filled_5 : ∀ w ∈ wsX00, w ∈ wsX6_filled := fun _ h => List.mem_cons_of_mem _ (List.mem_append_right _ h)
set_option maxRecDepth 20000 in
theorem ggX6_filled_X3_restCount : GoodIn wsX6_filled wsX3_restCount := goodIn_sub (gi_c (gu_wsX6_filled_1 _ gm_6) (gi_a (gi_a (gi_c (gu_wsX6_filled_1 _ gm_7) (gi_c (gu_wsX6_filled_1 _ gm_8) (gi_c (gu_wsX6_filled_1 _ gm_9) (gi_c (gu_wsX6_filled_1 _ gm_10) (gi_c (gu_wsX6_filled_1 _ gm_11) (gi_c (gu_wsX6_filled_1 _ gm_12) (gi_c (gu_wsX6_filled_1 _ gm_13) gi_0))))))) (gu_wsX6_filled_4)) (gu_wsX6_filled_5))) (by decide +kernel)
set_option maxRecDepth 20000 in
theorem gX6_filled_X3_restCount : GoodIn wsX6_filled (wsV RX6 122 RX3 yX3_restCount wsX3_restCount) := goodIn_app (goodIn_sub (gi_c (gu_wsX6_filled_1 _ gm_2) (gi_c (gu_wsX6_filled_1 _ gm_3) (gi_c (gu_wsX6_filled_1 _ gm_4) (gi_c (gu_wsX6_filled_1 _ gm_5) gi_0)))) (by decide +kernel)) ggX6_filled_X3_restCount
set_option maxRecDepth 20000 in
theorem gu_wsX6_filled_3 : ∀ w ∈ wsX60, w ∈ wsX6_filled := fun _ h => List.mem_cons_of_mem _ (List.mem_append_left _ (List.mem_append_left _ (List.mem_append_right _ h)))
set_option maxRecDepth 20000 in
theorem ggX6_filled_X6_places : GoodIn wsX6_filled wsX6_places := goodIn_sub (gi_c (gu_wsX6_filled_1 _ gm_18) (gi_a (gi_c (gu_wsX6_filled_1 _ gm_0) (gi_c (gu_wsX6_filled_1 _ gm_19) gi_0)) (gu_wsX6_filled_3))) (by decide +kernel)
set_option maxRecDepth 20000 in
theorem gX6_filled_X6_places : GoodIn wsX6_filled (wsV RX6 125 RX6 yX6_places wsX6_places) := goodIn_app (goodIn_sub (gi_c (gu_wsX6_filled_1 _ gm_14) (gi_c (gu_wsX6_filled_1 _ gm_15) (gi_c (gu_wsX6_filled_1 _ gm_16) (gi_c (gu_wsX6_filled_1 _ gm_17) gi_0)))) (by decide +kernel)) ggX6_filled_X6_places
set_option maxRecDepth 20000 in
theorem gu_wsX6_filled_2 : ∀ w ∈ wsX6_filled_r2, w ∈ wsX6_filled := fun _ h => List.mem_cons_of_mem _ (List.mem_append_left _ (List.mem_append_left _ (List.mem_append_left _ (List.mem_append_right _ h))))
set_option maxRecDepth 20000 in
theorem ggX6_filled_X6_cellAt : GoodIn wsX6_filled wsX6_cellAt := goodIn_sub (gi_c (gu_wsX6_filled_1 _ gm_23) (gi_a (gi_c (gu_wsX6_filled_2 _ gm_0) gi_0) (gu_wsX6_filled_3))) (by decide +kernel)
set_option maxRecDepth 20000 in
theorem gX6_filled_X6_cellAt : GoodIn wsX6_filled (wsV RX6 115 RX6 yX6_cellAt wsX6_cellAt) := goodIn_app (goodIn_sub (gi_c (gu_wsX6_filled_1 _ gm_20) (gi_c (gu_wsX6_filled_1 _ gm_21) (gi_c (gu_wsX6_filled_1 _ gm_22) (gi_c (gu_wsX6_filled_1 _ gm_17) gi_0)))) (by decide +kernel)) ggX6_filled_X6_cellAt
theorem dX6_filled_0 : decode cX6_filled 0 = .ok (.aload_n 0, 1) := by decide +kernel
theorem dX6_filled_1 : decode cX6_filled 1 = .ok (.getfield 22, 3) := by decide +kernel
theorem dX6_filled_4 : decode cX6_filled 4 = .ok (.iconst 4, 1) := by decide +kernel
theorem dX6_filled_5 : decode cX6_filled 5 = .ok (.if_icmp .ne 22, 3) := by decide +kernel
theorem dX6_filled_8 : decode cX6_filled 8 = .ok (.aload_n 0, 1) := by decide +kernel
theorem dX6_filled_9 : decode cX6_filled 9 = .ok (.getfield 44, 3) := by decide +kernel
theorem dX6_filled_12 : decode cX6_filled 12 = .ok (.ifnonnull 7, 3) := by decide +kernel
theorem dX6_filled_15 : decode cX6_filled 15 = .ok (.iconst 0, 1) := by decide +kernel
theorem dX6_filled_16 : decode cX6_filled 16 = .ok (.goto 10, 3) := by decide +kernel
theorem dX6_filled_19 : decode cX6_filled 19 = .ok (.aload_n 0, 1) := by decide +kernel
theorem dX6_filled_20 : decode cX6_filled 20 = .ok (.getfield 44, 3) := by decide +kernel
theorem dX6_filled_23 : decode cX6_filled 23 = .ok (.invokevirtual 122, 3) := by decide +kernel
theorem dX6_filled_26 : decode cX6_filled 26 = .ok (.ireturn, 1) := by decide +kernel
theorem dX6_filled_27 : decode cX6_filled 27 = .ok (.iconst 0, 1) := by decide +kernel
theorem dX6_filled_28 : decode cX6_filled 28 = .ok (.istore_n 1, 1) := by decide +kernel
theorem dX6_filled_29 : decode cX6_filled 29 = .ok (.iconst 0, 1) := by decide +kernel
theorem dX6_filled_30 : decode cX6_filled 30 = .ok (.istore_n 2, 1) := by decide +kernel
theorem dX6_filled_31 : decode cX6_filled 31 = .ok (.iload_n 2, 1) := by decide +kernel
theorem dX6_filled_32 : decode cX6_filled 32 = .ok (.aload_n 0, 1) := by decide +kernel
theorem dX6_filled_33 : decode cX6_filled 33 = .ok (.invokevirtual 125, 3) := by decide +kernel
theorem dX6_filled_36 : decode cX6_filled 36 = .ok (.if_icmp .ge 20, 3) := by decide +kernel
theorem dX6_filled_39 : decode cX6_filled 39 = .ok (.aload_n 0, 1) := by decide +kernel
theorem dX6_filled_40 : decode cX6_filled 40 = .ok (.iload_n 2, 1) := by decide +kernel
theorem dX6_filled_41 : decode cX6_filled 41 = .ok (.invokevirtual 115, 3) := by decide +kernel
theorem dX6_filled_44 : decode cX6_filled 44 = .ok (.ifCond .le 6, 3) := by decide +kernel
theorem dX6_filled_47 : decode cX6_filled 47 = .ok (.iinc 1 1, 3) := by decide +kernel
theorem dX6_filled_50 : decode cX6_filled 50 = .ok (.iinc 2 1, 3) := by decide +kernel
theorem dX6_filled_53 : decode cX6_filled 53 = .ok (.goto (-22), 3) := by decide +kernel
theorem dX6_filled_56 : decode cX6_filled 56 = .ok (.iload_n 1, 1) := by decide +kernel
theorem dX6_filled_57 : decode cX6_filled 57 = .ok (.ireturn, 1) := by decide +kernel
theorem dX6_spots_0 : decode cX6_spots 0 = .ok (.aload_n 0, 1) := by decide +kernel
theorem dX6_spots_1 : decode cX6_spots 1 = .ok (.getfield 22, 3) := by decide +kernel
theorem dX6_spots_4 : decode cX6_spots 4 = .ok (.lookupswitch 32 #[(2, 28), (3, 30)], 28) := by decide +kernel
theorem dX6_spots_32 : decode cX6_spots 32 = .ok (.iconst 2, 1) := by decide +kernel
theorem dX6_spots_33 : decode cX6_spots 33 = .ok (.ireturn, 1) := by decide +kernel
theorem dX6_spots_34 : decode cX6_spots 34 = .ok (.iconst 3, 1) := by decide +kernel
theorem dX6_spots_35 : decode cX6_spots 35 = .ok (.ireturn, 1) := by decide +kernel
theorem dX6_spots_36 : decode cX6_spots 36 = .ok (.aload_n 0, 1) := by decide +kernel
theorem dX6_spots_37 : decode cX6_spots 37 = .ok (.getfield 29, 3) := by decide +kernel
theorem dX6_spots_40 : decode cX6_spots 40 = .ok (.ireturn, 1) := by decide +kernel
set_option maxRecDepth 20000 in
theorem gu_wsX6_spot_1 : ∀ w ∈ wsX6_spot_r1, w ∈ wsX6_spot := fun _ h => List.mem_cons_of_mem _ (List.mem_append_left _ (List.mem_append_left _ h))
set_option maxRecDepth 20000 in
theorem ggX6_spot_X4_of : GoodIn wsX6_spot wsX4_of := goodIn_sub (gi_c (gu_wsX6_spot_1 _ gm_6) (gi_c (gu_wsX6_spot_1 _ gm_7) (gi_c (gu_wsX6_spot_1 _ gm_8) (gi_c (gu_wsX6_spot_1 _ gm_9) gi_0)))) (by decide +kernel)
set_option maxRecDepth 20000 in
theorem gX6_spot_X4_of : GoodIn wsX6_spot (va_wsS RX6 67 yX4_of wsX4_of) := goodIn_app (goodIn_sub (gi_c (gu_wsX6_spot_1 _ gm_3) (gi_c (gu_wsX6_spot_1 _ gm_4) (gi_c (gu_wsX6_spot_1 _ gm_5) gi_0))) (by decide +kernel)) ggX6_spot_X4_of
set_option maxRecDepth 20000 in
theorem ggX6_spot_X4_firstNest : GoodIn wsX6_spot wsX4_firstNest := goodIn_sub (gi_c (gu_wsX6_spot_1 _ gm_12) (gi_c (gu_wsX6_spot_1 _ gm_13) (gi_c (gu_wsX6_spot_1 _ gm_14) (gi_c (gu_wsX6_spot_1 _ gm_15) (gi_c (gu_wsX6_spot_1 _ gm_5) (gi_c (gu_wsX6_spot_1 _ gm_16) gi_0)))))) (by decide +kernel)
set_option maxRecDepth 20000 in
theorem gX6_spot_X4_firstNest : GoodIn wsX6_spot (va_wsS RX6 128 yX4_firstNest wsX4_firstNest) := goodIn_app (goodIn_sub (gi_c (gu_wsX6_spot_1 _ gm_10) (gi_c (gu_wsX6_spot_1 _ gm_11) (gi_c (gu_wsX6_spot_1 _ gm_5) gi_0))) (by decide +kernel)) ggX6_spot_X4_firstNest
set_option maxRecDepth 20000 in
theorem gu_wsX6_spot_2 : ∀ w ∈ wsX6_spot_r2, w ∈ wsX6_spot := fun _ h => List.mem_cons_of_mem _ (List.mem_append_left _ (List.mem_append_right _ h))
set_option maxRecDepth 20000 in
theorem gu_wsX6_spot_3 : ∀ w ∈ wsX60, w ∈ wsX6_spot := fun _ h => List.mem_cons_of_mem _ (List.mem_append_right _ h)
set_option maxRecDepth 20000 in
theorem ggX6_spot_X5_secondNest : GoodIn wsX6_spot wsX5_secondNest := goodIn_sub (gi_c (gu_wsX6_spot_1 _ gm_20) (gi_a (gi_c (gu_wsX6_spot_1 _ gm_21) (gi_c (gu_wsX6_spot_1 _ gm_11) (gi_c (gu_wsX6_spot_1 _ gm_5) (gi_c (gu_wsX6_spot_1 _ gm_12) (gi_c (gu_wsX6_spot_1 _ gm_13) (gi_c (gu_wsX6_spot_1 _ gm_14) (gi_c (gu_wsX6_spot_1 _ gm_15) (gi_c (gu_wsX6_spot_1 _ gm_16) (gi_c (gu_wsX6_spot_1 _ gm_22) (gi_c (gu_wsX6_spot_1 _ gm_23) (gi_c (gu_wsX6_spot_2 _ gm_0) (gi_c (gu_wsX6_spot_2 _ gm_1) (gi_c (gu_wsX6_spot_2 _ gm_2) (gi_c (gu_wsX6_spot_2 _ gm_3) (gi_c (gu_wsX6_spot_2 _ gm_4) gi_0))))))))))))))) (gu_wsX6_spot_3))) (by decide +kernel)
set_option maxRecDepth 20000 in
theorem gX6_spot_X5_secondNest : GoodIn wsX6_spot (va_wsS RX6 132 yX5_secondNest wsX5_secondNest) := goodIn_app (goodIn_sub (gi_c (gu_wsX6_spot_1 _ gm_17) (gi_c (gu_wsX6_spot_1 _ gm_18) (gi_c (gu_wsX6_spot_1 _ gm_19) gi_0))) (by decide +kernel)) ggX6_spot_X5_secondNest
set_option maxRecDepth 20000 in
theorem ggX6_spot_X4_solvedPlace : GoodIn wsX6_spot wsX4_solvedPlace := goodIn_sub (gi_c (gu_wsX6_spot_2 _ gm_7) (gi_c (gu_wsX6_spot_2 _ gm_8) (gi_c (gu_wsX6_spot_1 _ gm_14) (gi_c (gu_wsX6_spot_1 _ gm_15) (gi_c (gu_wsX6_spot_1 _ gm_5) (gi_c (gu_wsX6_spot_1 _ gm_16) gi_0)))))) (by decide +kernel)
set_option maxRecDepth 20000 in
theorem gX6_spot_X4_solvedPlace : GoodIn wsX6_spot (va_wsS RX6 135 yX4_solvedPlace wsX4_solvedPlace) := goodIn_app (goodIn_sub (gi_c (gu_wsX6_spot_2 _ gm_5) (gi_c (gu_wsX6_spot_2 _ gm_6) (gi_c (gu_wsX6_spot_1 _ gm_5) gi_0))) (by decide +kernel)) ggX6_spot_X4_solvedPlace
set_option maxRecDepth 20000 in
theorem ggX6_spot_X4_markPlace : GoodIn wsX6_spot wsX4_markPlace := goodIn_sub (gi_c (gu_wsX6_spot_2 _ gm_11) (gi_c (gu_wsX6_spot_1 _ gm_13) gi_0)) (by decide +kernel)
set_option maxRecDepth 20000 in
theorem gX6_spot_X4_markPlace : GoodIn wsX6_spot (va_wsS RX6 139 yX4_markPlace wsX4_markPlace) := goodIn_app (goodIn_sub (gi_c (gu_wsX6_spot_2 _ gm_9) (gi_c (gu_wsX6_spot_2 _ gm_10) (gi_c (gu_wsX6_spot_1 _ gm_5) gi_0))) (by decide +kernel)) ggX6_spot_X4_markPlace
theorem dX6_spot_0 : decode cX6_spot 0 = .ok (.lload_n 1, 1) := by decide +kernel
theorem dX6_spot_1 : decode cX6_spot 1 = .ok (.aload_n 0, 1) := by decide +kernel
theorem dX6_spot_2 : decode cX6_spot 2 = .ok (.getfield 32, 3) := by decide +kernel
theorem dX6_spot_5 : decode cX6_spot 5 = .ok (.invokestatic 67, 3) := by decide +kernel
theorem dX6_spot_8 : decode cX6_spot 8 = .ok (.lstore 4, 2) := by decide +kernel
theorem dX6_spot_10 : decode cX6_spot 10 = .ok (.aload_n 0, 1) := by decide +kernel
theorem dX6_spot_11 : decode cX6_spot 11 = .ok (.getfield 22, 3) := by decide +kernel
theorem dX6_spot_14 : decode cX6_spot 14 = .ok (.lookupswitch 62 #[(2, 26), (3, 49)], 26) := by decide +kernel
theorem dX6_spot_40 : decode cX6_spot 40 = .ok (.iload_n 3, 1) := by decide +kernel
theorem dX6_spot_41 : decode cX6_spot 41 = .ok (.ifCond .ne 15, 3) := by decide +kernel
theorem dX6_spot_44 : decode cX6_spot 44 = .ok (.lload 4, 2) := by decide +kernel
theorem dX6_spot_46 : decode cX6_spot 46 = .ok (.aload_n 0, 1) := by decide +kernel
theorem dX6_spot_47 : decode cX6_spot 47 = .ok (.getfield 26, 3) := by decide +kernel
theorem dX6_spot_50 : decode cX6_spot 50 = .ok (.invokestatic 128, 3) := by decide +kernel
theorem dX6_spot_53 : decode cX6_spot 53 = .ok (.goto 9, 3) := by decide +kernel
theorem dX6_spot_56 : decode cX6_spot 56 = .ok (.aload_n 0, 1) := by decide +kernel
theorem dX6_spot_57 : decode cX6_spot 57 = .ok (.lload 4, 2) := by decide +kernel
theorem dX6_spot_59 : decode cX6_spot 59 = .ok (.invokestatic 132, 3) := by decide +kernel
theorem dX6_spot_62 : decode cX6_spot 62 = .ok (.ireturn, 1) := by decide +kernel
theorem dX6_spot_63 : decode cX6_spot 63 = .ok (.lload 4, 2) := by decide +kernel
theorem dX6_spot_65 : decode cX6_spot 65 = .ok (.iload_n 3, 1) := by decide +kernel
theorem dX6_spot_66 : decode cX6_spot 66 = .ok (.aload_n 0, 1) := by decide +kernel
theorem dX6_spot_67 : decode cX6_spot 67 = .ok (.getfield 26, 3) := by decide +kernel
theorem dX6_spot_70 : decode cX6_spot 70 = .ok (.iconst 3, 1) := by decide +kernel
theorem dX6_spot_71 : decode cX6_spot 71 = .ok (.idiv, 1) := by decide +kernel
theorem dX6_spot_72 : decode cX6_spot 72 = .ok (.invokestatic 135, 3) := by decide +kernel
theorem dX6_spot_75 : decode cX6_spot 75 = .ok (.ireturn, 1) := by decide +kernel
theorem dX6_spot_76 : decode cX6_spot 76 = .ok (.lload 4, 2) := by decide +kernel
theorem dX6_spot_78 : decode cX6_spot 78 = .ok (.iload_n 3, 1) := by decide +kernel
theorem dX6_spot_79 : decode cX6_spot 79 = .ok (.aload_n 0, 1) := by decide +kernel
theorem dX6_spot_80 : decode cX6_spot 80 = .ok (.getfield 26, 3) := by decide +kernel
theorem dX6_spot_83 : decode cX6_spot 83 = .ok (.invokestatic 139, 3) := by decide +kernel
theorem dX6_spot_86 : decode cX6_spot 86 = .ok (.ireturn, 1) := by decide +kernel
set_option maxRecDepth 20000 in
theorem gu_wsX6_raiseMarks_1 : ∀ w ∈ ([Cond.fieldLink RX6 22 "SieveCabinet$Sieve" "kind" "I", Cond.fieldLink RX6 29 "SieveCabinet$Sieve" "marks" "I", Cond.fieldLink RX6 26 "SieveCabinet$Sieve" "size" "I", Cond.methodLink RX6 142 Lib.Math.min.name, Cond.static Lib.Math.min.name, Cond.initialized "java/lang/Math", Cond.code Lib.Math.min.name Lib.Math.min.code 2 (some .int), Cond.methodLink RX6 139 yX4_markPlace, Cond.static yX4_markPlace, Cond.initialized RX4, Cond.code yX4_markPlace cX4_markPlace 8 (some .int), Cond.constantLong RX4 15 (4294967295), Cond.methodLink RX6 115 yX6_cellAt, Cond.instanceMethod yX6_cellAt, Cond.selects RX6 yX6_cellAt yX6_cellAt, Cond.initialized RX6, Cond.code yX6_cellAt cX6_cellAt 2 (some .int), Cond.fieldLink RX6 9 "SieveCabinet$Sieve" "cells" "[I", Cond.methodLink RX6 92 yX6_setCell, Cond.instanceMethod yX6_setCell, Cond.selects RX6 yX6_setCell yX6_setCell, Cond.code yX6_setCell cX6_setCell 3 none] : List Cond), w ∈ wsX6_raiseMarks := fun _ h => List.mem_cons_of_mem _ (List.mem_append_left _ h)
set_option maxRecDepth 20000 in
theorem ggX6_raiseMarks_X4_markPlace : GoodIn wsX6_raiseMarks wsX4_markPlace := goodIn_sub (gi_c (gu_wsX6_raiseMarks_1 _ gm_10) (gi_c (gu_wsX6_raiseMarks_1 _ gm_11) gi_0)) (by decide +kernel)
set_option maxRecDepth 20000 in
theorem gX6_raiseMarks_X4_markPlace : GoodIn wsX6_raiseMarks (va_wsS RX6 139 yX4_markPlace wsX4_markPlace) := goodIn_app (goodIn_sub (gi_c (gu_wsX6_raiseMarks_1 _ gm_7) (gi_c (gu_wsX6_raiseMarks_1 _ gm_8) (gi_c (gu_wsX6_raiseMarks_1 _ gm_9) gi_0))) (by decide +kernel)) ggX6_raiseMarks_X4_markPlace
set_option maxRecDepth 20000 in
theorem gu_wsX6_raiseMarks_2 : ∀ w ∈ wsX60, w ∈ wsX6_raiseMarks := fun _ h => List.mem_cons_of_mem _ (List.mem_append_right _ h)
set_option maxRecDepth 20000 in
theorem ggX6_raiseMarks_X6_cellAt : GoodIn wsX6_raiseMarks wsX6_cellAt := goodIn_sub (gi_c (gu_wsX6_raiseMarks_1 _ gm_16) (gi_a (gi_c (gu_wsX6_raiseMarks_1 _ gm_17) gi_0) (gu_wsX6_raiseMarks_2))) (by decide +kernel)
set_option maxRecDepth 20000 in
theorem gX6_raiseMarks_X6_cellAt : GoodIn wsX6_raiseMarks (wsV RX6 115 RX6 yX6_cellAt wsX6_cellAt) := goodIn_app (goodIn_sub (gi_c (gu_wsX6_raiseMarks_1 _ gm_12) (gi_c (gu_wsX6_raiseMarks_1 _ gm_13) (gi_c (gu_wsX6_raiseMarks_1 _ gm_14) (gi_c (gu_wsX6_raiseMarks_1 _ gm_15) gi_0)))) (by decide +kernel)) ggX6_raiseMarks_X6_cellAt
set_option maxRecDepth 20000 in
theorem ggX6_raiseMarks_X6_setCell : GoodIn wsX6_raiseMarks wsX6_setCell := goodIn_sub (gi_c (gu_wsX6_raiseMarks_1 _ gm_21) (gi_a (gi_c (gu_wsX6_raiseMarks_1 _ gm_17) gi_0) (gu_wsX6_raiseMarks_2))) (by decide +kernel)
set_option maxRecDepth 20000 in
theorem gX6_raiseMarks_X6_setCell : GoodIn wsX6_raiseMarks (wsV RX6 92 RX6 yX6_setCell wsX6_setCell) := goodIn_app (goodIn_sub (gi_c (gu_wsX6_raiseMarks_1 _ gm_18) (gi_c (gu_wsX6_raiseMarks_1 _ gm_19) (gi_c (gu_wsX6_raiseMarks_1 _ gm_20) (gi_c (gu_wsX6_raiseMarks_1 _ gm_15) gi_0)))) (by decide +kernel)) ggX6_raiseMarks_X6_setCell
theorem dX6_raiseMarks_0 : decode cX6_raiseMarks 0 = .ok (.aload_n 0, 1) := by decide +kernel
theorem dX6_raiseMarks_1 : decode cX6_raiseMarks 1 = .ok (.getfield 22, 3) := by decide +kernel
theorem dX6_raiseMarks_4 : decode cX6_raiseMarks 4 = .ok (.iconst 1, 1) := by decide +kernel
theorem dX6_raiseMarks_5 : decode cX6_raiseMarks 5 = .ok (.if_icmp .ne 8, 3) := by decide +kernel
theorem dX6_raiseMarks_8 : decode cX6_raiseMarks 8 = .ok (.bipush 15, 2) := by decide +kernel
theorem dX6_raiseMarks_10 : decode cX6_raiseMarks 10 = .ok (.goto 4, 3) := by decide +kernel
theorem dX6_raiseMarks_13 : decode cX6_raiseMarks 13 = .ok (.iconst 1, 1) := by decide +kernel
theorem dX6_raiseMarks_14 : decode cX6_raiseMarks 14 = .ok (.istore_n 3, 1) := by decide +kernel
theorem dX6_raiseMarks_15 : decode cX6_raiseMarks 15 = .ok (.iconst 0, 1) := by decide +kernel
theorem dX6_raiseMarks_16 : decode cX6_raiseMarks 16 = .ok (.istore 4, 2) := by decide +kernel
theorem dX6_raiseMarks_18 : decode cX6_raiseMarks 18 = .ok (.iload 4, 2) := by decide +kernel
theorem dX6_raiseMarks_20 : decode cX6_raiseMarks 20 = .ok (.aload_n 0, 1) := by decide +kernel
theorem dX6_raiseMarks_21 : decode cX6_raiseMarks 21 = .ok (.getfield 29, 3) := by decide +kernel
theorem dX6_raiseMarks_24 : decode cX6_raiseMarks 24 = .ok (.if_icmp .ge 39, 3) := by decide +kernel
theorem dX6_raiseMarks_27 : decode cX6_raiseMarks 27 = .ok (.lload_n 1, 1) := by decide +kernel
theorem dX6_raiseMarks_28 : decode cX6_raiseMarks 28 = .ok (.iload 4, 2) := by decide +kernel
theorem dX6_raiseMarks_30 : decode cX6_raiseMarks 30 = .ok (.aload_n 0, 1) := by decide +kernel
theorem dX6_raiseMarks_31 : decode cX6_raiseMarks 31 = .ok (.getfield 26, 3) := by decide +kernel
theorem dX6_raiseMarks_34 : decode cX6_raiseMarks 34 = .ok (.invokestatic 139, 3) := by decide +kernel
theorem dX6_raiseMarks_37 : decode cX6_raiseMarks 37 = .ok (.istore 5, 2) := by decide +kernel
theorem dX6_raiseMarks_39 : decode cX6_raiseMarks 39 = .ok (.aload_n 0, 1) := by decide +kernel
theorem dX6_raiseMarks_40 : decode cX6_raiseMarks 40 = .ok (.iload 5, 2) := by decide +kernel
theorem dX6_raiseMarks_42 : decode cX6_raiseMarks 42 = .ok (.iload_n 3, 1) := by decide +kernel
theorem dX6_raiseMarks_43 : decode cX6_raiseMarks 43 = .ok (.aload_n 0, 1) := by decide +kernel
theorem dX6_raiseMarks_44 : decode cX6_raiseMarks 44 = .ok (.iload 5, 2) := by decide +kernel
theorem dX6_raiseMarks_46 : decode cX6_raiseMarks 46 = .ok (.invokevirtual 115, 3) := by decide +kernel
theorem dX6_raiseMarks_49 : decode cX6_raiseMarks 49 = .ok (.iconst 1, 1) := by decide +kernel
theorem dX6_raiseMarks_50 : decode cX6_raiseMarks 50 = .ok (.iadd, 1) := by decide +kernel
theorem dX6_raiseMarks_51 : decode cX6_raiseMarks 51 = .ok (.invokestatic 142, 3) := by decide +kernel
theorem dX6_raiseMarks_54 : decode cX6_raiseMarks 54 = .ok (.invokevirtual 92, 3) := by decide +kernel
theorem dX6_raiseMarks_57 : decode cX6_raiseMarks 57 = .ok (.iinc 4 1, 3) := by decide +kernel
theorem dX6_raiseMarks_60 : decode cX6_raiseMarks 60 = .ok (.goto (-42), 3) := by decide +kernel
theorem dX6_raiseMarks_63 : decode cX6_raiseMarks 63 = .ok (.return_, 1) := by decide +kernel
set_option maxRecDepth 20000 in
theorem gu_wsX6_lowerMarks_1 : ∀ w ∈ ([Cond.fieldLink RX6 29 "SieveCabinet$Sieve" "marks" "I", Cond.fieldLink RX6 26 "SieveCabinet$Sieve" "size" "I", Cond.methodLink RX6 139 yX4_markPlace, Cond.static yX4_markPlace, Cond.initialized RX4, Cond.code yX4_markPlace cX4_markPlace 8 (some .int), Cond.constantLong RX4 15 (4294967295), Cond.methodLink RX6 115 yX6_cellAt, Cond.instanceMethod yX6_cellAt, Cond.selects RX6 yX6_cellAt yX6_cellAt, Cond.initialized RX6, Cond.code yX6_cellAt cX6_cellAt 2 (some .int), Cond.fieldLink RX6 9 "SieveCabinet$Sieve" "cells" "[I", Cond.methodLink RX6 92 yX6_setCell, Cond.instanceMethod yX6_setCell, Cond.selects RX6 yX6_setCell yX6_setCell, Cond.code yX6_setCell cX6_setCell 3 none] : List Cond), w ∈ wsX6_lowerMarks := fun _ h => List.mem_cons_of_mem _ (List.mem_append_left _ h)
set_option maxRecDepth 20000 in
theorem ggX6_lowerMarks_X4_markPlace : GoodIn wsX6_lowerMarks wsX4_markPlace := goodIn_sub (gi_c (gu_wsX6_lowerMarks_1 _ gm_5) (gi_c (gu_wsX6_lowerMarks_1 _ gm_6) gi_0)) (by decide +kernel)
set_option maxRecDepth 20000 in
theorem gX6_lowerMarks_X4_markPlace : GoodIn wsX6_lowerMarks (va_wsS RX6 139 yX4_markPlace wsX4_markPlace) := goodIn_app (goodIn_sub (gi_c (gu_wsX6_lowerMarks_1 _ gm_2) (gi_c (gu_wsX6_lowerMarks_1 _ gm_3) (gi_c (gu_wsX6_lowerMarks_1 _ gm_4) gi_0))) (by decide +kernel)) ggX6_lowerMarks_X4_markPlace
set_option maxRecDepth 20000 in
theorem gu_wsX6_lowerMarks_2 : ∀ w ∈ wsX60, w ∈ wsX6_lowerMarks := fun _ h => List.mem_cons_of_mem _ (List.mem_append_right _ h)
set_option maxRecDepth 20000 in
theorem ggX6_lowerMarks_X6_cellAt : GoodIn wsX6_lowerMarks wsX6_cellAt := goodIn_sub (gi_c (gu_wsX6_lowerMarks_1 _ gm_11) (gi_a (gi_c (gu_wsX6_lowerMarks_1 _ gm_12) gi_0) (gu_wsX6_lowerMarks_2))) (by decide +kernel)
set_option maxRecDepth 20000 in
theorem gX6_lowerMarks_X6_cellAt : GoodIn wsX6_lowerMarks (wsV RX6 115 RX6 yX6_cellAt wsX6_cellAt) := goodIn_app (goodIn_sub (gi_c (gu_wsX6_lowerMarks_1 _ gm_7) (gi_c (gu_wsX6_lowerMarks_1 _ gm_8) (gi_c (gu_wsX6_lowerMarks_1 _ gm_9) (gi_c (gu_wsX6_lowerMarks_1 _ gm_10) gi_0)))) (by decide +kernel)) ggX6_lowerMarks_X6_cellAt
set_option maxRecDepth 20000 in
theorem ggX6_lowerMarks_X6_setCell : GoodIn wsX6_lowerMarks wsX6_setCell := goodIn_sub (gi_c (gu_wsX6_lowerMarks_1 _ gm_16) (gi_a (gi_c (gu_wsX6_lowerMarks_1 _ gm_12) gi_0) (gu_wsX6_lowerMarks_2))) (by decide +kernel)
set_option maxRecDepth 20000 in
theorem gX6_lowerMarks_X6_setCell : GoodIn wsX6_lowerMarks (wsV RX6 92 RX6 yX6_setCell wsX6_setCell) := goodIn_app (goodIn_sub (gi_c (gu_wsX6_lowerMarks_1 _ gm_13) (gi_c (gu_wsX6_lowerMarks_1 _ gm_14) (gi_c (gu_wsX6_lowerMarks_1 _ gm_15) (gi_c (gu_wsX6_lowerMarks_1 _ gm_10) gi_0)))) (by decide +kernel)) ggX6_lowerMarks_X6_setCell
theorem dX6_lowerMarks_0 : decode cX6_lowerMarks 0 = .ok (.iconst 0, 1) := by decide +kernel
theorem dX6_lowerMarks_1 : decode cX6_lowerMarks 1 = .ok (.istore_n 3, 1) := by decide +kernel
theorem dX6_lowerMarks_2 : decode cX6_lowerMarks 2 = .ok (.iload_n 3, 1) := by decide +kernel
theorem dX6_lowerMarks_3 : decode cX6_lowerMarks 3 = .ok (.aload_n 0, 1) := by decide +kernel
theorem dX6_lowerMarks_4 : decode cX6_lowerMarks 4 = .ok (.getfield 29, 3) := by decide +kernel
theorem dX6_lowerMarks_7 : decode cX6_lowerMarks 7 = .ok (.if_icmp .ge 50, 3) := by decide +kernel
theorem dX6_lowerMarks_10 : decode cX6_lowerMarks 10 = .ok (.lload_n 1, 1) := by decide +kernel
theorem dX6_lowerMarks_11 : decode cX6_lowerMarks 11 = .ok (.iload_n 3, 1) := by decide +kernel
theorem dX6_lowerMarks_12 : decode cX6_lowerMarks 12 = .ok (.aload_n 0, 1) := by decide +kernel
theorem dX6_lowerMarks_13 : decode cX6_lowerMarks 13 = .ok (.getfield 26, 3) := by decide +kernel
theorem dX6_lowerMarks_16 : decode cX6_lowerMarks 16 = .ok (.invokestatic 139, 3) := by decide +kernel
theorem dX6_lowerMarks_19 : decode cX6_lowerMarks 19 = .ok (.istore 4, 2) := by decide +kernel
theorem dX6_lowerMarks_21 : decode cX6_lowerMarks 21 = .ok (.aload_n 0, 1) := by decide +kernel
theorem dX6_lowerMarks_22 : decode cX6_lowerMarks 22 = .ok (.iload 4, 2) := by decide +kernel
theorem dX6_lowerMarks_24 : decode cX6_lowerMarks 24 = .ok (.invokevirtual 115, 3) := by decide +kernel
theorem dX6_lowerMarks_27 : decode cX6_lowerMarks 27 = .ok (.istore 5, 2) := by decide +kernel
theorem dX6_lowerMarks_29 : decode cX6_lowerMarks 29 = .ok (.iload 5, 2) := by decide +kernel
theorem dX6_lowerMarks_31 : decode cX6_lowerMarks 31 = .ok (.ifCond .le 20, 3) := by decide +kernel
theorem dX6_lowerMarks_34 : decode cX6_lowerMarks 34 = .ok (.iload 5, 2) := by decide +kernel
theorem dX6_lowerMarks_36 : decode cX6_lowerMarks 36 = .ok (.bipush 15, 2) := by decide +kernel
theorem dX6_lowerMarks_38 : decode cX6_lowerMarks 38 = .ok (.if_icmp .ge 13, 3) := by decide +kernel
theorem dX6_lowerMarks_41 : decode cX6_lowerMarks 41 = .ok (.aload_n 0, 1) := by decide +kernel
theorem dX6_lowerMarks_42 : decode cX6_lowerMarks 42 = .ok (.iload 4, 2) := by decide +kernel
theorem dX6_lowerMarks_44 : decode cX6_lowerMarks 44 = .ok (.iload 5, 2) := by decide +kernel
theorem dX6_lowerMarks_46 : decode cX6_lowerMarks 46 = .ok (.iconst 1, 1) := by decide +kernel
theorem dX6_lowerMarks_47 : decode cX6_lowerMarks 47 = .ok (.isub, 1) := by decide +kernel
theorem dX6_lowerMarks_48 : decode cX6_lowerMarks 48 = .ok (.invokevirtual 92, 3) := by decide +kernel
theorem dX6_lowerMarks_51 : decode cX6_lowerMarks 51 = .ok (.iinc 3 1, 3) := by decide +kernel
theorem dX6_lowerMarks_54 : decode cX6_lowerMarks 54 = .ok (.goto (-52), 3) := by decide +kernel
theorem dX6_lowerMarks_57 : decode cX6_lowerMarks 57 = .ok (.return_, 1) := by decide +kernel
set_option maxRecDepth 20000 in
theorem gu_wsX6_hasMarks_1 : ∀ w ∈ ([Cond.fieldLink RX6 29 "SieveCabinet$Sieve" "marks" "I", Cond.fieldLink RX6 26 "SieveCabinet$Sieve" "size" "I", Cond.methodLink RX6 139 yX4_markPlace, Cond.static yX4_markPlace, Cond.initialized RX4, Cond.code yX4_markPlace cX4_markPlace 8 (some .int), Cond.constantLong RX4 15 (4294967295), Cond.methodLink RX6 115 yX6_cellAt, Cond.instanceMethod yX6_cellAt, Cond.selects RX6 yX6_cellAt yX6_cellAt, Cond.initialized RX6, Cond.code yX6_cellAt cX6_cellAt 2 (some .int), Cond.fieldLink RX6 9 "SieveCabinet$Sieve" "cells" "[I"] : List Cond), w ∈ wsX6_hasMarks := fun _ h => List.mem_cons_of_mem _ (List.mem_append_left _ h)
set_option maxRecDepth 20000 in
theorem ggX6_hasMarks_X4_markPlace : GoodIn wsX6_hasMarks wsX4_markPlace := goodIn_sub (gi_c (gu_wsX6_hasMarks_1 _ gm_5) (gi_c (gu_wsX6_hasMarks_1 _ gm_6) gi_0)) (by decide +kernel)
set_option maxRecDepth 20000 in
theorem gX6_hasMarks_X4_markPlace : GoodIn wsX6_hasMarks (va_wsS RX6 139 yX4_markPlace wsX4_markPlace) := goodIn_app (goodIn_sub (gi_c (gu_wsX6_hasMarks_1 _ gm_2) (gi_c (gu_wsX6_hasMarks_1 _ gm_3) (gi_c (gu_wsX6_hasMarks_1 _ gm_4) gi_0))) (by decide +kernel)) ggX6_hasMarks_X4_markPlace
set_option maxRecDepth 20000 in
theorem gu_wsX6_hasMarks_2 : ∀ w ∈ wsX60, w ∈ wsX6_hasMarks := fun _ h => List.mem_cons_of_mem _ (List.mem_append_right _ h)
set_option maxRecDepth 20000 in
theorem ggX6_hasMarks_X6_cellAt : GoodIn wsX6_hasMarks wsX6_cellAt := goodIn_sub (gi_c (gu_wsX6_hasMarks_1 _ gm_11) (gi_a (gi_c (gu_wsX6_hasMarks_1 _ gm_12) gi_0) (gu_wsX6_hasMarks_2))) (by decide +kernel)
set_option maxRecDepth 20000 in
theorem gX6_hasMarks_X6_cellAt : GoodIn wsX6_hasMarks (wsV RX6 115 RX6 yX6_cellAt wsX6_cellAt) := goodIn_app (goodIn_sub (gi_c (gu_wsX6_hasMarks_1 _ gm_7) (gi_c (gu_wsX6_hasMarks_1 _ gm_8) (gi_c (gu_wsX6_hasMarks_1 _ gm_9) (gi_c (gu_wsX6_hasMarks_1 _ gm_10) gi_0)))) (by decide +kernel)) ggX6_hasMarks_X6_cellAt
theorem dX6_hasMarks_0 : decode cX6_hasMarks 0 = .ok (.iconst 0, 1) := by decide +kernel
theorem dX6_hasMarks_1 : decode cX6_hasMarks 1 = .ok (.istore_n 3, 1) := by decide +kernel
theorem dX6_hasMarks_2 : decode cX6_hasMarks 2 = .ok (.iload_n 3, 1) := by decide +kernel
theorem dX6_hasMarks_3 : decode cX6_hasMarks 3 = .ok (.aload_n 0, 1) := by decide +kernel
theorem dX6_hasMarks_4 : decode cX6_hasMarks 4 = .ok (.getfield 29, 3) := by decide +kernel
theorem dX6_hasMarks_7 : decode cX6_hasMarks 7 = .ok (.if_icmp .ge 27, 3) := by decide +kernel
theorem dX6_hasMarks_10 : decode cX6_hasMarks 10 = .ok (.aload_n 0, 1) := by decide +kernel
theorem dX6_hasMarks_11 : decode cX6_hasMarks 11 = .ok (.lload_n 1, 1) := by decide +kernel
theorem dX6_hasMarks_12 : decode cX6_hasMarks 12 = .ok (.iload_n 3, 1) := by decide +kernel
theorem dX6_hasMarks_13 : decode cX6_hasMarks 13 = .ok (.aload_n 0, 1) := by decide +kernel
theorem dX6_hasMarks_14 : decode cX6_hasMarks 14 = .ok (.getfield 26, 3) := by decide +kernel
theorem dX6_hasMarks_17 : decode cX6_hasMarks 17 = .ok (.invokestatic 139, 3) := by decide +kernel
theorem dX6_hasMarks_20 : decode cX6_hasMarks 20 = .ok (.invokevirtual 115, 3) := by decide +kernel
theorem dX6_hasMarks_23 : decode cX6_hasMarks 23 = .ok (.ifCond .ne 5, 3) := by decide +kernel
theorem dX6_hasMarks_26 : decode cX6_hasMarks 26 = .ok (.iconst 0, 1) := by decide +kernel
theorem dX6_hasMarks_27 : decode cX6_hasMarks 27 = .ok (.ireturn, 1) := by decide +kernel
theorem dX6_hasMarks_28 : decode cX6_hasMarks 28 = .ok (.iinc 3 1, 3) := by decide +kernel
theorem dX6_hasMarks_31 : decode cX6_hasMarks 31 = .ok (.goto (-29), 3) := by decide +kernel
theorem dX6_hasMarks_34 : decode cX6_hasMarks 34 = .ok (.iconst 1, 1) := by decide +kernel
theorem dX6_hasMarks_35 : decode cX6_hasMarks 35 = .ok (.ireturn, 1) := by decide +kernel
set_option maxRecDepth 20000 in
theorem gu_wsX6_passesSolved_1 : ∀ w ∈ ([Cond.fieldLink RX6 26 "SieveCabinet$Sieve" "size" "I", Cond.methodLink RX6 135 yX4_solvedPlace, Cond.static yX4_solvedPlace, Cond.initialized RX4, Cond.code yX4_solvedPlace cX4_solvedPlace 4 (some .int), Cond.constantLong RX4 23 (1048575), Cond.methodLink RX4 17 yX4_rest, Cond.static yX4_rest, Cond.code yX4_rest cX4_rest 3 (some .int), Cond.methodLink RX6 115 yX6_cellAt, Cond.instanceMethod yX6_cellAt, Cond.selects RX6 yX6_cellAt yX6_cellAt, Cond.initialized RX6, Cond.code yX6_cellAt cX6_cellAt 2 (some .int), Cond.fieldLink RX6 9 "SieveCabinet$Sieve" "cells" "[I", Cond.methodLink RX6 148 yX4_solvedTag, Cond.static yX4_solvedTag, Cond.code yX4_solvedTag cX4_solvedTag 2 (some .int), Cond.constantLong RX4 25 (16), Cond.constantLong RX4 27 (15)] : List Cond), w ∈ wsX6_passesSolved := fun _ h => List.mem_cons_of_mem _ (List.mem_append_left _ h)
set_option maxRecDepth 20000 in
theorem ggX6_passesSolved_X4_solvedPlace : GoodIn wsX6_passesSolved wsX4_solvedPlace := goodIn_sub (gi_c (gu_wsX6_passesSolved_1 _ gm_4) (gi_c (gu_wsX6_passesSolved_1 _ gm_5) (gi_c (gu_wsX6_passesSolved_1 _ gm_6) (gi_c (gu_wsX6_passesSolved_1 _ gm_7) (gi_c (gu_wsX6_passesSolved_1 _ gm_3) (gi_c (gu_wsX6_passesSolved_1 _ gm_8) gi_0)))))) (by decide +kernel)
set_option maxRecDepth 20000 in
theorem gX6_passesSolved_X4_solvedPlace : GoodIn wsX6_passesSolved (va_wsS RX6 135 yX4_solvedPlace wsX4_solvedPlace) := goodIn_app (goodIn_sub (gi_c (gu_wsX6_passesSolved_1 _ gm_1) (gi_c (gu_wsX6_passesSolved_1 _ gm_2) (gi_c (gu_wsX6_passesSolved_1 _ gm_3) gi_0))) (by decide +kernel)) ggX6_passesSolved_X4_solvedPlace
set_option maxRecDepth 20000 in
theorem gu_wsX6_passesSolved_2 : ∀ w ∈ wsX60, w ∈ wsX6_passesSolved := fun _ h => List.mem_cons_of_mem _ (List.mem_append_right _ h)
set_option maxRecDepth 20000 in
theorem ggX6_passesSolved_X6_cellAt : GoodIn wsX6_passesSolved wsX6_cellAt := goodIn_sub (gi_c (gu_wsX6_passesSolved_1 _ gm_13) (gi_a (gi_c (gu_wsX6_passesSolved_1 _ gm_14) gi_0) (gu_wsX6_passesSolved_2))) (by decide +kernel)
set_option maxRecDepth 20000 in
theorem gX6_passesSolved_X6_cellAt : GoodIn wsX6_passesSolved (wsV RX6 115 RX6 yX6_cellAt wsX6_cellAt) := goodIn_app (goodIn_sub (gi_c (gu_wsX6_passesSolved_1 _ gm_9) (gi_c (gu_wsX6_passesSolved_1 _ gm_10) (gi_c (gu_wsX6_passesSolved_1 _ gm_11) (gi_c (gu_wsX6_passesSolved_1 _ gm_12) gi_0)))) (by decide +kernel)) ggX6_passesSolved_X6_cellAt
set_option maxRecDepth 20000 in
theorem ggX6_passesSolved_X4_solvedTag : GoodIn wsX6_passesSolved wsX4_solvedTag := goodIn_sub (gi_c (gu_wsX6_passesSolved_1 _ gm_17) (gi_c (gu_wsX6_passesSolved_1 _ gm_18) (gi_c (gu_wsX6_passesSolved_1 _ gm_19) gi_0))) (by decide +kernel)
set_option maxRecDepth 20000 in
theorem gX6_passesSolved_X4_solvedTag : GoodIn wsX6_passesSolved (va_wsS RX6 148 yX4_solvedTag wsX4_solvedTag) := goodIn_app (goodIn_sub (gi_c (gu_wsX6_passesSolved_1 _ gm_15) (gi_c (gu_wsX6_passesSolved_1 _ gm_16) (gi_c (gu_wsX6_passesSolved_1 _ gm_3) gi_0))) (by decide +kernel)) ggX6_passesSolved_X4_solvedTag
theorem dX6_passesSolved_0 : decode cX6_passesSolved 0 = .ok (.iconst 0, 1) := by decide +kernel
theorem dX6_passesSolved_1 : decode cX6_passesSolved 1 = .ok (.istore_n 3, 1) := by decide +kernel
theorem dX6_passesSolved_2 : decode cX6_passesSolved 2 = .ok (.iconst 0, 1) := by decide +kernel
theorem dX6_passesSolved_3 : decode cX6_passesSolved 3 = .ok (.istore 4, 2) := by decide +kernel
theorem dX6_passesSolved_5 : decode cX6_passesSolved 5 = .ok (.iload 4, 2) := by decide +kernel
theorem dX6_passesSolved_7 : decode cX6_passesSolved 7 = .ok (.iconst 3, 1) := by decide +kernel
theorem dX6_passesSolved_8 : decode cX6_passesSolved 8 = .ok (.if_icmp .ge 28, 3) := by decide +kernel
theorem dX6_passesSolved_11 : decode cX6_passesSolved 11 = .ok (.iload_n 3, 1) := by decide +kernel
theorem dX6_passesSolved_12 : decode cX6_passesSolved 12 = .ok (.aload_n 0, 1) := by decide +kernel
theorem dX6_passesSolved_13 : decode cX6_passesSolved 13 = .ok (.lload_n 1, 1) := by decide +kernel
theorem dX6_passesSolved_14 : decode cX6_passesSolved 14 = .ok (.iload 4, 2) := by decide +kernel
theorem dX6_passesSolved_16 : decode cX6_passesSolved 16 = .ok (.aload_n 0, 1) := by decide +kernel
theorem dX6_passesSolved_17 : decode cX6_passesSolved 17 = .ok (.getfield 26, 3) := by decide +kernel
theorem dX6_passesSolved_20 : decode cX6_passesSolved 20 = .ok (.iconst 3, 1) := by decide +kernel
theorem dX6_passesSolved_21 : decode cX6_passesSolved 21 = .ok (.idiv, 1) := by decide +kernel
theorem dX6_passesSolved_22 : decode cX6_passesSolved 22 = .ok (.invokestatic 135, 3) := by decide +kernel
theorem dX6_passesSolved_25 : decode cX6_passesSolved 25 = .ok (.invokevirtual 115, 3) := by decide +kernel
theorem dX6_passesSolved_28 : decode cX6_passesSolved 28 = .ok (.ixor, 1) := by decide +kernel
theorem dX6_passesSolved_29 : decode cX6_passesSolved 29 = .ok (.istore_n 3, 1) := by decide +kernel
theorem dX6_passesSolved_30 : decode cX6_passesSolved 30 = .ok (.iinc 4 1, 3) := by decide +kernel
theorem dX6_passesSolved_33 : decode cX6_passesSolved 33 = .ok (.goto (-28), 3) := by decide +kernel
theorem dX6_passesSolved_36 : decode cX6_passesSolved 36 = .ok (.iload_n 3, 1) := by decide +kernel
theorem dX6_passesSolved_37 : decode cX6_passesSolved 37 = .ok (.lload_n 1, 1) := by decide +kernel
theorem dX6_passesSolved_38 : decode cX6_passesSolved 38 = .ok (.invokestatic 148, 3) := by decide +kernel
theorem dX6_passesSolved_41 : decode cX6_passesSolved 41 = .ok (.if_icmp .ne 7, 3) := by decide +kernel
theorem dX6_passesSolved_44 : decode cX6_passesSolved 44 = .ok (.iconst 1, 1) := by decide +kernel
theorem dX6_passesSolved_45 : decode cX6_passesSolved 45 = .ok (.goto 4, 3) := by decide +kernel
theorem dX6_passesSolved_48 : decode cX6_passesSolved 48 = .ok (.iconst 0, 1) := by decide +kernel
theorem dX6_passesSolved_49 : decode cX6_passesSolved 49 = .ok (.ireturn, 1) := by decide +kernel
set_option maxRecDepth 20000 in
theorem gu_wsX7_init_1 : ∀ w ∈ ([Cond.methodLink RX7 3 objectInit, Cond.instanceMethod objectInit, Cond.code objectInit ⟨#[0xb1]⟩ 1 none, Cond.arrayClass .int, Cond.fieldLink RX7 9 "SieveCabinet$Solver" "placeOf" "[I", Cond.fieldLink RX7 15 "SieveCabinet$Solver" "tagOf" "[I", Cond.fieldLink RX7 18 "SieveCabinet$Solver" "left" "[I", Cond.fieldLink RX7 21 "SieveCabinet$Solver" "blend" "[I", Cond.classLink RX7 24 RX1, Cond.instantiable RX1 2, Cond.initialized RX1, Cond.fieldLink RX7 27 "SieveCabinet$Solver" "singles" "LSieveCabinet$BitRow;", Cond.fieldLink RX7 31 "SieveCabinet$Solver" "takenThing" "[I", Cond.fieldLink RX7 34 "SieveCabinet$Solver" "takenPlace" "[I", Cond.instanceMethod yX1_init, Cond.code yX1_init cX1_init 1 none, Cond.methodLink RX1 3 objectInit, Cond.arrayClass .long, Cond.fieldLink RX1 9 "SieveCabinet$BitRow" "words" "[J"] : List Cond), w ∈ wsX7_init := fun _ h => List.mem_cons_of_mem _ (List.mem_append_left _ (List.mem_append_left _ h))
set_option maxRecDepth 20000 in
theorem gu_wsX7_init_3 : ∀ w ∈ wsX10, w ∈ wsX7_init := fun _ h => List.mem_cons_of_mem _ (List.mem_append_right _ h)
set_option maxRecDepth 20000 in
theorem ggX7_init_X1_init : GoodIn wsX7_init wsX1_init := goodIn_sub (gi_c (gu_wsX7_init_1 _ gm_15) (gi_a (gi_c (gu_wsX7_init_1 _ gm_16) (gi_c (gu_wsX7_init_1 _ gm_1) (gi_c (gu_wsX7_init_1 _ gm_2) (gi_c (gu_wsX7_init_1 _ gm_17) (gi_c (gu_wsX7_init_1 _ gm_18) gi_0))))) (gu_wsX7_init_3))) (by decide +kernel)
set_option maxRecDepth 20000 in
theorem gX7_init_X1_init_n26 : GoodIn wsX7_init (wsX1_init) := ggX7_init_X1_init
theorem dX7_init_0 : decode cX7_init 0 = .ok (.aload_n 0, 1) := by decide +kernel
theorem dX7_init_1 : decode cX7_init 1 = .ok (.invokespecial 3, 3) := by decide +kernel
theorem dX7_init_4 : decode cX7_init 4 = .ok (.aload_n 0, 1) := by decide +kernel
theorem dX7_init_5 : decode cX7_init 5 = .ok (.sipush 3000, 3) := by decide +kernel
theorem dX7_init_8 : decode cX7_init 8 = .ok (.newarray .int, 2) := by decide +kernel
theorem dX7_init_10 : decode cX7_init 10 = .ok (.putfield 9, 3) := by decide +kernel
theorem dX7_init_13 : decode cX7_init 13 = .ok (.aload_n 0, 1) := by decide +kernel
theorem dX7_init_14 : decode cX7_init 14 = .ok (.sipush 1000, 3) := by decide +kernel
theorem dX7_init_17 : decode cX7_init 17 = .ok (.newarray .int, 2) := by decide +kernel
theorem dX7_init_19 : decode cX7_init 19 = .ok (.putfield 15, 3) := by decide +kernel
theorem dX7_init_22 : decode cX7_init 22 = .ok (.aload_n 0, 1) := by decide +kernel
theorem dX7_init_23 : decode cX7_init 23 = .ok (.sipush 3774, 3) := by decide +kernel
theorem dX7_init_26 : decode cX7_init 26 = .ok (.newarray .int, 2) := by decide +kernel
theorem dX7_init_28 : decode cX7_init 28 = .ok (.putfield 18, 3) := by decide +kernel
theorem dX7_init_31 : decode cX7_init 31 = .ok (.aload_n 0, 1) := by decide +kernel
theorem dX7_init_32 : decode cX7_init 32 = .ok (.sipush 3774, 3) := by decide +kernel
theorem dX7_init_35 : decode cX7_init 35 = .ok (.newarray .int, 2) := by decide +kernel
theorem dX7_init_37 : decode cX7_init 37 = .ok (.putfield 21, 3) := by decide +kernel
theorem dX7_init_40 : decode cX7_init 40 = .ok (.aload_n 0, 1) := by decide +kernel
theorem dX7_init_41 : decode cX7_init 41 = .ok (.new 24, 3) := by decide +kernel
theorem dX7_init_44 : decode cX7_init 44 = .ok (.dup, 1) := by decide +kernel
theorem dX7_init_45 : decode cX7_init 45 = .ok (.invokespecial 26, 3) := by decide +kernel
theorem dX7_init_48 : decode cX7_init 48 = .ok (.putfield 27, 3) := by decide +kernel
theorem dX7_init_51 : decode cX7_init 51 = .ok (.aload_n 0, 1) := by decide +kernel
theorem dX7_init_52 : decode cX7_init 52 = .ok (.sipush 1000, 3) := by decide +kernel
theorem dX7_init_55 : decode cX7_init 55 = .ok (.newarray .int, 2) := by decide +kernel
theorem dX7_init_57 : decode cX7_init 57 = .ok (.putfield 31, 3) := by decide +kernel
theorem dX7_init_60 : decode cX7_init 60 = .ok (.aload_n 0, 1) := by decide +kernel
theorem dX7_init_61 : decode cX7_init 61 = .ok (.sipush 1000, 3) := by decide +kernel
theorem dX7_init_64 : decode cX7_init 64 = .ok (.newarray .int, 2) := by decide +kernel
theorem dX7_init_66 : decode cX7_init 66 = .ok (.putfield 34, 3) := by decide +kernel
theorem dX7_init_69 : decode cX7_init 69 = .ok (.return_, 1) := by decide +kernel
theorem dX7_places_0 : decode cX7_places 0 = .ok (.iconst 3, 1) := by decide +kernel
theorem dX7_places_1 : decode cX7_places 1 = .ok (.aload_n 0, 1) := by decide +kernel
theorem dX7_places_2 : decode cX7_places 2 = .ok (.getfield 37, 3) := by decide +kernel
theorem dX7_places_5 : decode cX7_places 5 = .ok (.imul, 1) := by decide +kernel
theorem dX7_places_6 : decode cX7_places 6 = .ok (.ireturn, 1) := by decide +kernel
set_option maxRecDepth 20000 in
theorem gu_wsX7_triesUntilSolved_1 : ∀ w ∈ wsX7_triesUntilSolved_r1, w ∈ wsX7_triesUntilSolved := fun _ h => List.mem_cons_of_mem _ (List.mem_append_left _ (List.mem_append_left _ (List.mem_append_left _ (List.mem_append_left _ h))))
set_option maxRecDepth 20000 in
theorem gu_wsX7_triesUntilSolved_7 : ∀ w ∈ wsX00, w ∈ wsX7_triesUntilSolved := fun _ h => List.mem_cons_of_mem _ (List.mem_append_left _ (List.mem_append_right _ h))
set_option maxRecDepth 20000 in
theorem ggX7_triesUntilSolved_X0_count : GoodIn wsX7_triesUntilSolved wsX0_count := goodIn_sub (gi_c (gu_wsX7_triesUntilSolved_1 _ gm_6) (gi_a (gi_c (gu_wsX7_triesUntilSolved_1 _ gm_7) gi_0) (gu_wsX7_triesUntilSolved_7))) (by decide +kernel)
set_option maxRecDepth 20000 in
theorem gX7_triesUntilSolved_X0_count : GoodIn wsX7_triesUntilSolved (wsV RX7 41 RX0 yX0_count wsX0_count) := goodIn_app (goodIn_sub (gi_c (gu_wsX7_triesUntilSolved_1 _ gm_2) (gi_c (gu_wsX7_triesUntilSolved_1 _ gm_3) (gi_c (gu_wsX7_triesUntilSolved_1 _ gm_4) (gi_c (gu_wsX7_triesUntilSolved_1 _ gm_5) gi_0)))) (by decide +kernel)) ggX7_triesUntilSolved_X0_count
set_option maxRecDepth 20000 in
theorem gu_wsX7_triesUntilSolved_2 : ∀ w ∈ wsX7_triesUntilSolved_r2, w ∈ wsX7_triesUntilSolved := fun _ h => List.mem_cons_of_mem _ (List.mem_append_left _ (List.mem_append_left _ (List.mem_append_left _ (List.mem_append_right _ (List.mem_append_left _ h)))))
set_option maxRecDepth 20000 in
theorem gu_wsX7_triesUntilSolved_3 : ∀ w ∈ wsX7_triesUntilSolved_r3, w ∈ wsX7_triesUntilSolved := fun _ h => List.mem_cons_of_mem _ (List.mem_append_left _ (List.mem_append_left _ (List.mem_append_left _ (List.mem_append_right _ (List.mem_append_right _ (List.mem_append_left _ h))))))
set_option maxRecDepth 20000 in
theorem gu_wsX7_triesUntilSolved_4 : ∀ w ∈ wsX7_triesUntilSolved_r4, w ∈ wsX7_triesUntilSolved := fun _ h => List.mem_cons_of_mem _ (List.mem_append_left _ (List.mem_append_left _ (List.mem_append_left _ (List.mem_append_right _ (List.mem_append_right _ (List.mem_append_right _ (List.mem_append_left _ h)))))))
set_option maxRecDepth 20000 in
theorem gu_wsX7_triesUntilSolved_6 : ∀ w ∈ wsX70, w ∈ wsX7_triesUntilSolved := fun _ h => List.mem_cons_of_mem _ (List.mem_append_left _ (List.mem_append_left _ (List.mem_append_right _ h)))
set_option maxRecDepth 20000 in
theorem gu_wsX7_triesUntilSolved_8 : ∀ w ∈ wsX10, w ∈ wsX7_triesUntilSolved := fun _ h => List.mem_cons_of_mem _ (List.mem_append_right _ h)
set_option maxRecDepth 20000 in
theorem ggX7_triesUntilSolved_X7_spread : GoodIn wsX7_triesUntilSolved wsX7_spread := goodIn_sub (gi_c (gu_wsX7_triesUntilSolved_1 _ gm_12) (gi_a (gi_a (gi_a (gi_a (gi_c (gu_wsX7_triesUntilSolved_1 _ gm_13) (gi_c (gu_wsX7_triesUntilSolved_1 _ gm_14) (gi_c (gu_wsX7_triesUntilSolved_1 _ gm_0) (gi_c (gu_wsX7_triesUntilSolved_1 _ gm_15) (gi_c (gu_wsX7_triesUntilSolved_1 _ gm_1) (gi_c (gu_wsX7_triesUntilSolved_1 _ gm_16) (gi_c (gu_wsX7_triesUntilSolved_1 _ gm_17) (gi_c (gu_wsX7_triesUntilSolved_1 _ gm_18) (gi_c (gu_wsX7_triesUntilSolved_1 _ gm_19) (gi_c (gu_wsX7_triesUntilSolved_1 _ gm_20) (gi_c (gu_wsX7_triesUntilSolved_1 _ gm_21) (gi_c (gu_wsX7_triesUntilSolved_1 _ gm_22) (gi_c (gu_wsX7_triesUntilSolved_1 _ gm_23) (gi_c (gu_wsX7_triesUntilSolved_2 _ gm_0) (gi_c (gu_wsX7_triesUntilSolved_1 _ gm_5) (gi_c (gu_wsX7_triesUntilSolved_2 _ gm_1) (gi_c (gu_wsX7_triesUntilSolved_1 _ gm_7) (gi_c (gu_wsX7_triesUntilSolved_2 _ gm_2) (gi_c (gu_wsX7_triesUntilSolved_2 _ gm_3) (gi_c (gu_wsX7_triesUntilSolved_2 _ gm_4) (gi_c (gu_wsX7_triesUntilSolved_2 _ gm_5) (gi_c (gu_wsX7_triesUntilSolved_2 _ gm_6) (gi_c (gu_wsX7_triesUntilSolved_2 _ gm_7) (gi_c (gu_wsX7_triesUntilSolved_2 _ gm_8) gi_0)))))))))))))))))))))))) (gi_a (gi_c (gu_wsX7_triesUntilSolved_2 _ gm_9) (gi_c (gu_wsX7_triesUntilSolved_2 _ gm_10) (gi_c (gu_wsX7_triesUntilSolved_2 _ gm_11) (gi_c (gu_wsX7_triesUntilSolved_2 _ gm_12) (gi_c (gu_wsX7_triesUntilSolved_2 _ gm_13) (gi_c (gu_wsX7_triesUntilSolved_2 _ gm_14) (gi_c (gu_wsX7_triesUntilSolved_2 _ gm_15) (gi_c (gu_wsX7_triesUntilSolved_2 _ gm_16) (gi_c (gu_wsX7_triesUntilSolved_2 _ gm_17) (gi_c (gu_wsX7_triesUntilSolved_2 _ gm_18) (gi_c (gu_wsX7_triesUntilSolved_2 _ gm_19) (gi_c (gu_wsX7_triesUntilSolved_2 _ gm_20) (gi_c (gu_wsX7_triesUntilSolved_2 _ gm_21) (gi_c (gu_wsX7_triesUntilSolved_2 _ gm_22) (gi_c (gu_wsX7_triesUntilSolved_2 _ gm_23) (gi_c (gu_wsX7_triesUntilSolved_3 _ gm_0) (gi_c (gu_wsX7_triesUntilSolved_1 _ gm_11) (gi_c (gu_wsX7_triesUntilSolved_3 _ gm_1) (gi_c (gu_wsX7_triesUntilSolved_3 _ gm_2) (gi_c (gu_wsX7_triesUntilSolved_3 _ gm_3) (gi_c (gu_wsX7_triesUntilSolved_3 _ gm_4) (gi_c (gu_wsX7_triesUntilSolved_3 _ gm_5) (gi_c (gu_wsX7_triesUntilSolved_3 _ gm_6) (gi_c (gu_wsX7_triesUntilSolved_3 _ gm_7) gi_0)))))))))))))))))))))))) (gi_c (gu_wsX7_triesUntilSolved_3 _ gm_8) (gi_c (gu_wsX7_triesUntilSolved_3 _ gm_9) (gi_c (gu_wsX7_triesUntilSolved_3 _ gm_10) (gi_c (gu_wsX7_triesUntilSolved_3 _ gm_11) (gi_c (gu_wsX7_triesUntilSolved_3 _ gm_12) (gi_c (gu_wsX7_triesUntilSolved_3 _ gm_13) (gi_c (gu_wsX7_triesUntilSolved_3 _ gm_14) (gi_c (gu_wsX7_triesUntilSolved_3 _ gm_15) (gi_c (gu_wsX7_triesUntilSolved_3 _ gm_16) (gi_c (gu_wsX7_triesUntilSolved_3 _ gm_17) (gi_c (gu_wsX7_triesUntilSolved_3 _ gm_18) (gi_c (gu_wsX7_triesUntilSolved_3 _ gm_19) (gi_c (gu_wsX7_triesUntilSolved_3 _ gm_20) (gi_c (gu_wsX7_triesUntilSolved_3 _ gm_21) (gi_c (gu_wsX7_triesUntilSolved_3 _ gm_22) (gi_c (gu_wsX7_triesUntilSolved_3 _ gm_23) (gi_c (gu_wsX7_triesUntilSolved_4 _ gm_0) (gi_c (gu_wsX7_triesUntilSolved_4 _ gm_1) (gi_c (gu_wsX7_triesUntilSolved_4 _ gm_2) (gi_c (gu_wsX7_triesUntilSolved_4 _ gm_3) (gi_c (gu_wsX7_triesUntilSolved_4 _ gm_4) (gi_c (gu_wsX7_triesUntilSolved_4 _ gm_5) (gi_c (gu_wsX7_triesUntilSolved_4 _ gm_6) (gi_c (gu_wsX7_triesUntilSolved_4 _ gm_7) gi_0)))))))))))))))))))))))))) (gu_wsX7_triesUntilSolved_6)) (gu_wsX7_triesUntilSolved_7)) (gu_wsX7_triesUntilSolved_8))) (by decide +kernel)
set_option maxRecDepth 20000 in
theorem gX7_triesUntilSolved_X7_spread : GoodIn wsX7_triesUntilSolved (wsV RX7 49 RX7 yX7_spread wsX7_spread) := goodIn_app (goodIn_sub (gi_c (gu_wsX7_triesUntilSolved_1 _ gm_8) (gi_c (gu_wsX7_triesUntilSolved_1 _ gm_9) (gi_c (gu_wsX7_triesUntilSolved_1 _ gm_10) (gi_c (gu_wsX7_triesUntilSolved_1 _ gm_11) gi_0)))) (by decide +kernel)) ggX7_triesUntilSolved_X7_spread
set_option maxRecDepth 20000 in
theorem gu_wsX7_triesUntilSolved_5 : ∀ w ∈ wsX7_triesUntilSolved_r5, w ∈ wsX7_triesUntilSolved := fun _ h => List.mem_cons_of_mem _ (List.mem_append_left _ (List.mem_append_left _ (List.mem_append_left _ (List.mem_append_right _ (List.mem_append_right _ (List.mem_append_right _ (List.mem_append_right _ h)))))))
set_option maxRecDepth 20000 in
theorem ggX7_triesUntilSolved_X7_takeAllOff : GoodIn wsX7_triesUntilSolved wsX7_takeAllOff := goodIn_sub (gi_c (gu_wsX7_triesUntilSolved_4 _ gm_11) (gi_a (gi_a (gi_a (gi_c (gu_wsX7_triesUntilSolved_1 _ gm_0) (gi_c (gu_wsX7_triesUntilSolved_1 _ gm_17) (gi_c (gu_wsX7_triesUntilSolved_4 _ gm_12) (gi_c (gu_wsX7_triesUntilSolved_1 _ gm_14) (gi_c (gu_wsX7_triesUntilSolved_4 _ gm_13) (gi_c (gu_wsX7_triesUntilSolved_4 _ gm_14) (gi_c (gu_wsX7_triesUntilSolved_4 _ gm_15) (gi_c (gu_wsX7_triesUntilSolved_4 _ gm_16) (gi_c (gu_wsX7_triesUntilSolved_3 _ gm_5) (gi_c (gu_wsX7_triesUntilSolved_4 _ gm_17) (gi_c (gu_wsX7_triesUntilSolved_3 _ gm_15) (gi_c (gu_wsX7_triesUntilSolved_4 _ gm_18) (gi_c (gu_wsX7_triesUntilSolved_4 _ gm_19) (gi_c (gu_wsX7_triesUntilSolved_4 _ gm_20) (gi_c (gu_wsX7_triesUntilSolved_4 _ gm_21) (gi_c (gu_wsX7_triesUntilSolved_4 _ gm_22) (gi_c (gu_wsX7_triesUntilSolved_4 _ gm_23) (gi_c (gu_wsX7_triesUntilSolved_5 _ gm_0) (gi_c (gu_wsX7_triesUntilSolved_5 _ gm_1) (gi_c (gu_wsX7_triesUntilSolved_5 _ gm_2) (gi_c (gu_wsX7_triesUntilSolved_5 _ gm_3) (gi_c (gu_wsX7_triesUntilSolved_5 _ gm_4) (gi_c (gu_wsX7_triesUntilSolved_5 _ gm_5) (gi_c (gu_wsX7_triesUntilSolved_1 _ gm_11) gi_0)))))))))))))))))))))))) (gi_c (gu_wsX7_triesUntilSolved_5 _ gm_6) (gi_c (gu_wsX7_triesUntilSolved_1 _ gm_16) (gi_c (gu_wsX7_triesUntilSolved_1 _ gm_13) (gi_c (gu_wsX7_triesUntilSolved_3 _ gm_19) (gi_c (gu_wsX7_triesUntilSolved_3 _ gm_20) (gi_c (gu_wsX7_triesUntilSolved_3 _ gm_21) (gi_c (gu_wsX7_triesUntilSolved_3 _ gm_22) (gi_c (gu_wsX7_triesUntilSolved_3 _ gm_23) (gi_c (gu_wsX7_triesUntilSolved_4 _ gm_0) (gi_c (gu_wsX7_triesUntilSolved_4 _ gm_1) (gi_c (gu_wsX7_triesUntilSolved_4 _ gm_2) (gi_c (gu_wsX7_triesUntilSolved_3 _ gm_14) (gi_c (gu_wsX7_triesUntilSolved_4 _ gm_3) (gi_c (gu_wsX7_triesUntilSolved_4 _ gm_4) (gi_c (gu_wsX7_triesUntilSolved_4 _ gm_5) (gi_c (gu_wsX7_triesUntilSolved_4 _ gm_6) (gi_c (gu_wsX7_triesUntilSolved_4 _ gm_7) gi_0)))))))))))))))))) (gu_wsX7_triesUntilSolved_6)) (gu_wsX7_triesUntilSolved_8))) (by decide +kernel)
set_option maxRecDepth 20000 in
theorem gX7_triesUntilSolved_X7_takeAllOff : GoodIn wsX7_triesUntilSolved (wsV RX7 53 RX7 yX7_takeAllOff wsX7_takeAllOff) := goodIn_app (goodIn_sub (gi_c (gu_wsX7_triesUntilSolved_4 _ gm_8) (gi_c (gu_wsX7_triesUntilSolved_4 _ gm_9) (gi_c (gu_wsX7_triesUntilSolved_4 _ gm_10) (gi_c (gu_wsX7_triesUntilSolved_1 _ gm_11) gi_0)))) (by decide +kernel)) ggX7_triesUntilSolved_X7_takeAllOff
theorem dX7_triesUntilSolved_0 : decode cX7_triesUntilSolved 0 = .ok (.aload_n 0, 1) := by decide +kernel
theorem dX7_triesUntilSolved_1 : decode cX7_triesUntilSolved 1 = .ok (.aload_n 1, 1) := by decide +kernel
theorem dX7_triesUntilSolved_2 : decode cX7_triesUntilSolved 2 = .ok (.invokevirtual 41, 3) := by decide +kernel
theorem dX7_triesUntilSolved_5 : decode cX7_triesUntilSolved 5 = .ok (.putfield 47, 3) := by decide +kernel
theorem dX7_triesUntilSolved_8 : decode cX7_triesUntilSolved 8 = .ok (.aload_n 0, 1) := by decide +kernel
theorem dX7_triesUntilSolved_9 : decode cX7_triesUntilSolved 9 = .ok (.aload_n 0, 1) := by decide +kernel
theorem dX7_triesUntilSolved_10 : decode cX7_triesUntilSolved 10 = .ok (.getfield 47, 3) := by decide +kernel
theorem dX7_triesUntilSolved_13 : decode cX7_triesUntilSolved 13 = .ok (.aload_n 0, 1) := by decide +kernel
theorem dX7_triesUntilSolved_14 : decode cX7_triesUntilSolved 14 = .ok (.getfield 47, 3) := by decide +kernel
theorem dX7_triesUntilSolved_17 : decode cX7_triesUntilSolved 17 = .ok (.iconst 4, 1) := by decide +kernel
theorem dX7_triesUntilSolved_18 : decode cX7_triesUntilSolved 18 = .ok (.idiv, 1) := by decide +kernel
theorem dX7_triesUntilSolved_19 : decode cX7_triesUntilSolved 19 = .ok (.iadd, 1) := by decide +kernel
theorem dX7_triesUntilSolved_20 : decode cX7_triesUntilSolved 20 = .ok (.bipush 8, 2) := by decide +kernel
theorem dX7_triesUntilSolved_22 : decode cX7_triesUntilSolved 22 = .ok (.iadd, 1) := by decide +kernel
theorem dX7_triesUntilSolved_23 : decode cX7_triesUntilSolved 23 = .ok (.putfield 37, 3) := by decide +kernel
theorem dX7_triesUntilSolved_26 : decode cX7_triesUntilSolved 26 = .ok (.iconst 0, 1) := by decide +kernel
theorem dX7_triesUntilSolved_27 : decode cX7_triesUntilSolved 27 = .ok (.istore_n 3, 1) := by decide +kernel
theorem dX7_triesUntilSolved_28 : decode cX7_triesUntilSolved 28 = .ok (.iload_n 3, 1) := by decide +kernel
theorem dX7_triesUntilSolved_29 : decode cX7_triesUntilSolved 29 = .ok (.bipush 50, 2) := by decide +kernel
theorem dX7_triesUntilSolved_31 : decode cX7_triesUntilSolved 31 = .ok (.if_icmp .ge 26, 3) := by decide +kernel
theorem dX7_triesUntilSolved_34 : decode cX7_triesUntilSolved 34 = .ok (.aload_n 0, 1) := by decide +kernel
theorem dX7_triesUntilSolved_35 : decode cX7_triesUntilSolved 35 = .ok (.aload_n 1, 1) := by decide +kernel
theorem dX7_triesUntilSolved_36 : decode cX7_triesUntilSolved 36 = .ok (.iload_n 2, 1) := by decide +kernel
theorem dX7_triesUntilSolved_37 : decode cX7_triesUntilSolved 37 = .ok (.iload_n 3, 1) := by decide +kernel
theorem dX7_triesUntilSolved_38 : decode cX7_triesUntilSolved 38 = .ok (.iadd, 1) := by decide +kernel
theorem dX7_triesUntilSolved_39 : decode cX7_triesUntilSolved 39 = .ok (.invokevirtual 49, 3) := by decide +kernel
theorem dX7_triesUntilSolved_42 : decode cX7_triesUntilSolved 42 = .ok (.aload_n 0, 1) := by decide +kernel
theorem dX7_triesUntilSolved_43 : decode cX7_triesUntilSolved 43 = .ok (.invokevirtual 53, 3) := by decide +kernel
theorem dX7_triesUntilSolved_46 : decode cX7_triesUntilSolved 46 = .ok (.ifCond .eq 5, 3) := by decide +kernel
theorem dX7_triesUntilSolved_49 : decode cX7_triesUntilSolved 49 = .ok (.iload_n 3, 1) := by decide +kernel
theorem dX7_triesUntilSolved_50 : decode cX7_triesUntilSolved 50 = .ok (.ireturn, 1) := by decide +kernel
theorem dX7_triesUntilSolved_51 : decode cX7_triesUntilSolved 51 = .ok (.iinc 3 1, 3) := by decide +kernel
theorem dX7_triesUntilSolved_54 : decode cX7_triesUntilSolved 54 = .ok (.goto (-26), 3) := by decide +kernel
theorem dX7_triesUntilSolved_57 : decode cX7_triesUntilSolved 57 = .ok (.iconst (-1), 1) := by decide +kernel
theorem dX7_triesUntilSolved_58 : decode cX7_triesUntilSolved 58 = .ok (.ireturn, 1) := by decide +kernel
set_option maxRecDepth 20000 in
theorem gu_wsX7_fill_1 : ∀ w ∈ ([Cond.fieldLink RX7 47 "SieveCabinet$Solver" "count" "I", Cond.fieldLink RX7 31 "SieveCabinet$Solver" "takenThing" "[I", Cond.fieldLink RX7 15 "SieveCabinet$Solver" "tagOf" "[I", Cond.fieldLink RX7 9 "SieveCabinet$Solver" "placeOf" "[I", Cond.fieldLink RX7 34 "SieveCabinet$Solver" "takenPlace" "[I", Cond.methodLink RX7 57 yX6_cellAt, Cond.instanceMethod yX6_cellAt, Cond.selects RX6 yX6_cellAt yX6_cellAt, Cond.initialized RX6, Cond.code yX6_cellAt cX6_cellAt 2 (some .int), Cond.fieldLink RX6 9 "SieveCabinet$Sieve" "cells" "[I", Cond.methodLink RX7 63 yX6_setCell, Cond.instanceMethod yX6_setCell, Cond.selects RX6 yX6_setCell yX6_setCell, Cond.code yX6_setCell cX6_setCell 3 none] : List Cond), w ∈ wsX7_fill := fun _ h => List.mem_cons_of_mem _ (List.mem_append_left _ (List.mem_append_left _ h))
set_option maxRecDepth 20000 in
theorem gu_wsX7_fill_3 : ∀ w ∈ wsX60, w ∈ wsX7_fill := fun _ h => List.mem_cons_of_mem _ (List.mem_append_right _ h)
set_option maxRecDepth 20000 in
theorem ggX7_fill_X6_cellAt : GoodIn wsX7_fill wsX6_cellAt := goodIn_sub (gi_c (gu_wsX7_fill_1 _ gm_9) (gi_a (gi_c (gu_wsX7_fill_1 _ gm_10) gi_0) (gu_wsX7_fill_3))) (by decide +kernel)
set_option maxRecDepth 20000 in
theorem gX7_fill_X6_cellAt : GoodIn wsX7_fill (wsV RX7 57 RX6 yX6_cellAt wsX6_cellAt) := goodIn_app (goodIn_sub (gi_c (gu_wsX7_fill_1 _ gm_5) (gi_c (gu_wsX7_fill_1 _ gm_6) (gi_c (gu_wsX7_fill_1 _ gm_7) (gi_c (gu_wsX7_fill_1 _ gm_8) gi_0)))) (by decide +kernel)) ggX7_fill_X6_cellAt
set_option maxRecDepth 20000 in
theorem ggX7_fill_X6_setCell : GoodIn wsX7_fill wsX6_setCell := goodIn_sub (gi_c (gu_wsX7_fill_1 _ gm_14) (gi_a (gi_c (gu_wsX7_fill_1 _ gm_10) gi_0) (gu_wsX7_fill_3))) (by decide +kernel)
set_option maxRecDepth 20000 in
theorem gX7_fill_X6_setCell : GoodIn wsX7_fill (wsV RX7 63 RX6 yX6_setCell wsX6_setCell) := goodIn_app (goodIn_sub (gi_c (gu_wsX7_fill_1 _ gm_11) (gi_c (gu_wsX7_fill_1 _ gm_12) (gi_c (gu_wsX7_fill_1 _ gm_13) (gi_c (gu_wsX7_fill_1 _ gm_8) gi_0)))) (by decide +kernel)) ggX7_fill_X6_setCell
theorem dX7_fill_0 : decode cX7_fill 0 = .ok (.aload_n 0, 1) := by decide +kernel
theorem dX7_fill_1 : decode cX7_fill 1 = .ok (.getfield 47, 3) := by decide +kernel
theorem dX7_fill_4 : decode cX7_fill 4 = .ok (.iconst 1, 1) := by decide +kernel
theorem dX7_fill_5 : decode cX7_fill 5 = .ok (.isub, 1) := by decide +kernel
theorem dX7_fill_6 : decode cX7_fill 6 = .ok (.istore_n 2, 1) := by decide +kernel
theorem dX7_fill_7 : decode cX7_fill 7 = .ok (.iload_n 2, 1) := by decide +kernel
theorem dX7_fill_8 : decode cX7_fill 8 = .ok (.ifCond .lt 90, 3) := by decide +kernel
theorem dX7_fill_11 : decode cX7_fill 11 = .ok (.aload_n 0, 1) := by decide +kernel
theorem dX7_fill_12 : decode cX7_fill 12 = .ok (.getfield 31, 3) := by decide +kernel
theorem dX7_fill_15 : decode cX7_fill 15 = .ok (.iload_n 2, 1) := by decide +kernel
theorem dX7_fill_16 : decode cX7_fill 16 = .ok (.iaload, 1) := by decide +kernel
theorem dX7_fill_17 : decode cX7_fill 17 = .ok (.istore_n 3, 1) := by decide +kernel
theorem dX7_fill_18 : decode cX7_fill 18 = .ok (.aload_n 0, 1) := by decide +kernel
theorem dX7_fill_19 : decode cX7_fill 19 = .ok (.getfield 15, 3) := by decide +kernel
theorem dX7_fill_22 : decode cX7_fill 22 = .ok (.iload_n 3, 1) := by decide +kernel
theorem dX7_fill_23 : decode cX7_fill 23 = .ok (.iaload, 1) := by decide +kernel
theorem dX7_fill_24 : decode cX7_fill 24 = .ok (.istore 4, 2) := by decide +kernel
theorem dX7_fill_26 : decode cX7_fill 26 = .ok (.iconst 0, 1) := by decide +kernel
theorem dX7_fill_27 : decode cX7_fill 27 = .ok (.istore 5, 2) := by decide +kernel
theorem dX7_fill_29 : decode cX7_fill 29 = .ok (.iload 5, 2) := by decide +kernel
theorem dX7_fill_31 : decode cX7_fill 31 = .ok (.iconst 3, 1) := by decide +kernel
theorem dX7_fill_32 : decode cX7_fill 32 = .ok (.if_icmp .ge 48, 3) := by decide +kernel
theorem dX7_fill_35 : decode cX7_fill 35 = .ok (.aload_n 0, 1) := by decide +kernel
theorem dX7_fill_36 : decode cX7_fill 36 = .ok (.getfield 9, 3) := by decide +kernel
theorem dX7_fill_39 : decode cX7_fill 39 = .ok (.iconst 3, 1) := by decide +kernel
theorem dX7_fill_40 : decode cX7_fill 40 = .ok (.iload_n 3, 1) := by decide +kernel
theorem dX7_fill_41 : decode cX7_fill 41 = .ok (.imul, 1) := by decide +kernel
theorem dX7_fill_42 : decode cX7_fill 42 = .ok (.iload 5, 2) := by decide +kernel
theorem dX7_fill_44 : decode cX7_fill 44 = .ok (.iadd, 1) := by decide +kernel
theorem dX7_fill_45 : decode cX7_fill 45 = .ok (.iaload, 1) := by decide +kernel
theorem dX7_fill_46 : decode cX7_fill 46 = .ok (.istore 6, 2) := by decide +kernel
theorem dX7_fill_48 : decode cX7_fill 48 = .ok (.iload 4, 2) := by decide +kernel
theorem dX7_fill_50 : decode cX7_fill 50 = .ok (.iload 6, 2) := by decide +kernel
theorem dX7_fill_52 : decode cX7_fill 52 = .ok (.aload_n 0, 1) := by decide +kernel
theorem dX7_fill_53 : decode cX7_fill 53 = .ok (.getfield 34, 3) := by decide +kernel
theorem dX7_fill_56 : decode cX7_fill 56 = .ok (.iload_n 2, 1) := by decide +kernel
theorem dX7_fill_57 : decode cX7_fill 57 = .ok (.iaload, 1) := by decide +kernel
theorem dX7_fill_58 : decode cX7_fill 58 = .ok (.if_icmp .ne 7, 3) := by decide +kernel
theorem dX7_fill_61 : decode cX7_fill 61 = .ok (.iconst 0, 1) := by decide +kernel
theorem dX7_fill_62 : decode cX7_fill 62 = .ok (.goto 9, 3) := by decide +kernel
theorem dX7_fill_65 : decode cX7_fill 65 = .ok (.aload_n 1, 1) := by decide +kernel
theorem dX7_fill_66 : decode cX7_fill 66 = .ok (.iload 6, 2) := by decide +kernel
theorem dX7_fill_68 : decode cX7_fill 68 = .ok (.invokevirtual 57, 3) := by decide +kernel
theorem dX7_fill_71 : decode cX7_fill 71 = .ok (.ixor, 1) := by decide +kernel
theorem dX7_fill_72 : decode cX7_fill 72 = .ok (.istore 4, 2) := by decide +kernel
theorem dX7_fill_74 : decode cX7_fill 74 = .ok (.iinc 5 1, 3) := by decide +kernel
theorem dX7_fill_77 : decode cX7_fill 77 = .ok (.goto (-48), 3) := by decide +kernel
theorem dX7_fill_80 : decode cX7_fill 80 = .ok (.aload_n 1, 1) := by decide +kernel
theorem dX7_fill_81 : decode cX7_fill 81 = .ok (.aload_n 0, 1) := by decide +kernel
theorem dX7_fill_82 : decode cX7_fill 82 = .ok (.getfield 34, 3) := by decide +kernel
theorem dX7_fill_85 : decode cX7_fill 85 = .ok (.iload_n 2, 1) := by decide +kernel
theorem dX7_fill_86 : decode cX7_fill 86 = .ok (.iaload, 1) := by decide +kernel
theorem dX7_fill_87 : decode cX7_fill 87 = .ok (.iload 4, 2) := by decide +kernel
theorem dX7_fill_89 : decode cX7_fill 89 = .ok (.invokevirtual 63, 3) := by decide +kernel
theorem dX7_fill_92 : decode cX7_fill 92 = .ok (.iinc 2 (-1), 3) := by decide +kernel
theorem dX7_fill_95 : decode cX7_fill 95 = .ok (.goto (-88), 3) := by decide +kernel
theorem dX7_fill_98 : decode cX7_fill 98 = .ok (.return_, 1) := by decide +kernel
set_option maxRecDepth 20000 in
theorem gu_wsX7_spread_1 : ∀ w ∈ wsX7_spread_r1, w ∈ wsX7_spread := fun _ h => List.mem_cons_of_mem _ (List.mem_append_left _ (List.mem_append_left _ (List.mem_append_left _ (List.mem_append_left _ h))))
set_option maxRecDepth 20000 in
theorem ggX7_spread_J7_fill_53178 : GoodIn wsX7_spread wsJ7_fill_53178 := goodIn_sub (gi_c (gu_wsX7_spread_1 _ gm_10) (gi_0)) (by decide +kernel)
set_option maxRecDepth 20000 in
theorem gX7_spread_J7_fill_53178 : GoodIn wsX7_spread (va_wsS RX7 67 yJ7_fill_53178 wsJ7_fill_53178) := goodIn_app (goodIn_sub (gi_c (gu_wsX7_spread_1 _ gm_7) (gi_c (gu_wsX7_spread_1 _ gm_8) (gi_c (gu_wsX7_spread_1 _ gm_9) gi_0))) (by decide +kernel)) ggX7_spread_J7_fill_53178
set_option maxRecDepth 20000 in
theorem gu_wsX7_spread_5 : ∀ w ∈ wsX00, w ∈ wsX7_spread := fun _ h => List.mem_cons_of_mem _ (List.mem_append_left _ (List.mem_append_right _ h))
set_option maxRecDepth 20000 in
theorem ggX7_spread_X0_at : GoodIn wsX7_spread wsX0_at := goodIn_sub (gi_c (gu_wsX7_spread_1 _ gm_15) (gi_a (gi_c (gu_wsX7_spread_1 _ gm_16) (gi_c (gu_wsX7_spread_1 _ gm_17) gi_0)) (gu_wsX7_spread_5))) (by decide +kernel)
set_option maxRecDepth 20000 in
theorem gX7_spread_X0_at : GoodIn wsX7_spread (wsV RX7 73 RX0 yX0_at wsX0_at) := goodIn_app (goodIn_sub (gi_c (gu_wsX7_spread_1 _ gm_11) (gi_c (gu_wsX7_spread_1 _ gm_12) (gi_c (gu_wsX7_spread_1 _ gm_13) (gi_c (gu_wsX7_spread_1 _ gm_14) gi_0)))) (by decide +kernel)) ggX7_spread_X0_at
set_option maxRecDepth 20000 in
theorem gu_wsX7_spread_2 : ∀ w ∈ wsX7_spread_r2, w ∈ wsX7_spread := fun _ h => List.mem_cons_of_mem _ (List.mem_append_left _ (List.mem_append_left _ (List.mem_append_left _ (List.mem_append_right _ (List.mem_append_left _ h)))))
set_option maxRecDepth 20000 in
theorem ggX7_spread_X4_of : GoodIn wsX7_spread wsX4_of := goodIn_sub (gi_c (gu_wsX7_spread_1 _ gm_21) (gi_c (gu_wsX7_spread_1 _ gm_22) (gi_c (gu_wsX7_spread_1 _ gm_23) (gi_c (gu_wsX7_spread_2 _ gm_0) gi_0)))) (by decide +kernel)
set_option maxRecDepth 20000 in
theorem gX7_spread_X4_of : GoodIn wsX7_spread (va_wsS RX7 77 yX4_of wsX4_of) := goodIn_app (goodIn_sub (gi_c (gu_wsX7_spread_1 _ gm_18) (gi_c (gu_wsX7_spread_1 _ gm_19) (gi_c (gu_wsX7_spread_1 _ gm_20) gi_0))) (by decide +kernel)) ggX7_spread_X4_of
set_option maxRecDepth 20000 in
theorem ggX7_spread_X4_solvedTag : GoodIn wsX7_spread wsX4_solvedTag := goodIn_sub (gi_c (gu_wsX7_spread_2 _ gm_3) (gi_c (gu_wsX7_spread_2 _ gm_4) (gi_c (gu_wsX7_spread_2 _ gm_5) gi_0))) (by decide +kernel)
set_option maxRecDepth 20000 in
theorem gX7_spread_X4_solvedTag : GoodIn wsX7_spread (va_wsS RX7 83 yX4_solvedTag wsX4_solvedTag) := goodIn_app (goodIn_sub (gi_c (gu_wsX7_spread_2 _ gm_1) (gi_c (gu_wsX7_spread_2 _ gm_2) (gi_c (gu_wsX7_spread_1 _ gm_20) gi_0))) (by decide +kernel)) ggX7_spread_X4_solvedTag
set_option maxRecDepth 20000 in
theorem ggX7_spread_X4_solvedPlace : GoodIn wsX7_spread wsX4_solvedPlace := goodIn_sub (gi_c (gu_wsX7_spread_2 _ gm_8) (gi_c (gu_wsX7_spread_2 _ gm_9) (gi_c (gu_wsX7_spread_2 _ gm_10) (gi_c (gu_wsX7_spread_2 _ gm_11) (gi_c (gu_wsX7_spread_1 _ gm_20) (gi_c (gu_wsX7_spread_2 _ gm_12) gi_0)))))) (by decide +kernel)
set_option maxRecDepth 20000 in
theorem gX7_spread_X4_solvedPlace : GoodIn wsX7_spread (va_wsS RX7 87 yX4_solvedPlace wsX4_solvedPlace) := goodIn_app (goodIn_sub (gi_c (gu_wsX7_spread_2 _ gm_6) (gi_c (gu_wsX7_spread_2 _ gm_7) (gi_c (gu_wsX7_spread_1 _ gm_20) gi_0))) (by decide +kernel)) ggX7_spread_X4_solvedPlace
set_option maxRecDepth 20000 in
theorem gu_wsX7_spread_4 : ∀ w ∈ wsX70, w ∈ wsX7_spread := fun _ h => List.mem_cons_of_mem _ (List.mem_append_left _ (List.mem_append_left _ (List.mem_append_right _ h)))
set_option maxRecDepth 20000 in
theorem ggX7_spread_X7_places : GoodIn wsX7_spread wsX7_places := goodIn_sub (gi_c (gu_wsX7_spread_2 _ gm_17) (gi_a (gi_c (gu_wsX7_spread_1 _ gm_4) gi_0) (gu_wsX7_spread_4))) (by decide +kernel)
set_option maxRecDepth 20000 in
theorem gX7_spread_X7_places : GoodIn wsX7_spread (wsV RX7 91 RX7 yX7_places wsX7_places) := goodIn_app (goodIn_sub (gi_c (gu_wsX7_spread_2 _ gm_13) (gi_c (gu_wsX7_spread_2 _ gm_14) (gi_c (gu_wsX7_spread_2 _ gm_15) (gi_c (gu_wsX7_spread_2 _ gm_16) gi_0)))) (by decide +kernel)) ggX7_spread_X7_places
set_option maxRecDepth 20000 in
theorem gu_wsX7_spread_3 : ∀ w ∈ wsX7_spread_r3, w ∈ wsX7_spread := fun _ h => List.mem_cons_of_mem _ (List.mem_append_left _ (List.mem_append_left _ (List.mem_append_left _ (List.mem_append_right _ (List.mem_append_right _ h)))))
set_option maxRecDepth 20000 in
theorem gu_wsX7_spread_6 : ∀ w ∈ wsX10, w ∈ wsX7_spread := fun _ h => List.mem_cons_of_mem _ (List.mem_append_right _ h)
set_option maxRecDepth 20000 in
theorem ggX7_spread_X1_begin : GoodIn wsX7_spread wsX1_begin := goodIn_sub (gi_c (gu_wsX7_spread_2 _ gm_22) (gi_a (gi_c (gu_wsX7_spread_2 _ gm_23) (gi_c (gu_wsX7_spread_3 _ gm_0) (gi_c (gu_wsX7_spread_3 _ gm_1) (gi_c (gu_wsX7_spread_3 _ gm_2) (gi_c (gu_wsX7_spread_3 _ gm_3) (gi_c (gu_wsX7_spread_3 _ gm_4) (gi_c (gu_wsX7_spread_3 _ gm_5) (gi_c (gu_wsX7_spread_3 _ gm_6) (gi_c (gu_wsX7_spread_3 _ gm_7) (gi_c (gu_wsX7_spread_3 _ gm_8) (gi_c (gu_wsX7_spread_3 _ gm_9) (gi_c (gu_wsX7_spread_1 _ gm_9) (gi_c (gu_wsX7_spread_3 _ gm_10) gi_0))))))))))))) (gu_wsX7_spread_6))) (by decide +kernel)
set_option maxRecDepth 20000 in
theorem gX7_spread_X1_begin : GoodIn wsX7_spread (wsV RX7 94 RX1 yX1_begin wsX1_begin) := goodIn_app (goodIn_sub (gi_c (gu_wsX7_spread_2 _ gm_18) (gi_c (gu_wsX7_spread_2 _ gm_19) (gi_c (gu_wsX7_spread_2 _ gm_20) (gi_c (gu_wsX7_spread_2 _ gm_21) gi_0)))) (by decide +kernel)) ggX7_spread_X1_begin
set_option maxRecDepth 20000 in
theorem ggX7_spread_X7_noteIfSingle : GoodIn wsX7_spread wsX7_noteIfSingle := goodIn_sub (gi_c (gu_wsX7_spread_3 _ gm_14) (gi_a (gi_a (gi_c (gu_wsX7_spread_1 _ gm_0) (gi_c (gu_wsX7_spread_1 _ gm_6) (gi_c (gu_wsX7_spread_3 _ gm_15) (gi_c (gu_wsX7_spread_3 _ gm_16) (gi_c (gu_wsX7_spread_3 _ gm_17) (gi_c (gu_wsX7_spread_2 _ gm_21) (gi_c (gu_wsX7_spread_3 _ gm_18) (gi_c (gu_wsX7_spread_3 _ gm_6) (gi_c (gu_wsX7_spread_3 _ gm_7) (gi_c (gu_wsX7_spread_3 _ gm_19) (gi_c (gu_wsX7_spread_3 _ gm_20) (gi_c (gu_wsX7_spread_3 _ gm_21) (gi_c (gu_wsX7_spread_3 _ gm_22) (gi_c (gu_wsX7_spread_3 _ gm_23) gi_0)))))))))))))) (gu_wsX7_spread_4)) (gu_wsX7_spread_6))) (by decide +kernel)
set_option maxRecDepth 20000 in
theorem gX7_spread_X7_noteIfSingle : GoodIn wsX7_spread (wsV RX7 98 RX7 yX7_noteIfSingle wsX7_noteIfSingle) := goodIn_app (goodIn_sub (gi_c (gu_wsX7_spread_3 _ gm_11) (gi_c (gu_wsX7_spread_3 _ gm_12) (gi_c (gu_wsX7_spread_3 _ gm_13) (gi_c (gu_wsX7_spread_2 _ gm_16) gi_0)))) (by decide +kernel)) ggX7_spread_X7_noteIfSingle
theorem dX7_spread_0 : decode cX7_spread 0 = .ok (.aload_n 0, 1) := by decide +kernel
theorem dX7_spread_1 : decode cX7_spread 1 = .ok (.getfield 18, 3) := by decide +kernel
theorem dX7_spread_4 : decode cX7_spread 4 = .ok (.iconst 0, 1) := by decide +kernel
theorem dX7_spread_5 : decode cX7_spread 5 = .ok (.invokestatic 67, 3) := by decide +kernel
theorem dX7_spread_8 : decode cX7_spread 8 = .ok (.aload_n 0, 1) := by decide +kernel
theorem dX7_spread_9 : decode cX7_spread 9 = .ok (.getfield 21, 3) := by decide +kernel
theorem dX7_spread_12 : decode cX7_spread 12 = .ok (.iconst 0, 1) := by decide +kernel
theorem dX7_spread_13 : decode cX7_spread 13 = .ok (.invokestatic 67, 3) := by decide +kernel
theorem dX7_spread_16 : decode cX7_spread 16 = .ok (.iconst 0, 1) := by decide +kernel
theorem dX7_spread_17 : decode cX7_spread 17 = .ok (.istore_n 3, 1) := by decide +kernel
theorem dX7_spread_18 : decode cX7_spread 18 = .ok (.iload_n 3, 1) := by decide +kernel
theorem dX7_spread_19 : decode cX7_spread 19 = .ok (.aload_n 0, 1) := by decide +kernel
theorem dX7_spread_20 : decode cX7_spread 20 = .ok (.getfield 47, 3) := by decide +kernel
theorem dX7_spread_23 : decode cX7_spread 23 = .ok (.if_icmp .ge 94, 3) := by decide +kernel
theorem dX7_spread_26 : decode cX7_spread 26 = .ok (.aload_n 1, 1) := by decide +kernel
theorem dX7_spread_27 : decode cX7_spread 27 = .ok (.iload_n 3, 1) := by decide +kernel
theorem dX7_spread_28 : decode cX7_spread 28 = .ok (.invokevirtual 73, 3) := by decide +kernel
theorem dX7_spread_31 : decode cX7_spread 31 = .ok (.iload_n 2, 1) := by decide +kernel
theorem dX7_spread_32 : decode cX7_spread 32 = .ok (.invokestatic 77, 3) := by decide +kernel
theorem dX7_spread_35 : decode cX7_spread 35 = .ok (.lstore 4, 2) := by decide +kernel
theorem dX7_spread_37 : decode cX7_spread 37 = .ok (.aload_n 0, 1) := by decide +kernel
theorem dX7_spread_38 : decode cX7_spread 38 = .ok (.getfield 15, 3) := by decide +kernel
theorem dX7_spread_41 : decode cX7_spread 41 = .ok (.iload_n 3, 1) := by decide +kernel
theorem dX7_spread_42 : decode cX7_spread 42 = .ok (.lload 4, 2) := by decide +kernel
theorem dX7_spread_44 : decode cX7_spread 44 = .ok (.invokestatic 83, 3) := by decide +kernel
theorem dX7_spread_47 : decode cX7_spread 47 = .ok (.iastore, 1) := by decide +kernel
theorem dX7_spread_48 : decode cX7_spread 48 = .ok (.iconst 0, 1) := by decide +kernel
theorem dX7_spread_49 : decode cX7_spread 49 = .ok (.istore 6, 2) := by decide +kernel
theorem dX7_spread_51 : decode cX7_spread 51 = .ok (.iload 6, 2) := by decide +kernel
theorem dX7_spread_53 : decode cX7_spread 53 = .ok (.iconst 3, 1) := by decide +kernel
theorem dX7_spread_54 : decode cX7_spread 54 = .ok (.if_icmp .ge 57, 3) := by decide +kernel
theorem dX7_spread_57 : decode cX7_spread 57 = .ok (.lload 4, 2) := by decide +kernel
theorem dX7_spread_59 : decode cX7_spread 59 = .ok (.iload 6, 2) := by decide +kernel
theorem dX7_spread_61 : decode cX7_spread 61 = .ok (.aload_n 0, 1) := by decide +kernel
theorem dX7_spread_62 : decode cX7_spread 62 = .ok (.getfield 37, 3) := by decide +kernel
theorem dX7_spread_65 : decode cX7_spread 65 = .ok (.invokestatic 87, 3) := by decide +kernel
theorem dX7_spread_68 : decode cX7_spread 68 = .ok (.istore 7, 2) := by decide +kernel
theorem dX7_spread_70 : decode cX7_spread 70 = .ok (.aload_n 0, 1) := by decide +kernel
theorem dX7_spread_71 : decode cX7_spread 71 = .ok (.getfield 9, 3) := by decide +kernel
theorem dX7_spread_74 : decode cX7_spread 74 = .ok (.iconst 3, 1) := by decide +kernel
theorem dX7_spread_75 : decode cX7_spread 75 = .ok (.iload_n 3, 1) := by decide +kernel
theorem dX7_spread_76 : decode cX7_spread 76 = .ok (.imul, 1) := by decide +kernel
theorem dX7_spread_77 : decode cX7_spread 77 = .ok (.iload 6, 2) := by decide +kernel
theorem dX7_spread_79 : decode cX7_spread 79 = .ok (.iadd, 1) := by decide +kernel
theorem dX7_spread_80 : decode cX7_spread 80 = .ok (.iload 7, 2) := by decide +kernel
theorem dX7_spread_82 : decode cX7_spread 82 = .ok (.iastore, 1) := by decide +kernel
theorem dX7_spread_83 : decode cX7_spread 83 = .ok (.aload_n 0, 1) := by decide +kernel
theorem dX7_spread_84 : decode cX7_spread 84 = .ok (.getfield 18, 3) := by decide +kernel
theorem dX7_spread_87 : decode cX7_spread 87 = .ok (.iload 7, 2) := by decide +kernel
theorem dX7_spread_89 : decode cX7_spread 89 = .ok (.dup2, 1) := by decide +kernel
theorem dX7_spread_90 : decode cX7_spread 90 = .ok (.iaload, 1) := by decide +kernel
theorem dX7_spread_91 : decode cX7_spread 91 = .ok (.iconst 1, 1) := by decide +kernel
theorem dX7_spread_92 : decode cX7_spread 92 = .ok (.iadd, 1) := by decide +kernel
theorem dX7_spread_93 : decode cX7_spread 93 = .ok (.iastore, 1) := by decide +kernel
theorem dX7_spread_94 : decode cX7_spread 94 = .ok (.aload_n 0, 1) := by decide +kernel
theorem dX7_spread_95 : decode cX7_spread 95 = .ok (.getfield 21, 3) := by decide +kernel
theorem dX7_spread_98 : decode cX7_spread 98 = .ok (.iload 7, 2) := by decide +kernel
theorem dX7_spread_100 : decode cX7_spread 100 = .ok (.dup2, 1) := by decide +kernel
theorem dX7_spread_101 : decode cX7_spread 101 = .ok (.iaload, 1) := by decide +kernel
theorem dX7_spread_102 : decode cX7_spread 102 = .ok (.iload_n 3, 1) := by decide +kernel
theorem dX7_spread_103 : decode cX7_spread 103 = .ok (.ixor, 1) := by decide +kernel
theorem dX7_spread_104 : decode cX7_spread 104 = .ok (.iastore, 1) := by decide +kernel
theorem dX7_spread_105 : decode cX7_spread 105 = .ok (.iinc 6 1, 3) := by decide +kernel
theorem dX7_spread_108 : decode cX7_spread 108 = .ok (.goto (-57), 3) := by decide +kernel
theorem dX7_spread_111 : decode cX7_spread 111 = .ok (.iinc 3 1, 3) := by decide +kernel
theorem dX7_spread_114 : decode cX7_spread 114 = .ok (.goto (-96), 3) := by decide +kernel
theorem dX7_spread_117 : decode cX7_spread 117 = .ok (.aload_n 0, 1) := by decide +kernel
theorem dX7_spread_118 : decode cX7_spread 118 = .ok (.getfield 27, 3) := by decide +kernel
theorem dX7_spread_121 : decode cX7_spread 121 = .ok (.aload_n 0, 1) := by decide +kernel
theorem dX7_spread_122 : decode cX7_spread 122 = .ok (.invokevirtual 91, 3) := by decide +kernel
theorem dX7_spread_125 : decode cX7_spread 125 = .ok (.invokevirtual 94, 3) := by decide +kernel
theorem dX7_spread_128 : decode cX7_spread 128 = .ok (.iconst 0, 1) := by decide +kernel
theorem dX7_spread_129 : decode cX7_spread 129 = .ok (.istore_n 3, 1) := by decide +kernel
theorem dX7_spread_130 : decode cX7_spread 130 = .ok (.iload_n 3, 1) := by decide +kernel
theorem dX7_spread_131 : decode cX7_spread 131 = .ok (.aload_n 0, 1) := by decide +kernel
theorem dX7_spread_132 : decode cX7_spread 132 = .ok (.invokevirtual 91, 3) := by decide +kernel
theorem dX7_spread_135 : decode cX7_spread 135 = .ok (.if_icmp .ge 14, 3) := by decide +kernel
theorem dX7_spread_138 : decode cX7_spread 138 = .ok (.aload_n 0, 1) := by decide +kernel
theorem dX7_spread_139 : decode cX7_spread 139 = .ok (.iload_n 3, 1) := by decide +kernel
theorem dX7_spread_140 : decode cX7_spread 140 = .ok (.invokevirtual 98, 3) := by decide +kernel
theorem dX7_spread_143 : decode cX7_spread 143 = .ok (.iinc 3 1, 3) := by decide +kernel
theorem dX7_spread_146 : decode cX7_spread 146 = .ok (.goto (-16), 3) := by decide +kernel
theorem dX7_spread_149 : decode cX7_spread 149 = .ok (.return_, 1) := by decide +kernel
set_option maxRecDepth 20000 in
theorem gu_wsX7_takeAllOff_1 : ∀ w ∈ wsX7_takeAllOff_r1, w ∈ wsX7_takeAllOff := fun _ h => List.mem_cons_of_mem _ (List.mem_append_left _ (List.mem_append_left _ (List.mem_append_left _ h)))
set_option maxRecDepth 20000 in
theorem gu_wsX7_takeAllOff_4 : ∀ w ∈ wsX10, w ∈ wsX7_takeAllOff := fun _ h => List.mem_cons_of_mem _ (List.mem_append_right _ h)
set_option maxRecDepth 20000 in
theorem ggX7_takeAllOff_X1_least : GoodIn wsX7_takeAllOff wsX1_least := goodIn_sub (gi_c (gu_wsX7_takeAllOff_1 _ gm_9) (gi_a (gi_c (gu_wsX7_takeAllOff_1 _ gm_10) (gi_c (gu_wsX7_takeAllOff_1 _ gm_11) (gi_c (gu_wsX7_takeAllOff_1 _ gm_12) (gi_c (gu_wsX7_takeAllOff_1 _ gm_13) (gi_c (gu_wsX7_takeAllOff_1 _ gm_14) (gi_c (gu_wsX7_takeAllOff_1 _ gm_15) (gi_c (gu_wsX7_takeAllOff_1 _ gm_16) (gi_c (gu_wsX7_takeAllOff_1 _ gm_17) (gi_c (gu_wsX7_takeAllOff_1 _ gm_18) (gi_c (gu_wsX7_takeAllOff_1 _ gm_19) gi_0)))))))))) (gu_wsX7_takeAllOff_4))) (by decide +kernel)
set_option maxRecDepth 20000 in
theorem gX7_takeAllOff_X1_least : GoodIn wsX7_takeAllOff (wsV RX7 101 RX1 yX1_least wsX1_least) := goodIn_app (goodIn_sub (gi_c (gu_wsX7_takeAllOff_1 _ gm_5) (gi_c (gu_wsX7_takeAllOff_1 _ gm_6) (gi_c (gu_wsX7_takeAllOff_1 _ gm_7) (gi_c (gu_wsX7_takeAllOff_1 _ gm_8) gi_0)))) (by decide +kernel)) ggX7_takeAllOff_X1_least
set_option maxRecDepth 20000 in
theorem gu_wsX7_takeAllOff_2 : ∀ w ∈ wsX7_takeAllOff_r2, w ∈ wsX7_takeAllOff := fun _ h => List.mem_cons_of_mem _ (List.mem_append_left _ (List.mem_append_left _ (List.mem_append_right _ h)))
set_option maxRecDepth 20000 in
theorem gu_wsX7_takeAllOff_3 : ∀ w ∈ wsX70, w ∈ wsX7_takeAllOff := fun _ h => List.mem_cons_of_mem _ (List.mem_append_left _ (List.mem_append_right _ h))
set_option maxRecDepth 20000 in
theorem ggX7_takeAllOff_X7_takeOff : GoodIn wsX7_takeAllOff wsX7_takeOff := goodIn_sub (gi_c (gu_wsX7_takeAllOff_2 _ gm_0) (gi_a (gi_a (gi_c (gu_wsX7_takeAllOff_2 _ gm_1) (gi_c (gu_wsX7_takeAllOff_2 _ gm_2) (gi_c (gu_wsX7_takeAllOff_1 _ gm_3) (gi_c (gu_wsX7_takeAllOff_2 _ gm_3) (gi_c (gu_wsX7_takeAllOff_2 _ gm_4) (gi_c (gu_wsX7_takeAllOff_2 _ gm_5) (gi_c (gu_wsX7_takeAllOff_1 _ gm_23) (gi_c (gu_wsX7_takeAllOff_2 _ gm_6) (gi_c (gu_wsX7_takeAllOff_1 _ gm_1) (gi_c (gu_wsX7_takeAllOff_2 _ gm_7) (gi_c (gu_wsX7_takeAllOff_2 _ gm_8) (gi_c (gu_wsX7_takeAllOff_2 _ gm_9) (gi_c (gu_wsX7_takeAllOff_1 _ gm_8) (gi_c (gu_wsX7_takeAllOff_2 _ gm_10) (gi_c (gu_wsX7_takeAllOff_2 _ gm_11) (gi_c (gu_wsX7_takeAllOff_1 _ gm_10) (gi_c (gu_wsX7_takeAllOff_2 _ gm_12) (gi_c (gu_wsX7_takeAllOff_2 _ gm_13) (gi_c (gu_wsX7_takeAllOff_2 _ gm_14) (gi_c (gu_wsX7_takeAllOff_2 _ gm_15) (gi_c (gu_wsX7_takeAllOff_2 _ gm_16) gi_0))))))))))))))))))))) (gu_wsX7_takeAllOff_3)) (gu_wsX7_takeAllOff_4))) (by decide +kernel)
set_option maxRecDepth 20000 in
theorem gX7_takeAllOff_X7_takeOff : GoodIn wsX7_takeAllOff (wsV RX7 104 RX7 yX7_takeOff wsX7_takeOff) := goodIn_app (goodIn_sub (gi_c (gu_wsX7_takeAllOff_1 _ gm_20) (gi_c (gu_wsX7_takeAllOff_1 _ gm_21) (gi_c (gu_wsX7_takeAllOff_1 _ gm_22) (gi_c (gu_wsX7_takeAllOff_1 _ gm_23) gi_0)))) (by decide +kernel)) ggX7_takeAllOff_X7_takeOff
theorem dX7_takeAllOff_0 : decode cX7_takeAllOff 0 = .ok (.iconst 0, 1) := by decide +kernel
theorem dX7_takeAllOff_1 : decode cX7_takeAllOff 1 = .ok (.istore_n 1, 1) := by decide +kernel
theorem dX7_takeAllOff_2 : decode cX7_takeAllOff 2 = .ok (.iload_n 1, 1) := by decide +kernel
theorem dX7_takeAllOff_3 : decode cX7_takeAllOff 3 = .ok (.aload_n 0, 1) := by decide +kernel
theorem dX7_takeAllOff_4 : decode cX7_takeAllOff 4 = .ok (.getfield 47, 3) := by decide +kernel
theorem dX7_takeAllOff_7 : decode cX7_takeAllOff 7 = .ok (.if_icmp .ge 52, 3) := by decide +kernel
theorem dX7_takeAllOff_10 : decode cX7_takeAllOff 10 = .ok (.aload_n 0, 1) := by decide +kernel
theorem dX7_takeAllOff_11 : decode cX7_takeAllOff 11 = .ok (.getfield 27, 3) := by decide +kernel
theorem dX7_takeAllOff_14 : decode cX7_takeAllOff 14 = .ok (.invokevirtual 101, 3) := by decide +kernel
theorem dX7_takeAllOff_17 : decode cX7_takeAllOff 17 = .ok (.istore_n 2, 1) := by decide +kernel
theorem dX7_takeAllOff_18 : decode cX7_takeAllOff 18 = .ok (.iload_n 2, 1) := by decide +kernel
theorem dX7_takeAllOff_19 : decode cX7_takeAllOff 19 = .ok (.ifCond .ge 5, 3) := by decide +kernel
theorem dX7_takeAllOff_22 : decode cX7_takeAllOff 22 = .ok (.iconst 0, 1) := by decide +kernel
theorem dX7_takeAllOff_23 : decode cX7_takeAllOff 23 = .ok (.ireturn, 1) := by decide +kernel
theorem dX7_takeAllOff_24 : decode cX7_takeAllOff 24 = .ok (.aload_n 0, 1) := by decide +kernel
theorem dX7_takeAllOff_25 : decode cX7_takeAllOff 25 = .ok (.getfield 31, 3) := by decide +kernel
theorem dX7_takeAllOff_28 : decode cX7_takeAllOff 28 = .ok (.iload_n 1, 1) := by decide +kernel
theorem dX7_takeAllOff_29 : decode cX7_takeAllOff 29 = .ok (.aload_n 0, 1) := by decide +kernel
theorem dX7_takeAllOff_30 : decode cX7_takeAllOff 30 = .ok (.getfield 21, 3) := by decide +kernel
theorem dX7_takeAllOff_33 : decode cX7_takeAllOff 33 = .ok (.iload_n 2, 1) := by decide +kernel
theorem dX7_takeAllOff_34 : decode cX7_takeAllOff 34 = .ok (.iaload, 1) := by decide +kernel
theorem dX7_takeAllOff_35 : decode cX7_takeAllOff 35 = .ok (.iastore, 1) := by decide +kernel
theorem dX7_takeAllOff_36 : decode cX7_takeAllOff 36 = .ok (.aload_n 0, 1) := by decide +kernel
theorem dX7_takeAllOff_37 : decode cX7_takeAllOff 37 = .ok (.getfield 34, 3) := by decide +kernel
theorem dX7_takeAllOff_40 : decode cX7_takeAllOff 40 = .ok (.iload_n 1, 1) := by decide +kernel
theorem dX7_takeAllOff_41 : decode cX7_takeAllOff 41 = .ok (.iload_n 2, 1) := by decide +kernel
theorem dX7_takeAllOff_42 : decode cX7_takeAllOff 42 = .ok (.iastore, 1) := by decide +kernel
theorem dX7_takeAllOff_43 : decode cX7_takeAllOff 43 = .ok (.aload_n 0, 1) := by decide +kernel
theorem dX7_takeAllOff_44 : decode cX7_takeAllOff 44 = .ok (.aload_n 0, 1) := by decide +kernel
theorem dX7_takeAllOff_45 : decode cX7_takeAllOff 45 = .ok (.getfield 21, 3) := by decide +kernel
theorem dX7_takeAllOff_48 : decode cX7_takeAllOff 48 = .ok (.iload_n 2, 1) := by decide +kernel
theorem dX7_takeAllOff_49 : decode cX7_takeAllOff 49 = .ok (.iaload, 1) := by decide +kernel
theorem dX7_takeAllOff_50 : decode cX7_takeAllOff 50 = .ok (.invokevirtual 104, 3) := by decide +kernel
theorem dX7_takeAllOff_53 : decode cX7_takeAllOff 53 = .ok (.iinc 1 1, 3) := by decide +kernel
theorem dX7_takeAllOff_56 : decode cX7_takeAllOff 56 = .ok (.goto (-54), 3) := by decide +kernel
theorem dX7_takeAllOff_59 : decode cX7_takeAllOff 59 = .ok (.iconst 1, 1) := by decide +kernel
theorem dX7_takeAllOff_60 : decode cX7_takeAllOff 60 = .ok (.ireturn, 1) := by decide +kernel
set_option maxRecDepth 20000 in
theorem gu_wsX7_takeOff_1 : ∀ w ∈ ([Cond.fieldLink RX7 9 "SieveCabinet$Solver" "placeOf" "[I", Cond.fieldLink RX7 18 "SieveCabinet$Solver" "left" "[I", Cond.fieldLink RX7 21 "SieveCabinet$Solver" "blend" "[I", Cond.methodLink RX7 98 yX7_noteIfSingle, Cond.instanceMethod yX7_noteIfSingle, Cond.selects RX7 yX7_noteIfSingle yX7_noteIfSingle, Cond.initialized RX7, Cond.code yX7_noteIfSingle cX7_noteIfSingle 2 none, Cond.fieldLink RX7 27 "SieveCabinet$Solver" "singles" "LSieveCabinet$BitRow;", Cond.methodLink RX7 107 yX1_set, Cond.instanceMethod yX1_set, Cond.selects RX1 yX1_set yX1_set, Cond.initialized RX1, Cond.code yX1_set cX1_set 2 none, Cond.fieldLink RX1 24 "SieveCabinet$BitRow" "size" "I", Cond.fieldLink RX1 9 "SieveCabinet$BitRow" "words" "[J", Cond.methodLink RX7 110 yX1_clear, Cond.instanceMethod yX1_clear, Cond.selects RX1 yX1_clear yX1_clear, Cond.code yX1_clear cX1_clear 2 none, Cond.constantLong RX1 34 (-1)] : List Cond), w ∈ wsX7_takeOff := fun _ h => List.mem_cons_of_mem _ (List.mem_append_left _ (List.mem_append_left _ h))
set_option maxRecDepth 20000 in
theorem gu_wsX7_takeOff_2 : ∀ w ∈ wsX70, w ∈ wsX7_takeOff := fun _ h => List.mem_cons_of_mem _ (List.mem_append_left _ (List.mem_append_right _ h))
set_option maxRecDepth 20000 in
theorem gu_wsX7_takeOff_3 : ∀ w ∈ wsX10, w ∈ wsX7_takeOff := fun _ h => List.mem_cons_of_mem _ (List.mem_append_right _ h)
set_option maxRecDepth 20000 in
theorem ggX7_takeOff_X7_noteIfSingle : GoodIn wsX7_takeOff wsX7_noteIfSingle := goodIn_sub (gi_c (gu_wsX7_takeOff_1 _ gm_7) (gi_a (gi_a (gi_c (gu_wsX7_takeOff_1 _ gm_1) (gi_c (gu_wsX7_takeOff_1 _ gm_8) (gi_c (gu_wsX7_takeOff_1 _ gm_9) (gi_c (gu_wsX7_takeOff_1 _ gm_10) (gi_c (gu_wsX7_takeOff_1 _ gm_11) (gi_c (gu_wsX7_takeOff_1 _ gm_12) (gi_c (gu_wsX7_takeOff_1 _ gm_13) (gi_c (gu_wsX7_takeOff_1 _ gm_14) (gi_c (gu_wsX7_takeOff_1 _ gm_15) (gi_c (gu_wsX7_takeOff_1 _ gm_16) (gi_c (gu_wsX7_takeOff_1 _ gm_17) (gi_c (gu_wsX7_takeOff_1 _ gm_18) (gi_c (gu_wsX7_takeOff_1 _ gm_19) (gi_c (gu_wsX7_takeOff_1 _ gm_20) gi_0)))))))))))))) (gu_wsX7_takeOff_2)) (gu_wsX7_takeOff_3))) (by decide +kernel)
set_option maxRecDepth 20000 in
theorem gX7_takeOff_X7_noteIfSingle : GoodIn wsX7_takeOff (wsV RX7 98 RX7 yX7_noteIfSingle wsX7_noteIfSingle) := goodIn_app (goodIn_sub (gi_c (gu_wsX7_takeOff_1 _ gm_3) (gi_c (gu_wsX7_takeOff_1 _ gm_4) (gi_c (gu_wsX7_takeOff_1 _ gm_5) (gi_c (gu_wsX7_takeOff_1 _ gm_6) gi_0)))) (by decide +kernel)) ggX7_takeOff_X7_noteIfSingle
theorem dX7_takeOff_0 : decode cX7_takeOff 0 = .ok (.iconst 0, 1) := by decide +kernel
theorem dX7_takeOff_1 : decode cX7_takeOff 1 = .ok (.istore_n 2, 1) := by decide +kernel
theorem dX7_takeOff_2 : decode cX7_takeOff 2 = .ok (.iload_n 2, 1) := by decide +kernel
theorem dX7_takeOff_3 : decode cX7_takeOff 3 = .ok (.iconst 3, 1) := by decide +kernel
theorem dX7_takeOff_4 : decode cX7_takeOff 4 = .ok (.if_icmp .ge 45, 3) := by decide +kernel
theorem dX7_takeOff_7 : decode cX7_takeOff 7 = .ok (.aload_n 0, 1) := by decide +kernel
theorem dX7_takeOff_8 : decode cX7_takeOff 8 = .ok (.getfield 9, 3) := by decide +kernel
theorem dX7_takeOff_11 : decode cX7_takeOff 11 = .ok (.iconst 3, 1) := by decide +kernel
theorem dX7_takeOff_12 : decode cX7_takeOff 12 = .ok (.iload_n 1, 1) := by decide +kernel
theorem dX7_takeOff_13 : decode cX7_takeOff 13 = .ok (.imul, 1) := by decide +kernel
theorem dX7_takeOff_14 : decode cX7_takeOff 14 = .ok (.iload_n 2, 1) := by decide +kernel
theorem dX7_takeOff_15 : decode cX7_takeOff 15 = .ok (.iadd, 1) := by decide +kernel
theorem dX7_takeOff_16 : decode cX7_takeOff 16 = .ok (.iaload, 1) := by decide +kernel
theorem dX7_takeOff_17 : decode cX7_takeOff 17 = .ok (.istore_n 3, 1) := by decide +kernel
theorem dX7_takeOff_18 : decode cX7_takeOff 18 = .ok (.aload_n 0, 1) := by decide +kernel
theorem dX7_takeOff_19 : decode cX7_takeOff 19 = .ok (.getfield 18, 3) := by decide +kernel
theorem dX7_takeOff_22 : decode cX7_takeOff 22 = .ok (.iload_n 3, 1) := by decide +kernel
theorem dX7_takeOff_23 : decode cX7_takeOff 23 = .ok (.dup2, 1) := by decide +kernel
theorem dX7_takeOff_24 : decode cX7_takeOff 24 = .ok (.iaload, 1) := by decide +kernel
theorem dX7_takeOff_25 : decode cX7_takeOff 25 = .ok (.iconst 1, 1) := by decide +kernel
theorem dX7_takeOff_26 : decode cX7_takeOff 26 = .ok (.isub, 1) := by decide +kernel
theorem dX7_takeOff_27 : decode cX7_takeOff 27 = .ok (.iastore, 1) := by decide +kernel
theorem dX7_takeOff_28 : decode cX7_takeOff 28 = .ok (.aload_n 0, 1) := by decide +kernel
theorem dX7_takeOff_29 : decode cX7_takeOff 29 = .ok (.getfield 21, 3) := by decide +kernel
theorem dX7_takeOff_32 : decode cX7_takeOff 32 = .ok (.iload_n 3, 1) := by decide +kernel
theorem dX7_takeOff_33 : decode cX7_takeOff 33 = .ok (.dup2, 1) := by decide +kernel
theorem dX7_takeOff_34 : decode cX7_takeOff 34 = .ok (.iaload, 1) := by decide +kernel
theorem dX7_takeOff_35 : decode cX7_takeOff 35 = .ok (.iload_n 1, 1) := by decide +kernel
theorem dX7_takeOff_36 : decode cX7_takeOff 36 = .ok (.ixor, 1) := by decide +kernel
theorem dX7_takeOff_37 : decode cX7_takeOff 37 = .ok (.iastore, 1) := by decide +kernel
theorem dX7_takeOff_38 : decode cX7_takeOff 38 = .ok (.aload_n 0, 1) := by decide +kernel
theorem dX7_takeOff_39 : decode cX7_takeOff 39 = .ok (.iload_n 3, 1) := by decide +kernel
theorem dX7_takeOff_40 : decode cX7_takeOff 40 = .ok (.invokevirtual 98, 3) := by decide +kernel
theorem dX7_takeOff_43 : decode cX7_takeOff 43 = .ok (.iinc 2 1, 3) := by decide +kernel
theorem dX7_takeOff_46 : decode cX7_takeOff 46 = .ok (.goto (-44), 3) := by decide +kernel
theorem dX7_takeOff_49 : decode cX7_takeOff 49 = .ok (.return_, 1) := by decide +kernel
set_option maxRecDepth 20000 in
theorem gu_wsX7_noteIfSingle_1 : ∀ w ∈ ([Cond.fieldLink RX7 18 "SieveCabinet$Solver" "left" "[I", Cond.fieldLink RX7 27 "SieveCabinet$Solver" "singles" "LSieveCabinet$BitRow;", Cond.methodLink RX7 107 yX1_set, Cond.instanceMethod yX1_set, Cond.selects RX1 yX1_set yX1_set, Cond.initialized RX1, Cond.code yX1_set cX1_set 2 none, Cond.fieldLink RX1 24 "SieveCabinet$BitRow" "size" "I", Cond.fieldLink RX1 9 "SieveCabinet$BitRow" "words" "[J", Cond.methodLink RX7 110 yX1_clear, Cond.instanceMethod yX1_clear, Cond.selects RX1 yX1_clear yX1_clear, Cond.code yX1_clear cX1_clear 2 none, Cond.constantLong RX1 34 (-1)] : List Cond), w ∈ wsX7_noteIfSingle := fun _ h => List.mem_cons_of_mem _ (List.mem_append_left _ (List.mem_append_left _ h))
set_option maxRecDepth 20000 in
theorem gu_wsX7_noteIfSingle_3 : ∀ w ∈ wsX10, w ∈ wsX7_noteIfSingle := fun _ h => List.mem_cons_of_mem _ (List.mem_append_right _ h)
set_option maxRecDepth 20000 in
theorem ggX7_noteIfSingle_X1_set : GoodIn wsX7_noteIfSingle wsX1_set := goodIn_sub (gi_c (gu_wsX7_noteIfSingle_1 _ gm_6) (gi_a (gi_c (gu_wsX7_noteIfSingle_1 _ gm_7) (gi_c (gu_wsX7_noteIfSingle_1 _ gm_8) gi_0)) (gu_wsX7_noteIfSingle_3))) (by decide +kernel)
set_option maxRecDepth 20000 in
theorem gX7_noteIfSingle_X1_set : GoodIn wsX7_noteIfSingle (wsV RX7 107 RX1 yX1_set wsX1_set) := goodIn_app (goodIn_sub (gi_c (gu_wsX7_noteIfSingle_1 _ gm_2) (gi_c (gu_wsX7_noteIfSingle_1 _ gm_3) (gi_c (gu_wsX7_noteIfSingle_1 _ gm_4) (gi_c (gu_wsX7_noteIfSingle_1 _ gm_5) gi_0)))) (by decide +kernel)) ggX7_noteIfSingle_X1_set
set_option maxRecDepth 20000 in
theorem ggX7_noteIfSingle_X1_clear : GoodIn wsX7_noteIfSingle wsX1_clear := goodIn_sub (gi_c (gu_wsX7_noteIfSingle_1 _ gm_12) (gi_a (gi_c (gu_wsX7_noteIfSingle_1 _ gm_7) (gi_c (gu_wsX7_noteIfSingle_1 _ gm_8) (gi_c (gu_wsX7_noteIfSingle_1 _ gm_13) gi_0))) (gu_wsX7_noteIfSingle_3))) (by decide +kernel)
set_option maxRecDepth 20000 in
theorem gX7_noteIfSingle_X1_clear : GoodIn wsX7_noteIfSingle (wsV RX7 110 RX1 yX1_clear wsX1_clear) := goodIn_app (goodIn_sub (gi_c (gu_wsX7_noteIfSingle_1 _ gm_9) (gi_c (gu_wsX7_noteIfSingle_1 _ gm_10) (gi_c (gu_wsX7_noteIfSingle_1 _ gm_11) (gi_c (gu_wsX7_noteIfSingle_1 _ gm_5) gi_0)))) (by decide +kernel)) ggX7_noteIfSingle_X1_clear
theorem dX7_noteIfSingle_0 : decode cX7_noteIfSingle 0 = .ok (.aload_n 0, 1) := by decide +kernel
theorem dX7_noteIfSingle_1 : decode cX7_noteIfSingle 1 = .ok (.getfield 18, 3) := by decide +kernel
theorem dX7_noteIfSingle_4 : decode cX7_noteIfSingle 4 = .ok (.iload_n 1, 1) := by decide +kernel
theorem dX7_noteIfSingle_5 : decode cX7_noteIfSingle 5 = .ok (.iaload, 1) := by decide +kernel
theorem dX7_noteIfSingle_6 : decode cX7_noteIfSingle 6 = .ok (.iconst 1, 1) := by decide +kernel
theorem dX7_noteIfSingle_7 : decode cX7_noteIfSingle 7 = .ok (.if_icmp .ne 14, 3) := by decide +kernel
theorem dX7_noteIfSingle_10 : decode cX7_noteIfSingle 10 = .ok (.aload_n 0, 1) := by decide +kernel
theorem dX7_noteIfSingle_11 : decode cX7_noteIfSingle 11 = .ok (.getfield 27, 3) := by decide +kernel
theorem dX7_noteIfSingle_14 : decode cX7_noteIfSingle 14 = .ok (.iload_n 1, 1) := by decide +kernel
theorem dX7_noteIfSingle_15 : decode cX7_noteIfSingle 15 = .ok (.invokevirtual 107, 3) := by decide +kernel
theorem dX7_noteIfSingle_18 : decode cX7_noteIfSingle 18 = .ok (.goto 11, 3) := by decide +kernel
theorem dX7_noteIfSingle_21 : decode cX7_noteIfSingle 21 = .ok (.aload_n 0, 1) := by decide +kernel
theorem dX7_noteIfSingle_22 : decode cX7_noteIfSingle 22 = .ok (.getfield 27, 3) := by decide +kernel
theorem dX7_noteIfSingle_25 : decode cX7_noteIfSingle 25 = .ok (.iload_n 1, 1) := by decide +kernel
theorem dX7_noteIfSingle_26 : decode cX7_noteIfSingle 26 = .ok (.invokevirtual 110, 3) := by decide +kernel
theorem dX7_noteIfSingle_29 : decode cX7_noteIfSingle 29 = .ok (.return_, 1) := by decide +kernel
set_option maxRecDepth 20000 in
theorem gu_wsX8_init_2 : ∀ w ∈ wsX8_init_r2, w ∈ wsX8_init := fun _ h => List.mem_cons_of_mem _ (List.mem_append_left _ (List.mem_append_left _ (List.mem_append_left _ (List.mem_append_left _ (List.mem_append_left _ (List.mem_append_right _ (List.mem_append_left _ h)))))))
set_option maxRecDepth 20000 in
theorem gu_wsX8_init_1 : ∀ w ∈ wsX8_init_r1, w ∈ wsX8_init := fun _ h => List.mem_cons_of_mem _ (List.mem_append_left _ (List.mem_append_left _ (List.mem_append_left _ (List.mem_append_left _ (List.mem_append_left _ (List.mem_append_left _ h))))))
set_option maxRecDepth 20000 in
theorem gu_wsX8_init_5 : ∀ w ∈ wsX00, w ∈ wsX8_init := fun _ h => List.mem_cons_of_mem _ (List.mem_append_left _ (List.mem_append_left _ (List.mem_append_left _ (List.mem_append_right _ h))))
set_option maxRecDepth 20000 in
theorem ggX8_init_X0_init : GoodIn wsX8_init wsX0_init := goodIn_sub (gi_c (gu_wsX8_init_1 _ gm_21) (gi_a (gi_c (gu_wsX8_init_1 _ gm_22) (gi_c (gu_wsX8_init_1 _ gm_1) (gi_c (gu_wsX8_init_1 _ gm_2) (gi_c (gu_wsX8_init_1 _ gm_23) (gi_c (gu_wsX8_init_2 _ gm_0) gi_0))))) (gu_wsX8_init_5))) (by decide +kernel)
set_option maxRecDepth 20000 in
theorem gX8_init_X0_init_n21 : GoodIn wsX8_init (wsX0_init) := ggX8_init_X0_init
set_option maxRecDepth 20000 in
theorem gu_wsX8_init_6 : ∀ w ∈ wsX70, w ∈ wsX8_init := fun _ h => List.mem_cons_of_mem _ (List.mem_append_left _ (List.mem_append_left _ (List.mem_append_right _ h)))
set_option maxRecDepth 20000 in
theorem gu_wsX8_init_8 : ∀ w ∈ wsX10, w ∈ wsX8_init := fun _ h => List.mem_cons_of_mem _ (List.mem_append_right _ h)
set_option maxRecDepth 20000 in
theorem ggX8_init_X7_init : GoodIn wsX8_init wsX7_init := goodIn_sub (gi_c (gu_wsX8_init_2 _ gm_2) (gi_a (gi_a (gi_c (gu_wsX8_init_2 _ gm_3) (gi_c (gu_wsX8_init_1 _ gm_1) (gi_c (gu_wsX8_init_1 _ gm_2) (gi_c (gu_wsX8_init_2 _ gm_4) (gi_c (gu_wsX8_init_2 _ gm_5) (gi_c (gu_wsX8_init_2 _ gm_6) (gi_c (gu_wsX8_init_2 _ gm_7) (gi_c (gu_wsX8_init_2 _ gm_8) (gi_c (gu_wsX8_init_2 _ gm_9) (gi_c (gu_wsX8_init_2 _ gm_10) (gi_c (gu_wsX8_init_2 _ gm_11) (gi_c (gu_wsX8_init_2 _ gm_12) (gi_c (gu_wsX8_init_2 _ gm_13) (gi_c (gu_wsX8_init_2 _ gm_14) (gi_c (gu_wsX8_init_2 _ gm_15) (gi_c (gu_wsX8_init_2 _ gm_16) (gi_c (gu_wsX8_init_2 _ gm_17) (gi_c (gu_wsX8_init_1 _ gm_23) (gi_c (gu_wsX8_init_2 _ gm_18) gi_0))))))))))))))))))) (gu_wsX8_init_6)) (gu_wsX8_init_8))) (by decide +kernel)
set_option maxRecDepth 20000 in
theorem gX8_init_X7_init_n34 : GoodIn wsX8_init (wsX7_init) := ggX8_init_X7_init
set_option maxRecDepth 20000 in
theorem gu_wsX8_init_3 : ∀ w ∈ wsX8_init_r3, w ∈ wsX8_init := fun _ h => List.mem_cons_of_mem _ (List.mem_append_left _ (List.mem_append_left _ (List.mem_append_left _ (List.mem_append_left _ (List.mem_append_left _ (List.mem_append_right _ (List.mem_append_right _ h)))))))
set_option maxRecDepth 20000 in
theorem gu_wsX8_init_7 : ∀ w ∈ wsX20, w ∈ wsX8_init := fun _ h => List.mem_cons_of_mem _ (List.mem_append_left _ (List.mem_append_right _ h))
set_option maxRecDepth 20000 in
theorem ggX8_init_X2_init : GoodIn wsX8_init wsX2_init := goodIn_sub (gi_c (gu_wsX8_init_2 _ gm_20) (gi_a (gi_a (gi_c (gu_wsX8_init_2 _ gm_21) (gi_c (gu_wsX8_init_1 _ gm_1) (gi_c (gu_wsX8_init_1 _ gm_2) (gi_c (gu_wsX8_init_1 _ gm_23) (gi_c (gu_wsX8_init_2 _ gm_22) (gi_c (gu_wsX8_init_2 _ gm_23) (gi_c (gu_wsX8_init_3 _ gm_0) (gi_c (gu_wsX8_init_2 _ gm_10) (gi_c (gu_wsX8_init_2 _ gm_11) (gi_c (gu_wsX8_init_3 _ gm_1) (gi_c (gu_wsX8_init_2 _ gm_15) (gi_c (gu_wsX8_init_2 _ gm_16) (gi_c (gu_wsX8_init_2 _ gm_17) (gi_c (gu_wsX8_init_2 _ gm_18) gi_0)))))))))))))) (gu_wsX8_init_7)) (gu_wsX8_init_8))) (by decide +kernel)
set_option maxRecDepth 20000 in
theorem gX8_init_X2_init_n41 : GoodIn wsX8_init (wsX2_init) := ggX8_init_X2_init
