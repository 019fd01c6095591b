theorem dX0_init_0 : decode cX0_init 0 = .ok (.aload_n 0, 1) := by decide +kernel
theorem dX0_init_1 : decode cX0_init 1 = .ok (.invokespecial 3, 3) := by decide +kernel
theorem dX0_init_4 : decode cX0_init 4 = .ok (.aload_n 0, 1) := by decide +kernel
theorem dX0_init_5 : decode cX0_init 5 = .ok (.sipush 1000, 3) := by decide +kernel
theorem dX0_init_8 : decode cX0_init 8 = .ok (.newarray .long, 2) := by decide +kernel
theorem dX0_init_10 : decode cX0_init 10 = .ok (.putfield 9, 3) := by decide +kernel
theorem dX0_init_13 : decode cX0_init 13 = .ok (.return_, 1) := by decide +kernel
theorem dX0_count_0 : decode cX0_count 0 = .ok (.aload_n 0, 1) := by decide +kernel
theorem dX0_count_1 : decode cX0_count 1 = .ok (.getfield 15, 3) := by decide +kernel
theorem dX0_count_4 : decode cX0_count 4 = .ok (.ireturn, 1) := by decide +kernel
theorem dX0_at_0 : decode cX0_at 0 = .ok (.iload_n 1, 1) := by decide +kernel
theorem dX0_at_1 : decode cX0_at 1 = .ok (.ifCond .lt 20, 3) := by decide +kernel
theorem dX0_at_4 : decode cX0_at 4 = .ok (.iload_n 1, 1) := by decide +kernel
theorem dX0_at_5 : decode cX0_at 5 = .ok (.aload_n 0, 1) := by decide +kernel
theorem dX0_at_6 : decode cX0_at 6 = .ok (.getfield 15, 3) := by decide +kernel
theorem dX0_at_9 : decode cX0_at 9 = .ok (.if_icmp .ge 12, 3) := by decide +kernel
theorem dX0_at_12 : decode cX0_at 12 = .ok (.aload_n 0, 1) := by decide +kernel
theorem dX0_at_13 : decode cX0_at 13 = .ok (.getfield 9, 3) := by decide +kernel
theorem dX0_at_16 : decode cX0_at 16 = .ok (.iload_n 1, 1) := by decide +kernel
theorem dX0_at_17 : decode cX0_at 17 = .ok (.laload, 1) := by decide +kernel
theorem dX0_at_18 : decode cX0_at 18 = .ok (.goto 4, 3) := by decide +kernel
theorem dX0_at_21 : decode cX0_at 21 = .ok (.lconst 0, 1) := by decide +kernel
theorem dX0_at_22 : decode cX0_at 22 = .ok (.lreturn, 1) := by decide +kernel
set_option maxRecDepth 20000 in
theorem gu_wsX0_has_1 : ∀ w ∈ ([Cond.fieldLink RX0 15 "SieveCabinet$Bag" "count" "I", Cond.fieldLink RX0 9 "SieveCabinet$Bag" "row" "[J", Cond.methodLink RX0 19 yX0_countBelow, Cond.instanceMethod yX0_countBelow, Cond.selects RX0 yX0_countBelow yX0_countBelow, Cond.initialized RX0, Cond.code yX0_countBelow cX0_countBelow 6 (some .int)] : List Cond), w ∈ wsX0_has := fun _ h => List.mem_cons_of_mem _ (List.mem_append_left _ h)
set_option maxRecDepth 20000 in
theorem gu_wsX0_has_2 : ∀ w ∈ wsX00, w ∈ wsX0_has := fun _ h => List.mem_cons_of_mem _ (List.mem_append_right _ h)
set_option maxRecDepth 20000 in
theorem ggX0_has_X0_countBelow : GoodIn wsX0_has wsX0_countBelow := goodIn_sub (gi_c (gu_wsX0_has_1 _ gm_6) (gi_a (gi_c (gu_wsX0_has_1 _ gm_0) (gi_c (gu_wsX0_has_1 _ gm_1) gi_0)) (gu_wsX0_has_2))) (by decide +kernel)
set_option maxRecDepth 20000 in
theorem gX0_has_X0_countBelow : GoodIn wsX0_has (wsV RX0 19 RX0 yX0_countBelow wsX0_countBelow) := goodIn_app (goodIn_sub (gi_c (gu_wsX0_has_1 _ gm_2) (gi_c (gu_wsX0_has_1 _ gm_3) (gi_c (gu_wsX0_has_1 _ gm_4) (gi_c (gu_wsX0_has_1 _ gm_5) gi_0)))) (by decide +kernel)) ggX0_has_X0_countBelow
theorem dX0_has_0 : decode cX0_has 0 = .ok (.aload_n 0, 1) := by decide +kernel
theorem dX0_has_1 : decode cX0_has 1 = .ok (.lload_n 1, 1) := by decide +kernel
theorem dX0_has_2 : decode cX0_has 2 = .ok (.invokevirtual 19, 3) := by decide +kernel
theorem dX0_has_5 : decode cX0_has 5 = .ok (.istore_n 3, 1) := by decide +kernel
theorem dX0_has_6 : decode cX0_has 6 = .ok (.iload_n 3, 1) := by decide +kernel
theorem dX0_has_7 : decode cX0_has 7 = .ok (.aload_n 0, 1) := by decide +kernel
theorem dX0_has_8 : decode cX0_has 8 = .ok (.getfield 15, 3) := by decide +kernel
theorem dX0_has_11 : decode cX0_has 11 = .ok (.if_icmp .ge 18, 3) := by decide +kernel
theorem dX0_has_14 : decode cX0_has 14 = .ok (.aload_n 0, 1) := by decide +kernel
theorem dX0_has_15 : decode cX0_has 15 = .ok (.getfield 9, 3) := by decide +kernel
theorem dX0_has_18 : decode cX0_has 18 = .ok (.iload_n 3, 1) := by decide +kernel
theorem dX0_has_19 : decode cX0_has 19 = .ok (.laload, 1) := by decide +kernel
theorem dX0_has_20 : decode cX0_has 20 = .ok (.lload_n 1, 1) := by decide +kernel
theorem dX0_has_21 : decode cX0_has 21 = .ok (.lcmp, 1) := by decide +kernel
theorem dX0_has_22 : decode cX0_has 22 = .ok (.ifCond .ne 7, 3) := by decide +kernel
theorem dX0_has_25 : decode cX0_has 25 = .ok (.iconst 1, 1) := by decide +kernel
theorem dX0_has_26 : decode cX0_has 26 = .ok (.goto 4, 3) := by decide +kernel
theorem dX0_has_29 : decode cX0_has 29 = .ok (.iconst 0, 1) := by decide +kernel
theorem dX0_has_30 : decode cX0_has 30 = .ok (.ireturn, 1) := by decide +kernel
theorem dX0_isFull_0 : decode cX0_isFull 0 = .ok (.aload_n 0, 1) := by decide +kernel
theorem dX0_isFull_1 : decode cX0_isFull 1 = .ok (.getfield 15, 3) := by decide +kernel
theorem dX0_isFull_4 : decode cX0_isFull 4 = .ok (.sipush 1000, 3) := by decide +kernel
theorem dX0_isFull_7 : decode cX0_isFull 7 = .ok (.if_icmp .lt 7, 3) := by decide +kernel
theorem dX0_isFull_10 : decode cX0_isFull 10 = .ok (.iconst 1, 1) := by decide +kernel
theorem dX0_isFull_11 : decode cX0_isFull 11 = .ok (.goto 4, 3) := by decide +kernel
theorem dX0_isFull_14 : decode cX0_isFull 14 = .ok (.iconst 0, 1) := by decide +kernel
theorem dX0_isFull_15 : decode cX0_isFull 15 = .ok (.ireturn, 1) := by decide +kernel
theorem dX0_empty_0 : decode cX0_empty 0 = .ok (.aload_n 0, 1) := by decide +kernel
theorem dX0_empty_1 : decode cX0_empty 1 = .ok (.iconst 0, 1) := by decide +kernel
theorem dX0_empty_2 : decode cX0_empty 2 = .ok (.putfield 15, 3) := by decide +kernel
theorem dX0_empty_5 : decode cX0_empty 5 = .ok (.return_, 1) := by decide +kernel
set_option maxRecDepth 20000 in
theorem gu_wsX0_insert_1 : ∀ w ∈ ([Cond.fieldLink RX0 9 "SieveCabinet$Bag" "row" "[J", Cond.fieldLink RX0 15 "SieveCabinet$Bag" "count" "I", Cond.methodLink RX0 27 arraycopyName, Cond.native arraycopyName, Cond.static arraycopyName, Cond.initialized "java/lang/System", Cond.methodLink RX0 23 yX0_isFull, Cond.instanceMethod yX0_isFull, Cond.selects RX0 yX0_isFull yX0_isFull, Cond.initialized RX0, Cond.code yX0_isFull cX0_isFull 1 (some .boolean), Cond.methodLink RX0 19 yX0_countBelow, Cond.instanceMethod yX0_countBelow, Cond.selects RX0 yX0_countBelow yX0_countBelow, Cond.code yX0_countBelow cX0_countBelow 6 (some .int)] : List Cond), w ∈ wsX0_insert := fun _ h => List.mem_cons_of_mem _ (List.mem_append_left _ h)
set_option maxRecDepth 20000 in
theorem gu_wsX0_insert_2 : ∀ w ∈ wsX00, w ∈ wsX0_insert := fun _ h => List.mem_cons_of_mem _ (List.mem_append_right _ h)
set_option maxRecDepth 20000 in
theorem ggX0_insert_X0_isFull : GoodIn wsX0_insert wsX0_isFull := goodIn_sub (gi_c (gu_wsX0_insert_1 _ gm_10) (gi_a (gi_c (gu_wsX0_insert_1 _ gm_1) gi_0) (gu_wsX0_insert_2))) (by decide +kernel)
set_option maxRecDepth 20000 in
theorem gX0_insert_X0_isFull : GoodIn wsX0_insert (wsV RX0 23 RX0 yX0_isFull wsX0_isFull) := goodIn_app (goodIn_sub (gi_c (gu_wsX0_insert_1 _ gm_6) (gi_c (gu_wsX0_insert_1 _ gm_7) (gi_c (gu_wsX0_insert_1 _ gm_8) (gi_c (gu_wsX0_insert_1 _ gm_9) gi_0)))) (by decide +kernel)) ggX0_insert_X0_isFull
set_option maxRecDepth 20000 in
theorem ggX0_insert_X0_countBelow : GoodIn wsX0_insert wsX0_countBelow := goodIn_sub (gi_c (gu_wsX0_insert_1 _ gm_14) (gi_a (gi_c (gu_wsX0_insert_1 _ gm_1) (gi_c (gu_wsX0_insert_1 _ gm_0) gi_0)) (gu_wsX0_insert_2))) (by decide +kernel)
set_option maxRecDepth 20000 in
theorem gX0_insert_X0_countBelow : GoodIn wsX0_insert (wsV RX0 19 RX0 yX0_countBelow wsX0_countBelow) := goodIn_app (goodIn_sub (gi_c (gu_wsX0_insert_1 _ gm_11) (gi_c (gu_wsX0_insert_1 _ gm_12) (gi_c (gu_wsX0_insert_1 _ gm_13) (gi_c (gu_wsX0_insert_1 _ gm_9) gi_0)))) (by decide +kernel)) ggX0_insert_X0_countBelow
theorem dX0_insert_0 : decode cX0_insert 0 = .ok (.aload_n 0, 1) := by decide +kernel
theorem dX0_insert_1 : decode cX0_insert 1 = .ok (.invokevirtual 23, 3) := by decide +kernel
theorem dX0_insert_4 : decode cX0_insert 4 = .ok (.ifCond .eq 5, 3) := by decide +kernel
theorem dX0_insert_7 : decode cX0_insert 7 = .ok (.iconst 0, 1) := by decide +kernel
theorem dX0_insert_8 : decode cX0_insert 8 = .ok (.ireturn, 1) := by decide +kernel
theorem dX0_insert_9 : decode cX0_insert 9 = .ok (.aload_n 0, 1) := by decide +kernel
theorem dX0_insert_10 : decode cX0_insert 10 = .ok (.lload_n 1, 1) := by decide +kernel
theorem dX0_insert_11 : decode cX0_insert 11 = .ok (.invokevirtual 19, 3) := by decide +kernel
theorem dX0_insert_14 : decode cX0_insert 14 = .ok (.istore_n 3, 1) := by decide +kernel
theorem dX0_insert_15 : decode cX0_insert 15 = .ok (.aload_n 0, 1) := by decide +kernel
theorem dX0_insert_16 : decode cX0_insert 16 = .ok (.getfield 9, 3) := by decide +kernel
theorem dX0_insert_19 : decode cX0_insert 19 = .ok (.iload_n 3, 1) := by decide +kernel
theorem dX0_insert_20 : decode cX0_insert 20 = .ok (.aload_n 0, 1) := by decide +kernel
theorem dX0_insert_21 : decode cX0_insert 21 = .ok (.getfield 9, 3) := by decide +kernel
theorem dX0_insert_24 : decode cX0_insert 24 = .ok (.iload_n 3, 1) := by decide +kernel
theorem dX0_insert_25 : decode cX0_insert 25 = .ok (.iconst 1, 1) := by decide +kernel
theorem dX0_insert_26 : decode cX0_insert 26 = .ok (.iadd, 1) := by decide +kernel
theorem dX0_insert_27 : decode cX0_insert 27 = .ok (.aload_n 0, 1) := by decide +kernel
theorem dX0_insert_28 : decode cX0_insert 28 = .ok (.getfield 15, 3) := by decide +kernel
theorem dX0_insert_31 : decode cX0_insert 31 = .ok (.iload_n 3, 1) := by decide +kernel
theorem dX0_insert_32 : decode cX0_insert 32 = .ok (.isub, 1) := by decide +kernel
theorem dX0_insert_33 : decode cX0_insert 33 = .ok (.invokestatic 27, 3) := by decide +kernel
theorem dX0_insert_36 : decode cX0_insert 36 = .ok (.aload_n 0, 1) := by decide +kernel
theorem dX0_insert_37 : decode cX0_insert 37 = .ok (.getfield 9, 3) := by decide +kernel
theorem dX0_insert_40 : decode cX0_insert 40 = .ok (.iload_n 3, 1) := by decide +kernel
theorem dX0_insert_41 : decode cX0_insert 41 = .ok (.lload_n 1, 1) := by decide +kernel
theorem dX0_insert_42 : decode cX0_insert 42 = .ok (.lastore, 1) := by decide +kernel
theorem dX0_insert_43 : decode cX0_insert 43 = .ok (.aload_n 0, 1) := by decide +kernel
theorem dX0_insert_44 : decode cX0_insert 44 = .ok (.dup, 1) := by decide +kernel
theorem dX0_insert_45 : decode cX0_insert 45 = .ok (.getfield 15, 3) := by decide +kernel
theorem dX0_insert_48 : decode cX0_insert 48 = .ok (.iconst 1, 1) := by decide +kernel
theorem dX0_insert_49 : decode cX0_insert 49 = .ok (.iadd, 1) := by decide +kernel
theorem dX0_insert_50 : decode cX0_insert 50 = .ok (.putfield 15, 3) := by decide +kernel
theorem dX0_insert_53 : decode cX0_insert 53 = .ok (.iconst 1, 1) := by decide +kernel
theorem dX0_insert_54 : decode cX0_insert 54 = .ok (.ireturn, 1) := by decide +kernel
set_option maxRecDepth 20000 in
theorem gu_wsX0_takeOne_1 : ∀ w ∈ ([Cond.fieldLink RX0 15 "SieveCabinet$Bag" "count" "I", Cond.fieldLink RX0 9 "SieveCabinet$Bag" "row" "[J", Cond.methodLink RX0 27 arraycopyName, Cond.native arraycopyName, Cond.static arraycopyName, Cond.initialized "java/lang/System", Cond.methodLink RX0 19 yX0_countBelow, Cond.instanceMethod yX0_countBelow, Cond.selects RX0 yX0_countBelow yX0_countBelow, Cond.initialized RX0, Cond.code yX0_countBelow cX0_countBelow 6 (some .int)] : List Cond), w ∈ wsX0_takeOne := fun _ h => List.mem_cons_of_mem _ (List.mem_append_left _ h)
set_option maxRecDepth 20000 in
theorem gu_wsX0_takeOne_2 : ∀ w ∈ wsX00, w ∈ wsX0_takeOne := fun _ h => List.mem_cons_of_mem _ (List.mem_append_right _ h)
set_option maxRecDepth 20000 in
theorem ggX0_takeOne_X0_countBelow : GoodIn wsX0_takeOne wsX0_countBelow := goodIn_sub (gi_c (gu_wsX0_takeOne_1 _ gm_10) (gi_a (gi_c (gu_wsX0_takeOne_1 _ gm_0) (gi_c (gu_wsX0_takeOne_1 _ gm_1) gi_0)) (gu_wsX0_takeOne_2))) (by decide +kernel)
set_option maxRecDepth 20000 in
theorem gX0_takeOne_X0_countBelow : GoodIn wsX0_takeOne (wsV RX0 19 RX0 yX0_countBelow wsX0_countBelow) := goodIn_app (goodIn_sub (gi_c (gu_wsX0_takeOne_1 _ gm_6) (gi_c (gu_wsX0_takeOne_1 _ gm_7) (gi_c (gu_wsX0_takeOne_1 _ gm_8) (gi_c (gu_wsX0_takeOne_1 _ gm_9) gi_0)))) (by decide +kernel)) ggX0_takeOne_X0_countBelow
theorem dX0_takeOne_0 : decode cX0_takeOne 0 = .ok (.aload_n 0, 1) := by decide +kernel
theorem dX0_takeOne_1 : decode cX0_takeOne 1 = .ok (.lload_n 1, 1) := by decide +kernel
theorem dX0_takeOne_2 : decode cX0_takeOne 2 = .ok (.invokevirtual 19, 3) := by decide +kernel
theorem dX0_takeOne_5 : decode cX0_takeOne 5 = .ok (.istore_n 3, 1) := by decide +kernel
theorem dX0_takeOne_6 : decode cX0_takeOne 6 = .ok (.iload_n 3, 1) := by decide +kernel
theorem dX0_takeOne_7 : decode cX0_takeOne 7 = .ok (.aload_n 0, 1) := by decide +kernel
theorem dX0_takeOne_8 : decode cX0_takeOne 8 = .ok (.getfield 15, 3) := by decide +kernel
theorem dX0_takeOne_11 : decode cX0_takeOne 11 = .ok (.if_icmp .ge 14, 3) := by decide +kernel
theorem dX0_takeOne_14 : decode cX0_takeOne 14 = .ok (.aload_n 0, 1) := by decide +kernel
theorem dX0_takeOne_15 : decode cX0_takeOne 15 = .ok (.getfield 9, 3) := by decide +kernel
theorem dX0_takeOne_18 : decode cX0_takeOne 18 = .ok (.iload_n 3, 1) := by decide +kernel
theorem dX0_takeOne_19 : decode cX0_takeOne 19 = .ok (.laload, 1) := by decide +kernel
theorem dX0_takeOne_20 : decode cX0_takeOne 20 = .ok (.lload_n 1, 1) := by decide +kernel
theorem dX0_takeOne_21 : decode cX0_takeOne 21 = .ok (.lcmp, 1) := by decide +kernel
theorem dX0_takeOne_22 : decode cX0_takeOne 22 = .ok (.ifCond .eq 5, 3) := by decide +kernel
theorem dX0_takeOne_25 : decode cX0_takeOne 25 = .ok (.iconst 0, 1) := by decide +kernel
theorem dX0_takeOne_26 : decode cX0_takeOne 26 = .ok (.ireturn, 1) := by decide +kernel
theorem dX0_takeOne_27 : decode cX0_takeOne 27 = .ok (.aload_n 0, 1) := by decide +kernel
theorem dX0_takeOne_28 : decode cX0_takeOne 28 = .ok (.getfield 9, 3) := by decide +kernel
theorem dX0_takeOne_31 : decode cX0_takeOne 31 = .ok (.iload_n 3, 1) := by decide +kernel
theorem dX0_takeOne_32 : decode cX0_takeOne 32 = .ok (.iconst 1, 1) := by decide +kernel
theorem dX0_takeOne_33 : decode cX0_takeOne 33 = .ok (.iadd, 1) := by decide +kernel
theorem dX0_takeOne_34 : decode cX0_takeOne 34 = .ok (.aload_n 0, 1) := by decide +kernel
theorem dX0_takeOne_35 : decode cX0_takeOne 35 = .ok (.getfield 9, 3) := by decide +kernel
theorem dX0_takeOne_38 : decode cX0_takeOne 38 = .ok (.iload_n 3, 1) := by decide +kernel
theorem dX0_takeOne_39 : decode cX0_takeOne 39 = .ok (.aload_n 0, 1) := by decide +kernel
theorem dX0_takeOne_40 : decode cX0_takeOne 40 = .ok (.getfield 15, 3) := by decide +kernel
theorem dX0_takeOne_43 : decode cX0_takeOne 43 = .ok (.iload_n 3, 1) := by decide +kernel
theorem dX0_takeOne_44 : decode cX0_takeOne 44 = .ok (.isub, 1) := by decide +kernel
theorem dX0_takeOne_45 : decode cX0_takeOne 45 = .ok (.iconst 1, 1) := by decide +kernel
theorem dX0_takeOne_46 : decode cX0_takeOne 46 = .ok (.isub, 1) := by decide +kernel
theorem dX0_takeOne_47 : decode cX0_takeOne 47 = .ok (.invokestatic 27, 3) := by decide +kernel
theorem dX0_takeOne_50 : decode cX0_takeOne 50 = .ok (.aload_n 0, 1) := by decide +kernel
theorem dX0_takeOne_51 : decode cX0_takeOne 51 = .ok (.dup, 1) := by decide +kernel
theorem dX0_takeOne_52 : decode cX0_takeOne 52 = .ok (.getfield 15, 3) := by decide +kernel
theorem dX0_takeOne_55 : decode cX0_takeOne 55 = .ok (.iconst 1, 1) := by decide +kernel
theorem dX0_takeOne_56 : decode cX0_takeOne 56 = .ok (.isub, 1) := by decide +kernel
theorem dX0_takeOne_57 : decode cX0_takeOne 57 = .ok (.putfield 15, 3) := by decide +kernel
theorem dX0_takeOne_60 : decode cX0_takeOne 60 = .ok (.iconst 1, 1) := by decide +kernel
theorem dX0_takeOne_61 : decode cX0_takeOne 61 = .ok (.ireturn, 1) := by decide +kernel
theorem dX0_copyFrom_0 : decode cX0_copyFrom 0 = .ok (.aload_n 1, 1) := by decide +kernel
theorem dX0_copyFrom_1 : decode cX0_copyFrom 1 = .ok (.getfield 9, 3) := by decide +kernel
theorem dX0_copyFrom_4 : decode cX0_copyFrom 4 = .ok (.iconst 0, 1) := by decide +kernel
theorem dX0_copyFrom_5 : decode cX0_copyFrom 5 = .ok (.aload_n 0, 1) := by decide +kernel
theorem dX0_copyFrom_6 : decode cX0_copyFrom 6 = .ok (.getfield 9, 3) := by decide +kernel
theorem dX0_copyFrom_9 : decode cX0_copyFrom 9 = .ok (.iconst 0, 1) := by decide +kernel
theorem dX0_copyFrom_10 : decode cX0_copyFrom 10 = .ok (.aload_n 1, 1) := by decide +kernel
theorem dX0_copyFrom_11 : decode cX0_copyFrom 11 = .ok (.getfield 15, 3) := by decide +kernel
theorem dX0_copyFrom_14 : decode cX0_copyFrom 14 = .ok (.invokestatic 27, 3) := by decide +kernel
theorem dX0_copyFrom_17 : decode cX0_copyFrom 17 = .ok (.aload_n 0, 1) := by decide +kernel
theorem dX0_copyFrom_18 : decode cX0_copyFrom 18 = .ok (.aload_n 1, 1) := by decide +kernel
theorem dX0_copyFrom_19 : decode cX0_copyFrom 19 = .ok (.getfield 15, 3) := by decide +kernel
theorem dX0_copyFrom_22 : decode cX0_copyFrom 22 = .ok (.putfield 15, 3) := by decide +kernel
theorem dX0_copyFrom_25 : decode cX0_copyFrom 25 = .ok (.return_, 1) := by decide +kernel
set_option maxRecDepth 20000 in
theorem gu_wsX0_becomeTogether_1 : ∀ w ∈ ([Cond.fieldLink RX0 15 "SieveCabinet$Bag" "count" "I", Cond.fieldLink RX0 9 "SieveCabinet$Bag" "row" "[J", Cond.methodLink RX0 33 yX0_copyFrom, Cond.instanceMethod yX0_copyFrom, Cond.selects RX0 yX0_copyFrom yX0_copyFrom, Cond.initialized RX0, Cond.code yX0_copyFrom cX0_copyFrom 2 none, Cond.methodLink RX0 27 arraycopyName, Cond.native arraycopyName, Cond.static arraycopyName, Cond.initialized "java/lang/System", Cond.methodLink RX0 37 yX0_insert, Cond.instanceMethod yX0_insert, Cond.selects RX0 yX0_insert yX0_insert, Cond.code yX0_insert cX0_insert 4 (some .boolean), Cond.methodLink RX0 23 yX0_isFull, Cond.instanceMethod yX0_isFull, Cond.selects RX0 yX0_isFull yX0_isFull, Cond.code yX0_isFull cX0_isFull 1 (some .boolean), Cond.methodLink RX0 19 yX0_countBelow, Cond.instanceMethod yX0_countBelow, Cond.selects RX0 yX0_countBelow yX0_countBelow, Cond.code yX0_countBelow cX0_countBelow 6 (some .int)] : List Cond), w ∈ wsX0_becomeTogether := fun _ h => List.mem_cons_of_mem _ (List.mem_append_left _ h)
set_option maxRecDepth 20000 in
theorem gu_wsX0_becomeTogether_2 : ∀ w ∈ wsX00, w ∈ wsX0_becomeTogether := fun _ h => List.mem_cons_of_mem _ (List.mem_append_right _ h)
set_option maxRecDepth 20000 in
theorem ggX0_becomeTogether_X0_copyFrom : GoodIn wsX0_becomeTogether wsX0_copyFrom := goodIn_sub (gi_c (gu_wsX0_becomeTogether_1 _ gm_6) (gi_a (gi_c (gu_wsX0_becomeTogether_1 _ gm_1) (gi_c (gu_wsX0_becomeTogether_1 _ gm_0) (gi_c (gu_wsX0_becomeTogether_1 _ gm_7) (gi_c (gu_wsX0_becomeTogether_1 _ gm_8) (gi_c (gu_wsX0_becomeTogether_1 _ gm_9) (gi_c (gu_wsX0_becomeTogether_1 _ gm_10) gi_0)))))) (gu_wsX0_becomeTogether_2))) (by decide +kernel)
set_option maxRecDepth 20000 in
theorem gX0_becomeTogether_X0_copyFrom : GoodIn wsX0_becomeTogether (wsV RX0 33 RX0 yX0_copyFrom wsX0_copyFrom) := goodIn_app (goodIn_sub (gi_c (gu_wsX0_becomeTogether_1 _ gm_2) (gi_c (gu_wsX0_becomeTogether_1 _ gm_3) (gi_c (gu_wsX0_becomeTogether_1 _ gm_4) (gi_c (gu_wsX0_becomeTogether_1 _ gm_5) gi_0)))) (by decide +kernel)) ggX0_becomeTogether_X0_copyFrom
set_option maxRecDepth 20000 in
theorem ggX0_becomeTogether_X0_insert : GoodIn wsX0_becomeTogether wsX0_insert := goodIn_sub (gi_c (gu_wsX0_becomeTogether_1 _ gm_14) (gi_a (gi_c (gu_wsX0_becomeTogether_1 _ gm_1) (gi_c (gu_wsX0_becomeTogether_1 _ gm_0) (gi_c (gu_wsX0_becomeTogether_1 _ gm_7) (gi_c (gu_wsX0_becomeTogether_1 _ gm_8) (gi_c (gu_wsX0_becomeTogether_1 _ gm_9) (gi_c (gu_wsX0_becomeTogether_1 _ gm_10) (gi_c (gu_wsX0_becomeTogether_1 _ gm_15) (gi_c (gu_wsX0_becomeTogether_1 _ gm_16) (gi_c (gu_wsX0_becomeTogether_1 _ gm_17) (gi_c (gu_wsX0_becomeTogether_1 _ gm_5) (gi_c (gu_wsX0_becomeTogether_1 _ gm_18) (gi_c (gu_wsX0_becomeTogether_1 _ gm_19) (gi_c (gu_wsX0_becomeTogether_1 _ gm_20) (gi_c (gu_wsX0_becomeTogether_1 _ gm_21) (gi_c (gu_wsX0_becomeTogether_1 _ gm_22) gi_0))))))))))))))) (gu_wsX0_becomeTogether_2))) (by decide +kernel)
set_option maxRecDepth 20000 in
theorem gX0_becomeTogether_X0_insert : GoodIn wsX0_becomeTogether (wsV RX0 37 RX0 yX0_insert wsX0_insert) := goodIn_app (goodIn_sub (gi_c (gu_wsX0_becomeTogether_1 _ gm_11) (gi_c (gu_wsX0_becomeTogether_1 _ gm_12) (gi_c (gu_wsX0_becomeTogether_1 _ gm_13) (gi_c (gu_wsX0_becomeTogether_1 _ gm_5) gi_0)))) (by decide +kernel)) ggX0_becomeTogether_X0_insert
theorem dX0_becomeTogether_0 : decode cX0_becomeTogether 0 = .ok (.aload_n 0, 1) := by decide +kernel
theorem dX0_becomeTogether_1 : decode cX0_becomeTogether 1 = .ok (.aload_n 1, 1) := by decide +kernel
theorem dX0_becomeTogether_2 : decode cX0_becomeTogether 2 = .ok (.invokevirtual 33, 3) := by decide +kernel
theorem dX0_becomeTogether_5 : decode cX0_becomeTogether 5 = .ok (.iconst 0, 1) := by decide +kernel
theorem dX0_becomeTogether_6 : decode cX0_becomeTogether 6 = .ok (.istore_n 3, 1) := by decide +kernel
theorem dX0_becomeTogether_7 : decode cX0_becomeTogether 7 = .ok (.iload_n 3, 1) := by decide +kernel
theorem dX0_becomeTogether_8 : decode cX0_becomeTogether 8 = .ok (.aload_n 2, 1) := by decide +kernel
theorem dX0_becomeTogether_9 : decode cX0_becomeTogether 9 = .ok (.getfield 15, 3) := by decide +kernel
theorem dX0_becomeTogether_12 : decode cX0_becomeTogether 12 = .ok (.if_icmp .ge 20, 3) := by decide +kernel
theorem dX0_becomeTogether_15 : decode cX0_becomeTogether 15 = .ok (.aload_n 0, 1) := by decide +kernel
theorem dX0_becomeTogether_16 : decode cX0_becomeTogether 16 = .ok (.aload_n 2, 1) := by decide +kernel
theorem dX0_becomeTogether_17 : decode cX0_becomeTogether 17 = .ok (.getfield 9, 3) := by decide +kernel
theorem dX0_becomeTogether_20 : decode cX0_becomeTogether 20 = .ok (.iload_n 3, 1) := by decide +kernel
theorem dX0_becomeTogether_21 : decode cX0_becomeTogether 21 = .ok (.laload, 1) := by decide +kernel
theorem dX0_becomeTogether_22 : decode cX0_becomeTogether 22 = .ok (.invokevirtual 37, 3) := by decide +kernel
theorem dX0_becomeTogether_25 : decode cX0_becomeTogether 25 = .ok (.pop, 1) := by decide +kernel
theorem dX0_becomeTogether_26 : decode cX0_becomeTogether 26 = .ok (.iinc 3 1, 3) := by decide +kernel
theorem dX0_becomeTogether_29 : decode cX0_becomeTogether 29 = .ok (.goto (-22), 3) := by decide +kernel
theorem dX0_becomeTogether_32 : decode cX0_becomeTogether 32 = .ok (.return_, 1) := by decide +kernel
set_option maxRecDepth 20000 in
theorem gu_wsX0_becomeShared_1 : ∀ w ∈ ([Cond.fieldLink RX0 15 "SieveCabinet$Bag" "count" "I", Cond.fieldLink RX0 9 "SieveCabinet$Bag" "row" "[J", Cond.methodLink RX0 41 yX0_empty, Cond.instanceMethod yX0_empty, Cond.selects RX0 yX0_empty yX0_empty, Cond.initialized RX0, Cond.code yX0_empty cX0_empty 1 none, Cond.methodLink RX0 44 yX0_append, Cond.instanceMethod yX0_append, Cond.selects RX0 yX0_append yX0_append, Cond.code yX0_append cX0_append 3 none, Cond.methodLink RX0 23 yX0_isFull, Cond.instanceMethod yX0_isFull, Cond.selects RX0 yX0_isFull yX0_isFull, Cond.code yX0_isFull cX0_isFull 1 (some .boolean)] : List Cond), w ∈ wsX0_becomeShared := fun _ h => List.mem_cons_of_mem _ (List.mem_append_left _ h)
set_option maxRecDepth 20000 in
theorem gu_wsX0_becomeShared_2 : ∀ w ∈ wsX00, w ∈ wsX0_becomeShared := fun _ h => List.mem_cons_of_mem _ (List.mem_append_right _ h)
set_option maxRecDepth 20000 in
theorem ggX0_becomeShared_X0_empty : GoodIn wsX0_becomeShared wsX0_empty := goodIn_sub (gi_c (gu_wsX0_becomeShared_1 _ gm_6) (gi_a (gi_c (gu_wsX0_becomeShared_1 _ gm_0) gi_0) (gu_wsX0_becomeShared_2))) (by decide +kernel)
set_option maxRecDepth 20000 in
theorem gX0_becomeShared_X0_empty : GoodIn wsX0_becomeShared (wsV RX0 41 RX0 yX0_empty wsX0_empty) := goodIn_app (goodIn_sub (gi_c (gu_wsX0_becomeShared_1 _ gm_2) (gi_c (gu_wsX0_becomeShared_1 _ gm_3) (gi_c (gu_wsX0_becomeShared_1 _ gm_4) (gi_c (gu_wsX0_becomeShared_1 _ gm_5) gi_0)))) (by decide +kernel)) ggX0_becomeShared_X0_empty
set_option maxRecDepth 20000 in
theorem ggX0_becomeShared_X0_append : GoodIn wsX0_becomeShared wsX0_append := goodIn_sub (gi_c (gu_wsX0_becomeShared_1 _ gm_10) (gi_a (gi_c (gu_wsX0_becomeShared_1 _ gm_1) (gi_c (gu_wsX0_becomeShared_1 _ gm_0) (gi_c (gu_wsX0_becomeShared_1 _ gm_11) (gi_c (gu_wsX0_becomeShared_1 _ gm_12) (gi_c (gu_wsX0_becomeShared_1 _ gm_13) (gi_c (gu_wsX0_becomeShared_1 _ gm_5) (gi_c (gu_wsX0_becomeShared_1 _ gm_14) gi_0))))))) (gu_wsX0_becomeShared_2))) (by decide +kernel)
set_option maxRecDepth 20000 in
theorem gX0_becomeShared_X0_append : GoodIn wsX0_becomeShared (wsV RX0 44 RX0 yX0_append wsX0_append) := goodIn_app (goodIn_sub (gi_c (gu_wsX0_becomeShared_1 _ gm_7) (gi_c (gu_wsX0_becomeShared_1 _ gm_8) (gi_c (gu_wsX0_becomeShared_1 _ gm_9) (gi_c (gu_wsX0_becomeShared_1 _ gm_5) gi_0)))) (by decide +kernel)) ggX0_becomeShared_X0_append
theorem dX0_becomeShared_0 : decode cX0_becomeShared 0 = .ok (.aload_n 0, 1) := by decide +kernel
theorem dX0_becomeShared_1 : decode cX0_becomeShared 1 = .ok (.invokevirtual 41, 3) := by decide +kernel
theorem dX0_becomeShared_4 : decode cX0_becomeShared 4 = .ok (.iconst 0, 1) := by decide +kernel
theorem dX0_becomeShared_5 : decode cX0_becomeShared 5 = .ok (.istore_n 3, 1) := by decide +kernel
theorem dX0_becomeShared_6 : decode cX0_becomeShared 6 = .ok (.iconst 0, 1) := by decide +kernel
theorem dX0_becomeShared_7 : decode cX0_becomeShared 7 = .ok (.istore 4, 2) := by decide +kernel
theorem dX0_becomeShared_9 : decode cX0_becomeShared 9 = .ok (.iload 4, 2) := by decide +kernel
theorem dX0_becomeShared_11 : decode cX0_becomeShared 11 = .ok (.aload_n 1, 1) := by decide +kernel
theorem dX0_becomeShared_12 : decode cX0_becomeShared 12 = .ok (.getfield 15, 3) := by decide +kernel
theorem dX0_becomeShared_15 : decode cX0_becomeShared 15 = .ok (.if_icmp .ge 79, 3) := by decide +kernel
theorem dX0_becomeShared_18 : decode cX0_becomeShared 18 = .ok (.iload_n 3, 1) := by decide +kernel
theorem dX0_becomeShared_19 : decode cX0_becomeShared 19 = .ok (.aload_n 2, 1) := by decide +kernel
theorem dX0_becomeShared_20 : decode cX0_becomeShared 20 = .ok (.getfield 15, 3) := by decide +kernel
theorem dX0_becomeShared_23 : decode cX0_becomeShared 23 = .ok (.if_icmp .ge 26, 3) := by decide +kernel
theorem dX0_becomeShared_26 : decode cX0_becomeShared 26 = .ok (.aload_n 2, 1) := by decide +kernel
theorem dX0_becomeShared_27 : decode cX0_becomeShared 27 = .ok (.getfield 9, 3) := by decide +kernel
theorem dX0_becomeShared_30 : decode cX0_becomeShared 30 = .ok (.iload_n 3, 1) := by decide +kernel
theorem dX0_becomeShared_31 : decode cX0_becomeShared 31 = .ok (.laload, 1) := by decide +kernel
theorem dX0_becomeShared_32 : decode cX0_becomeShared 32 = .ok (.aload_n 1, 1) := by decide +kernel
theorem dX0_becomeShared_33 : decode cX0_becomeShared 33 = .ok (.getfield 9, 3) := by decide +kernel
theorem dX0_becomeShared_36 : decode cX0_becomeShared 36 = .ok (.iload 4, 2) := by decide +kernel
theorem dX0_becomeShared_38 : decode cX0_becomeShared 38 = .ok (.laload, 1) := by decide +kernel
theorem dX0_becomeShared_39 : decode cX0_becomeShared 39 = .ok (.lcmp, 1) := by decide +kernel
theorem dX0_becomeShared_40 : decode cX0_becomeShared 40 = .ok (.ifCond .ge 9, 3) := by decide +kernel
theorem dX0_becomeShared_43 : decode cX0_becomeShared 43 = .ok (.iinc 3 1, 3) := by decide +kernel
theorem dX0_becomeShared_46 : decode cX0_becomeShared 46 = .ok (.goto (-28), 3) := by decide +kernel
theorem dX0_becomeShared_49 : decode cX0_becomeShared 49 = .ok (.iload_n 3, 1) := by decide +kernel
theorem dX0_becomeShared_50 : decode cX0_becomeShared 50 = .ok (.aload_n 2, 1) := by decide +kernel
theorem dX0_becomeShared_51 : decode cX0_becomeShared 51 = .ok (.getfield 15, 3) := by decide +kernel
theorem dX0_becomeShared_54 : decode cX0_becomeShared 54 = .ok (.if_icmp .ge 34, 3) := by decide +kernel
theorem dX0_becomeShared_57 : decode cX0_becomeShared 57 = .ok (.aload_n 2, 1) := by decide +kernel
theorem dX0_becomeShared_58 : decode cX0_becomeShared 58 = .ok (.getfield 9, 3) := by decide +kernel
theorem dX0_becomeShared_61 : decode cX0_becomeShared 61 = .ok (.iload_n 3, 1) := by decide +kernel
theorem dX0_becomeShared_62 : decode cX0_becomeShared 62 = .ok (.laload, 1) := by decide +kernel
theorem dX0_becomeShared_63 : decode cX0_becomeShared 63 = .ok (.aload_n 1, 1) := by decide +kernel
theorem dX0_becomeShared_64 : decode cX0_becomeShared 64 = .ok (.getfield 9, 3) := by decide +kernel
theorem dX0_becomeShared_67 : decode cX0_becomeShared 67 = .ok (.iload 4, 2) := by decide +kernel
theorem dX0_becomeShared_69 : decode cX0_becomeShared 69 = .ok (.laload, 1) := by decide +kernel
theorem dX0_becomeShared_70 : decode cX0_becomeShared 70 = .ok (.lcmp, 1) := by decide +kernel
theorem dX0_becomeShared_71 : decode cX0_becomeShared 71 = .ok (.ifCond .ne 17, 3) := by decide +kernel
theorem dX0_becomeShared_74 : decode cX0_becomeShared 74 = .ok (.aload_n 0, 1) := by decide +kernel
theorem dX0_becomeShared_75 : decode cX0_becomeShared 75 = .ok (.aload_n 1, 1) := by decide +kernel
theorem dX0_becomeShared_76 : decode cX0_becomeShared 76 = .ok (.getfield 9, 3) := by decide +kernel
theorem dX0_becomeShared_79 : decode cX0_becomeShared 79 = .ok (.iload 4, 2) := by decide +kernel
theorem dX0_becomeShared_81 : decode cX0_becomeShared 81 = .ok (.laload, 1) := by decide +kernel
theorem dX0_becomeShared_82 : decode cX0_becomeShared 82 = .ok (.invokevirtual 44, 3) := by decide +kernel
theorem dX0_becomeShared_85 : decode cX0_becomeShared 85 = .ok (.iinc 3 1, 3) := by decide +kernel
theorem dX0_becomeShared_88 : decode cX0_becomeShared 88 = .ok (.iinc 4 1, 3) := by decide +kernel
theorem dX0_becomeShared_91 : decode cX0_becomeShared 91 = .ok (.goto (-82), 3) := by decide +kernel
theorem dX0_becomeShared_94 : decode cX0_becomeShared 94 = .ok (.return_, 1) := by decide +kernel
set_option maxRecDepth 20000 in
theorem gu_wsX0_becomeWithout_1 : ∀ w ∈ ([Cond.fieldLink RX0 15 "SieveCabinet$Bag" "count" "I", Cond.fieldLink RX0 9 "SieveCabinet$Bag" "row" "[J", Cond.methodLink RX0 41 yX0_empty, Cond.instanceMethod yX0_empty, Cond.selects RX0 yX0_empty yX0_empty, Cond.initialized RX0, Cond.code yX0_empty cX0_empty 1 none, Cond.methodLink RX0 48 yX0_has, Cond.instanceMethod yX0_has, Cond.selects RX0 yX0_has yX0_has, Cond.code yX0_has cX0_has 4 (some .boolean), Cond.methodLink RX0 19 yX0_countBelow, Cond.instanceMethod yX0_countBelow, Cond.selects RX0 yX0_countBelow yX0_countBelow, Cond.code yX0_countBelow cX0_countBelow 6 (some .int), Cond.methodLink RX0 44 yX0_append, Cond.instanceMethod yX0_append, Cond.selects RX0 yX0_append yX0_append, Cond.code yX0_append cX0_append 3 none, Cond.methodLink RX0 23 yX0_isFull, Cond.instanceMethod yX0_isFull, Cond.selects RX0 yX0_isFull yX0_isFull, Cond.code yX0_isFull cX0_isFull 1 (some .boolean)] : List Cond), w ∈ wsX0_becomeWithout := fun _ h => List.mem_cons_of_mem _ (List.mem_append_left _ h)
set_option maxRecDepth 20000 in
theorem gu_wsX0_becomeWithout_2 : ∀ w ∈ wsX00, w ∈ wsX0_becomeWithout := fun _ h => List.mem_cons_of_mem _ (List.mem_append_right _ h)
set_option maxRecDepth 20000 in
theorem ggX0_becomeWithout_X0_empty : GoodIn wsX0_becomeWithout wsX0_empty := goodIn_sub (gi_c (gu_wsX0_becomeWithout_1 _ gm_6) (gi_a (gi_c (gu_wsX0_becomeWithout_1 _ gm_0) gi_0) (gu_wsX0_becomeWithout_2))) (by decide +kernel)
set_option maxRecDepth 20000 in
theorem gX0_becomeWithout_X0_empty : GoodIn wsX0_becomeWithout (wsV RX0 41 RX0 yX0_empty wsX0_empty) := goodIn_app (goodIn_sub (gi_c (gu_wsX0_becomeWithout_1 _ gm_2) (gi_c (gu_wsX0_becomeWithout_1 _ gm_3) (gi_c (gu_wsX0_becomeWithout_1 _ gm_4) (gi_c (gu_wsX0_becomeWithout_1 _ gm_5) gi_0)))) (by decide +kernel)) ggX0_becomeWithout_X0_empty
set_option maxRecDepth 20000 in
theorem ggX0_becomeWithout_X0_has : GoodIn wsX0_becomeWithout wsX0_has := goodIn_sub (gi_c (gu_wsX0_becomeWithout_1 _ gm_10) (gi_a (gi_c (gu_wsX0_becomeWithout_1 _ gm_0) (gi_c (gu_wsX0_becomeWithout_1 _ gm_1) (gi_c (gu_wsX0_becomeWithout_1 _ gm_11) (gi_c (gu_wsX0_becomeWithout_1 _ gm_12) (gi_c (gu_wsX0_becomeWithout_1 _ gm_13) (gi_c (gu_wsX0_becomeWithout_1 _ gm_5) (gi_c (gu_wsX0_becomeWithout_1 _ gm_14) gi_0))))))) (gu_wsX0_becomeWithout_2))) (by decide +kernel)
set_option maxRecDepth 20000 in
theorem gX0_becomeWithout_X0_has : GoodIn wsX0_becomeWithout (wsV RX0 48 RX0 yX0_has wsX0_has) := goodIn_app (goodIn_sub (gi_c (gu_wsX0_becomeWithout_1 _ gm_7) (gi_c (gu_wsX0_becomeWithout_1 _ gm_8) (gi_c (gu_wsX0_becomeWithout_1 _ gm_9) (gi_c (gu_wsX0_becomeWithout_1 _ gm_5) gi_0)))) (by decide +kernel)) ggX0_becomeWithout_X0_has
set_option maxRecDepth 20000 in
theorem ggX0_becomeWithout_X0_append : GoodIn wsX0_becomeWithout wsX0_append := goodIn_sub (gi_c (gu_wsX0_becomeWithout_1 _ gm_18) (gi_a (gi_c (gu_wsX0_becomeWithout_1 _ gm_1) (gi_c (gu_wsX0_becomeWithout_1 _ gm_0) (gi_c (gu_wsX0_becomeWithout_1 _ gm_19) (gi_c (gu_wsX0_becomeWithout_1 _ gm_20) (gi_c (gu_wsX0_becomeWithout_1 _ gm_21) (gi_c (gu_wsX0_becomeWithout_1 _ gm_5) (gi_c (gu_wsX0_becomeWithout_1 _ gm_22) gi_0))))))) (gu_wsX0_becomeWithout_2))) (by decide +kernel)
set_option maxRecDepth 20000 in
theorem gX0_becomeWithout_X0_append : GoodIn wsX0_becomeWithout (wsV RX0 44 RX0 yX0_append wsX0_append) := goodIn_app (goodIn_sub (gi_c (gu_wsX0_becomeWithout_1 _ gm_15) (gi_c (gu_wsX0_becomeWithout_1 _ gm_16) (gi_c (gu_wsX0_becomeWithout_1 _ gm_17) (gi_c (gu_wsX0_becomeWithout_1 _ gm_5) gi_0)))) (by decide +kernel)) ggX0_becomeWithout_X0_append
theorem dX0_becomeWithout_0 : decode cX0_becomeWithout 0 = .ok (.aload_n 0, 1) := by decide +kernel
theorem dX0_becomeWithout_1 : decode cX0_becomeWithout 1 = .ok (.invokevirtual 41, 3) := by decide +kernel
theorem dX0_becomeWithout_4 : decode cX0_becomeWithout 4 = .ok (.iconst 0, 1) := by decide +kernel
theorem dX0_becomeWithout_5 : decode cX0_becomeWithout 5 = .ok (.istore_n 3, 1) := by decide +kernel
theorem dX0_becomeWithout_6 : decode cX0_becomeWithout 6 = .ok (.iload_n 3, 1) := by decide +kernel
theorem dX0_becomeWithout_7 : decode cX0_becomeWithout 7 = .ok (.aload_n 1, 1) := by decide +kernel
theorem dX0_becomeWithout_8 : decode cX0_becomeWithout 8 = .ok (.getfield 15, 3) := by decide +kernel
theorem dX0_becomeWithout_11 : decode cX0_becomeWithout 11 = .ok (.if_icmp .ge 32, 3) := by decide +kernel
theorem dX0_becomeWithout_14 : decode cX0_becomeWithout 14 = .ok (.aload_n 2, 1) := by decide +kernel
theorem dX0_becomeWithout_15 : decode cX0_becomeWithout 15 = .ok (.aload_n 1, 1) := by decide +kernel
theorem dX0_becomeWithout_16 : decode cX0_becomeWithout 16 = .ok (.getfield 9, 3) := by decide +kernel
theorem dX0_becomeWithout_19 : decode cX0_becomeWithout 19 = .ok (.iload_n 3, 1) := by decide +kernel
theorem dX0_becomeWithout_20 : decode cX0_becomeWithout 20 = .ok (.laload, 1) := by decide +kernel
theorem dX0_becomeWithout_21 : decode cX0_becomeWithout 21 = .ok (.invokevirtual 48, 3) := by decide +kernel
theorem dX0_becomeWithout_24 : decode cX0_becomeWithout 24 = .ok (.ifCond .ne 13, 3) := by decide +kernel
theorem dX0_becomeWithout_27 : decode cX0_becomeWithout 27 = .ok (.aload_n 0, 1) := by decide +kernel
theorem dX0_becomeWithout_28 : decode cX0_becomeWithout 28 = .ok (.aload_n 1, 1) := by decide +kernel
theorem dX0_becomeWithout_29 : decode cX0_becomeWithout 29 = .ok (.getfield 9, 3) := by decide +kernel
theorem dX0_becomeWithout_32 : decode cX0_becomeWithout 32 = .ok (.iload_n 3, 1) := by decide +kernel
theorem dX0_becomeWithout_33 : decode cX0_becomeWithout 33 = .ok (.laload, 1) := by decide +kernel
theorem dX0_becomeWithout_34 : decode cX0_becomeWithout 34 = .ok (.invokevirtual 44, 3) := by decide +kernel
theorem dX0_becomeWithout_37 : decode cX0_becomeWithout 37 = .ok (.iinc 3 1, 3) := by decide +kernel
theorem dX0_becomeWithout_40 : decode cX0_becomeWithout 40 = .ok (.goto (-34), 3) := by decide +kernel
theorem dX0_becomeWithout_43 : decode cX0_becomeWithout 43 = .ok (.return_, 1) := by decide +kernel
set_option maxRecDepth 20000 in
theorem gu_wsX0_append_1 : ∀ w ∈ ([Cond.fieldLink RX0 9 "SieveCabinet$Bag" "row" "[J", Cond.fieldLink RX0 15 "SieveCabinet$Bag" "count" "I", Cond.methodLink RX0 23 yX0_isFull, Cond.instanceMethod yX0_isFull, Cond.selects RX0 yX0_isFull yX0_isFull, Cond.initialized RX0, Cond.code yX0_isFull cX0_isFull 1 (some .boolean)] : List Cond), w ∈ wsX0_append := fun _ h => List.mem_cons_of_mem _ (List.mem_append_left _ h)
set_option maxRecDepth 20000 in
theorem gu_wsX0_append_2 : ∀ w ∈ wsX00, w ∈ wsX0_append := fun _ h => List.mem_cons_of_mem _ (List.mem_append_right _ h)
set_option maxRecDepth 20000 in
theorem ggX0_append_X0_isFull : GoodIn wsX0_append wsX0_isFull := goodIn_sub (gi_c (gu_wsX0_append_1 _ gm_6) (gi_a (gi_c (gu_wsX0_append_1 _ gm_1) gi_0) (gu_wsX0_append_2))) (by decide +kernel)
set_option maxRecDepth 20000 in
theorem gX0_append_X0_isFull : GoodIn wsX0_append (wsV RX0 23 RX0 yX0_isFull wsX0_isFull) := goodIn_app (goodIn_sub (gi_c (gu_wsX0_append_1 _ gm_2) (gi_c (gu_wsX0_append_1 _ gm_3) (gi_c (gu_wsX0_append_1 _ gm_4) (gi_c (gu_wsX0_append_1 _ gm_5) gi_0)))) (by decide +kernel)) ggX0_append_X0_isFull
theorem dX0_append_0 : decode cX0_append 0 = .ok (.aload_n 0, 1) := by decide +kernel
theorem dX0_append_1 : decode cX0_append 1 = .ok (.invokevirtual 23, 3) := by decide +kernel
theorem dX0_append_4 : decode cX0_append 4 = .ok (.ifCond .ne 23, 3) := by decide +kernel
theorem dX0_append_7 : decode cX0_append 7 = .ok (.aload_n 0, 1) := by decide +kernel
theorem dX0_append_8 : decode cX0_append 8 = .ok (.getfield 9, 3) := by decide +kernel
theorem dX0_append_11 : decode cX0_append 11 = .ok (.aload_n 0, 1) := by decide +kernel
theorem dX0_append_12 : decode cX0_append 12 = .ok (.getfield 15, 3) := by decide +kernel
theorem dX0_append_15 : decode cX0_append 15 = .ok (.lload_n 1, 1) := by decide +kernel
theorem dX0_append_16 : decode cX0_append 16 = .ok (.lastore, 1) := by decide +kernel
theorem dX0_append_17 : decode cX0_append 17 = .ok (.aload_n 0, 1) := by decide +kernel
theorem dX0_append_18 : decode cX0_append 18 = .ok (.dup, 1) := by decide +kernel
theorem dX0_append_19 : decode cX0_append 19 = .ok (.getfield 15, 3) := by decide +kernel
theorem dX0_append_22 : decode cX0_append 22 = .ok (.iconst 1, 1) := by decide +kernel
theorem dX0_append_23 : decode cX0_append 23 = .ok (.iadd, 1) := by decide +kernel
theorem dX0_append_24 : decode cX0_append 24 = .ok (.putfield 15, 3) := by decide +kernel
theorem dX0_append_27 : decode cX0_append 27 = .ok (.return_, 1) := by decide +kernel
theorem dX0_countBelow_0 : decode cX0_countBelow 0 = .ok (.iconst 0, 1) := by decide +kernel
theorem dX0_countBelow_1 : decode cX0_countBelow 1 = .ok (.istore_n 3, 1) := by decide +kernel
theorem dX0_countBelow_2 : decode cX0_countBelow 2 = .ok (.sipush 512, 3) := by decide +kernel
theorem dX0_countBelow_5 : decode cX0_countBelow 5 = .ok (.istore 4, 2) := by decide +kernel
theorem dX0_countBelow_7 : decode cX0_countBelow 7 = .ok (.iload 4, 2) := by decide +kernel
theorem dX0_countBelow_9 : decode cX0_countBelow 9 = .ok (.ifCond .le 46, 3) := by decide +kernel
theorem dX0_countBelow_12 : decode cX0_countBelow 12 = .ok (.iload_n 3, 1) := by decide +kernel
theorem dX0_countBelow_13 : decode cX0_countBelow 13 = .ok (.iload 4, 2) := by decide +kernel
theorem dX0_countBelow_15 : decode cX0_countBelow 15 = .ok (.iadd, 1) := by decide +kernel
theorem dX0_countBelow_16 : decode cX0_countBelow 16 = .ok (.iconst 1, 1) := by decide +kernel
theorem dX0_countBelow_17 : decode cX0_countBelow 17 = .ok (.isub, 1) := by decide +kernel
theorem dX0_countBelow_18 : decode cX0_countBelow 18 = .ok (.istore 5, 2) := by decide +kernel
theorem dX0_countBelow_20 : decode cX0_countBelow 20 = .ok (.iload 5, 2) := by decide +kernel
theorem dX0_countBelow_22 : decode cX0_countBelow 22 = .ok (.aload_n 0, 1) := by decide +kernel
theorem dX0_countBelow_23 : decode cX0_countBelow 23 = .ok (.getfield 15, 3) := by decide +kernel
theorem dX0_countBelow_26 : decode cX0_countBelow 26 = .ok (.if_icmp .ge 20, 3) := by decide +kernel
theorem dX0_countBelow_29 : decode cX0_countBelow 29 = .ok (.aload_n 0, 1) := by decide +kernel
theorem dX0_countBelow_30 : decode cX0_countBelow 30 = .ok (.getfield 9, 3) := by decide +kernel
theorem dX0_countBelow_33 : decode cX0_countBelow 33 = .ok (.iload 5, 2) := by decide +kernel
theorem dX0_countBelow_35 : decode cX0_countBelow 35 = .ok (.laload, 1) := by decide +kernel
theorem dX0_countBelow_36 : decode cX0_countBelow 36 = .ok (.lload_n 1, 1) := by decide +kernel
theorem dX0_countBelow_37 : decode cX0_countBelow 37 = .ok (.lcmp, 1) := by decide +kernel
theorem dX0_countBelow_38 : decode cX0_countBelow 38 = .ok (.ifCond .ge 8, 3) := by decide +kernel
theorem dX0_countBelow_41 : decode cX0_countBelow 41 = .ok (.iload_n 3, 1) := by decide +kernel
theorem dX0_countBelow_42 : decode cX0_countBelow 42 = .ok (.iload 4, 2) := by decide +kernel
theorem dX0_countBelow_44 : decode cX0_countBelow 44 = .ok (.iadd, 1) := by decide +kernel
theorem dX0_countBelow_45 : decode cX0_countBelow 45 = .ok (.istore_n 3, 1) := by decide +kernel
theorem dX0_countBelow_46 : decode cX0_countBelow 46 = .ok (.iload 4, 2) := by decide +kernel
theorem dX0_countBelow_48 : decode cX0_countBelow 48 = .ok (.iconst 2, 1) := by decide +kernel
theorem dX0_countBelow_49 : decode cX0_countBelow 49 = .ok (.idiv, 1) := by decide +kernel
theorem dX0_countBelow_50 : decode cX0_countBelow 50 = .ok (.istore 4, 2) := by decide +kernel
theorem dX0_countBelow_52 : decode cX0_countBelow 52 = .ok (.goto (-45), 3) := by decide +kernel
theorem dX0_countBelow_55 : decode cX0_countBelow 55 = .ok (.iload_n 3, 1) := by decide +kernel
theorem dX0_countBelow_56 : decode cX0_countBelow 56 = .ok (.ireturn, 1) := by decide +kernel
theorem dX1_init_0 : decode cX1_init 0 = .ok (.aload_n 0, 1) := by decide +kernel
theorem dX1_init_1 : decode cX1_init 1 = .ok (.invokespecial 3, 3) := by decide +kernel
theorem dX1_init_4 : decode cX1_init 4 = .ok (.aload_n 0, 1) := by decide +kernel
theorem dX1_init_5 : decode cX1_init 5 = .ok (.bipush 64, 2) := by decide +kernel
theorem dX1_init_7 : decode cX1_init 7 = .ok (.newarray .long, 2) := by decide +kernel
theorem dX1_init_9 : decode cX1_init 9 = .ok (.putfield 9, 3) := by decide +kernel
theorem dX1_init_12 : decode cX1_init 12 = .ok (.return_, 1) := by decide +kernel
set_option maxRecDepth 20000 in
theorem gu_wsX1_begin_1 : ∀ w ∈ ([Cond.methodLink RX1 15 Lib.Math.min.name, Cond.static Lib.Math.min.name, Cond.initialized "java/lang/Math", Cond.code Lib.Math.min.name Lib.Math.min.code 2 (some .int), Cond.methodLink RX1 21 Lib.Math.max.name, Cond.static Lib.Math.max.name, Cond.code Lib.Math.max.name Lib.Math.max.code 2 (some .int), Cond.fieldLink RX1 24 "SieveCabinet$BitRow" "size" "I", Cond.fieldLink RX1 9 "SieveCabinet$BitRow" "words" "[J", Cond.methodLink RX1 28 yJ7_fill_d0a16, Cond.static yJ7_fill_d0a16, Cond.initialized RJ7, Cond.code yJ7_fill_d0a16 cJ7_fill_d0a16 5 none] : List Cond), w ∈ wsX1_begin := fun _ h => List.mem_cons_of_mem _ (List.mem_append_left _ h)
set_option maxRecDepth 20000 in
theorem ggX1_begin_J7_fill_d0a16 : GoodIn wsX1_begin wsJ7_fill_d0a16 := goodIn_sub (gi_c (gu_wsX1_begin_1 _ gm_12) (gi_0)) (by decide +kernel)
set_option maxRecDepth 20000 in
theorem gX1_begin_J7_fill_d0a16 : GoodIn wsX1_begin (va_wsS RX1 28 yJ7_fill_d0a16 wsJ7_fill_d0a16) := goodIn_app (goodIn_sub (gi_c (gu_wsX1_begin_1 _ gm_9) (gi_c (gu_wsX1_begin_1 _ gm_10) (gi_c (gu_wsX1_begin_1 _ gm_11) gi_0))) (by decide +kernel)) ggX1_begin_J7_fill_d0a16
theorem dX1_begin_0 : decode cX1_begin 0 = .ok (.aload_n 0, 1) := by decide +kernel
theorem dX1_begin_1 : decode cX1_begin 1 = .ok (.iconst 0, 1) := by decide +kernel
theorem dX1_begin_2 : decode cX1_begin 2 = .ok (.iload_n 1, 1) := by decide +kernel
theorem dX1_begin_3 : decode cX1_begin 3 = .ok (.sipush 4096, 3) := by decide +kernel
theorem dX1_begin_6 : decode cX1_begin 6 = .ok (.invokestatic 15, 3) := by decide +kernel
theorem dX1_begin_9 : decode cX1_begin 9 = .ok (.invokestatic 21, 3) := by decide +kernel
theorem dX1_begin_12 : decode cX1_begin 12 = .ok (.putfield 24, 3) := by decide +kernel
theorem dX1_begin_15 : decode cX1_begin 15 = .ok (.aload_n 0, 1) := by decide +kernel
theorem dX1_begin_16 : decode cX1_begin 16 = .ok (.getfield 9, 3) := by decide +kernel
theorem dX1_begin_19 : decode cX1_begin 19 = .ok (.lconst 0, 1) := by decide +kernel
theorem dX1_begin_20 : decode cX1_begin 20 = .ok (.invokestatic 28, 3) := by decide +kernel
theorem dX1_begin_23 : decode cX1_begin 23 = .ok (.return_, 1) := by decide +kernel
theorem dX1_size_0 : decode cX1_size 0 = .ok (.aload_n 0, 1) := by decide +kernel
theorem dX1_size_1 : decode cX1_size 1 = .ok (.getfield 24, 3) := by decide +kernel
theorem dX1_size_4 : decode cX1_size 4 = .ok (.ireturn, 1) := by decide +kernel
theorem dX1_has_0 : decode cX1_has 0 = .ok (.iload_n 1, 1) := by decide +kernel
theorem dX1_has_1 : decode cX1_has 1 = .ok (.ifCond .lt 36, 3) := by decide +kernel
theorem dX1_has_4 : decode cX1_has 4 = .ok (.iload_n 1, 1) := by decide +kernel
theorem dX1_has_5 : decode cX1_has 5 = .ok (.aload_n 0, 1) := by decide +kernel
theorem dX1_has_6 : decode cX1_has 6 = .ok (.getfield 24, 3) := by decide +kernel
theorem dX1_has_9 : decode cX1_has 9 = .ok (.if_icmp .ge 28, 3) := by decide +kernel
theorem dX1_has_12 : decode cX1_has 12 = .ok (.aload_n 0, 1) := by decide +kernel
theorem dX1_has_13 : decode cX1_has 13 = .ok (.getfield 9, 3) := by decide +kernel
theorem dX1_has_16 : decode cX1_has 16 = .ok (.iload_n 1, 1) := by decide +kernel
theorem dX1_has_17 : decode cX1_has 17 = .ok (.bipush 64, 2) := by decide +kernel
theorem dX1_has_19 : decode cX1_has 19 = .ok (.idiv, 1) := by decide +kernel
theorem dX1_has_20 : decode cX1_has 20 = .ok (.laload, 1) := by decide +kernel
theorem dX1_has_21 : decode cX1_has 21 = .ok (.iload_n 1, 1) := by decide +kernel
theorem dX1_has_22 : decode cX1_has 22 = .ok (.bipush 64, 2) := by decide +kernel
theorem dX1_has_24 : decode cX1_has 24 = .ok (.irem, 1) := by decide +kernel
theorem dX1_has_25 : decode cX1_has 25 = .ok (.lushr, 1) := by decide +kernel
theorem dX1_has_26 : decode cX1_has 26 = .ok (.lconst 1, 1) := by decide +kernel
theorem dX1_has_27 : decode cX1_has 27 = .ok (.land, 1) := by decide +kernel
theorem dX1_has_28 : decode cX1_has 28 = .ok (.lconst 1, 1) := by decide +kernel
theorem dX1_has_29 : decode cX1_has 29 = .ok (.lcmp, 1) := by decide +kernel
theorem dX1_has_30 : decode cX1_has 30 = .ok (.ifCond .ne 7, 3) := by decide +kernel
theorem dX1_has_33 : decode cX1_has 33 = .ok (.iconst 1, 1) := by decide +kernel
theorem dX1_has_34 : decode cX1_has 34 = .ok (.goto 4, 3) := by decide +kernel
theorem dX1_has_37 : decode cX1_has 37 = .ok (.iconst 0, 1) := by decide +kernel
theorem dX1_has_38 : decode cX1_has 38 = .ok (.ireturn, 1) := by decide +kernel
theorem dX1_set_0 : decode cX1_set 0 = .ok (.iload_n 1, 1) := by decide +kernel
theorem dX1_set_1 : decode cX1_set 1 = .ok (.ifCond .lt 29, 3) := by decide +kernel
theorem dX1_set_4 : decode cX1_set 4 = .ok (.iload_n 1, 1) := by decide +kernel
theorem dX1_set_5 : decode cX1_set 5 = .ok (.aload_n 0, 1) := by decide +kernel
theorem dX1_set_6 : decode cX1_set 6 = .ok (.getfield 24, 3) := by decide +kernel
theorem dX1_set_9 : decode cX1_set 9 = .ok (.if_icmp .ge 21, 3) := by decide +kernel
theorem dX1_set_12 : decode cX1_set 12 = .ok (.aload_n 0, 1) := by decide +kernel
theorem dX1_set_13 : decode cX1_set 13 = .ok (.getfield 9, 3) := by decide +kernel
theorem dX1_set_16 : decode cX1_set 16 = .ok (.iload_n 1, 1) := by decide +kernel
theorem dX1_set_17 : decode cX1_set 17 = .ok (.bipush 64, 2) := by decide +kernel
theorem dX1_set_19 : decode cX1_set 19 = .ok (.idiv, 1) := by decide +kernel
theorem dX1_set_20 : decode cX1_set 20 = .ok (.dup2, 1) := by decide +kernel
theorem dX1_set_21 : decode cX1_set 21 = .ok (.laload, 1) := by decide +kernel
theorem dX1_set_22 : decode cX1_set 22 = .ok (.lconst 1, 1) := by decide +kernel
theorem dX1_set_23 : decode cX1_set 23 = .ok (.iload_n 1, 1) := by decide +kernel
theorem dX1_set_24 : decode cX1_set 24 = .ok (.bipush 64, 2) := by decide +kernel
theorem dX1_set_26 : decode cX1_set 26 = .ok (.irem, 1) := by decide +kernel
theorem dX1_set_27 : decode cX1_set 27 = .ok (.lshl, 1) := by decide +kernel
theorem dX1_set_28 : decode cX1_set 28 = .ok (.lor, 1) := by decide +kernel
theorem dX1_set_29 : decode cX1_set 29 = .ok (.lastore, 1) := by decide +kernel
theorem dX1_set_30 : decode cX1_set 30 = .ok (.return_, 1) := by decide +kernel
theorem dX1_clear_0 : decode cX1_clear 0 = .ok (.iload_n 1, 1) := by decide +kernel
theorem dX1_clear_1 : decode cX1_clear 1 = .ok (.ifCond .lt 33, 3) := by decide +kernel
theorem dX1_clear_4 : decode cX1_clear 4 = .ok (.iload_n 1, 1) := by decide +kernel
theorem dX1_clear_5 : decode cX1_clear 5 = .ok (.aload_n 0, 1) := by decide +kernel
theorem dX1_clear_6 : decode cX1_clear 6 = .ok (.getfield 24, 3) := by decide +kernel
theorem dX1_clear_9 : decode cX1_clear 9 = .ok (.if_icmp .ge 25, 3) := by decide +kernel
theorem dX1_clear_12 : decode cX1_clear 12 = .ok (.aload_n 0, 1) := by decide +kernel
theorem dX1_clear_13 : decode cX1_clear 13 = .ok (.getfield 9, 3) := by decide +kernel
theorem dX1_clear_16 : decode cX1_clear 16 = .ok (.iload_n 1, 1) := by decide +kernel
theorem dX1_clear_17 : decode cX1_clear 17 = .ok (.bipush 64, 2) := by decide +kernel
theorem dX1_clear_19 : decode cX1_clear 19 = .ok (.idiv, 1) := by decide +kernel
theorem dX1_clear_20 : decode cX1_clear 20 = .ok (.dup2, 1) := by decide +kernel
theorem dX1_clear_21 : decode cX1_clear 21 = .ok (.laload, 1) := by decide +kernel
theorem dX1_clear_22 : decode cX1_clear 22 = .ok (.lconst 1, 1) := by decide +kernel
theorem dX1_clear_23 : decode cX1_clear 23 = .ok (.iload_n 1, 1) := by decide +kernel
theorem dX1_clear_24 : decode cX1_clear 24 = .ok (.bipush 64, 2) := by decide +kernel
theorem dX1_clear_26 : decode cX1_clear 26 = .ok (.irem, 1) := by decide +kernel
theorem dX1_clear_27 : decode cX1_clear 27 = .ok (.lshl, 1) := by decide +kernel
theorem dX1_clear_28 : decode cX1_clear 28 = .ok (.ldc2_w 34, 3) := by decide +kernel
theorem dX1_clear_31 : decode cX1_clear 31 = .ok (.lxor, 1) := by decide +kernel
theorem dX1_clear_32 : decode cX1_clear 32 = .ok (.land, 1) := by decide +kernel
theorem dX1_clear_33 : decode cX1_clear 33 = .ok (.lastore, 1) := by decide +kernel
theorem dX1_clear_34 : decode cX1_clear 34 = .ok (.return_, 1) := by decide +kernel
set_option maxRecDepth 20000 in
theorem gu_wsX1_least_1 : ∀ w ∈ ([Cond.fieldLink RX1 9 "SieveCabinet$BitRow" "words" "[J", Cond.methodLink RX1 36 yJ13_numberOfTrailingZeros_95d88, Cond.static yJ13_numberOfTrailingZeros_95d88, Cond.initialized RJ13, Cond.code yJ13_numberOfTrailingZeros_95d88 cJ13_numberOfTrailingZeros_95d88 3 (some .int), Cond.methodLink RJ13 311 yJ6_numberOfTrailingZeros_0f7a4, Cond.static yJ6_numberOfTrailingZeros_0f7a4, Cond.initialized RJ6, Cond.code yJ6_numberOfTrailingZeros_0f7a4 cJ6_numberOfTrailingZeros_0f7a4 2 (some .int), Cond.constant RJ6 264 (65536)] : List Cond), w ∈ wsX1_least := fun _ h => List.mem_cons_of_mem _ (List.mem_append_left _ h)
set_option maxRecDepth 20000 in
theorem ggX1_least_J13_numberOfTrailingZeros_95d88 : GoodIn wsX1_least wsJ13_numberOfTrailingZeros_95d88 := goodIn_sub (gi_c (gu_wsX1_least_1 _ gm_4) (gi_c (gu_wsX1_least_1 _ gm_5) (gi_c (gu_wsX1_least_1 _ gm_6) (gi_c (gu_wsX1_least_1 _ gm_7) (gi_c (gu_wsX1_least_1 _ gm_8) (gi_c (gu_wsX1_least_1 _ gm_9) gi_0)))))) (by decide +kernel)
set_option maxRecDepth 20000 in
theorem gX1_least_J13_numberOfTrailingZeros_95d88 : GoodIn wsX1_least (va_wsS RX1 36 yJ13_numberOfTrailingZeros_95d88 wsJ13_numberOfTrailingZeros_95d88) := goodIn_app (goodIn_sub (gi_c (gu_wsX1_least_1 _ gm_1) (gi_c (gu_wsX1_least_1 _ gm_2) (gi_c (gu_wsX1_least_1 _ gm_3) gi_0))) (by decide +kernel)) ggX1_least_J13_numberOfTrailingZeros_95d88
theorem dX1_least_0 : decode cX1_least 0 = .ok (.iconst 0, 1) := by decide +kernel
theorem dX1_least_1 : decode cX1_least 1 = .ok (.istore_n 1, 1) := by decide +kernel
theorem dX1_least_2 : decode cX1_least 2 = .ok (.iload_n 1, 1) := by decide +kernel
theorem dX1_least_3 : decode cX1_least 3 = .ok (.aload_n 0, 1) := by decide +kernel
theorem dX1_least_4 : decode cX1_least 4 = .ok (.getfield 9, 3) := by decide +kernel
theorem dX1_least_7 : decode cX1_least 7 = .ok (.arraylength, 1) := by decide +kernel
theorem dX1_least_8 : decode cX1_least 8 = .ok (.if_icmp .ge 35, 3) := by decide +kernel
theorem dX1_least_11 : decode cX1_least 11 = .ok (.aload_n 0, 1) := by decide +kernel
theorem dX1_least_12 : decode cX1_least 12 = .ok (.getfield 9, 3) := by decide +kernel
theorem dX1_least_15 : decode cX1_least 15 = .ok (.iload_n 1, 1) := by decide +kernel
theorem dX1_least_16 : decode cX1_least 16 = .ok (.laload, 1) := by decide +kernel
theorem dX1_least_17 : decode cX1_least 17 = .ok (.lconst 0, 1) := by decide +kernel
theorem dX1_least_18 : decode cX1_least 18 = .ok (.lcmp, 1) := by decide +kernel
theorem dX1_least_19 : decode cX1_least 19 = .ok (.ifCond .eq 18, 3) := by decide +kernel
theorem dX1_least_22 : decode cX1_least 22 = .ok (.bipush 64, 2) := by decide +kernel
theorem dX1_least_24 : decode cX1_least 24 = .ok (.iload_n 1, 1) := by decide +kernel
theorem dX1_least_25 : decode cX1_least 25 = .ok (.imul, 1) := by decide +kernel
theorem dX1_least_26 : decode cX1_least 26 = .ok (.aload_n 0, 1) := by decide +kernel
theorem dX1_least_27 : decode cX1_least 27 = .ok (.getfield 9, 3) := by decide +kernel
theorem dX1_least_30 : decode cX1_least 30 = .ok (.iload_n 1, 1) := by decide +kernel
theorem dX1_least_31 : decode cX1_least 31 = .ok (.laload, 1) := by decide +kernel
theorem dX1_least_32 : decode cX1_least 32 = .ok (.invokestatic 36, 3) := by decide +kernel
theorem dX1_least_35 : decode cX1_least 35 = .ok (.iadd, 1) := by decide +kernel
theorem dX1_least_36 : decode cX1_least 36 = .ok (.ireturn, 1) := by decide +kernel
theorem dX1_least_37 : decode cX1_least 37 = .ok (.iinc 1 1, 3) := by decide +kernel
theorem dX1_least_40 : decode cX1_least 40 = .ok (.goto (-38), 3) := by decide +kernel
theorem dX1_least_43 : decode cX1_least 43 = .ok (.iconst (-1), 1) := by decide +kernel
theorem dX1_least_44 : decode cX1_least 44 = .ok (.ireturn, 1) := by decide +kernel
set_option maxRecDepth 20000 in
theorem gu_wsX1_total_1 : ∀ w ∈ ([Cond.fieldLink RX1 9 "SieveCabinet$BitRow" "words" "[J", Cond.methodLink RX1 42 yJ13_bitCount_95d88, Cond.static yJ13_bitCount_95d88, Cond.initialized RJ13, Cond.code yJ13_bitCount_95d88 cJ13_bitCount_95d88 2 (some .int), Cond.constantLong RJ13 314 (6148914691236517205), Cond.constantLong RJ13 316 (3689348814741910323), Cond.constantLong RJ13 318 (1085102592571150095)] : List Cond), w ∈ wsX1_total := fun _ h => List.mem_cons_of_mem _ (List.mem_append_left _ h)
set_option maxRecDepth 20000 in
theorem ggX1_total_J13_bitCount_95d88 : GoodIn wsX1_total wsJ13_bitCount_95d88 := goodIn_sub (gi_c (gu_wsX1_total_1 _ gm_4) (gi_c (gu_wsX1_total_1 _ gm_5) (gi_c (gu_wsX1_total_1 _ gm_6) (gi_c (gu_wsX1_total_1 _ gm_7) gi_0)))) (by decide +kernel)
set_option maxRecDepth 20000 in
theorem gX1_total_J13_bitCount_95d88 : GoodIn wsX1_total (va_wsS RX1 42 yJ13_bitCount_95d88 wsJ13_bitCount_95d88) := goodIn_app (goodIn_sub (gi_c (gu_wsX1_total_1 _ gm_1) (gi_c (gu_wsX1_total_1 _ gm_2) (gi_c (gu_wsX1_total_1 _ gm_3) gi_0))) (by decide +kernel)) ggX1_total_J13_bitCount_95d88
theorem dX1_total_0 : decode cX1_total 0 = .ok (.iconst 0, 1) := by decide +kernel
theorem dX1_total_1 : decode cX1_total 1 = .ok (.istore_n 1, 1) := by decide +kernel
theorem dX1_total_2 : decode cX1_total 2 = .ok (.iconst 0, 1) := by decide +kernel
theorem dX1_total_3 : decode cX1_total 3 = .ok (.istore_n 2, 1) := by decide +kernel
theorem dX1_total_4 : decode cX1_total 4 = .ok (.iload_n 2, 1) := by decide +kernel
theorem dX1_total_5 : decode cX1_total 5 = .ok (.aload_n 0, 1) := by decide +kernel
theorem dX1_total_6 : decode cX1_total 6 = .ok (.getfield 9, 3) := by decide +kernel
theorem dX1_total_9 : decode cX1_total 9 = .ok (.arraylength, 1) := by decide +kernel
theorem dX1_total_10 : decode cX1_total 10 = .ok (.if_icmp .ge 21, 3) := by decide +kernel
theorem dX1_total_13 : decode cX1_total 13 = .ok (.iload_n 1, 1) := by decide +kernel
theorem dX1_total_14 : decode cX1_total 14 = .ok (.aload_n 0, 1) := by decide +kernel
theorem dX1_total_15 : decode cX1_total 15 = .ok (.getfield 9, 3) := by decide +kernel
theorem dX1_total_18 : decode cX1_total 18 = .ok (.iload_n 2, 1) := by decide +kernel
theorem dX1_total_19 : decode cX1_total 19 = .ok (.laload, 1) := by decide +kernel
theorem dX1_total_20 : decode cX1_total 20 = .ok (.invokestatic 42, 3) := by decide +kernel
theorem dX1_total_23 : decode cX1_total 23 = .ok (.iadd, 1) := by decide +kernel
theorem dX1_total_24 : decode cX1_total 24 = .ok (.istore_n 1, 1) := by decide +kernel
theorem dX1_total_25 : decode cX1_total 25 = .ok (.iinc 2 1, 3) := by decide +kernel
theorem dX1_total_28 : decode cX1_total 28 = .ok (.goto (-24), 3) := by decide +kernel
theorem dX1_total_31 : decode cX1_total 31 = .ok (.iload_n 1, 1) := by decide +kernel
theorem dX1_total_32 : decode cX1_total 32 = .ok (.ireturn, 1) := by decide +kernel
set_option maxRecDepth 20000 in
theorem gu_wsX1_setMarks_1 : ∀ w ∈ ([Cond.fieldLink RX1 24 "SieveCabinet$BitRow" "size" "I", Cond.methodLink RX1 45 yX4_markPlace, Cond.static yX4_markPlace, Cond.initialized RX4, Cond.code yX4_markPlace cX4_markPlace 8 (some .int), Cond.constantLong RX4 15 (4294967295), Cond.methodLink RX1 51 yX1_set, Cond.instanceMethod yX1_set, Cond.selects RX1 yX1_set yX1_set, Cond.initialized RX1, Cond.code yX1_set cX1_set 2 none, Cond.fieldLink RX1 9 "SieveCabinet$BitRow" "words" "[J"] : List Cond), w ∈ wsX1_setMarks := fun _ h => List.mem_cons_of_mem _ (List.mem_append_left _ h)
set_option maxRecDepth 20000 in
theorem ggX1_setMarks_X4_markPlace : GoodIn wsX1_setMarks wsX4_markPlace := goodIn_sub (gi_c (gu_wsX1_setMarks_1 _ gm_4) (gi_c (gu_wsX1_setMarks_1 _ gm_5) gi_0)) (by decide +kernel)
set_option maxRecDepth 20000 in
theorem gX1_setMarks_X4_markPlace : GoodIn wsX1_setMarks (va_wsS RX1 45 yX4_markPlace wsX4_markPlace) := goodIn_app (goodIn_sub (gi_c (gu_wsX1_setMarks_1 _ gm_1) (gi_c (gu_wsX1_setMarks_1 _ gm_2) (gi_c (gu_wsX1_setMarks_1 _ gm_3) gi_0))) (by decide +kernel)) ggX1_setMarks_X4_markPlace
set_option maxRecDepth 20000 in
theorem gu_wsX1_setMarks_2 : ∀ w ∈ wsX10, w ∈ wsX1_setMarks := fun _ h => List.mem_cons_of_mem _ (List.mem_append_right _ h)
set_option maxRecDepth 20000 in
theorem ggX1_setMarks_X1_set : GoodIn wsX1_setMarks wsX1_set := goodIn_sub (gi_c (gu_wsX1_setMarks_1 _ gm_10) (gi_a (gi_c (gu_wsX1_setMarks_1 _ gm_0) (gi_c (gu_wsX1_setMarks_1 _ gm_11) gi_0)) (gu_wsX1_setMarks_2))) (by decide +kernel)
set_option maxRecDepth 20000 in
theorem gX1_setMarks_X1_set : GoodIn wsX1_setMarks (wsV RX1 51 RX1 yX1_set wsX1_set) := goodIn_app (goodIn_sub (gi_c (gu_wsX1_setMarks_1 _ gm_6) (gi_c (gu_wsX1_setMarks_1 _ gm_7) (gi_c (gu_wsX1_setMarks_1 _ gm_8) (gi_c (gu_wsX1_setMarks_1 _ gm_9) gi_0)))) (by decide +kernel)) ggX1_setMarks_X1_set
theorem dX1_setMarks_0 : decode cX1_setMarks 0 = .ok (.iconst 0, 1) := by decide +kernel
theorem dX1_setMarks_1 : decode cX1_setMarks 1 = .ok (.istore 4, 2) := by decide +kernel
theorem dX1_setMarks_3 : decode cX1_setMarks 3 = .ok (.iload 4, 2) := by decide +kernel
theorem dX1_setMarks_5 : decode cX1_setMarks 5 = .ok (.iload_n 3, 1) := by decide +kernel
theorem dX1_setMarks_6 : decode cX1_setMarks 6 = .ok (.if_icmp .ge 23, 3) := by decide +kernel
theorem dX1_setMarks_9 : decode cX1_setMarks 9 = .ok (.aload_n 0, 1) := by decide +kernel
theorem dX1_setMarks_10 : decode cX1_setMarks 10 = .ok (.lload_n 1, 1) := by decide +kernel
theorem dX1_setMarks_11 : decode cX1_setMarks 11 = .ok (.iload 4, 2) := by decide +kernel
theorem dX1_setMarks_13 : decode cX1_setMarks 13 = .ok (.aload_n 0, 1) := by decide +kernel
theorem dX1_setMarks_14 : decode cX1_setMarks 14 = .ok (.getfield 24, 3) := by decide +kernel
theorem dX1_setMarks_17 : decode cX1_setMarks 17 = .ok (.invokestatic 45, 3) := by decide +kernel
theorem dX1_setMarks_20 : decode cX1_setMarks 20 = .ok (.invokevirtual 51, 3) := by decide +kernel
theorem dX1_setMarks_23 : decode cX1_setMarks 23 = .ok (.iinc 4 1, 3) := by decide +kernel
theorem dX1_setMarks_26 : decode cX1_setMarks 26 = .ok (.goto (-23), 3) := by decide +kernel
theorem dX1_setMarks_29 : decode cX1_setMarks 29 = .ok (.return_, 1) := by decide +kernel
set_option maxRecDepth 20000 in
theorem gu_wsX1_hasMarks_1 : ∀ w ∈ ([Cond.fieldLink RX1 24 "SieveCabinet$BitRow" "size" "I", Cond.methodLink RX1 45 yX4_markPlace, Cond.static yX4_markPlace, Cond.initialized RX4, Cond.code yX4_markPlace cX4_markPlace 8 (some .int), Cond.constantLong RX4 15 (4294967295), Cond.methodLink RX1 55 yX1_has, Cond.instanceMethod yX1_has, Cond.selects RX1 yX1_has yX1_has, Cond.initialized RX1, Cond.code yX1_has cX1_has 2 (some .boolean), Cond.fieldLink RX1 9 "SieveCabinet$BitRow" "words" "[J"] : List Cond), w ∈ wsX1_hasMarks := fun _ h => List.mem_cons_of_mem _ (List.mem_append_left _ h)
set_option maxRecDepth 20000 in
theorem ggX1_hasMarks_X4_markPlace : GoodIn wsX1_hasMarks wsX4_markPlace := goodIn_sub (gi_c (gu_wsX1_hasMarks_1 _ gm_4) (gi_c (gu_wsX1_hasMarks_1 _ gm_5) gi_0)) (by decide +kernel)
set_option maxRecDepth 20000 in
theorem gX1_hasMarks_X4_markPlace : GoodIn wsX1_hasMarks (va_wsS RX1 45 yX4_markPlace wsX4_markPlace) := goodIn_app (goodIn_sub (gi_c (gu_wsX1_hasMarks_1 _ gm_1) (gi_c (gu_wsX1_hasMarks_1 _ gm_2) (gi_c (gu_wsX1_hasMarks_1 _ gm_3) gi_0))) (by decide +kernel)) ggX1_hasMarks_X4_markPlace
set_option maxRecDepth 20000 in
theorem gu_wsX1_hasMarks_2 : ∀ w ∈ wsX10, w ∈ wsX1_hasMarks := fun _ h => List.mem_cons_of_mem _ (List.mem_append_right _ h)
set_option maxRecDepth 20000 in
theorem ggX1_hasMarks_X1_has : GoodIn wsX1_hasMarks wsX1_has := goodIn_sub (gi_c (gu_wsX1_hasMarks_1 _ gm_10) (gi_a (gi_c (gu_wsX1_hasMarks_1 _ gm_0) (gi_c (gu_wsX1_hasMarks_1 _ gm_11) gi_0)) (gu_wsX1_hasMarks_2))) (by decide +kernel)
set_option maxRecDepth 20000 in
theorem gX1_hasMarks_X1_has : GoodIn wsX1_hasMarks (wsV RX1 55 RX1 yX1_has wsX1_has) := goodIn_app (goodIn_sub (gi_c (gu_wsX1_hasMarks_1 _ gm_6) (gi_c (gu_wsX1_hasMarks_1 _ gm_7) (gi_c (gu_wsX1_hasMarks_1 _ gm_8) (gi_c (gu_wsX1_hasMarks_1 _ gm_9) gi_0)))) (by decide +kernel)) ggX1_hasMarks_X1_has
theorem dX1_hasMarks_0 : decode cX1_hasMarks 0 = .ok (.iconst 0, 1) := by decide +kernel
theorem dX1_hasMarks_1 : decode cX1_hasMarks 1 = .ok (.istore 4, 2) := by decide +kernel
theorem dX1_hasMarks_3 : decode cX1_hasMarks 3 = .ok (.iload 4, 2) := by decide +kernel
theorem dX1_hasMarks_5 : decode cX1_hasMarks 5 = .ok (.iload_n 3, 1) := by decide +kernel
theorem dX1_hasMarks_6 : decode cX1_hasMarks 6 = .ok (.if_icmp .ge 28, 3) := by decide +kernel
theorem dX1_hasMarks_9 : decode cX1_hasMarks 9 = .ok (.aload_n 0, 1) := by decide +kernel
theorem dX1_hasMarks_10 : decode cX1_hasMarks 10 = .ok (.lload_n 1, 1) := by decide +kernel
theorem dX1_hasMarks_11 : decode cX1_hasMarks 11 = .ok (.iload 4, 2) := by decide +kernel
theorem dX1_hasMarks_13 : decode cX1_hasMarks 13 = .ok (.aload_n 0, 1) := by decide +kernel
theorem dX1_hasMarks_14 : decode cX1_hasMarks 14 = .ok (.getfield 24, 3) := by decide +kernel
theorem dX1_hasMarks_17 : decode cX1_hasMarks 17 = .ok (.invokestatic 45, 3) := by decide +kernel
theorem dX1_hasMarks_20 : decode cX1_hasMarks 20 = .ok (.invokevirtual 55, 3) := by decide +kernel
theorem dX1_hasMarks_23 : decode cX1_hasMarks 23 = .ok (.ifCond .ne 5, 3) := by decide +kernel
theorem dX1_hasMarks_26 : decode cX1_hasMarks 26 = .ok (.iconst 0, 1) := by decide +kernel
theorem dX1_hasMarks_27 : decode cX1_hasMarks 27 = .ok (.ireturn, 1) := by decide +kernel
theorem dX1_hasMarks_28 : decode cX1_hasMarks 28 = .ok (.iinc 4 1, 3) := by decide +kernel
theorem dX1_hasMarks_31 : decode cX1_hasMarks 31 = .ok (.goto (-28), 3) := by decide +kernel
theorem dX1_hasMarks_34 : decode cX1_hasMarks 34 = .ok (.iconst 1, 1) := by decide +kernel
theorem dX1_hasMarks_35 : decode cX1_hasMarks 35 = .ok (.ireturn, 1) := by decide +kernel
set_option maxRecDepth 20000 in
theorem gu_wsX2_init_1 : ∀ w ∈ ([Cond.methodLink RX2 3 objectInit, Cond.instanceMethod objectInit, Cond.code objectInit ⟨#[0xb1]⟩ 1 none, Cond.arrayClass .long, Cond.fieldLink RX2 9 "SieveCabinet$Chooser" "inMixes" "[J", Cond.fieldLink RX2 15 "SieveCabinet$Chooser" "rivalMixes" "[J", Cond.classLink RX2 18 RX1, Cond.instantiable RX1 2, Cond.initialized RX1, Cond.fieldLink RX2 21 "SieveCabinet$Chooser" "bits" "LSieveCabinet$BitRow;", Cond.instanceMethod yX1_init, Cond.code yX1_init cX1_init 1 none, Cond.methodLink RX1 3 objectInit, Cond.fieldLink RX1 9 "SieveCabinet$BitRow" "words" "[J"] : List Cond), w ∈ wsX2_init := fun _ h => List.mem_cons_of_mem _ (List.mem_append_left _ (List.mem_append_left _ h))
set_option maxRecDepth 20000 in
theorem gu_wsX2_init_3 : ∀ w ∈ wsX10, w ∈ wsX2_init := fun _ h => List.mem_cons_of_mem _ (List.mem_append_right _ h)
set_option maxRecDepth 20000 in
theorem ggX2_init_X1_init : GoodIn wsX2_init wsX1_init := goodIn_sub (gi_c (gu_wsX2_init_1 _ gm_11) (gi_a (gi_c (gu_wsX2_init_1 _ gm_12) (gi_c (gu_wsX2_init_1 _ gm_1) (gi_c (gu_wsX2_init_1 _ gm_2) (gi_c (gu_wsX2_init_1 _ gm_3) (gi_c (gu_wsX2_init_1 _ gm_13) gi_0))))) (gu_wsX2_init_3))) (by decide +kernel)
set_option maxRecDepth 20000 in
theorem gX2_init_X1_init_n20 : GoodIn wsX2_init (wsX1_init) := ggX2_init_X1_init
theorem dX2_init_0 : decode cX2_init 0 = .ok (.aload_n 0, 1) := by decide +kernel
theorem dX2_init_1 : decode cX2_init 1 = .ok (.invokespecial 3, 3) := by decide +kernel
theorem dX2_init_4 : decode cX2_init 4 = .ok (.aload_n 0, 1) := by decide +kernel
theorem dX2_init_5 : decode cX2_init 5 = .ok (.sipush 1000, 3) := by decide +kernel
theorem dX2_init_8 : decode cX2_init 8 = .ok (.newarray .long, 2) := by decide +kernel
theorem dX2_init_10 : decode cX2_init 10 = .ok (.putfield 9, 3) := by decide +kernel
theorem dX2_init_13 : decode cX2_init 13 = .ok (.aload_n 0, 1) := by decide +kernel
theorem dX2_init_14 : decode cX2_init 14 = .ok (.sipush 1000, 3) := by decide +kernel
theorem dX2_init_17 : decode cX2_init 17 = .ok (.newarray .long, 2) := by decide +kernel
theorem dX2_init_19 : decode cX2_init 19 = .ok (.putfield 15, 3) := by decide +kernel
theorem dX2_init_22 : decode cX2_init 22 = .ok (.aload_n 0, 1) := by decide +kernel
theorem dX2_init_23 : decode cX2_init 23 = .ok (.new 18, 3) := by decide +kernel
theorem dX2_init_26 : decode cX2_init 26 = .ok (.dup, 1) := by decide +kernel
theorem dX2_init_27 : decode cX2_init 27 = .ok (.invokespecial 20, 3) := by decide +kernel
theorem dX2_init_30 : decode cX2_init 30 = .ok (.putfield 21, 3) := by decide +kernel
theorem dX2_init_33 : decode cX2_init 33 = .ok (.return_, 1) := by decide +kernel
set_option maxRecDepth 20000 in
theorem gu_wsX2_begin_1 : ∀ w ∈ ([Cond.fieldLink RX2 31 "SieveCabinet$Chooser" "inCount" "I", Cond.fieldLink RX2 9 "SieveCabinet$Chooser" "inMixes" "[J", Cond.fieldLink RX2 45 "SieveCabinet$Chooser" "rivalCount" "I", Cond.fieldLink RX2 15 "SieveCabinet$Chooser" "rivalMixes" "[J", Cond.methodLink RX2 25 yX0_count, Cond.instanceMethod yX0_count, Cond.selects RX0 yX0_count yX0_count, Cond.initialized RX0, Cond.code yX0_count cX0_count 1 (some .int), Cond.fieldLink RX0 15 "SieveCabinet$Bag" "count" "I", Cond.methodLink RX2 35 yX0_at, Cond.instanceMethod yX0_at, Cond.selects RX0 yX0_at yX0_at, Cond.code yX0_at cX0_at 2 (some .long), Cond.fieldLink RX0 9 "SieveCabinet$Bag" "row" "[J", Cond.methodLink RX2 39 yX4_of, Cond.static yX4_of, Cond.initialized RX4, Cond.code yX4_of cX4_of 5 (some .long), Cond.constantLong RX4 7 (-7046029254386353131), Cond.constantLong RX4 9 (-4658895280553007687), Cond.constantLong RX4 11 (-7723592293110705685)] : List Cond), w ∈ wsX2_begin := fun _ h => List.mem_cons_of_mem _ (List.mem_append_left _ (List.mem_append_left _ h))
set_option maxRecDepth 20000 in
theorem gu_wsX2_begin_3 : ∀ w ∈ wsX00, w ∈ wsX2_begin := fun _ h => List.mem_cons_of_mem _ (List.mem_append_right _ h)
set_option maxRecDepth 20000 in
theorem ggX2_begin_X0_count : GoodIn wsX2_begin wsX0_count := goodIn_sub (gi_c (gu_wsX2_begin_1 _ gm_8) (gi_a (gi_c (gu_wsX2_begin_1 _ gm_9) gi_0) (gu_wsX2_begin_3))) (by decide +kernel)
set_option maxRecDepth 20000 in
theorem gX2_begin_X0_count : GoodIn wsX2_begin (wsV RX2 25 RX0 yX0_count wsX0_count) := goodIn_app (goodIn_sub (gi_c (gu_wsX2_begin_1 _ gm_4) (gi_c (gu_wsX2_begin_1 _ gm_5) (gi_c (gu_wsX2_begin_1 _ gm_6) (gi_c (gu_wsX2_begin_1 _ gm_7) gi_0)))) (by decide +kernel)) ggX2_begin_X0_count
set_option maxRecDepth 20000 in
theorem ggX2_begin_X0_at : GoodIn wsX2_begin wsX0_at := goodIn_sub (gi_c (gu_wsX2_begin_1 _ gm_13) (gi_a (gi_c (gu_wsX2_begin_1 _ gm_9) (gi_c (gu_wsX2_begin_1 _ gm_14) gi_0)) (gu_wsX2_begin_3))) (by decide +kernel)
set_option maxRecDepth 20000 in
theorem gX2_begin_X0_at : GoodIn wsX2_begin (wsV RX2 35 RX0 yX0_at wsX0_at) := goodIn_app (goodIn_sub (gi_c (gu_wsX2_begin_1 _ gm_10) (gi_c (gu_wsX2_begin_1 _ gm_11) (gi_c (gu_wsX2_begin_1 _ gm_12) (gi_c (gu_wsX2_begin_1 _ gm_7) gi_0)))) (by decide +kernel)) ggX2_begin_X0_at
set_option maxRecDepth 20000 in
theorem ggX2_begin_X4_of : GoodIn wsX2_begin wsX4_of := goodIn_sub (gi_c (gu_wsX2_begin_1 _ gm_18) (gi_c (gu_wsX2_begin_1 _ gm_19) (gi_c (gu_wsX2_begin_1 _ gm_20) (gi_c (gu_wsX2_begin_1 _ gm_21) gi_0)))) (by decide +kernel)
set_option maxRecDepth 20000 in
theorem gX2_begin_X4_of : GoodIn wsX2_begin (va_wsS RX2 39 yX4_of wsX4_of) := goodIn_app (goodIn_sub (gi_c (gu_wsX2_begin_1 _ gm_15) (gi_c (gu_wsX2_begin_1 _ gm_16) (gi_c (gu_wsX2_begin_1 _ gm_17) gi_0))) (by decide +kernel)) ggX2_begin_X4_of
theorem dX2_begin_0 : decode cX2_begin 0 = .ok (.aload_n 0, 1) := by decide +kernel
theorem dX2_begin_1 : decode cX2_begin 1 = .ok (.aload_n 1, 1) := by decide +kernel
theorem dX2_begin_2 : decode cX2_begin 2 = .ok (.invokevirtual 25, 3) := by decide +kernel
theorem dX2_begin_5 : decode cX2_begin 5 = .ok (.putfield 31, 3) := by decide +kernel
theorem dX2_begin_8 : decode cX2_begin 8 = .ok (.iconst 0, 1) := by decide +kernel
theorem dX2_begin_9 : decode cX2_begin 9 = .ok (.istore 4, 2) := by decide +kernel
theorem dX2_begin_11 : decode cX2_begin 11 = .ok (.iload 4, 2) := by decide +kernel
theorem dX2_begin_13 : decode cX2_begin 13 = .ok (.aload_n 0, 1) := by decide +kernel
theorem dX2_begin_14 : decode cX2_begin 14 = .ok (.getfield 31, 3) := by decide +kernel
theorem dX2_begin_17 : decode cX2_begin 17 = .ok (.if_icmp .ge 26, 3) := by decide +kernel
theorem dX2_begin_20 : decode cX2_begin 20 = .ok (.aload_n 0, 1) := by decide +kernel
theorem dX2_begin_21 : decode cX2_begin 21 = .ok (.getfield 9, 3) := by decide +kernel
theorem dX2_begin_24 : decode cX2_begin 24 = .ok (.iload 4, 2) := by decide +kernel
theorem dX2_begin_26 : decode cX2_begin 26 = .ok (.aload_n 1, 1) := by decide +kernel
theorem dX2_begin_27 : decode cX2_begin 27 = .ok (.iload 4, 2) := by decide +kernel
theorem dX2_begin_29 : decode cX2_begin 29 = .ok (.invokevirtual 35, 3) := by decide +kernel
theorem dX2_begin_32 : decode cX2_begin 32 = .ok (.iload_n 3, 1) := by decide +kernel
theorem dX2_begin_33 : decode cX2_begin 33 = .ok (.invokestatic 39, 3) := by decide +kernel
theorem dX2_begin_36 : decode cX2_begin 36 = .ok (.lastore, 1) := by decide +kernel
theorem dX2_begin_37 : decode cX2_begin 37 = .ok (.iinc 4 1, 3) := by decide +kernel
theorem dX2_begin_40 : decode cX2_begin 40 = .ok (.goto (-29), 3) := by decide +kernel
theorem dX2_begin_43 : decode cX2_begin 43 = .ok (.aload_n 0, 1) := by decide +kernel
theorem dX2_begin_44 : decode cX2_begin 44 = .ok (.aload_n 2, 1) := by decide +kernel
theorem dX2_begin_45 : decode cX2_begin 45 = .ok (.invokevirtual 25, 3) := by decide +kernel
theorem dX2_begin_48 : decode cX2_begin 48 = .ok (.putfield 45, 3) := by decide +kernel
theorem dX2_begin_51 : decode cX2_begin 51 = .ok (.iconst 0, 1) := by decide +kernel
theorem dX2_begin_52 : decode cX2_begin 52 = .ok (.istore 4, 2) := by decide +kernel
theorem dX2_begin_54 : decode cX2_begin 54 = .ok (.iload 4, 2) := by decide +kernel
theorem dX2_begin_56 : decode cX2_begin 56 = .ok (.aload_n 0, 1) := by decide +kernel
theorem dX2_begin_57 : decode cX2_begin 57 = .ok (.getfield 45, 3) := by decide +kernel
theorem dX2_begin_60 : decode cX2_begin 60 = .ok (.if_icmp .ge 26, 3) := by decide +kernel
theorem dX2_begin_63 : decode cX2_begin 63 = .ok (.aload_n 0, 1) := by decide +kernel
theorem dX2_begin_64 : decode cX2_begin 64 = .ok (.getfield 15, 3) := by decide +kernel
theorem dX2_begin_67 : decode cX2_begin 67 = .ok (.iload 4, 2) := by decide +kernel
theorem dX2_begin_69 : decode cX2_begin 69 = .ok (.aload_n 2, 1) := by decide +kernel
theorem dX2_begin_70 : decode cX2_begin 70 = .ok (.iload 4, 2) := by decide +kernel
theorem dX2_begin_72 : decode cX2_begin 72 = .ok (.invokevirtual 35, 3) := by decide +kernel
theorem dX2_begin_75 : decode cX2_begin 75 = .ok (.iload_n 3, 1) := by decide +kernel
theorem dX2_begin_76 : decode cX2_begin 76 = .ok (.invokestatic 39, 3) := by decide +kernel
theorem dX2_begin_79 : decode cX2_begin 79 = .ok (.lastore, 1) := by decide +kernel
theorem dX2_begin_80 : decode cX2_begin 80 = .ok (.iinc 4 1, 3) := by decide +kernel
theorem dX2_begin_83 : decode cX2_begin 83 = .ok (.goto (-29), 3) := by decide +kernel
theorem dX2_begin_86 : decode cX2_begin 86 = .ok (.return_, 1) := by decide +kernel
set_option maxRecDepth 20000 in
theorem gu_wsX2_choose_1 : ∀ w ∈ wsX2_choose_r1, w ∈ wsX2_choose := fun _ h => List.mem_cons_of_mem _ (List.mem_append_left _ (List.mem_append_left _ (List.mem_append_left _ h)))
set_option maxRecDepth 20000 in
theorem gu_wsX2_choose_5 : ∀ w ∈ wsX10, w ∈ wsX2_choose := fun _ h => List.mem_cons_of_mem _ (List.mem_append_right _ h)
set_option maxRecDepth 20000 in
theorem ggX2_choose_X1_begin : GoodIn wsX2_choose wsX1_begin := goodIn_sub (gi_c (gu_wsX2_choose_1 _ gm_5) (gi_a (gi_c (gu_wsX2_choose_1 _ gm_6) (gi_c (gu_wsX2_choose_1 _ gm_7) (gi_c (gu_wsX2_choose_1 _ gm_8) (gi_c (gu_wsX2_choose_1 _ gm_9) (gi_c (gu_wsX2_choose_1 _ gm_10) (gi_c (gu_wsX2_choose_1 _ gm_11) (gi_c (gu_wsX2_choose_1 _ gm_12) (gi_c (gu_wsX2_choose_1 _ gm_13) (gi_c (gu_wsX2_choose_1 _ gm_14) (gi_c (gu_wsX2_choose_1 _ gm_15) (gi_c (gu_wsX2_choose_1 _ gm_16) (gi_c (gu_wsX2_choose_1 _ gm_17) (gi_c (gu_wsX2_choose_1 _ gm_18) gi_0))))))))))))) (gu_wsX2_choose_5))) (by decide +kernel)
set_option maxRecDepth 20000 in
theorem gX2_choose_X1_begin : GoodIn wsX2_choose (wsV RX2 48 RX1 yX1_begin wsX1_begin) := goodIn_app (goodIn_sub (gi_c (gu_wsX2_choose_1 _ gm_1) (gi_c (gu_wsX2_choose_1 _ gm_2) (gi_c (gu_wsX2_choose_1 _ gm_3) (gi_c (gu_wsX2_choose_1 _ gm_4) gi_0)))) (by decide +kernel)) ggX2_choose_X1_begin
set_option maxRecDepth 20000 in
theorem gu_wsX2_choose_2 : ∀ w ∈ wsX2_choose_r2, w ∈ wsX2_choose := fun _ h => List.mem_cons_of_mem _ (List.mem_append_left _ (List.mem_append_left _ (List.mem_append_right _ (List.mem_append_left _ h))))
set_option maxRecDepth 20000 in
theorem gu_wsX2_choose_4 : ∀ w ∈ wsX20, w ∈ wsX2_choose := fun _ h => List.mem_cons_of_mem _ (List.mem_append_left _ (List.mem_append_right _ h))
set_option maxRecDepth 20000 in
theorem ggX2_choose_X2_setMark : GoodIn wsX2_choose wsX2_setMark := goodIn_sub (gi_c (gu_wsX2_choose_1 _ gm_23) (gi_a (gi_a (gi_c (gu_wsX2_choose_2 _ gm_0) (gi_c (gu_wsX2_choose_1 _ gm_0) (gi_c (gu_wsX2_choose_2 _ gm_1) (gi_c (gu_wsX2_choose_2 _ gm_2) (gi_c (gu_wsX2_choose_2 _ gm_3) (gi_c (gu_wsX2_choose_2 _ gm_4) (gi_c (gu_wsX2_choose_2 _ gm_5) (gi_c (gu_wsX2_choose_2 _ gm_6) (gi_c (gu_wsX2_choose_2 _ gm_7) (gi_c (gu_wsX2_choose_2 _ gm_8) (gi_c (gu_wsX2_choose_2 _ gm_9) (gi_c (gu_wsX2_choose_1 _ gm_4) (gi_c (gu_wsX2_choose_2 _ gm_10) (gi_c (gu_wsX2_choose_1 _ gm_13) (gi_c (gu_wsX2_choose_1 _ gm_14) gi_0))))))))))))))) (gu_wsX2_choose_4)) (gu_wsX2_choose_5))) (by decide +kernel)
set_option maxRecDepth 20000 in
theorem gX2_choose_X2_setMark : GoodIn wsX2_choose (wsV RX2 52 RX2 yX2_setMark wsX2_setMark) := goodIn_app (goodIn_sub (gi_c (gu_wsX2_choose_1 _ gm_19) (gi_c (gu_wsX2_choose_1 _ gm_20) (gi_c (gu_wsX2_choose_1 _ gm_21) (gi_c (gu_wsX2_choose_1 _ gm_22) gi_0)))) (by decide +kernel)) ggX2_choose_X2_setMark
set_option maxRecDepth 20000 in
theorem gu_wsX2_choose_3 : ∀ w ∈ wsX2_choose_r3, w ∈ wsX2_choose := fun _ h => List.mem_cons_of_mem _ (List.mem_append_left _ (List.mem_append_left _ (List.mem_append_right _ (List.mem_append_right _ h))))
set_option maxRecDepth 20000 in
theorem ggX2_choose_X2_countFalses : GoodIn wsX2_choose wsX2_countFalses := goodIn_sub (gi_c (gu_wsX2_choose_2 _ gm_14) (gi_a (gi_a (gi_c (gu_wsX2_choose_2 _ gm_15) (gi_c (gu_wsX2_choose_1 _ gm_0) (gi_c (gu_wsX2_choose_2 _ gm_16) (gi_c (gu_wsX2_choose_2 _ gm_17) (gi_c (gu_wsX2_choose_2 _ gm_18) (gi_c (gu_wsX2_choose_2 _ gm_19) (gi_c (gu_wsX2_choose_1 _ gm_4) (gi_c (gu_wsX2_choose_2 _ gm_20) (gi_c (gu_wsX2_choose_1 _ gm_13) (gi_c (gu_wsX2_choose_2 _ gm_21) (gi_c (gu_wsX2_choose_2 _ gm_3) (gi_c (gu_wsX2_choose_2 _ gm_4) (gi_c (gu_wsX2_choose_2 _ gm_5) (gi_c (gu_wsX2_choose_2 _ gm_6) (gi_c (gu_wsX2_choose_2 _ gm_22) (gi_c (gu_wsX2_choose_2 _ gm_23) (gi_c (gu_wsX2_choose_3 _ gm_0) (gi_c (gu_wsX2_choose_3 _ gm_1) (gi_c (gu_wsX2_choose_1 _ gm_14) gi_0))))))))))))))))))) (gu_wsX2_choose_4)) (gu_wsX2_choose_5))) (by decide +kernel)
set_option maxRecDepth 20000 in
theorem gX2_choose_X2_countFalses : GoodIn wsX2_choose (wsV RX2 56 RX2 yX2_countFalses wsX2_countFalses) := goodIn_app (goodIn_sub (gi_c (gu_wsX2_choose_2 _ gm_11) (gi_c (gu_wsX2_choose_2 _ gm_12) (gi_c (gu_wsX2_choose_2 _ gm_13) (gi_c (gu_wsX2_choose_1 _ gm_22) gi_0)))) (by decide +kernel)) ggX2_choose_X2_countFalses
theorem dX2_choose_0 : decode cX2_choose 0 = .ok (.sipush 1001, 3) := by decide +kernel
theorem dX2_choose_3 : decode cX2_choose 3 = .ok (.istore_n 2, 1) := by decide +kernel
theorem dX2_choose_4 : decode cX2_choose 4 = .ok (.iconst 0, 1) := by decide +kernel
theorem dX2_choose_5 : decode cX2_choose 5 = .ok (.istore_n 3, 1) := by decide +kernel
theorem dX2_choose_6 : decode cX2_choose 6 = .ok (.bipush 8, 2) := by decide +kernel
theorem dX2_choose_8 : decode cX2_choose 8 = .ok (.istore 4, 2) := by decide +kernel
theorem dX2_choose_10 : decode cX2_choose 10 = .ok (.iload 4, 2) := by decide +kernel
theorem dX2_choose_12 : decode cX2_choose 12 = .ok (.iload_n 1, 1) := by decide +kernel
theorem dX2_choose_13 : decode cX2_choose 13 = .ok (.if_icmp .gt 89, 3) := by decide +kernel
theorem dX2_choose_16 : decode cX2_choose 16 = .ok (.iload 4, 2) := by decide +kernel
theorem dX2_choose_18 : decode cX2_choose 18 = .ok (.sipush 4096, 3) := by decide +kernel
theorem dX2_choose_21 : decode cX2_choose 21 = .ok (.if_icmp .gt 81, 3) := by decide +kernel
theorem dX2_choose_24 : decode cX2_choose 24 = .ok (.aload_n 0, 1) := by decide +kernel
theorem dX2_choose_25 : decode cX2_choose 25 = .ok (.getfield 21, 3) := by decide +kernel
theorem dX2_choose_28 : decode cX2_choose 28 = .ok (.iload 4, 2) := by decide +kernel
theorem dX2_choose_30 : decode cX2_choose 30 = .ok (.invokevirtual 48, 3) := by decide +kernel
theorem dX2_choose_33 : decode cX2_choose 33 = .ok (.iconst 1, 1) := by decide +kernel
theorem dX2_choose_34 : decode cX2_choose 34 = .ok (.istore 5, 2) := by decide +kernel
theorem dX2_choose_36 : decode cX2_choose 36 = .ok (.iload 5, 2) := by decide +kernel
theorem dX2_choose_38 : decode cX2_choose 38 = .ok (.bipush 8, 2) := by decide +kernel
theorem dX2_choose_40 : decode cX2_choose 40 = .ok (.if_icmp .gt 53, 3) := by decide +kernel
theorem dX2_choose_43 : decode cX2_choose 43 = .ok (.aload_n 0, 1) := by decide +kernel
theorem dX2_choose_44 : decode cX2_choose 44 = .ok (.iload 5, 2) := by decide +kernel
theorem dX2_choose_46 : decode cX2_choose 46 = .ok (.iconst 1, 1) := by decide +kernel
theorem dX2_choose_47 : decode cX2_choose 47 = .ok (.isub, 1) := by decide +kernel
theorem dX2_choose_48 : decode cX2_choose 48 = .ok (.iload 4, 2) := by decide +kernel
theorem dX2_choose_50 : decode cX2_choose 50 = .ok (.invokevirtual 52, 3) := by decide +kernel
theorem dX2_choose_53 : decode cX2_choose 53 = .ok (.aload_n 0, 1) := by decide +kernel
theorem dX2_choose_54 : decode cX2_choose 54 = .ok (.iload 5, 2) := by decide +kernel
theorem dX2_choose_56 : decode cX2_choose 56 = .ok (.iload_n 2, 1) := by decide +kernel
theorem dX2_choose_57 : decode cX2_choose 57 = .ok (.invokevirtual 56, 3) := by decide +kernel
theorem dX2_choose_60 : decode cX2_choose 60 = .ok (.istore 6, 2) := by decide +kernel
theorem dX2_choose_62 : decode cX2_choose 62 = .ok (.iload 6, 2) := by decide +kernel
theorem dX2_choose_64 : decode cX2_choose 64 = .ok (.iload_n 2, 1) := by decide +kernel
theorem dX2_choose_65 : decode cX2_choose 65 = .ok (.if_icmp .ge 15, 3) := by decide +kernel
theorem dX2_choose_68 : decode cX2_choose 68 = .ok (.iload 6, 2) := by decide +kernel
theorem dX2_choose_70 : decode cX2_choose 70 = .ok (.istore_n 2, 1) := by decide +kernel
theorem dX2_choose_71 : decode cX2_choose 71 = .ok (.bipush 16, 2) := by decide +kernel
theorem dX2_choose_73 : decode cX2_choose 73 = .ok (.iload 4, 2) := by decide +kernel
theorem dX2_choose_75 : decode cX2_choose 75 = .ok (.imul, 1) := by decide +kernel
theorem dX2_choose_76 : decode cX2_choose 76 = .ok (.iload 5, 2) := by decide +kernel
theorem dX2_choose_78 : decode cX2_choose 78 = .ok (.iadd, 1) := by decide +kernel
theorem dX2_choose_79 : decode cX2_choose 79 = .ok (.istore_n 3, 1) := by decide +kernel
theorem dX2_choose_80 : decode cX2_choose 80 = .ok (.iload 6, 2) := by decide +kernel
theorem dX2_choose_82 : decode cX2_choose 82 = .ok (.ifCond .ne 5, 3) := by decide +kernel
theorem dX2_choose_85 : decode cX2_choose 85 = .ok (.iload_n 3, 1) := by decide +kernel
theorem dX2_choose_86 : decode cX2_choose 86 = .ok (.ireturn, 1) := by decide +kernel
theorem dX2_choose_87 : decode cX2_choose 87 = .ok (.iinc 5 1, 3) := by decide +kernel
theorem dX2_choose_90 : decode cX2_choose 90 = .ok (.goto (-54), 3) := by decide +kernel
theorem dX2_choose_93 : decode cX2_choose 93 = .ok (.iload 4, 2) := by decide +kernel
theorem dX2_choose_95 : decode cX2_choose 95 = .ok (.iconst 2, 1) := by decide +kernel
theorem dX2_choose_96 : decode cX2_choose 96 = .ok (.imul, 1) := by decide +kernel
theorem dX2_choose_97 : decode cX2_choose 97 = .ok (.istore 4, 2) := by decide +kernel
theorem dX2_choose_99 : decode cX2_choose 99 = .ok (.goto (-89), 3) := by decide +kernel
theorem dX2_choose_102 : decode cX2_choose 102 = .ok (.iload_n 3, 1) := by decide +kernel
theorem dX2_choose_103 : decode cX2_choose 103 = .ok (.ireturn, 1) := by decide +kernel
set_option maxRecDepth 20000 in
theorem gu_wsX2_setMark_1 : ∀ w ∈ ([Cond.fieldLink RX2 31 "SieveCabinet$Chooser" "inCount" "I", Cond.fieldLink RX2 21 "SieveCabinet$Chooser" "bits" "LSieveCabinet$BitRow;", Cond.fieldLink RX2 9 "SieveCabinet$Chooser" "inMixes" "[J", Cond.methodLink RX2 60 yX4_markPlace, Cond.static yX4_markPlace, Cond.initialized RX4, Cond.code yX4_markPlace cX4_markPlace 8 (some .int), Cond.constantLong RX4 15 (4294967295), Cond.methodLink RX2 64 yX1_set, Cond.instanceMethod yX1_set, Cond.selects RX1 yX1_set yX1_set, Cond.initialized RX1, Cond.code yX1_set cX1_set 2 none, Cond.fieldLink RX1 24 "SieveCabinet$BitRow" "size" "I", Cond.fieldLink RX1 9 "SieveCabinet$BitRow" "words" "[J"] : List Cond), w ∈ wsX2_setMark := fun _ h => List.mem_cons_of_mem _ (List.mem_append_left _ (List.mem_append_left _ h))
set_option maxRecDepth 20000 in
theorem ggX2_setMark_X4_markPlace : GoodIn wsX2_setMark wsX4_markPlace := goodIn_sub (gi_c (gu_wsX2_setMark_1 _ gm_6) (gi_c (gu_wsX2_setMark_1 _ gm_7) gi_0)) (by decide +kernel)
set_option maxRecDepth 20000 in
theorem gX2_setMark_X4_markPlace : GoodIn wsX2_setMark (va_wsS RX2 60 yX4_markPlace wsX4_markPlace) := goodIn_app (goodIn_sub (gi_c (gu_wsX2_setMark_1 _ gm_3) (gi_c (gu_wsX2_setMark_1 _ gm_4) (gi_c (gu_wsX2_setMark_1 _ gm_5) gi_0))) (by decide +kernel)) ggX2_setMark_X4_markPlace
set_option maxRecDepth 20000 in
theorem gu_wsX2_setMark_3 : ∀ w ∈ wsX10, w ∈ wsX2_setMark := fun _ h => List.mem_cons_of_mem _ (List.mem_append_right _ h)
set_option maxRecDepth 20000 in
theorem ggX2_setMark_X1_set : GoodIn wsX2_setMark wsX1_set := goodIn_sub (gi_c (gu_wsX2_setMark_1 _ gm_12) (gi_a (gi_c (gu_wsX2_setMark_1 _ gm_13) (gi_c (gu_wsX2_setMark_1 _ gm_14) gi_0)) (gu_wsX2_setMark_3))) (by decide +kernel)
set_option maxRecDepth 20000 in
theorem gX2_setMark_X1_set : GoodIn wsX2_setMark (wsV RX2 64 RX1 yX1_set wsX1_set) := goodIn_app (goodIn_sub (gi_c (gu_wsX2_setMark_1 _ gm_8) (gi_c (gu_wsX2_setMark_1 _ gm_9) (gi_c (gu_wsX2_setMark_1 _ gm_10) (gi_c (gu_wsX2_setMark_1 _ gm_11) gi_0)))) (by decide +kernel)) ggX2_setMark_X1_set
theorem dX2_setMark_0 : decode cX2_setMark 0 = .ok (.iconst 0, 1) := by decide +kernel
theorem dX2_setMark_1 : decode cX2_setMark 1 = .ok (.istore_n 3, 1) := by decide +kernel
theorem dX2_setMark_2 : decode cX2_setMark 2 = .ok (.iload_n 3, 1) := by decide +kernel
theorem dX2_setMark_3 : decode cX2_setMark 3 = .ok (.aload_n 0, 1) := by decide +kernel
theorem dX2_setMark_4 : decode cX2_setMark 4 = .ok (.getfield 31, 3) := by decide +kernel
theorem dX2_setMark_7 : decode cX2_setMark 7 = .ok (.if_icmp .ge 27, 3) := by decide +kernel
theorem dX2_setMark_10 : decode cX2_setMark 10 = .ok (.aload_n 0, 1) := by decide +kernel
theorem dX2_setMark_11 : decode cX2_setMark 11 = .ok (.getfield 21, 3) := by decide +kernel
theorem dX2_setMark_14 : decode cX2_setMark 14 = .ok (.aload_n 0, 1) := by decide +kernel
theorem dX2_setMark_15 : decode cX2_setMark 15 = .ok (.getfield 9, 3) := by decide +kernel
theorem dX2_setMark_18 : decode cX2_setMark 18 = .ok (.iload_n 3, 1) := by decide +kernel
theorem dX2_setMark_19 : decode cX2_setMark 19 = .ok (.laload, 1) := by decide +kernel
theorem dX2_setMark_20 : decode cX2_setMark 20 = .ok (.iload_n 1, 1) := by decide +kernel
theorem dX2_setMark_21 : decode cX2_setMark 21 = .ok (.iload_n 2, 1) := by decide +kernel
theorem dX2_setMark_22 : decode cX2_setMark 22 = .ok (.invokestatic 60, 3) := by decide +kernel
theorem dX2_setMark_25 : decode cX2_setMark 25 = .ok (.invokevirtual 64, 3) := by decide +kernel
theorem dX2_setMark_28 : decode cX2_setMark 28 = .ok (.iinc 3 1, 3) := by decide +kernel
theorem dX2_setMark_31 : decode cX2_setMark 31 = .ok (.goto (-29), 3) := by decide +kernel
theorem dX2_setMark_34 : decode cX2_setMark 34 = .ok (.return_, 1) := by decide +kernel
set_option maxRecDepth 20000 in
theorem gu_wsX2_countFalses_1 : ∀ w ∈ ([Cond.fieldLink RX2 45 "SieveCabinet$Chooser" "rivalCount" "I", Cond.fieldLink RX2 21 "SieveCabinet$Chooser" "bits" "LSieveCabinet$BitRow;", Cond.fieldLink RX2 15 "SieveCabinet$Chooser" "rivalMixes" "[J", Cond.methodLink RX2 67 yX1_hasMarks, Cond.instanceMethod yX1_hasMarks, Cond.selects RX1 yX1_hasMarks yX1_hasMarks, Cond.initialized RX1, Cond.code yX1_hasMarks cX1_hasMarks 5 (some .boolean), Cond.fieldLink RX1 24 "SieveCabinet$BitRow" "size" "I", Cond.methodLink RX1 45 yX4_markPlace, Cond.static yX4_markPlace, Cond.initialized RX4, Cond.code yX4_markPlace cX4_markPlace 8 (some .int), Cond.constantLong RX4 15 (4294967295), Cond.methodLink RX1 55 yX1_has, Cond.instanceMethod yX1_has, Cond.selects RX1 yX1_has yX1_has, Cond.code yX1_has cX1_has 2 (some .boolean), Cond.fieldLink RX1 9 "SieveCabinet$BitRow" "words" "[J"] : List Cond), w ∈ wsX2_countFalses := fun _ h => List.mem_cons_of_mem _ (List.mem_append_left _ (List.mem_append_left _ h))
set_option maxRecDepth 20000 in
theorem gu_wsX2_countFalses_3 : ∀ w ∈ wsX10, w ∈ wsX2_countFalses := fun _ h => List.mem_cons_of_mem _ (List.mem_append_right _ h)
set_option maxRecDepth 20000 in
theorem ggX2_countFalses_X1_hasMarks : GoodIn wsX2_countFalses wsX1_hasMarks := goodIn_sub (gi_c (gu_wsX2_countFalses_1 _ gm_7) (gi_a (gi_c (gu_wsX2_countFalses_1 _ gm_8) (gi_c (gu_wsX2_countFalses_1 _ gm_9) (gi_c (gu_wsX2_countFalses_1 _ gm_10) (gi_c (gu_wsX2_countFalses_1 _ gm_11) (gi_c (gu_wsX2_countFalses_1 _ gm_12) (gi_c (gu_wsX2_countFalses_1 _ gm_13) (gi_c (gu_wsX2_countFalses_1 _ gm_14) (gi_c (gu_wsX2_countFalses_1 _ gm_15) (gi_c (gu_wsX2_countFalses_1 _ gm_16) (gi_c (gu_wsX2_countFalses_1 _ gm_6) (gi_c (gu_wsX2_countFalses_1 _ gm_17) (gi_c (gu_wsX2_countFalses_1 _ gm_18) gi_0)))))))))))) (gu_wsX2_countFalses_3))) (by decide +kernel)
set_option maxRecDepth 20000 in
theorem gX2_countFalses_X1_hasMarks : GoodIn wsX2_countFalses (wsV RX2 67 RX1 yX1_hasMarks wsX1_hasMarks) := goodIn_app (goodIn_sub (gi_c (gu_wsX2_countFalses_1 _ gm_3) (gi_c (gu_wsX2_countFalses_1 _ gm_4) (gi_c (gu_wsX2_countFalses_1 _ gm_5) (gi_c (gu_wsX2_countFalses_1 _ gm_6) gi_0)))) (by decide +kernel)) ggX2_countFalses_X1_hasMarks
theorem dX2_countFalses_0 : decode cX2_countFalses 0 = .ok (.iconst 0, 1) := by decide +kernel
theorem dX2_countFalses_1 : decode cX2_countFalses 1 = .ok (.istore_n 3, 1) := by decide +kernel
theorem dX2_countFalses_2 : decode cX2_countFalses 2 = .ok (.iconst 0, 1) := by decide +kernel
theorem dX2_countFalses_3 : decode cX2_countFalses 3 = .ok (.istore 4, 2) := by decide +kernel
theorem dX2_countFalses_5 : decode cX2_countFalses 5 = .ok (.iload 4, 2) := by decide +kernel
theorem dX2_countFalses_7 : decode cX2_countFalses 7 = .ok (.aload_n 0, 1) := by decide +kernel
theorem dX2_countFalses_8 : decode cX2_countFalses 8 = .ok (.getfield 45, 3) := by decide +kernel
theorem dX2_countFalses_11 : decode cX2_countFalses 11 = .ok (.if_icmp .ge 35, 3) := by decide +kernel
theorem dX2_countFalses_14 : decode cX2_countFalses 14 = .ok (.iload_n 3, 1) := by decide +kernel
theorem dX2_countFalses_15 : decode cX2_countFalses 15 = .ok (.iload_n 2, 1) := by decide +kernel
theorem dX2_countFalses_16 : decode cX2_countFalses 16 = .ok (.if_icmp .ge 30, 3) := by decide +kernel
theorem dX2_countFalses_19 : decode cX2_countFalses 19 = .ok (.aload_n 0, 1) := by decide +kernel
theorem dX2_countFalses_20 : decode cX2_countFalses 20 = .ok (.getfield 21, 3) := by decide +kernel
theorem dX2_countFalses_23 : decode cX2_countFalses 23 = .ok (.aload_n 0, 1) := by decide +kernel
theorem dX2_countFalses_24 : decode cX2_countFalses 24 = .ok (.getfield 15, 3) := by decide +kernel
theorem dX2_countFalses_27 : decode cX2_countFalses 27 = .ok (.iload 4, 2) := by decide +kernel
theorem dX2_countFalses_29 : decode cX2_countFalses 29 = .ok (.laload, 1) := by decide +kernel
theorem dX2_countFalses_30 : decode cX2_countFalses 30 = .ok (.iload_n 1, 1) := by decide +kernel
theorem dX2_countFalses_31 : decode cX2_countFalses 31 = .ok (.invokevirtual 67, 3) := by decide +kernel
theorem dX2_countFalses_34 : decode cX2_countFalses 34 = .ok (.ifCond .eq 6, 3) := by decide +kernel
theorem dX2_countFalses_37 : decode cX2_countFalses 37 = .ok (.iinc 3 1, 3) := by decide +kernel
theorem dX2_countFalses_40 : decode cX2_countFalses 40 = .ok (.iinc 4 1, 3) := by decide +kernel
theorem dX2_countFalses_43 : decode cX2_countFalses 43 = .ok (.goto (-38), 3) := by decide +kernel
theorem dX2_countFalses_46 : decode cX2_countFalses 46 = .ok (.iload_n 3, 1) := by decide +kernel
theorem dX2_countFalses_47 : decode cX2_countFalses 47 = .ok (.ireturn, 1) := by decide +kernel
set_option maxRecDepth 20000 in
theorem gu_wsX3_init_1 : ∀ w ∈ ([Cond.methodLink RX3 3 objectInit, Cond.instanceMethod objectInit, Cond.code objectInit ⟨#[0xb1]⟩ 1 none, Cond.classLink RX3 11 RX1, Cond.fieldLink RX3 13 "SieveCabinet$Layers" "rows" "[LSieveCabinet$BitRow;", Cond.arrayClass .int, Cond.fieldLink RX3 17 "SieveCabinet$Layers" "came" "[I", Cond.classLink RX3 21 RX0, Cond.instantiable RX0 2, Cond.initialized RX0, Cond.fieldLink RX3 24 "SieveCabinet$Layers" "rest" "LSieveCabinet$Bag;", Cond.instantiable RX1 2, Cond.initialized RX1, Cond.instanceMethod yX0_init, Cond.code yX0_init cX0_init 1 none, Cond.methodLink RX0 3 objectInit, Cond.arrayClass .long, Cond.fieldLink RX0 9 "SieveCabinet$Bag" "row" "[J", Cond.instanceMethod yX1_init, Cond.code yX1_init cX1_init 1 none, Cond.methodLink RX1 3 objectInit, Cond.fieldLink RX1 9 "SieveCabinet$BitRow" "words" "[J"] : List Cond), w ∈ wsX3_init := fun _ h => List.mem_cons_of_mem _ (List.mem_append_left _ (List.mem_append_left _ (List.mem_append_left _ h)))
set_option maxRecDepth 20000 in
theorem gu_wsX3_init_3 : ∀ w ∈ wsX00, w ∈ wsX3_init := fun _ h => List.mem_cons_of_mem _ (List.mem_append_left _ (List.mem_append_right _ h))
set_option maxRecDepth 20000 in
theorem ggX3_init_X0_init : GoodIn wsX3_init wsX0_init := goodIn_sub (gi_c (gu_wsX3_init_1 _ gm_14) (gi_a (gi_c (gu_wsX3_init_1 _ gm_15) (gi_c (gu_wsX3_init_1 _ gm_1) (gi_c (gu_wsX3_init_1 _ gm_2) (gi_c (gu_wsX3_init_1 _ gm_16) (gi_c (gu_wsX3_init_1 _ gm_17) gi_0))))) (gu_wsX3_init_3))) (by decide +kernel)
set_option maxRecDepth 20000 in
theorem gX3_init_X0_init_n23 : GoodIn wsX3_init (wsX0_init) := ggX3_init_X0_init
set_option maxRecDepth 20000 in
theorem gu_wsX3_init_4 : ∀ w ∈ wsX10, w ∈ wsX3_init := fun _ h => List.mem_cons_of_mem _ (List.mem_append_right _ h)
set_option maxRecDepth 20000 in
theorem ggX3_init_X1_init : GoodIn wsX3_init wsX1_init := goodIn_sub (gi_c (gu_wsX3_init_1 _ gm_19) (gi_a (gi_c (gu_wsX3_init_1 _ gm_20) (gi_c (gu_wsX3_init_1 _ gm_1) (gi_c (gu_wsX3_init_1 _ gm_2) (gi_c (gu_wsX3_init_1 _ gm_16) (gi_c (gu_wsX3_init_1 _ gm_21) gi_0))))) (gu_wsX3_init_4))) (by decide +kernel)
set_option maxRecDepth 20000 in
theorem gX3_init_X1_init_n28 : GoodIn wsX3_init (wsX1_init) := ggX3_init_X1_init
theorem dX3_init_0 : decode cX3_init 0 = .ok (.aload_n 0, 1) := by decide +kernel
theorem dX3_init_1 : decode cX3_init 1 = .ok (.invokespecial 3, 3) := by decide +kernel
theorem dX3_init_4 : decode cX3_init 4 = .ok (.aload_n 0, 1) := by decide +kernel
theorem dX3_init_5 : decode cX3_init 5 = .ok (.bipush 20, 2) := by decide +kernel
theorem dX3_init_7 : decode cX3_init 7 = .ok (.anewarray 11, 3) := by decide +kernel
theorem dX3_init_10 : decode cX3_init 10 = .ok (.putfield 13, 3) := by decide +kernel
theorem dX3_init_13 : decode cX3_init 13 = .ok (.aload_n 0, 1) := by decide +kernel
theorem dX3_init_14 : decode cX3_init 14 = .ok (.bipush 20, 2) := by decide +kernel
theorem dX3_init_16 : decode cX3_init 16 = .ok (.newarray .int, 2) := by decide +kernel
theorem dX3_init_18 : decode cX3_init 18 = .ok (.putfield 17, 3) := by decide +kernel
theorem dX3_init_21 : decode cX3_init 21 = .ok (.aload_n 0, 1) := by decide +kernel
theorem dX3_init_22 : decode cX3_init 22 = .ok (.new 21, 3) := by decide +kernel
theorem dX3_init_25 : decode cX3_init 25 = .ok (.dup, 1) := by decide +kernel
theorem dX3_init_26 : decode cX3_init 26 = .ok (.invokespecial 23, 3) := by decide +kernel
theorem dX3_init_29 : decode cX3_init 29 = .ok (.putfield 24, 3) := by decide +kernel
theorem dX3_init_32 : decode cX3_init 32 = .ok (.iconst 0, 1) := by decide +kernel
theorem dX3_init_33 : decode cX3_init 33 = .ok (.istore_n 1, 1) := by decide +kernel
theorem dX3_init_34 : decode cX3_init 34 = .ok (.iload_n 1, 1) := by decide +kernel
theorem dX3_init_35 : decode cX3_init 35 = .ok (.bipush 20, 2) := by decide +kernel
theorem dX3_init_37 : decode cX3_init 37 = .ok (.if_icmp .ge 22, 3) := by decide +kernel
theorem dX3_init_40 : decode cX3_init 40 = .ok (.aload_n 0, 1) := by decide +kernel
theorem dX3_init_41 : decode cX3_init 41 = .ok (.getfield 13, 3) := by decide +kernel
theorem dX3_init_44 : decode cX3_init 44 = .ok (.iload_n 1, 1) := by decide +kernel
theorem dX3_init_45 : decode cX3_init 45 = .ok (.new 11, 3) := by decide +kernel
theorem dX3_init_48 : decode cX3_init 48 = .ok (.dup, 1) := by decide +kernel
theorem dX3_init_49 : decode cX3_init 49 = .ok (.invokespecial 28, 3) := by decide +kernel
theorem dX3_init_52 : decode cX3_init 52 = .ok (.aastore, 1) := by decide +kernel
theorem dX3_init_53 : decode cX3_init 53 = .ok (.iinc 1 1, 3) := by decide +kernel
theorem dX3_init_56 : decode cX3_init 56 = .ok (.goto (-22), 3) := by decide +kernel
theorem dX3_init_59 : decode cX3_init 59 = .ok (.return_, 1) := by decide +kernel
theorem dX3_count_0 : decode cX3_count 0 = .ok (.aload_n 0, 1) := by decide +kernel
theorem dX3_count_1 : decode cX3_count 1 = .ok (.getfield 29, 3) := by decide +kernel
theorem dX3_count_4 : decode cX3_count 4 = .ok (.ireturn, 1) := by decide +kernel
set_option maxRecDepth 20000 in
theorem gu_wsX3_restCount_1 : ∀ w ∈ ([Cond.fieldLink RX3 24 "SieveCabinet$Layers" "rest" "LSieveCabinet$Bag;", Cond.methodLink RX3 33 yX0_count, Cond.instanceMethod yX0_count, Cond.selects RX0 yX0_count yX0_count, Cond.initialized RX0, Cond.code yX0_count cX0_count 1 (some .int), Cond.fieldLink RX0 15 "SieveCabinet$Bag" "count" "I"] : List Cond), w ∈ wsX3_restCount := fun _ h => List.mem_cons_of_mem _ (List.mem_append_left _ (List.mem_append_left _ h))
set_option maxRecDepth 20000 in
theorem gu_wsX3_restCount_3 : ∀ w ∈ wsX00, w ∈ wsX3_restCount := fun _ h => List.mem_cons_of_mem _ (List.mem_append_right _ h)
set_option maxRecDepth 20000 in
theorem ggX3_restCount_X0_count : GoodIn wsX3_restCount wsX0_count := goodIn_sub (gi_c (gu_wsX3_restCount_1 _ gm_5) (gi_a (gi_c (gu_wsX3_restCount_1 _ gm_6) gi_0) (gu_wsX3_restCount_3))) (by decide +kernel)
set_option maxRecDepth 20000 in
theorem gX3_restCount_X0_count : GoodIn wsX3_restCount (wsV RX3 33 RX0 yX0_count wsX0_count) := goodIn_app (goodIn_sub (gi_c (gu_wsX3_restCount_1 _ gm_1) (gi_c (gu_wsX3_restCount_1 _ gm_2) (gi_c (gu_wsX3_restCount_1 _ gm_3) (gi_c (gu_wsX3_restCount_1 _ gm_4) gi_0)))) (by decide +kernel)) ggX3_restCount_X0_count
theorem dX3_restCount_0 : decode cX3_restCount 0 = .ok (.aload_n 0, 1) := by decide +kernel
theorem dX3_restCount_1 : decode cX3_restCount 1 = .ok (.getfield 24, 3) := by decide +kernel
theorem dX3_restCount_4 : decode cX3_restCount 4 = .ok (.invokevirtual 33, 3) := by decide +kernel
theorem dX3_restCount_7 : decode cX3_restCount 7 = .ok (.ireturn, 1) := by decide +kernel
set_option maxRecDepth 20000 in
theorem gu_wsX3_build_1 : ∀ w ∈ wsX3_build_r1, w ∈ wsX3_build := fun _ h => List.mem_cons_of_mem _ (List.mem_append_left _ (List.mem_append_left _ (List.mem_append_left _ (List.mem_append_left _ h))))
set_option maxRecDepth 20000 in
theorem gu_wsX3_build_7 : ∀ w ∈ wsX00, w ∈ wsX3_build := fun _ h => List.mem_cons_of_mem _ (List.mem_append_left _ (List.mem_append_right _ h))
set_option maxRecDepth 20000 in
theorem ggX3_build_X0_empty : GoodIn wsX3_build wsX0_empty := goodIn_sub (gi_c (gu_wsX3_build_1 _ gm_7) (gi_a (gi_c (gu_wsX3_build_1 _ gm_8) gi_0) (gu_wsX3_build_7))) (by decide +kernel)
set_option maxRecDepth 20000 in
theorem gX3_build_X0_empty : GoodIn wsX3_build (wsV RX3 39 RX0 yX0_empty wsX0_empty) := goodIn_app (goodIn_sub (gi_c (gu_wsX3_build_1 _ gm_3) (gi_c (gu_wsX3_build_1 _ gm_4) (gi_c (gu_wsX3_build_1 _ gm_5) (gi_c (gu_wsX3_build_1 _ gm_6) gi_0)))) (by decide +kernel)) ggX3_build_X0_empty
set_option maxRecDepth 20000 in
theorem gu_wsX3_build_2 : ∀ w ∈ wsX3_build_r2, w ∈ wsX3_build := fun _ h => List.mem_cons_of_mem _ (List.mem_append_left _ (List.mem_append_left _ (List.mem_append_left _ (List.mem_append_right _ (List.mem_append_left _ h)))))
set_option maxRecDepth 20000 in
theorem gu_wsX3_build_3 : ∀ w ∈ wsX3_build_r3, w ∈ wsX3_build := fun _ h => List.mem_cons_of_mem _ (List.mem_append_left _ (List.mem_append_left _ (List.mem_append_left _ (List.mem_append_right _ (List.mem_append_right _ (List.mem_append_left _ h))))))
set_option maxRecDepth 20000 in
theorem gu_wsX3_build_6 : ∀ w ∈ wsX30, w ∈ wsX3_build := fun _ h => List.mem_cons_of_mem _ (List.mem_append_left _ (List.mem_append_left _ (List.mem_append_right _ h)))
set_option maxRecDepth 20000 in
theorem gu_wsX3_build_8 : ∀ w ∈ wsX10, w ∈ wsX3_build := fun _ h => List.mem_cons_of_mem _ (List.mem_append_right _ h)
set_option maxRecDepth 20000 in
theorem ggX3_build_X3_addLayer : GoodIn wsX3_build wsX3_addLayer := goodIn_sub (gi_c (gu_wsX3_build_1 _ gm_13) (gi_a (gi_a (gi_a (gi_a (gi_c (gu_wsX3_build_1 _ gm_14) (gi_c (gu_wsX3_build_1 _ gm_1) (gi_c (gu_wsX3_build_1 _ gm_15) (gi_c (gu_wsX3_build_1 _ gm_0) (gi_c (gu_wsX3_build_1 _ gm_16) (gi_c (gu_wsX3_build_1 _ gm_17) (gi_c (gu_wsX3_build_1 _ gm_18) (gi_c (gu_wsX3_build_1 _ gm_6) (gi_c (gu_wsX3_build_1 _ gm_19) (gi_c (gu_wsX3_build_1 _ gm_8) (gi_c (gu_wsX3_build_1 _ gm_20) (gi_c (gu_wsX3_build_1 _ gm_21) (gi_c (gu_wsX3_build_1 _ gm_12) (gi_c (gu_wsX3_build_1 _ gm_22) (gi_c (gu_wsX3_build_1 _ gm_23) (gi_c (gu_wsX3_build_2 _ gm_0) (gi_c (gu_wsX3_build_2 _ gm_1) (gi_c (gu_wsX3_build_2 _ gm_2) (gi_c (gu_wsX3_build_2 _ gm_3) (gi_c (gu_wsX3_build_2 _ gm_4) (gi_c (gu_wsX3_build_2 _ gm_5) (gi_c (gu_wsX3_build_2 _ gm_6) (gi_c (gu_wsX3_build_2 _ gm_7) (gi_c (gu_wsX3_build_2 _ gm_8) gi_0)))))))))))))))))))))))) (gi_a (gi_c (gu_wsX3_build_2 _ gm_9) (gi_c (gu_wsX3_build_2 _ gm_10) (gi_c (gu_wsX3_build_2 _ gm_11) (gi_c (gu_wsX3_build_2 _ gm_12) (gi_c (gu_wsX3_build_2 _ gm_13) (gi_c (gu_wsX3_build_2 _ gm_14) (gi_c (gu_wsX3_build_2 _ gm_15) (gi_c (gu_wsX3_build_2 _ gm_16) (gi_c (gu_wsX3_build_2 _ gm_17) (gi_c (gu_wsX3_build_2 _ gm_18) (gi_c (gu_wsX3_build_2 _ gm_19) (gi_c (gu_wsX3_build_2 _ gm_20) (gi_c (gu_wsX3_build_2 _ gm_21) (gi_c (gu_wsX3_build_2 _ gm_22) (gi_c (gu_wsX3_build_2 _ gm_23) (gi_c (gu_wsX3_build_3 _ gm_0) (gi_c (gu_wsX3_build_3 _ gm_1) (gi_c (gu_wsX3_build_3 _ gm_2) (gi_c (gu_wsX3_build_3 _ gm_3) (gi_c (gu_wsX3_build_3 _ gm_4) (gi_c (gu_wsX3_build_3 _ gm_5) (gi_c (gu_wsX3_build_3 _ gm_6) (gi_c (gu_wsX3_build_3 _ gm_7) (gi_c (gu_wsX3_build_3 _ gm_8) gi_0)))))))))))))))))))))))) (gi_c (gu_wsX3_build_3 _ gm_9) (gi_c (gu_wsX3_build_3 _ gm_10) (gi_c (gu_wsX3_build_3 _ gm_11) (gi_c (gu_wsX3_build_3 _ gm_12) (gi_c (gu_wsX3_build_3 _ gm_13) (gi_c (gu_wsX3_build_3 _ gm_14) (gi_c (gu_wsX3_build_3 _ gm_15) (gi_c (gu_wsX3_build_3 _ gm_16) gi_0)))))))))) (gu_wsX3_build_6)) (gu_wsX3_build_7)) (gu_wsX3_build_8))) (by decide +kernel)
set_option maxRecDepth 20000 in
theorem gX3_build_X3_addLayer : GoodIn wsX3_build (wsV RX3 42 RX3 yX3_addLayer wsX3_addLayer) := goodIn_app (goodIn_sub (gi_c (gu_wsX3_build_1 _ gm_9) (gi_c (gu_wsX3_build_1 _ gm_10) (gi_c (gu_wsX3_build_1 _ gm_11) (gi_c (gu_wsX3_build_1 _ gm_12) gi_0)))) (by decide +kernel)) ggX3_build_X3_addLayer
set_option maxRecDepth 20000 in
theorem gu_wsX3_build_4 : ∀ w ∈ wsX3_build_r4, w ∈ wsX3_build := fun _ h => List.mem_cons_of_mem _ (List.mem_append_left _ (List.mem_append_left _ (List.mem_append_left _ (List.mem_append_right _ (List.mem_append_right _ (List.mem_append_right _ (List.mem_append_left _ h)))))))
set_option maxRecDepth 20000 in
theorem ggX3_build_X3_sift : GoodIn wsX3_build wsX3_sift := goodIn_sub (gi_c (gu_wsX3_build_3 _ gm_20) (gi_a (gi_a (gi_a (gi_a (gi_c (gu_wsX3_build_1 _ gm_3) (gi_c (gu_wsX3_build_1 _ gm_4) (gi_c (gu_wsX3_build_1 _ gm_5) (gi_c (gu_wsX3_build_1 _ gm_6) (gi_c (gu_wsX3_build_1 _ gm_7) (gi_c (gu_wsX3_build_1 _ gm_8) (gi_c (gu_wsX3_build_1 _ gm_16) (gi_c (gu_wsX3_build_1 _ gm_17) (gi_c (gu_wsX3_build_1 _ gm_18) (gi_c (gu_wsX3_build_1 _ gm_19) (gi_c (gu_wsX3_build_2 _ gm_17) (gi_c (gu_wsX3_build_2 _ gm_18) (gi_c (gu_wsX3_build_2 _ gm_19) (gi_c (gu_wsX3_build_2 _ gm_20) (gi_c (gu_wsX3_build_2 _ gm_21) (gi_c (gu_wsX3_build_3 _ gm_21) (gi_c (gu_wsX3_build_3 _ gm_22) (gi_c (gu_wsX3_build_3 _ gm_23) (gi_c (gu_wsX3_build_1 _ gm_12) (gi_c (gu_wsX3_build_4 _ gm_0) (gi_c (gu_wsX3_build_1 _ gm_14) (gi_c (gu_wsX3_build_1 _ gm_1) (gi_c (gu_wsX3_build_2 _ gm_22) (gi_c (gu_wsX3_build_2 _ gm_23) gi_0)))))))))))))))))))))))) (gi_a (gi_c (gu_wsX3_build_3 _ gm_0) (gi_c (gu_wsX3_build_3 _ gm_1) (gi_c (gu_wsX3_build_3 _ gm_2) (gi_c (gu_wsX3_build_3 _ gm_3) (gi_c (gu_wsX3_build_3 _ gm_4) (gi_c (gu_wsX3_build_4 _ gm_1) (gi_c (gu_wsX3_build_4 _ gm_2) (gi_c (gu_wsX3_build_4 _ gm_3) (gi_c (gu_wsX3_build_2 _ gm_2) (gi_c (gu_wsX3_build_4 _ gm_4) (gi_c (gu_wsX3_build_2 _ gm_11) (gi_c (gu_wsX3_build_3 _ gm_9) (gi_c (gu_wsX3_build_3 _ gm_10) (gi_c (gu_wsX3_build_3 _ gm_11) (gi_c (gu_wsX3_build_3 _ gm_12) (gi_c (gu_wsX3_build_4 _ gm_5) (gi_c (gu_wsX3_build_4 _ gm_6) (gi_c (gu_wsX3_build_4 _ gm_7) (gi_c (gu_wsX3_build_4 _ gm_8) (gi_c (gu_wsX3_build_2 _ gm_12) (gi_c (gu_wsX3_build_4 _ gm_9) (gi_c (gu_wsX3_build_4 _ gm_10) (gi_c (gu_wsX3_build_4 _ gm_11) (gi_c (gu_wsX3_build_4 _ gm_12) gi_0)))))))))))))))))))))))) (gi_c (gu_wsX3_build_4 _ gm_13) (gi_c (gu_wsX3_build_4 _ gm_14) (gi_c (gu_wsX3_build_4 _ gm_15) (gi_c (gu_wsX3_build_4 _ gm_16) gi_0)))))) (gu_wsX3_build_7)) (gu_wsX3_build_6)) (gu_wsX3_build_8))) (by decide +kernel)
set_option maxRecDepth 20000 in
theorem gX3_build_X3_sift : GoodIn wsX3_build (wsV RX3 46 RX3 yX3_sift wsX3_sift) := goodIn_app (goodIn_sub (gi_c (gu_wsX3_build_3 _ gm_17) (gi_c (gu_wsX3_build_3 _ gm_18) (gi_c (gu_wsX3_build_3 _ gm_19) (gi_c (gu_wsX3_build_1 _ gm_12) gi_0)))) (by decide +kernel)) ggX3_build_X3_sift
set_option maxRecDepth 20000 in
theorem ggX3_build_X0_count : GoodIn wsX3_build wsX0_count := goodIn_sub (gi_c (gu_wsX3_build_1 _ gm_19) (gi_a (gi_c (gu_wsX3_build_1 _ gm_8) gi_0) (gu_wsX3_build_7))) (by decide +kernel)
set_option maxRecDepth 20000 in
theorem gX3_build_X0_count : GoodIn wsX3_build (wsV RX3 33 RX0 yX0_count wsX0_count) := goodIn_app (goodIn_sub (gi_c (gu_wsX3_build_1 _ gm_16) (gi_c (gu_wsX3_build_1 _ gm_17) (gi_c (gu_wsX3_build_1 _ gm_18) (gi_c (gu_wsX3_build_1 _ gm_6) gi_0)))) (by decide +kernel)) ggX3_build_X0_count
set_option maxRecDepth 20000 in
theorem ggX3_build_X3_isRestBehind : GoodIn wsX3_build wsX3_isRestBehind := goodIn_sub (gi_c (gu_wsX3_build_4 _ gm_20) (gi_a (gi_c (gu_wsX3_build_1 _ gm_15) gi_0) (gu_wsX3_build_6))) (by decide +kernel)
set_option maxRecDepth 20000 in
theorem gX3_build_X3_isRestBehind : GoodIn wsX3_build (wsV RX3 50 RX3 yX3_isRestBehind wsX3_isRestBehind) := goodIn_app (goodIn_sub (gi_c (gu_wsX3_build_4 _ gm_17) (gi_c (gu_wsX3_build_4 _ gm_18) (gi_c (gu_wsX3_build_4 _ gm_19) (gi_c (gu_wsX3_build_1 _ gm_12) gi_0)))) (by decide +kernel)) ggX3_build_X3_isRestBehind
set_option maxRecDepth 20000 in
theorem gu_wsX3_build_5 : ∀ w ∈ wsX3_build_r5, w ∈ wsX3_build := fun _ h => List.mem_cons_of_mem _ (List.mem_append_left _ (List.mem_append_left _ (List.mem_append_left _ (List.mem_append_right _ (List.mem_append_right _ (List.mem_append_right _ (List.mem_append_right _ h)))))))
set_option maxRecDepth 20000 in
theorem ggX3_build_X0_copyFrom : GoodIn wsX3_build wsX0_copyFrom := goodIn_sub (gi_c (gu_wsX3_build_5 _ gm_0) (gi_a (gi_c (gu_wsX3_build_2 _ gm_21) (gi_c (gu_wsX3_build_1 _ gm_8) (gi_c (gu_wsX3_build_5 _ gm_1) (gi_c (gu_wsX3_build_5 _ gm_2) (gi_c (gu_wsX3_build_5 _ gm_3) (gi_c (gu_wsX3_build_5 _ gm_4) gi_0)))))) (gu_wsX3_build_7))) (by decide +kernel)
set_option maxRecDepth 20000 in
theorem gX3_build_X0_copyFrom : GoodIn wsX3_build (wsV RX3 54 RX0 yX0_copyFrom wsX0_copyFrom) := goodIn_app (goodIn_sub (gi_c (gu_wsX3_build_4 _ gm_21) (gi_c (gu_wsX3_build_4 _ gm_22) (gi_c (gu_wsX3_build_4 _ gm_23) (gi_c (gu_wsX3_build_1 _ gm_6) gi_0)))) (by decide +kernel)) ggX3_build_X0_copyFrom
theorem dX3_build_0 : decode cX3_build 0 = .ok (.aload_n 1, 1) := by decide +kernel
theorem dX3_build_1 : decode cX3_build 1 = .ok (.astore 5, 2) := by decide +kernel
theorem dX3_build_3 : decode cX3_build 3 = .ok (.aload_n 2, 1) := by decide +kernel
theorem dX3_build_4 : decode cX3_build 4 = .ok (.astore 6, 2) := by decide +kernel
theorem dX3_build_6 : decode cX3_build 6 = .ok (.aload_n 3, 1) := by decide +kernel
theorem dX3_build_7 : decode cX3_build 7 = .ok (.astore 7, 2) := by decide +kernel
theorem dX3_build_9 : decode cX3_build 9 = .ok (.aload_n 0, 1) := by decide +kernel
theorem dX3_build_10 : decode cX3_build 10 = .ok (.iconst 0, 1) := by decide +kernel
theorem dX3_build_11 : decode cX3_build 11 = .ok (.putfield 29, 3) := by decide +kernel
theorem dX3_build_14 : decode cX3_build 14 = .ok (.aload_n 0, 1) := by decide +kernel
theorem dX3_build_15 : decode cX3_build 15 = .ok (.iload 4, 2) := by decide +kernel
theorem dX3_build_17 : decode cX3_build 17 = .ok (.putfield 36, 3) := by decide +kernel
theorem dX3_build_20 : decode cX3_build 20 = .ok (.aload_n 0, 1) := by decide +kernel
theorem dX3_build_21 : decode cX3_build 21 = .ok (.getfield 24, 3) := by decide +kernel
theorem dX3_build_24 : decode cX3_build 24 = .ok (.invokevirtual 39, 3) := by decide +kernel
theorem dX3_build_27 : decode cX3_build 27 = .ok (.iconst 0, 1) := by decide +kernel
theorem dX3_build_28 : decode cX3_build 28 = .ok (.istore 8, 2) := by decide +kernel
theorem dX3_build_30 : decode cX3_build 30 = .ok (.iload 8, 2) := by decide +kernel
theorem dX3_build_32 : decode cX3_build 32 = .ok (.bipush 20, 2) := by decide +kernel
theorem dX3_build_34 : decode cX3_build 34 = .ok (.if_icmp .ge 76, 3) := by decide +kernel
theorem dX3_build_37 : decode cX3_build 37 = .ok (.aload_n 0, 1) := by decide +kernel
theorem dX3_build_38 : decode cX3_build 38 = .ok (.iload 8, 2) := by decide +kernel
theorem dX3_build_40 : decode cX3_build 40 = .ok (.aload 5, 2) := by decide +kernel
theorem dX3_build_42 : decode cX3_build 42 = .ok (.invokevirtual 42, 3) := by decide +kernel
theorem dX3_build_45 : decode cX3_build 45 = .ok (.aload_n 0, 1) := by decide +kernel
theorem dX3_build_46 : decode cX3_build 46 = .ok (.iload 8, 2) := by decide +kernel
theorem dX3_build_48 : decode cX3_build 48 = .ok (.aload 6, 2) := by decide +kernel
theorem dX3_build_50 : decode cX3_build 50 = .ok (.aload 7, 2) := by decide +kernel
theorem dX3_build_52 : decode cX3_build 52 = .ok (.invokevirtual 46, 3) := by decide +kernel
theorem dX3_build_55 : decode cX3_build 55 = .ok (.aload 7, 2) := by decide +kernel
theorem dX3_build_57 : decode cX3_build 57 = .ok (.invokevirtual 33, 3) := by decide +kernel
theorem dX3_build_60 : decode cX3_build 60 = .ok (.ifCond .ne 4, 3) := by decide +kernel
theorem dX3_build_63 : decode cX3_build 63 = .ok (.return_, 1) := by decide +kernel
theorem dX3_build_64 : decode cX3_build 64 = .ok (.aload_n 0, 1) := by decide +kernel
theorem dX3_build_65 : decode cX3_build 65 = .ok (.iload 8, 2) := by decide +kernel
theorem dX3_build_67 : decode cX3_build 67 = .ok (.aload 7, 2) := by decide +kernel
theorem dX3_build_69 : decode cX3_build 69 = .ok (.invokevirtual 33, 3) := by decide +kernel
theorem dX3_build_72 : decode cX3_build 72 = .ok (.invokevirtual 50, 3) := by decide +kernel
theorem dX3_build_75 : decode cX3_build 75 = .ok (.ifCond .eq 13, 3) := by decide +kernel
theorem dX3_build_78 : decode cX3_build 78 = .ok (.aload_n 0, 1) := by decide +kernel
theorem dX3_build_79 : decode cX3_build 79 = .ok (.getfield 24, 3) := by decide +kernel
theorem dX3_build_82 : decode cX3_build 82 = .ok (.aload 7, 2) := by decide +kernel
theorem dX3_build_84 : decode cX3_build 84 = .ok (.invokevirtual 54, 3) := by decide +kernel
theorem dX3_build_87 : decode cX3_build 87 = .ok (.return_, 1) := by decide +kernel
theorem dX3_build_88 : decode cX3_build 88 = .ok (.aload 6, 2) := by decide +kernel
theorem dX3_build_90 : decode cX3_build 90 = .ok (.astore 9, 2) := by decide +kernel
theorem dX3_build_92 : decode cX3_build 92 = .ok (.aload 5, 2) := by decide +kernel
theorem dX3_build_94 : decode cX3_build 94 = .ok (.astore 6, 2) := by decide +kernel
theorem dX3_build_96 : decode cX3_build 96 = .ok (.aload 7, 2) := by decide +kernel
theorem dX3_build_98 : decode cX3_build 98 = .ok (.astore 5, 2) := by decide +kernel
theorem dX3_build_100 : decode cX3_build 100 = .ok (.aload 9, 2) := by decide +kernel
theorem dX3_build_102 : decode cX3_build 102 = .ok (.astore 7, 2) := by decide +kernel
theorem dX3_build_104 : decode cX3_build 104 = .ok (.iinc 8 1, 3) := by decide +kernel
theorem dX3_build_107 : decode cX3_build 107 = .ok (.goto (-77), 3) := by decide +kernel
theorem dX3_build_110 : decode cX3_build 110 = .ok (.return_, 1) := by decide +kernel
set_option maxRecDepth 20000 in
theorem gu_wsX3_passes_2 : ∀ w ∈ wsX3_passes_r2, w ∈ wsX3_passes := fun _ h => List.mem_cons_of_mem _ (List.mem_append_left _ (List.mem_append_left _ (List.mem_append_left _ (List.mem_append_right _ h))))
set_option maxRecDepth 20000 in
theorem gu_wsX3_passes_1 : ∀ w ∈ wsX3_passes_r1, w ∈ wsX3_passes := fun _ h => List.mem_cons_of_mem _ (List.mem_append_left _ (List.mem_append_left _ (List.mem_append_left _ (List.mem_append_left _ h))))
set_option maxRecDepth 20000 in
theorem gu_wsX3_passes_3 : ∀ w ∈ wsX30, w ∈ wsX3_passes := fun _ h => List.mem_cons_of_mem _ (List.mem_append_left _ (List.mem_append_left _ (List.mem_append_right _ h)))
set_option maxRecDepth 20000 in
theorem gu_wsX3_passes_4 : ∀ w ∈ wsX10, w ∈ wsX3_passes := fun _ h => List.mem_cons_of_mem _ (List.mem_append_left _ (List.mem_append_right _ h))
set_option maxRecDepth 20000 in
theorem ggX3_passes_X3_passesLayer : GoodIn wsX3_passes wsX3_passesLayer := goodIn_sub (gi_c (gu_wsX3_passes_1 _ gm_6) (gi_a (gi_a (gi_c (gu_wsX3_passes_1 _ gm_7) (gi_c (gu_wsX3_passes_1 _ gm_8) (gi_c (gu_wsX3_passes_1 _ gm_9) (gi_c (gu_wsX3_passes_1 _ gm_10) (gi_c (gu_wsX3_passes_1 _ gm_11) (gi_c (gu_wsX3_passes_1 _ gm_12) (gi_c (gu_wsX3_passes_1 _ gm_13) (gi_c (gu_wsX3_passes_1 _ gm_14) (gi_c (gu_wsX3_passes_1 _ gm_15) (gi_c (gu_wsX3_passes_1 _ gm_16) (gi_c (gu_wsX3_passes_1 _ gm_17) (gi_c (gu_wsX3_passes_1 _ gm_18) (gi_c (gu_wsX3_passes_1 _ gm_19) (gi_c (gu_wsX3_passes_1 _ gm_20) (gi_c (gu_wsX3_passes_1 _ gm_21) (gi_c (gu_wsX3_passes_1 _ gm_22) (gi_c (gu_wsX3_passes_1 _ gm_23) (gi_c (gu_wsX3_passes_2 _ gm_0) (gi_c (gu_wsX3_passes_2 _ gm_1) (gi_c (gu_wsX3_passes_2 _ gm_2) (gi_c (gu_wsX3_passes_2 _ gm_3) (gi_c (gu_wsX3_passes_2 _ gm_4) (gi_c (gu_wsX3_passes_2 _ gm_5) (gi_c (gu_wsX3_passes_2 _ gm_6) gi_0)))))))))))))))))))))))) (gu_wsX3_passes_3)) (gu_wsX3_passes_4))) (by decide +kernel)
set_option maxRecDepth 20000 in
theorem gX3_passes_X3_passesLayer : GoodIn wsX3_passes (wsV RX3 58 RX3 yX3_passesLayer wsX3_passesLayer) := goodIn_app (goodIn_sub (gi_c (gu_wsX3_passes_1 _ gm_2) (gi_c (gu_wsX3_passes_1 _ gm_3) (gi_c (gu_wsX3_passes_1 _ gm_4) (gi_c (gu_wsX3_passes_1 _ gm_5) gi_0)))) (by decide +kernel)) ggX3_passes_X3_passesLayer
set_option maxRecDepth 20000 in
theorem gu_wsX3_passes_5 : ∀ w ∈ wsX00, w ∈ wsX3_passes := fun _ h => List.mem_cons_of_mem _ (List.mem_append_right _ h)
set_option maxRecDepth 20000 in
theorem ggX3_passes_X0_has : GoodIn wsX3_passes wsX0_has := goodIn_sub (gi_c (gu_wsX3_passes_2 _ gm_11) (gi_a (gi_c (gu_wsX3_passes_2 _ gm_12) (gi_c (gu_wsX3_passes_2 _ gm_13) (gi_c (gu_wsX3_passes_2 _ gm_14) (gi_c (gu_wsX3_passes_2 _ gm_15) (gi_c (gu_wsX3_passes_2 _ gm_16) (gi_c (gu_wsX3_passes_2 _ gm_10) (gi_c (gu_wsX3_passes_2 _ gm_17) gi_0))))))) (gu_wsX3_passes_5))) (by decide +kernel)
set_option maxRecDepth 20000 in
theorem gX3_passes_X0_has : GoodIn wsX3_passes (wsV RX3 62 RX0 yX0_has wsX0_has) := goodIn_app (goodIn_sub (gi_c (gu_wsX3_passes_2 _ gm_7) (gi_c (gu_wsX3_passes_2 _ gm_8) (gi_c (gu_wsX3_passes_2 _ gm_9) (gi_c (gu_wsX3_passes_2 _ gm_10) gi_0)))) (by decide +kernel)) ggX3_passes_X0_has
theorem dX3_passes_0 : decode cX3_passes 0 = .ok (.iconst 0, 1) := by decide +kernel
theorem dX3_passes_1 : decode cX3_passes 1 = .ok (.istore_n 3, 1) := by decide +kernel
theorem dX3_passes_2 : decode cX3_passes 2 = .ok (.iload_n 3, 1) := by decide +kernel
theorem dX3_passes_3 : decode cX3_passes 3 = .ok (.aload_n 0, 1) := by decide +kernel
theorem dX3_passes_4 : decode cX3_passes 4 = .ok (.getfield 29, 3) := by decide +kernel
theorem dX3_passes_7 : decode cX3_passes 7 = .ok (.if_icmp .ge 31, 3) := by decide +kernel
theorem dX3_passes_10 : decode cX3_passes 10 = .ok (.aload_n 0, 1) := by decide +kernel
theorem dX3_passes_11 : decode cX3_passes 11 = .ok (.iload_n 3, 1) := by decide +kernel
theorem dX3_passes_12 : decode cX3_passes 12 = .ok (.lload_n 1, 1) := by decide +kernel
theorem dX3_passes_13 : decode cX3_passes 13 = .ok (.invokevirtual 58, 3) := by decide +kernel
theorem dX3_passes_16 : decode cX3_passes 16 = .ok (.ifCond .ne 16, 3) := by decide +kernel
theorem dX3_passes_19 : decode cX3_passes 19 = .ok (.iload_n 3, 1) := by decide +kernel
theorem dX3_passes_20 : decode cX3_passes 20 = .ok (.iconst 2, 1) := by decide +kernel
theorem dX3_passes_21 : decode cX3_passes 21 = .ok (.irem, 1) := by decide +kernel
theorem dX3_passes_22 : decode cX3_passes 22 = .ok (.iconst 1, 1) := by decide +kernel
theorem dX3_passes_23 : decode cX3_passes 23 = .ok (.if_icmp .ne 7, 3) := by decide +kernel
theorem dX3_passes_26 : decode cX3_passes 26 = .ok (.iconst 1, 1) := by decide +kernel
theorem dX3_passes_27 : decode cX3_passes 27 = .ok (.goto 4, 3) := by decide +kernel
theorem dX3_passes_30 : decode cX3_passes 30 = .ok (.iconst 0, 1) := by decide +kernel
theorem dX3_passes_31 : decode cX3_passes 31 = .ok (.ireturn, 1) := by decide +kernel
theorem dX3_passes_32 : decode cX3_passes 32 = .ok (.iinc 3 1, 3) := by decide +kernel
theorem dX3_passes_35 : decode cX3_passes 35 = .ok (.goto (-33), 3) := by decide +kernel
theorem dX3_passes_38 : decode cX3_passes 38 = .ok (.aload_n 0, 1) := by decide +kernel
theorem dX3_passes_39 : decode cX3_passes 39 = .ok (.getfield 29, 3) := by decide +kernel
theorem dX3_passes_42 : decode cX3_passes 42 = .ok (.iconst 2, 1) := by decide +kernel
theorem dX3_passes_43 : decode cX3_passes 43 = .ok (.irem, 1) := by decide +kernel
theorem dX3_passes_44 : decode cX3_passes 44 = .ok (.iconst 1, 1) := by decide +kernel
theorem dX3_passes_45 : decode cX3_passes 45 = .ok (.if_icmp .ne 7, 3) := by decide +kernel
theorem dX3_passes_48 : decode cX3_passes 48 = .ok (.iconst 1, 1) := by decide +kernel
theorem dX3_passes_49 : decode cX3_passes 49 = .ok (.goto 4, 3) := by decide +kernel
theorem dX3_passes_52 : decode cX3_passes 52 = .ok (.iconst 0, 1) := by decide +kernel
theorem dX3_passes_53 : decode cX3_passes 53 = .ok (.aload_n 0, 1) := by decide +kernel
theorem dX3_passes_54 : decode cX3_passes 54 = .ok (.getfield 24, 3) := by decide +kernel
theorem dX3_passes_57 : decode cX3_passes 57 = .ok (.lload_n 1, 1) := by decide +kernel
theorem dX3_passes_58 : decode cX3_passes 58 = .ok (.invokevirtual 62, 3) := by decide +kernel
theorem dX3_passes_61 : decode cX3_passes 61 = .ok (.if_icmp .eq 7, 3) := by decide +kernel
theorem dX3_passes_64 : decode cX3_passes 64 = .ok (.iconst 1, 1) := by decide +kernel
theorem dX3_passes_65 : decode cX3_passes 65 = .ok (.goto 4, 3) := by decide +kernel
theorem dX3_passes_68 : decode cX3_passes 68 = .ok (.iconst 0, 1) := by decide +kernel
theorem dX3_passes_69 : decode cX3_passes 69 = .ok (.ireturn, 1) := by decide +kernel
set_option maxRecDepth 20000 in
theorem gu_wsX3_weight_1 : ∀ w ∈ ([Cond.fieldLink RX3 24 "SieveCabinet$Layers" "rest" "LSieveCabinet$Bag;", Cond.fieldLink RX3 29 "SieveCabinet$Layers" "count" "I", Cond.fieldLink RX3 13 "SieveCabinet$Layers" "rows" "[LSieveCabinet$BitRow;", Cond.methodLink RX3 33 yX0_count, Cond.instanceMethod yX0_count, Cond.selects RX0 yX0_count yX0_count, Cond.initialized RX0, Cond.code yX0_count cX0_count 1 (some .int), Cond.fieldLink RX0 15 "SieveCabinet$Bag" "count" "I", Cond.methodLink RX3 66 yX1_size, Cond.instanceMethod yX1_size, Cond.selects RX1 yX1_size yX1_size, Cond.initialized RX1, Cond.code yX1_size cX1_size 1 (some .int), Cond.fieldLink RX1 24 "SieveCabinet$BitRow" "size" "I"] : List Cond), w ∈ wsX3_weight := fun _ h => List.mem_cons_of_mem _ (List.mem_append_left _ (List.mem_append_left _ (List.mem_append_left _ h)))
set_option maxRecDepth 20000 in
theorem gu_wsX3_weight_3 : ∀ w ∈ wsX00, w ∈ wsX3_weight := fun _ h => List.mem_cons_of_mem _ (List.mem_append_left _ (List.mem_append_right _ h))
set_option maxRecDepth 20000 in
theorem ggX3_weight_X0_count : GoodIn wsX3_weight wsX0_count := goodIn_sub (gi_c (gu_wsX3_weight_1 _ gm_7) (gi_a (gi_c (gu_wsX3_weight_1 _ gm_8) gi_0) (gu_wsX3_weight_3))) (by decide +kernel)
set_option maxRecDepth 20000 in
theorem gX3_weight_X0_count : GoodIn wsX3_weight (wsV RX3 33 RX0 yX0_count wsX0_count) := goodIn_app (goodIn_sub (gi_c (gu_wsX3_weight_1 _ gm_3) (gi_c (gu_wsX3_weight_1 _ gm_4) (gi_c (gu_wsX3_weight_1 _ gm_5) (gi_c (gu_wsX3_weight_1 _ gm_6) gi_0)))) (by decide +kernel)) ggX3_weight_X0_count
set_option maxRecDepth 20000 in
theorem gu_wsX3_weight_4 : ∀ w ∈ wsX10, w ∈ wsX3_weight := fun _ h => List.mem_cons_of_mem _ (List.mem_append_right _ h)
set_option maxRecDepth 20000 in
theorem ggX3_weight_X1_size : GoodIn wsX3_weight wsX1_size := goodIn_sub (gi_c (gu_wsX3_weight_1 _ gm_13) (gi_a (gi_c (gu_wsX3_weight_1 _ gm_14) gi_0) (gu_wsX3_weight_4))) (by decide +kernel)
set_option maxRecDepth 20000 in
theorem gX3_weight_X1_size : GoodIn wsX3_weight (wsV RX3 66 RX1 yX1_size wsX1_size) := goodIn_app (goodIn_sub (gi_c (gu_wsX3_weight_1 _ gm_9) (gi_c (gu_wsX3_weight_1 _ gm_10) (gi_c (gu_wsX3_weight_1 _ gm_11) (gi_c (gu_wsX3_weight_1 _ gm_12) gi_0)))) (by decide +kernel)) ggX3_weight_X1_size
theorem dX3_weight_0 : decode cX3_weight 0 = .ok (.bipush 64, 2) := by decide +kernel
theorem dX3_weight_2 : decode cX3_weight 2 = .ok (.aload_n 0, 1) := by decide +kernel
theorem dX3_weight_3 : decode cX3_weight 3 = .ok (.getfield 24, 3) := by decide +kernel
theorem dX3_weight_6 : decode cX3_weight 6 = .ok (.invokevirtual 33, 3) := by decide +kernel
theorem dX3_weight_9 : decode cX3_weight 9 = .ok (.imul, 1) := by decide +kernel
theorem dX3_weight_10 : decode cX3_weight 10 = .ok (.istore_n 1, 1) := by decide +kernel
theorem dX3_weight_11 : decode cX3_weight 11 = .ok (.iconst 0, 1) := by decide +kernel
theorem dX3_weight_12 : decode cX3_weight 12 = .ok (.istore_n 2, 1) := by decide +kernel
theorem dX3_weight_13 : decode cX3_weight 13 = .ok (.iload_n 2, 1) := by decide +kernel
theorem dX3_weight_14 : decode cX3_weight 14 = .ok (.aload_n 0, 1) := by decide +kernel
theorem dX3_weight_15 : decode cX3_weight 15 = .ok (.getfield 29, 3) := by decide +kernel
theorem dX3_weight_18 : decode cX3_weight 18 = .ok (.if_icmp .ge 21, 3) := by decide +kernel
theorem dX3_weight_21 : decode cX3_weight 21 = .ok (.iload_n 1, 1) := by decide +kernel
theorem dX3_weight_22 : decode cX3_weight 22 = .ok (.aload_n 0, 1) := by decide +kernel
theorem dX3_weight_23 : decode cX3_weight 23 = .ok (.getfield 13, 3) := by decide +kernel
theorem dX3_weight_26 : decode cX3_weight 26 = .ok (.iload_n 2, 1) := by decide +kernel
theorem dX3_weight_27 : decode cX3_weight 27 = .ok (.aaload, 1) := by decide +kernel
theorem dX3_weight_28 : decode cX3_weight 28 = .ok (.invokevirtual 66, 3) := by decide +kernel
theorem dX3_weight_31 : decode cX3_weight 31 = .ok (.iadd, 1) := by decide +kernel
theorem dX3_weight_32 : decode cX3_weight 32 = .ok (.istore_n 1, 1) := by decide +kernel
theorem dX3_weight_33 : decode cX3_weight 33 = .ok (.iinc 2 1, 3) := by decide +kernel
theorem dX3_weight_36 : decode cX3_weight 36 = .ok (.goto (-23), 3) := by decide +kernel
theorem dX3_weight_39 : decode cX3_weight 39 = .ok (.iload_n 1, 1) := by decide +kernel
theorem dX3_weight_40 : decode cX3_weight 40 = .ok (.ireturn, 1) := by decide +kernel
set_option maxRecDepth 20000 in
theorem gu_wsX3_fact_1 : ∀ w ∈ ([Cond.fieldLink RX3 29 "SieveCabinet$Layers" "count" "I", Cond.fieldLink RX3 13 "SieveCabinet$Layers" "rows" "[LSieveCabinet$BitRow;", Cond.fieldLink RX3 17 "SieveCabinet$Layers" "came" "[I", Cond.methodLink RX3 66 yX1_size, Cond.instanceMethod yX1_size, Cond.selects RX1 yX1_size yX1_size, Cond.initialized RX1, Cond.code yX1_size cX1_size 1 (some .int), Cond.fieldLink RX1 24 "SieveCabinet$BitRow" "size" "I", Cond.methodLink RX3 69 yX1_total, Cond.instanceMethod yX1_total, Cond.selects RX1 yX1_total yX1_total, Cond.code yX1_total cX1_total 3 (some .int), Cond.fieldLink RX1 9 "SieveCabinet$BitRow" "words" "[J", Cond.methodLink RX1 42 yJ13_bitCount_95d88, Cond.static yJ13_bitCount_95d88, Cond.initialized RJ13, Cond.code yJ13_bitCount_95d88 cJ13_bitCount_95d88 2 (some .int), Cond.constantLong RJ13 314 (6148914691236517205), Cond.constantLong RJ13 316 (3689348814741910323), Cond.constantLong RJ13 318 (1085102592571150095)] : List Cond), w ∈ wsX3_fact := fun _ h => List.mem_cons_of_mem _ (List.mem_append_left _ (List.mem_append_left _ h))
set_option maxRecDepth 20000 in
theorem gu_wsX3_fact_3 : ∀ w ∈ wsX10, w ∈ wsX3_fact := fun _ h => List.mem_cons_of_mem _ (List.mem_append_right _ h)
set_option maxRecDepth 20000 in
theorem ggX3_fact_X1_size : GoodIn wsX3_fact wsX1_size := goodIn_sub (gi_c (gu_wsX3_fact_1 _ gm_7) (gi_a (gi_c (gu_wsX3_fact_1 _ gm_8) gi_0) (gu_wsX3_fact_3))) (by decide +kernel)
set_option maxRecDepth 20000 in
theorem gX3_fact_X1_size : GoodIn wsX3_fact (wsV RX3 66 RX1 yX1_size wsX1_size) := goodIn_app (goodIn_sub (gi_c (gu_wsX3_fact_1 _ gm_3) (gi_c (gu_wsX3_fact_1 _ gm_4) (gi_c (gu_wsX3_fact_1 _ gm_5) (gi_c (gu_wsX3_fact_1 _ gm_6) gi_0)))) (by decide +kernel)) ggX3_fact_X1_size
set_option maxRecDepth 20000 in
theorem ggX3_fact_X1_total : GoodIn wsX3_fact wsX1_total := goodIn_sub (gi_c (gu_wsX3_fact_1 _ gm_12) (gi_a (gi_c (gu_wsX3_fact_1 _ gm_13) (gi_c (gu_wsX3_fact_1 _ gm_14) (gi_c (gu_wsX3_fact_1 _ gm_15) (gi_c (gu_wsX3_fact_1 _ gm_16) (gi_c (gu_wsX3_fact_1 _ gm_17) (gi_c (gu_wsX3_fact_1 _ gm_18) (gi_c (gu_wsX3_fact_1 _ gm_19) (gi_c (gu_wsX3_fact_1 _ gm_20) gi_0)))))))) (gu_wsX3_fact_3))) (by decide +kernel)
set_option maxRecDepth 20000 in
theorem gX3_fact_X1_total : GoodIn wsX3_fact (wsV RX3 69 RX1 yX1_total wsX1_total) := goodIn_app (goodIn_sub (gi_c (gu_wsX3_fact_1 _ gm_9) (gi_c (gu_wsX3_fact_1 _ gm_10) (gi_c (gu_wsX3_fact_1 _ gm_11) (gi_c (gu_wsX3_fact_1 _ gm_6) gi_0)))) (by decide +kernel)) ggX3_fact_X1_total
theorem dX3_fact_0 : decode cX3_fact 0 = .ok (.iload_n 1, 1) := by decide +kernel
theorem dX3_fact_1 : decode cX3_fact 1 = .ok (.ifCond .lt 11, 3) := by decide +kernel
theorem dX3_fact_4 : decode cX3_fact 4 = .ok (.iload_n 1, 1) := by decide +kernel
theorem dX3_fact_5 : decode cX3_fact 5 = .ok (.aload_n 0, 1) := by decide +kernel
theorem dX3_fact_6 : decode cX3_fact 6 = .ok (.getfield 29, 3) := by decide +kernel
theorem dX3_fact_9 : decode cX3_fact 9 = .ok (.if_icmp .lt 5, 3) := by decide +kernel
theorem dX3_fact_12 : decode cX3_fact 12 = .ok (.iconst (-1), 1) := by decide +kernel
theorem dX3_fact_13 : decode cX3_fact 13 = .ok (.ireturn, 1) := by decide +kernel
theorem dX3_fact_14 : decode cX3_fact 14 = .ok (.iload_n 2, 1) := by decide +kernel
theorem dX3_fact_15 : decode cX3_fact 15 = .ok (.tableswitch 52 0 2 #[25, 35, 42], 25) := by decide +kernel
theorem dX3_fact_40 : decode cX3_fact 40 = .ok (.aload_n 0, 1) := by decide +kernel
theorem dX3_fact_41 : decode cX3_fact 41 = .ok (.getfield 13, 3) := by decide +kernel
theorem dX3_fact_44 : decode cX3_fact 44 = .ok (.iload_n 1, 1) := by decide +kernel
theorem dX3_fact_45 : decode cX3_fact 45 = .ok (.aaload, 1) := by decide +kernel
theorem dX3_fact_46 : decode cX3_fact 46 = .ok (.invokevirtual 66, 3) := by decide +kernel
theorem dX3_fact_49 : decode cX3_fact 49 = .ok (.ireturn, 1) := by decide +kernel
theorem dX3_fact_50 : decode cX3_fact 50 = .ok (.aload_n 0, 1) := by decide +kernel
theorem dX3_fact_51 : decode cX3_fact 51 = .ok (.getfield 17, 3) := by decide +kernel
theorem dX3_fact_54 : decode cX3_fact 54 = .ok (.iload_n 1, 1) := by decide +kernel
theorem dX3_fact_55 : decode cX3_fact 55 = .ok (.iaload, 1) := by decide +kernel
theorem dX3_fact_56 : decode cX3_fact 56 = .ok (.ireturn, 1) := by decide +kernel
theorem dX3_fact_57 : decode cX3_fact 57 = .ok (.aload_n 0, 1) := by decide +kernel
theorem dX3_fact_58 : decode cX3_fact 58 = .ok (.getfield 13, 3) := by decide +kernel
theorem dX3_fact_61 : decode cX3_fact 61 = .ok (.iload_n 1, 1) := by decide +kernel
theorem dX3_fact_62 : decode cX3_fact 62 = .ok (.aaload, 1) := by decide +kernel
theorem dX3_fact_63 : decode cX3_fact 63 = .ok (.invokevirtual 69, 3) := by decide +kernel
theorem dX3_fact_66 : decode cX3_fact 66 = .ok (.ireturn, 1) := by decide +kernel
theorem dX3_fact_67 : decode cX3_fact 67 = .ok (.iconst (-1), 1) := by decide +kernel
theorem dX3_fact_68 : decode cX3_fact 68 = .ok (.ireturn, 1) := by decide +kernel
set_option maxRecDepth 20000 in
theorem gu_wsX3_addLayer_1 : ∀ w ∈ wsX3_addLayer_r1, w ∈ wsX3_addLayer := fun _ h => List.mem_cons_of_mem _ (List.mem_append_left _ (List.mem_append_left _ (List.mem_append_left _ (List.mem_append_left _ h))))
set_option maxRecDepth 20000 in
theorem gu_wsX3_addLayer_5 : ∀ w ∈ wsX00, w ∈ wsX3_addLayer := fun _ h => List.mem_cons_of_mem _ (List.mem_append_left _ (List.mem_append_right _ h))
set_option maxRecDepth 20000 in
theorem ggX3_addLayer_X0_count : GoodIn wsX3_addLayer wsX0_count := goodIn_sub (gi_c (gu_wsX3_addLayer_1 _ gm_8) (gi_a (gi_c (gu_wsX3_addLayer_1 _ gm_9) gi_0) (gu_wsX3_addLayer_5))) (by decide +kernel)
set_option maxRecDepth 20000 in
theorem gX3_addLayer_X0_count : GoodIn wsX3_addLayer (wsV RX3 33 RX0 yX0_count wsX0_count) := goodIn_app (goodIn_sub (gi_c (gu_wsX3_addLayer_1 _ gm_4) (gi_c (gu_wsX3_addLayer_1 _ gm_5) (gi_c (gu_wsX3_addLayer_1 _ gm_6) (gi_c (gu_wsX3_addLayer_1 _ gm_7) gi_0)))) (by decide +kernel)) ggX3_addLayer_X0_count
set_option maxRecDepth 20000 in
theorem ggX3_addLayer_X3_sizeFor : GoodIn wsX3_addLayer wsX3_sizeFor := goodIn_sub (gi_c (gu_wsX3_addLayer_1 _ gm_13) (gi_0)) (by decide +kernel)
set_option maxRecDepth 20000 in
theorem gX3_addLayer_X3_sizeFor : GoodIn wsX3_addLayer (va_wsS RX3 72 yX3_sizeFor wsX3_sizeFor) := goodIn_app (goodIn_sub (gi_c (gu_wsX3_addLayer_1 _ gm_10) (gi_c (gu_wsX3_addLayer_1 _ gm_11) (gi_c (gu_wsX3_addLayer_1 _ gm_12) gi_0))) (by decide +kernel)) ggX3_addLayer_X3_sizeFor
set_option maxRecDepth 20000 in
theorem gu_wsX3_addLayer_2 : ∀ w ∈ wsX3_addLayer_r2, w ∈ wsX3_addLayer := fun _ h => List.mem_cons_of_mem _ (List.mem_append_left _ (List.mem_append_left _ (List.mem_append_left _ (List.mem_append_right _ (List.mem_append_left _ h)))))
set_option maxRecDepth 20000 in
theorem gu_wsX3_addLayer_6 : ∀ w ∈ wsX10, w ∈ wsX3_addLayer := fun _ h => List.mem_cons_of_mem _ (List.mem_append_right _ h)
set_option maxRecDepth 20000 in
theorem ggX3_addLayer_X1_begin : GoodIn wsX3_addLayer wsX1_begin := goodIn_sub (gi_c (gu_wsX3_addLayer_1 _ gm_18) (gi_a (gi_c (gu_wsX3_addLayer_1 _ gm_19) (gi_c (gu_wsX3_addLayer_1 _ gm_20) (gi_c (gu_wsX3_addLayer_1 _ gm_21) (gi_c (gu_wsX3_addLayer_1 _ gm_22) (gi_c (gu_wsX3_addLayer_1 _ gm_23) (gi_c (gu_wsX3_addLayer_2 _ gm_0) (gi_c (gu_wsX3_addLayer_2 _ gm_1) (gi_c (gu_wsX3_addLayer_2 _ gm_2) (gi_c (gu_wsX3_addLayer_2 _ gm_3) (gi_c (gu_wsX3_addLayer_2 _ gm_4) (gi_c (gu_wsX3_addLayer_2 _ gm_5) (gi_c (gu_wsX3_addLayer_2 _ gm_6) (gi_c (gu_wsX3_addLayer_2 _ gm_7) gi_0))))))))))))) (gu_wsX3_addLayer_6))) (by decide +kernel)
set_option maxRecDepth 20000 in
theorem gX3_addLayer_X1_begin : GoodIn wsX3_addLayer (wsV RX3 76 RX1 yX1_begin wsX1_begin) := goodIn_app (goodIn_sub (gi_c (gu_wsX3_addLayer_1 _ gm_14) (gi_c (gu_wsX3_addLayer_1 _ gm_15) (gi_c (gu_wsX3_addLayer_1 _ gm_16) (gi_c (gu_wsX3_addLayer_1 _ gm_17) gi_0)))) (by decide +kernel)) ggX3_addLayer_X1_begin
set_option maxRecDepth 20000 in
theorem ggX3_addLayer_X0_at : GoodIn wsX3_addLayer wsX0_at := goodIn_sub (gi_c (gu_wsX3_addLayer_2 _ gm_11) (gi_a (gi_c (gu_wsX3_addLayer_1 _ gm_9) (gi_c (gu_wsX3_addLayer_2 _ gm_12) gi_0)) (gu_wsX3_addLayer_5))) (by decide +kernel)
set_option maxRecDepth 20000 in
theorem gX3_addLayer_X0_at : GoodIn wsX3_addLayer (wsV RX3 80 RX0 yX0_at wsX0_at) := goodIn_app (goodIn_sub (gi_c (gu_wsX3_addLayer_2 _ gm_8) (gi_c (gu_wsX3_addLayer_2 _ gm_9) (gi_c (gu_wsX3_addLayer_2 _ gm_10) (gi_c (gu_wsX3_addLayer_1 _ gm_7) gi_0)))) (by decide +kernel)) ggX3_addLayer_X0_at
set_option maxRecDepth 20000 in
theorem ggX3_addLayer_X4_of : GoodIn wsX3_addLayer wsX4_of := goodIn_sub (gi_c (gu_wsX3_addLayer_2 _ gm_16) (gi_c (gu_wsX3_addLayer_2 _ gm_17) (gi_c (gu_wsX3_addLayer_2 _ gm_18) (gi_c (gu_wsX3_addLayer_2 _ gm_19) gi_0)))) (by decide +kernel)
set_option maxRecDepth 20000 in
theorem gX3_addLayer_X4_of : GoodIn wsX3_addLayer (va_wsS RX3 84 yX4_of wsX4_of) := goodIn_app (goodIn_sub (gi_c (gu_wsX3_addLayer_2 _ gm_13) (gi_c (gu_wsX3_addLayer_2 _ gm_14) (gi_c (gu_wsX3_addLayer_2 _ gm_15) gi_0))) (by decide +kernel)) ggX3_addLayer_X4_of
set_option maxRecDepth 20000 in
theorem gu_wsX3_addLayer_3 : ∀ w ∈ wsX3_addLayer_r3, w ∈ wsX3_addLayer := fun _ h => List.mem_cons_of_mem _ (List.mem_append_left _ (List.mem_append_left _ (List.mem_append_left _ (List.mem_append_right _ (List.mem_append_right _ h)))))
set_option maxRecDepth 20000 in
theorem ggX3_addLayer_X1_setMarks : GoodIn wsX3_addLayer wsX1_setMarks := goodIn_sub (gi_c (gu_wsX3_addLayer_2 _ gm_23) (gi_a (gi_c (gu_wsX3_addLayer_2 _ gm_2) (gi_c (gu_wsX3_addLayer_3 _ gm_0) (gi_c (gu_wsX3_addLayer_3 _ gm_1) (gi_c (gu_wsX3_addLayer_2 _ gm_15) (gi_c (gu_wsX3_addLayer_3 _ gm_2) (gi_c (gu_wsX3_addLayer_3 _ gm_3) (gi_c (gu_wsX3_addLayer_3 _ gm_4) (gi_c (gu_wsX3_addLayer_3 _ gm_5) (gi_c (gu_wsX3_addLayer_3 _ gm_6) (gi_c (gu_wsX3_addLayer_1 _ gm_17) (gi_c (gu_wsX3_addLayer_3 _ gm_7) (gi_c (gu_wsX3_addLayer_2 _ gm_3) gi_0)))))))))))) (gu_wsX3_addLayer_6))) (by decide +kernel)
set_option maxRecDepth 20000 in
theorem gX3_addLayer_X1_setMarks : GoodIn wsX3_addLayer (wsV RX3 90 RX1 yX1_setMarks wsX1_setMarks) := goodIn_app (goodIn_sub (gi_c (gu_wsX3_addLayer_2 _ gm_20) (gi_c (gu_wsX3_addLayer_2 _ gm_21) (gi_c (gu_wsX3_addLayer_2 _ gm_22) (gi_c (gu_wsX3_addLayer_1 _ gm_17) gi_0)))) (by decide +kernel)) ggX3_addLayer_X1_setMarks
theorem dX3_addLayer_0 : decode cX3_addLayer 0 = .ok (.aload_n 0, 1) := by decide +kernel
theorem dX3_addLayer_1 : decode cX3_addLayer 1 = .ok (.getfield 13, 3) := by decide +kernel
theorem dX3_addLayer_4 : decode cX3_addLayer 4 = .ok (.iload_n 1, 1) := by decide +kernel
theorem dX3_addLayer_5 : decode cX3_addLayer 5 = .ok (.aaload, 1) := by decide +kernel
theorem dX3_addLayer_6 : decode cX3_addLayer 6 = .ok (.aload_n 2, 1) := by decide +kernel
theorem dX3_addLayer_7 : decode cX3_addLayer 7 = .ok (.invokevirtual 33, 3) := by decide +kernel
theorem dX3_addLayer_10 : decode cX3_addLayer 10 = .ok (.invokestatic 72, 3) := by decide +kernel
theorem dX3_addLayer_13 : decode cX3_addLayer 13 = .ok (.invokevirtual 76, 3) := by decide +kernel
theorem dX3_addLayer_16 : decode cX3_addLayer 16 = .ok (.iconst 0, 1) := by decide +kernel
theorem dX3_addLayer_17 : decode cX3_addLayer 17 = .ok (.istore_n 3, 1) := by decide +kernel
theorem dX3_addLayer_18 : decode cX3_addLayer 18 = .ok (.iload_n 3, 1) := by decide +kernel
theorem dX3_addLayer_19 : decode cX3_addLayer 19 = .ok (.aload_n 2, 1) := by decide +kernel
theorem dX3_addLayer_20 : decode cX3_addLayer 20 = .ok (.invokevirtual 33, 3) := by decide +kernel
theorem dX3_addLayer_23 : decode cX3_addLayer 23 = .ok (.if_icmp .ge 33, 3) := by decide +kernel
theorem dX3_addLayer_26 : decode cX3_addLayer 26 = .ok (.aload_n 0, 1) := by decide +kernel
theorem dX3_addLayer_27 : decode cX3_addLayer 27 = .ok (.getfield 13, 3) := by decide +kernel
theorem dX3_addLayer_30 : decode cX3_addLayer 30 = .ok (.iload_n 1, 1) := by decide +kernel
theorem dX3_addLayer_31 : decode cX3_addLayer 31 = .ok (.aaload, 1) := by decide +kernel
theorem dX3_addLayer_32 : decode cX3_addLayer 32 = .ok (.aload_n 2, 1) := by decide +kernel
theorem dX3_addLayer_33 : decode cX3_addLayer 33 = .ok (.iload_n 3, 1) := by decide +kernel
theorem dX3_addLayer_34 : decode cX3_addLayer 34 = .ok (.invokevirtual 80, 3) := by decide +kernel
theorem dX3_addLayer_37 : decode cX3_addLayer 37 = .ok (.aload_n 0, 1) := by decide +kernel
theorem dX3_addLayer_38 : decode cX3_addLayer 38 = .ok (.getfield 36, 3) := by decide +kernel
theorem dX3_addLayer_41 : decode cX3_addLayer 41 = .ok (.iload_n 1, 1) := by decide +kernel
theorem dX3_addLayer_42 : decode cX3_addLayer 42 = .ok (.iadd, 1) := by decide +kernel
theorem dX3_addLayer_43 : decode cX3_addLayer 43 = .ok (.invokestatic 84, 3) := by decide +kernel
theorem dX3_addLayer_46 : decode cX3_addLayer 46 = .ok (.iconst 3, 1) := by decide +kernel
theorem dX3_addLayer_47 : decode cX3_addLayer 47 = .ok (.invokevirtual 90, 3) := by decide +kernel
theorem dX3_addLayer_50 : decode cX3_addLayer 50 = .ok (.iinc 3 1, 3) := by decide +kernel
theorem dX3_addLayer_53 : decode cX3_addLayer 53 = .ok (.goto (-35), 3) := by decide +kernel
theorem dX3_addLayer_56 : decode cX3_addLayer 56 = .ok (.aload_n 0, 1) := by decide +kernel
theorem dX3_addLayer_57 : decode cX3_addLayer 57 = .ok (.getfield 17, 3) := by decide +kernel
theorem dX3_addLayer_60 : decode cX3_addLayer 60 = .ok (.iload_n 1, 1) := by decide +kernel
theorem dX3_addLayer_61 : decode cX3_addLayer 61 = .ok (.aload_n 2, 1) := by decide +kernel
theorem dX3_addLayer_62 : decode cX3_addLayer 62 = .ok (.invokevirtual 33, 3) := by decide +kernel
theorem dX3_addLayer_65 : decode cX3_addLayer 65 = .ok (.iastore, 1) := by decide +kernel
theorem dX3_addLayer_66 : decode cX3_addLayer 66 = .ok (.aload_n 0, 1) := by decide +kernel
theorem dX3_addLayer_67 : decode cX3_addLayer 67 = .ok (.iload_n 1, 1) := by decide +kernel
theorem dX3_addLayer_68 : decode cX3_addLayer 68 = .ok (.iconst 1, 1) := by decide +kernel
theorem dX3_addLayer_69 : decode cX3_addLayer 69 = .ok (.iadd, 1) := by decide +kernel
theorem dX3_addLayer_70 : decode cX3_addLayer 70 = .ok (.putfield 29, 3) := by decide +kernel
theorem dX3_addLayer_73 : decode cX3_addLayer 73 = .ok (.return_, 1) := by decide +kernel
set_option maxRecDepth 20000 in
theorem gu_wsX3_sift_1 : ∀ w ∈ wsX3_sift_r1, w ∈ wsX3_sift := fun _ h => List.mem_cons_of_mem _ (List.mem_append_left _ (List.mem_append_left _ (List.mem_append_left _ (List.mem_append_left _ h))))
set_option maxRecDepth 20000 in
theorem gu_wsX3_sift_4 : ∀ w ∈ wsX00, w ∈ wsX3_sift := fun _ h => List.mem_cons_of_mem _ (List.mem_append_left _ (List.mem_append_left _ (List.mem_append_right _ h)))
set_option maxRecDepth 20000 in
theorem ggX3_sift_X0_empty : GoodIn wsX3_sift wsX0_empty := goodIn_sub (gi_c (gu_wsX3_sift_1 _ gm_4) (gi_a (gi_c (gu_wsX3_sift_1 _ gm_5) gi_0) (gu_wsX3_sift_4))) (by decide +kernel)
set_option maxRecDepth 20000 in
theorem gX3_sift_X0_empty : GoodIn wsX3_sift (wsV RX3 39 RX0 yX0_empty wsX0_empty) := goodIn_app (goodIn_sub (gi_c (gu_wsX3_sift_1 _ gm_0) (gi_c (gu_wsX3_sift_1 _ gm_1) (gi_c (gu_wsX3_sift_1 _ gm_2) (gi_c (gu_wsX3_sift_1 _ gm_3) gi_0)))) (by decide +kernel)) ggX3_sift_X0_empty
set_option maxRecDepth 20000 in
theorem ggX3_sift_X0_count : GoodIn wsX3_sift wsX0_count := goodIn_sub (gi_c (gu_wsX3_sift_1 _ gm_9) (gi_a (gi_c (gu_wsX3_sift_1 _ gm_5) gi_0) (gu_wsX3_sift_4))) (by decide +kernel)
set_option maxRecDepth 20000 in
theorem gX3_sift_X0_count : GoodIn wsX3_sift (wsV RX3 33 RX0 yX0_count wsX0_count) := goodIn_app (goodIn_sub (gi_c (gu_wsX3_sift_1 _ gm_6) (gi_c (gu_wsX3_sift_1 _ gm_7) (gi_c (gu_wsX3_sift_1 _ gm_8) (gi_c (gu_wsX3_sift_1 _ gm_3) gi_0)))) (by decide +kernel)) ggX3_sift_X0_count
set_option maxRecDepth 20000 in
theorem ggX3_sift_X0_at : GoodIn wsX3_sift wsX0_at := goodIn_sub (gi_c (gu_wsX3_sift_1 _ gm_13) (gi_a (gi_c (gu_wsX3_sift_1 _ gm_5) (gi_c (gu_wsX3_sift_1 _ gm_14) gi_0)) (gu_wsX3_sift_4))) (by decide +kernel)
set_option maxRecDepth 20000 in
theorem gX3_sift_X0_at : GoodIn wsX3_sift (wsV RX3 80 RX0 yX0_at wsX0_at) := goodIn_app (goodIn_sub (gi_c (gu_wsX3_sift_1 _ gm_10) (gi_c (gu_wsX3_sift_1 _ gm_11) (gi_c (gu_wsX3_sift_1 _ gm_12) (gi_c (gu_wsX3_sift_1 _ gm_3) gi_0)))) (by decide +kernel)) ggX3_sift_X0_at
set_option maxRecDepth 20000 in
theorem gu_wsX3_sift_2 : ∀ w ∈ wsX3_sift_r2, w ∈ wsX3_sift := fun _ h => List.mem_cons_of_mem _ (List.mem_append_left _ (List.mem_append_left _ (List.mem_append_left _ (List.mem_append_right _ (List.mem_append_left _ h)))))
set_option maxRecDepth 20000 in
theorem gu_wsX3_sift_5 : ∀ w ∈ wsX30, w ∈ wsX3_sift := fun _ h => List.mem_cons_of_mem _ (List.mem_append_left _ (List.mem_append_right _ h))
set_option maxRecDepth 20000 in
theorem gu_wsX3_sift_6 : ∀ w ∈ wsX10, w ∈ wsX3_sift := fun _ h => List.mem_cons_of_mem _ (List.mem_append_right _ h)
set_option maxRecDepth 20000 in
theorem ggX3_sift_X3_passesLayer : GoodIn wsX3_sift wsX3_passesLayer := goodIn_sub (gi_c (gu_wsX3_sift_1 _ gm_19) (gi_a (gi_a (gi_c (gu_wsX3_sift_1 _ gm_20) (gi_c (gu_wsX3_sift_1 _ gm_21) (gi_c (gu_wsX3_sift_1 _ gm_22) (gi_c (gu_wsX3_sift_1 _ gm_23) (gi_c (gu_wsX3_sift_2 _ gm_0) (gi_c (gu_wsX3_sift_2 _ gm_1) (gi_c (gu_wsX3_sift_2 _ gm_2) (gi_c (gu_wsX3_sift_2 _ gm_3) (gi_c (gu_wsX3_sift_2 _ gm_4) (gi_c (gu_wsX3_sift_2 _ gm_5) (gi_c (gu_wsX3_sift_2 _ gm_6) (gi_c (gu_wsX3_sift_2 _ gm_7) (gi_c (gu_wsX3_sift_2 _ gm_8) (gi_c (gu_wsX3_sift_2 _ gm_9) (gi_c (gu_wsX3_sift_2 _ gm_10) (gi_c (gu_wsX3_sift_2 _ gm_11) (gi_c (gu_wsX3_sift_2 _ gm_12) (gi_c (gu_wsX3_sift_2 _ gm_13) (gi_c (gu_wsX3_sift_2 _ gm_14) (gi_c (gu_wsX3_sift_2 _ gm_15) (gi_c (gu_wsX3_sift_2 _ gm_16) (gi_c (gu_wsX3_sift_2 _ gm_17) (gi_c (gu_wsX3_sift_2 _ gm_18) (gi_c (gu_wsX3_sift_2 _ gm_19) gi_0)))))))))))))))))))))))) (gu_wsX3_sift_5)) (gu_wsX3_sift_6))) (by decide +kernel)
set_option maxRecDepth 20000 in
theorem gX3_sift_X3_passesLayer : GoodIn wsX3_sift (wsV RX3 58 RX3 yX3_passesLayer wsX3_passesLayer) := goodIn_app (goodIn_sub (gi_c (gu_wsX3_sift_1 _ gm_15) (gi_c (gu_wsX3_sift_1 _ gm_16) (gi_c (gu_wsX3_sift_1 _ gm_17) (gi_c (gu_wsX3_sift_1 _ gm_18) gi_0)))) (by decide +kernel)) ggX3_sift_X3_passesLayer
set_option maxRecDepth 20000 in
theorem gu_wsX3_sift_3 : ∀ w ∈ wsX3_sift_r3, w ∈ wsX3_sift := fun _ h => List.mem_cons_of_mem _ (List.mem_append_left _ (List.mem_append_left _ (List.mem_append_left _ (List.mem_append_right _ (List.mem_append_right _ h)))))
set_option maxRecDepth 20000 in
theorem ggX3_sift_X0_append : GoodIn wsX3_sift wsX0_append := goodIn_sub (gi_c (gu_wsX3_sift_2 _ gm_23) (gi_a (gi_c (gu_wsX3_sift_1 _ gm_14) (gi_c (gu_wsX3_sift_1 _ gm_5) (gi_c (gu_wsX3_sift_3 _ gm_0) (gi_c (gu_wsX3_sift_3 _ gm_1) (gi_c (gu_wsX3_sift_3 _ gm_2) (gi_c (gu_wsX3_sift_1 _ gm_3) (gi_c (gu_wsX3_sift_3 _ gm_3) gi_0))))))) (gu_wsX3_sift_4))) (by decide +kernel)
set_option maxRecDepth 20000 in
theorem gX3_sift_X0_append : GoodIn wsX3_sift (wsV RX3 94 RX0 yX0_append wsX0_append) := goodIn_app (goodIn_sub (gi_c (gu_wsX3_sift_2 _ gm_20) (gi_c (gu_wsX3_sift_2 _ gm_21) (gi_c (gu_wsX3_sift_2 _ gm_22) (gi_c (gu_wsX3_sift_1 _ gm_3) gi_0)))) (by decide +kernel)) ggX3_sift_X0_append
theorem dX3_sift_0 : decode cX3_sift 0 = .ok (.aload_n 3, 1) := by decide +kernel
theorem dX3_sift_1 : decode cX3_sift 1 = .ok (.invokevirtual 39, 3) := by decide +kernel
theorem dX3_sift_4 : decode cX3_sift 4 = .ok (.iconst 0, 1) := by decide +kernel
theorem dX3_sift_5 : decode cX3_sift 5 = .ok (.istore 4, 2) := by decide +kernel
theorem dX3_sift_7 : decode cX3_sift 7 = .ok (.iload 4, 2) := by decide +kernel
theorem dX3_sift_9 : decode cX3_sift 9 = .ok (.aload_n 2, 1) := by decide +kernel
theorem dX3_sift_10 : decode cX3_sift 10 = .ok (.invokevirtual 33, 3) := by decide +kernel
theorem dX3_sift_13 : decode cX3_sift 13 = .ok (.if_icmp .ge 33, 3) := by decide +kernel
theorem dX3_sift_16 : decode cX3_sift 16 = .ok (.aload_n 0, 1) := by decide +kernel
theorem dX3_sift_17 : decode cX3_sift 17 = .ok (.iload_n 1, 1) := by decide +kernel
theorem dX3_sift_18 : decode cX3_sift 18 = .ok (.aload_n 2, 1) := by decide +kernel
theorem dX3_sift_19 : decode cX3_sift 19 = .ok (.iload 4, 2) := by decide +kernel
theorem dX3_sift_21 : decode cX3_sift 21 = .ok (.invokevirtual 80, 3) := by decide +kernel
theorem dX3_sift_24 : decode cX3_sift 24 = .ok (.invokevirtual 58, 3) := by decide +kernel
theorem dX3_sift_27 : decode cX3_sift 27 = .ok (.ifCond .eq 13, 3) := by decide +kernel
theorem dX3_sift_30 : decode cX3_sift 30 = .ok (.aload_n 3, 1) := by decide +kernel
theorem dX3_sift_31 : decode cX3_sift 31 = .ok (.aload_n 2, 1) := by decide +kernel
theorem dX3_sift_32 : decode cX3_sift 32 = .ok (.iload 4, 2) := by decide +kernel
theorem dX3_sift_34 : decode cX3_sift 34 = .ok (.invokevirtual 80, 3) := by decide +kernel
theorem dX3_sift_37 : decode cX3_sift 37 = .ok (.invokevirtual 94, 3) := by decide +kernel
theorem dX3_sift_40 : decode cX3_sift 40 = .ok (.iinc 4 1, 3) := by decide +kernel
theorem dX3_sift_43 : decode cX3_sift 43 = .ok (.goto (-36), 3) := by decide +kernel
theorem dX3_sift_46 : decode cX3_sift 46 = .ok (.return_, 1) := by decide +kernel
theorem dX3_isRestBehind_0 : decode cX3_isRestBehind 0 = .ok (.iload_n 1, 1) := by decide +kernel
theorem dX3_isRestBehind_1 : decode cX3_isRestBehind 1 = .ok (.iconst 1, 1) := by decide +kernel
theorem dX3_isRestBehind_2 : decode cX3_isRestBehind 2 = .ok (.iadd, 1) := by decide +kernel
theorem dX3_isRestBehind_3 : decode cX3_isRestBehind 3 = .ok (.bipush 20, 2) := by decide +kernel
theorem dX3_isRestBehind_5 : decode cX3_isRestBehind 5 = .ok (.if_icmp .ge 20, 3) := by decide +kernel
theorem dX3_isRestBehind_8 : decode cX3_isRestBehind 8 = .ok (.iload_n 1, 1) := by decide +kernel
theorem dX3_isRestBehind_9 : decode cX3_isRestBehind 9 = .ok (.iconst 1, 1) := by decide +kernel
theorem dX3_isRestBehind_10 : decode cX3_isRestBehind 10 = .ok (.if_icmp .lt 19, 3) := by decide +kernel
theorem dX3_isRestBehind_13 : decode cX3_isRestBehind 13 = .ok (.iload_n 2, 1) := by decide +kernel
theorem dX3_isRestBehind_14 : decode cX3_isRestBehind 14 = .ok (.aload_n 0, 1) := by decide +kernel
theorem dX3_isRestBehind_15 : decode cX3_isRestBehind 15 = .ok (.getfield 17, 3) := by decide +kernel
theorem dX3_isRestBehind_18 : decode cX3_isRestBehind 18 = .ok (.iload_n 1, 1) := by decide +kernel
theorem dX3_isRestBehind_19 : decode cX3_isRestBehind 19 = .ok (.iconst 1, 1) := by decide +kernel
theorem dX3_isRestBehind_20 : decode cX3_isRestBehind 20 = .ok (.isub, 1) := by decide +kernel
theorem dX3_isRestBehind_21 : decode cX3_isRestBehind 21 = .ok (.iaload, 1) := by decide +kernel
theorem dX3_isRestBehind_22 : decode cX3_isRestBehind 22 = .ok (.if_icmp .ne 7, 3) := by decide +kernel
theorem dX3_isRestBehind_25 : decode cX3_isRestBehind 25 = .ok (.iconst 1, 1) := by decide +kernel
theorem dX3_isRestBehind_26 : decode cX3_isRestBehind 26 = .ok (.goto 4, 3) := by decide +kernel
theorem dX3_isRestBehind_29 : decode cX3_isRestBehind 29 = .ok (.iconst 0, 1) := by decide +kernel
theorem dX3_isRestBehind_30 : decode cX3_isRestBehind 30 = .ok (.ireturn, 1) := by decide +kernel
set_option maxRecDepth 20000 in
theorem gu_wsX3_passesLayer_1 : ∀ w ∈ ([Cond.fieldLink RX3 13 "SieveCabinet$Layers" "rows" "[LSieveCabinet$BitRow;", Cond.fieldLink RX3 36 "SieveCabinet$Layers" "seed" "I", Cond.methodLink RX3 84 yX4_of, Cond.static yX4_of, Cond.initialized RX4, Cond.code yX4_of cX4_of 5 (some .long), Cond.constantLong RX4 7 (-7046029254386353131), Cond.constantLong RX4 9 (-4658895280553007687), Cond.constantLong RX4 11 (-7723592293110705685), Cond.methodLink RX3 98 yX1_hasMarks, Cond.instanceMethod yX1_hasMarks, Cond.selects RX1 yX1_hasMarks yX1_hasMarks, Cond.initialized RX1, Cond.code yX1_hasMarks cX1_hasMarks 5 (some .boolean), Cond.fieldLink RX1 24 "SieveCabinet$BitRow" "size" "I", Cond.methodLink RX1 45 yX4_markPlace, Cond.static yX4_markPlace, Cond.code yX4_markPlace cX4_markPlace 8 (some .int), Cond.constantLong RX4 15 (4294967295), Cond.methodLink RX1 55 yX1_has, Cond.instanceMethod yX1_has, Cond.selects RX1 yX1_has yX1_has, Cond.code yX1_has cX1_has 2 (some .boolean), Cond.fieldLink RX1 9 "SieveCabinet$BitRow" "words" "[J"] : List Cond), w ∈ wsX3_passesLayer := fun _ h => List.mem_cons_of_mem _ (List.mem_append_left _ (List.mem_append_left _ h))
set_option maxRecDepth 20000 in
theorem ggX3_passesLayer_X4_of : GoodIn wsX3_passesLayer wsX4_of := goodIn_sub (gi_c (gu_wsX3_passesLayer_1 _ gm_5) (gi_c (gu_wsX3_passesLayer_1 _ gm_6) (gi_c (gu_wsX3_passesLayer_1 _ gm_7) (gi_c (gu_wsX3_passesLayer_1 _ gm_8) gi_0)))) (by decide +kernel)
set_option maxRecDepth 20000 in
theorem gX3_passesLayer_X4_of : GoodIn wsX3_passesLayer (va_wsS RX3 84 yX4_of wsX4_of) := goodIn_app (goodIn_sub (gi_c (gu_wsX3_passesLayer_1 _ gm_2) (gi_c (gu_wsX3_passesLayer_1 _ gm_3) (gi_c (gu_wsX3_passesLayer_1 _ gm_4) gi_0))) (by decide +kernel)) ggX3_passesLayer_X4_of
set_option maxRecDepth 20000 in
theorem gu_wsX3_passesLayer_3 : ∀ w ∈ wsX10, w ∈ wsX3_passesLayer := fun _ h => List.mem_cons_of_mem _ (List.mem_append_right _ h)
set_option maxRecDepth 20000 in
theorem ggX3_passesLayer_X1_hasMarks : GoodIn wsX3_passesLayer wsX1_hasMarks := goodIn_sub (gi_c (gu_wsX3_passesLayer_1 _ gm_13) (gi_a (gi_c (gu_wsX3_passesLayer_1 _ gm_14) (gi_c (gu_wsX3_passesLayer_1 _ gm_15) (gi_c (gu_wsX3_passesLayer_1 _ gm_16) (gi_c (gu_wsX3_passesLayer_1 _ gm_4) (gi_c (gu_wsX3_passesLayer_1 _ gm_17) (gi_c (gu_wsX3_passesLayer_1 _ gm_18) (gi_c (gu_wsX3_passesLayer_1 _ gm_19) (gi_c (gu_wsX3_passesLayer_1 _ gm_20) (gi_c (gu_wsX3_passesLayer_1 _ gm_21) (gi_c (gu_wsX3_passesLayer_1 _ gm_12) (gi_c (gu_wsX3_passesLayer_1 _ gm_22) (gi_c (gu_wsX3_passesLayer_1 _ gm_23) gi_0)))))))))))) (gu_wsX3_passesLayer_3))) (by decide +kernel)
set_option maxRecDepth 20000 in
theorem gX3_passesLayer_X1_hasMarks : GoodIn wsX3_passesLayer (wsV RX3 98 RX1 yX1_hasMarks wsX1_hasMarks) := goodIn_app (goodIn_sub (gi_c (gu_wsX3_passesLayer_1 _ gm_9) (gi_c (gu_wsX3_passesLayer_1 _ gm_10) (gi_c (gu_wsX3_passesLayer_1 _ gm_11) (gi_c (gu_wsX3_passesLayer_1 _ gm_12) gi_0)))) (by decide +kernel)) ggX3_passesLayer_X1_hasMarks
theorem dX3_passesLayer_0 : decode cX3_passesLayer 0 = .ok (.aload_n 0, 1) := by decide +kernel
theorem dX3_passesLayer_1 : decode cX3_passesLayer 1 = .ok (.getfield 13, 3) := by decide +kernel
theorem dX3_passesLayer_4 : decode cX3_passesLayer 4 = .ok (.iload_n 1, 1) := by decide +kernel
theorem dX3_passesLayer_5 : decode cX3_passesLayer 5 = .ok (.aaload, 1) := by decide +kernel
theorem dX3_passesLayer_6 : decode cX3_passesLayer 6 = .ok (.lload_n 2, 1) := by decide +kernel
theorem dX3_passesLayer_7 : decode cX3_passesLayer 7 = .ok (.aload_n 0, 1) := by decide +kernel
theorem dX3_passesLayer_8 : decode cX3_passesLayer 8 = .ok (.getfield 36, 3) := by decide +kernel
theorem dX3_passesLayer_11 : decode cX3_passesLayer 11 = .ok (.iload_n 1, 1) := by decide +kernel
theorem dX3_passesLayer_12 : decode cX3_passesLayer 12 = .ok (.iadd, 1) := by decide +kernel
theorem dX3_passesLayer_13 : decode cX3_passesLayer 13 = .ok (.invokestatic 84, 3) := by decide +kernel
theorem dX3_passesLayer_16 : decode cX3_passesLayer 16 = .ok (.iconst 3, 1) := by decide +kernel
theorem dX3_passesLayer_17 : decode cX3_passesLayer 17 = .ok (.invokevirtual 98, 3) := by decide +kernel
theorem dX3_passesLayer_20 : decode cX3_passesLayer 20 = .ok (.ireturn, 1) := by decide +kernel
theorem dX3_sizeFor_0 : decode cX3_sizeFor 0 = .ok (.bipush 8, 2) := by decide +kernel
theorem dX3_sizeFor_2 : decode cX3_sizeFor 2 = .ok (.istore_n 1, 1) := by decide +kernel
theorem dX3_sizeFor_3 : decode cX3_sizeFor 3 = .ok (.iload_n 1, 1) := by decide +kernel
theorem dX3_sizeFor_4 : decode cX3_sizeFor 4 = .ok (.sipush 4096, 3) := by decide +kernel
theorem dX3_sizeFor_7 : decode cX3_sizeFor 7 = .ok (.if_icmp .ge 18, 3) := by decide +kernel
theorem dX3_sizeFor_10 : decode cX3_sizeFor 10 = .ok (.iload_n 1, 1) := by decide +kernel
theorem dX3_sizeFor_11 : decode cX3_sizeFor 11 = .ok (.bipush 8, 2) := by decide +kernel
theorem dX3_sizeFor_13 : decode cX3_sizeFor 13 = .ok (.iload_n 0, 1) := by decide +kernel
theorem dX3_sizeFor_14 : decode cX3_sizeFor 14 = .ok (.imul, 1) := by decide +kernel
theorem dX3_sizeFor_15 : decode cX3_sizeFor 15 = .ok (.if_icmp .ge 10, 3) := by decide +kernel
theorem dX3_sizeFor_18 : decode cX3_sizeFor 18 = .ok (.iload_n 1, 1) := by decide +kernel
theorem dX3_sizeFor_19 : decode cX3_sizeFor 19 = .ok (.iconst 2, 1) := by decide +kernel
theorem dX3_sizeFor_20 : decode cX3_sizeFor 20 = .ok (.imul, 1) := by decide +kernel
theorem dX3_sizeFor_21 : decode cX3_sizeFor 21 = .ok (.istore_n 1, 1) := by decide +kernel
theorem dX3_sizeFor_22 : decode cX3_sizeFor 22 = .ok (.goto (-19), 3) := by decide +kernel
theorem dX3_sizeFor_25 : decode cX3_sizeFor 25 = .ok (.iload_n 1, 1) := by decide +kernel
theorem dX3_sizeFor_26 : decode cX3_sizeFor 26 = .ok (.ireturn, 1) := by decide +kernel
theorem dX4_of_0 : decode cX4_of 0 = .ok (.lload_n 0, 1) := by decide +kernel
theorem dX4_of_1 : decode cX4_of 1 = .ok (.iload_n 2, 1) := by decide +kernel
theorem dX4_of_2 : decode cX4_of 2 = .ok (.i2l, 1) := by decide +kernel
theorem dX4_of_3 : decode cX4_of 3 = .ok (.ldc2_w 7, 3) := by decide +kernel
theorem dX4_of_6 : decode cX4_of 6 = .ok (.lmul, 1) := by decide +kernel
theorem dX4_of_7 : decode cX4_of 7 = .ok (.ladd, 1) := by decide +kernel
theorem dX4_of_8 : decode cX4_of 8 = .ok (.lstore_n 3, 1) := by decide +kernel
theorem dX4_of_9 : decode cX4_of 9 = .ok (.lload_n 3, 1) := by decide +kernel
theorem dX4_of_10 : decode cX4_of 10 = .ok (.lload_n 3, 1) := by decide +kernel
theorem dX4_of_11 : decode cX4_of 11 = .ok (.bipush 30, 2) := by decide +kernel
theorem dX4_of_13 : decode cX4_of 13 = .ok (.lushr, 1) := by decide +kernel
theorem dX4_of_14 : decode cX4_of 14 = .ok (.lxor, 1) := by decide +kernel
theorem dX4_of_15 : decode cX4_of 15 = .ok (.ldc2_w 9, 3) := by decide +kernel
theorem dX4_of_18 : decode cX4_of 18 = .ok (.lmul, 1) := by decide +kernel
theorem dX4_of_19 : decode cX4_of 19 = .ok (.lstore_n 3, 1) := by decide +kernel
theorem dX4_of_20 : decode cX4_of 20 = .ok (.lload_n 3, 1) := by decide +kernel
theorem dX4_of_21 : decode cX4_of 21 = .ok (.lload_n 3, 1) := by decide +kernel
theorem dX4_of_22 : decode cX4_of 22 = .ok (.bipush 27, 2) := by decide +kernel
theorem dX4_of_24 : decode cX4_of 24 = .ok (.lushr, 1) := by decide +kernel
theorem dX4_of_25 : decode cX4_of 25 = .ok (.lxor, 1) := by decide +kernel
theorem dX4_of_26 : decode cX4_of 26 = .ok (.ldc2_w 11, 3) := by decide +kernel
theorem dX4_of_29 : decode cX4_of 29 = .ok (.lmul, 1) := by decide +kernel
theorem dX4_of_30 : decode cX4_of 30 = .ok (.lstore_n 3, 1) := by decide +kernel
theorem dX4_of_31 : decode cX4_of 31 = .ok (.lload_n 3, 1) := by decide +kernel
theorem dX4_of_32 : decode cX4_of 32 = .ok (.lload_n 3, 1) := by decide +kernel
theorem dX4_of_33 : decode cX4_of 33 = .ok (.bipush 31, 2) := by decide +kernel
theorem dX4_of_35 : decode cX4_of 35 = .ok (.lushr, 1) := by decide +kernel
theorem dX4_of_36 : decode cX4_of 36 = .ok (.lxor, 1) := by decide +kernel
theorem dX4_of_37 : decode cX4_of 37 = .ok (.lreturn, 1) := by decide +kernel
theorem dX4_markPlace_0 : decode cX4_markPlace 0 = .ok (.lload_n 0, 1) := by decide +kernel
theorem dX4_markPlace_1 : decode cX4_markPlace 1 = .ok (.ldc2_w 15, 3) := by decide +kernel
theorem dX4_markPlace_4 : decode cX4_markPlace 4 = .ok (.land, 1) := by decide +kernel
theorem dX4_markPlace_5 : decode cX4_markPlace 5 = .ok (.lstore 4, 2) := by decide +kernel
theorem dX4_markPlace_7 : decode cX4_markPlace 7 = .ok (.lload_n 0, 1) := by decide +kernel
theorem dX4_markPlace_8 : decode cX4_markPlace 8 = .ok (.bipush 32, 2) := by decide +kernel
theorem dX4_markPlace_10 : decode cX4_markPlace 10 = .ok (.lushr, 1) := by decide +kernel
theorem dX4_markPlace_11 : decode cX4_markPlace 11 = .ok (.lconst 1, 1) := by decide +kernel
theorem dX4_markPlace_12 : decode cX4_markPlace 12 = .ok (.lor, 1) := by decide +kernel
theorem dX4_markPlace_13 : decode cX4_markPlace 13 = .ok (.lstore 6, 2) := by decide +kernel
theorem dX4_markPlace_15 : decode cX4_markPlace 15 = .ok (.lload 4, 2) := by decide +kernel
theorem dX4_markPlace_17 : decode cX4_markPlace 17 = .ok (.iload_n 2, 1) := by decide +kernel
theorem dX4_markPlace_18 : decode cX4_markPlace 18 = .ok (.i2l, 1) := by decide +kernel
theorem dX4_markPlace_19 : decode cX4_markPlace 19 = .ok (.lload 6, 2) := by decide +kernel
theorem dX4_markPlace_21 : decode cX4_markPlace 21 = .ok (.lmul, 1) := by decide +kernel
theorem dX4_markPlace_22 : decode cX4_markPlace 22 = .ok (.ladd, 1) := by decide +kernel
theorem dX4_markPlace_23 : decode cX4_markPlace 23 = .ok (.iload_n 3, 1) := by decide +kernel
theorem dX4_markPlace_24 : decode cX4_markPlace 24 = .ok (.iconst 1, 1) := by decide +kernel
theorem dX4_markPlace_25 : decode cX4_markPlace 25 = .ok (.isub, 1) := by decide +kernel
theorem dX4_markPlace_26 : decode cX4_markPlace 26 = .ok (.i2l, 1) := by decide +kernel
theorem dX4_markPlace_27 : decode cX4_markPlace 27 = .ok (.land, 1) := by decide +kernel
theorem dX4_markPlace_28 : decode cX4_markPlace 28 = .ok (.l2i, 1) := by decide +kernel
theorem dX4_markPlace_29 : decode cX4_markPlace 29 = .ok (.ireturn, 1) := by decide +kernel
set_option maxRecDepth 20000 in
theorem gu_wsX4_nestTag_1 : ∀ w ∈ ([Cond.methodLink RX4 17 yX4_rest, Cond.static yX4_rest, Cond.initialized RX4, Cond.code yX4_rest cX4_rest 3 (some .int)] : List Cond), w ∈ wsX4_nestTag := fun _ h => List.mem_cons_of_mem _ h
set_option maxRecDepth 20000 in
theorem ggX4_nestTag_X4_rest : GoodIn wsX4_nestTag wsX4_rest := goodIn_sub (gi_c (gu_wsX4_nestTag_1 _ gm_3) (gi_0)) (by decide +kernel)
set_option maxRecDepth 20000 in
theorem gX4_nestTag_X4_rest : GoodIn wsX4_nestTag (va_wsS RX4 17 yX4_rest wsX4_rest) := goodIn_app (goodIn_sub (gi_c (gu_wsX4_nestTag_1 _ gm_0) (gi_c (gu_wsX4_nestTag_1 _ gm_1) (gi_c (gu_wsX4_nestTag_1 _ gm_2) gi_0))) (by decide +kernel)) ggX4_nestTag_X4_rest
theorem dX4_nestTag_0 : decode cX4_nestTag 0 = .ok (.iconst 1, 1) := by decide +kernel
theorem dX4_nestTag_1 : decode cX4_nestTag 1 = .ok (.lload_n 0, 1) := by decide +kernel
theorem dX4_nestTag_2 : decode cX4_nestTag 2 = .ok (.bipush 56, 2) := by decide +kernel
theorem dX4_nestTag_4 : decode cX4_nestTag 4 = .ok (.lushr, 1) := by decide +kernel
theorem dX4_nestTag_5 : decode cX4_nestTag 5 = .ok (.sipush 255, 3) := by decide +kernel
theorem dX4_nestTag_8 : decode cX4_nestTag 8 = .ok (.invokestatic 17, 3) := by decide +kernel
theorem dX4_nestTag_11 : decode cX4_nestTag 11 = .ok (.iadd, 1) := by decide +kernel
theorem dX4_nestTag_12 : decode cX4_nestTag 12 = .ok (.ireturn, 1) := by decide +kernel
set_option maxRecDepth 20000 in
theorem gu_wsX4_firstNest_1 : ∀ w ∈ ([Cond.constantLong RX4 15 (4294967295), Cond.methodLink RX4 17 yX4_rest, Cond.static yX4_rest, Cond.initialized RX4, Cond.code yX4_rest cX4_rest 3 (some .int)] : List Cond), w ∈ wsX4_firstNest := fun _ h => List.mem_cons_of_mem _ h
set_option maxRecDepth 20000 in
theorem ggX4_firstNest_X4_rest : GoodIn wsX4_firstNest wsX4_rest := goodIn_sub (gi_c (gu_wsX4_firstNest_1 _ gm_4) (gi_0)) (by decide +kernel)
set_option maxRecDepth 20000 in
theorem gX4_firstNest_X4_rest : GoodIn wsX4_firstNest (va_wsS RX4 17 yX4_rest wsX4_rest) := goodIn_app (goodIn_sub (gi_c (gu_wsX4_firstNest_1 _ gm_1) (gi_c (gu_wsX4_firstNest_1 _ gm_2) (gi_c (gu_wsX4_firstNest_1 _ gm_3) gi_0))) (by decide +kernel)) ggX4_firstNest_X4_rest
theorem dX4_firstNest_0 : decode cX4_firstNest 0 = .ok (.lload_n 0, 1) := by decide +kernel
theorem dX4_firstNest_1 : decode cX4_firstNest 1 = .ok (.ldc2_w 15, 3) := by decide +kernel
theorem dX4_firstNest_4 : decode cX4_firstNest 4 = .ok (.land, 1) := by decide +kernel
theorem dX4_firstNest_5 : decode cX4_firstNest 5 = .ok (.iload_n 2, 1) := by decide +kernel
theorem dX4_firstNest_6 : decode cX4_firstNest 6 = .ok (.invokestatic 17, 3) := by decide +kernel
theorem dX4_firstNest_9 : decode cX4_firstNest 9 = .ok (.ireturn, 1) := by decide +kernel
set_option maxRecDepth 20000 in
theorem gu_wsX4_otherNest_1 : ∀ w ∈ ([Cond.constantLong RX4 21 (2654435761), Cond.methodLink RX4 17 yX4_rest, Cond.static yX4_rest, Cond.initialized RX4, Cond.code yX4_rest cX4_rest 3 (some .int)] : List Cond), w ∈ wsX4_otherNest := fun _ h => List.mem_cons_of_mem _ h
set_option maxRecDepth 20000 in
theorem ggX4_otherNest_X4_rest : GoodIn wsX4_otherNest wsX4_rest := goodIn_sub (gi_c (gu_wsX4_otherNest_1 _ gm_4) (gi_0)) (by decide +kernel)
set_option maxRecDepth 20000 in
theorem gX4_otherNest_X4_rest : GoodIn wsX4_otherNest (va_wsS RX4 17 yX4_rest wsX4_rest) := goodIn_app (goodIn_sub (gi_c (gu_wsX4_otherNest_1 _ gm_1) (gi_c (gu_wsX4_otherNest_1 _ gm_2) (gi_c (gu_wsX4_otherNest_1 _ gm_3) gi_0))) (by decide +kernel)) ggX4_otherNest_X4_rest
theorem dX4_otherNest_0 : decode cX4_otherNest 0 = .ok (.iload_n 0, 1) := by decide +kernel
theorem dX4_otherNest_1 : decode cX4_otherNest 1 = .ok (.iload_n 1, 1) := by decide +kernel
theorem dX4_otherNest_2 : decode cX4_otherNest 2 = .ok (.i2l, 1) := by decide +kernel
theorem dX4_otherNest_3 : decode cX4_otherNest 3 = .ok (.ldc2_w 21, 3) := by decide +kernel
theorem dX4_otherNest_6 : decode cX4_otherNest 6 = .ok (.lmul, 1) := by decide +kernel
theorem dX4_otherNest_7 : decode cX4_otherNest 7 = .ok (.bipush 8, 2) := by decide +kernel
theorem dX4_otherNest_9 : decode cX4_otherNest 9 = .ok (.lushr, 1) := by decide +kernel
theorem dX4_otherNest_10 : decode cX4_otherNest 10 = .ok (.iload_n 2, 1) := by decide +kernel
theorem dX4_otherNest_11 : decode cX4_otherNest 11 = .ok (.invokestatic 17, 3) := by decide +kernel
theorem dX4_otherNest_14 : decode cX4_otherNest 14 = .ok (.ixor, 1) := by decide +kernel
theorem dX4_otherNest_15 : decode cX4_otherNest 15 = .ok (.ireturn, 1) := by decide +kernel
set_option maxRecDepth 20000 in
theorem gu_wsX4_solvedPlace_1 : ∀ w ∈ ([Cond.constantLong RX4 23 (1048575), Cond.methodLink RX4 17 yX4_rest, Cond.static yX4_rest, Cond.initialized RX4, Cond.code yX4_rest cX4_rest 3 (some .int)] : List Cond), w ∈ wsX4_solvedPlace := fun _ h => List.mem_cons_of_mem _ h
set_option maxRecDepth 20000 in
theorem ggX4_solvedPlace_X4_rest : GoodIn wsX4_solvedPlace wsX4_rest := goodIn_sub (gi_c (gu_wsX4_solvedPlace_1 _ gm_4) (gi_0)) (by decide +kernel)
set_option maxRecDepth 20000 in
theorem gX4_solvedPlace_X4_rest : GoodIn wsX4_solvedPlace (va_wsS RX4 17 yX4_rest wsX4_rest) := goodIn_app (goodIn_sub (gi_c (gu_wsX4_solvedPlace_1 _ gm_1) (gi_c (gu_wsX4_solvedPlace_1 _ gm_2) (gi_c (gu_wsX4_solvedPlace_1 _ gm_3) gi_0))) (by decide +kernel)) ggX4_solvedPlace_X4_rest
theorem dX4_solvedPlace_0 : decode cX4_solvedPlace 0 = .ok (.iload_n 2, 1) := by decide +kernel
theorem dX4_solvedPlace_1 : decode cX4_solvedPlace 1 = .ok (.iload_n 3, 1) := by decide +kernel
theorem dX4_solvedPlace_2 : decode cX4_solvedPlace 2 = .ok (.imul, 1) := by decide +kernel
theorem dX4_solvedPlace_3 : decode cX4_solvedPlace 3 = .ok (.lload_n 0, 1) := by decide +kernel
theorem dX4_solvedPlace_4 : decode cX4_solvedPlace 4 = .ok (.bipush 20, 2) := by decide +kernel
theorem dX4_solvedPlace_6 : decode cX4_solvedPlace 6 = .ok (.iload_n 2, 1) := by decide +kernel
theorem dX4_solvedPlace_7 : decode cX4_solvedPlace 7 = .ok (.imul, 1) := by decide +kernel
theorem dX4_solvedPlace_8 : decode cX4_solvedPlace 8 = .ok (.lushr, 1) := by decide +kernel
theorem dX4_solvedPlace_9 : decode cX4_solvedPlace 9 = .ok (.ldc2_w 23, 3) := by decide +kernel
theorem dX4_solvedPlace_12 : decode cX4_solvedPlace 12 = .ok (.land, 1) := by decide +kernel
theorem dX4_solvedPlace_13 : decode cX4_solvedPlace 13 = .ok (.iload_n 3, 1) := by decide +kernel
theorem dX4_solvedPlace_14 : decode cX4_solvedPlace 14 = .ok (.invokestatic 17, 3) := by decide +kernel
theorem dX4_solvedPlace_17 : decode cX4_solvedPlace 17 = .ok (.iadd, 1) := by decide +kernel
theorem dX4_solvedPlace_18 : decode cX4_solvedPlace 18 = .ok (.ireturn, 1) := by decide +kernel
theorem dX4_solvedTag_0 : decode cX4_solvedTag 0 = .ok (.ldc2_w 25, 3) := by decide +kernel
theorem dX4_solvedTag_3 : decode cX4_solvedTag 3 = .ok (.lload_n 0, 1) := by decide +kernel
theorem dX4_solvedTag_4 : decode cX4_solvedTag 4 = .ok (.bipush 60, 2) := by decide +kernel
theorem dX4_solvedTag_6 : decode cX4_solvedTag 6 = .ok (.lushr, 1) := by decide +kernel
theorem dX4_solvedTag_7 : decode cX4_solvedTag 7 = .ok (.lmul, 1) := by decide +kernel
theorem dX4_solvedTag_8 : decode cX4_solvedTag 8 = .ok (.lload_n 0, 1) := by decide +kernel
theorem dX4_solvedTag_9 : decode cX4_solvedTag 9 = .ok (.ldc2_w 27, 3) := by decide +kernel
theorem dX4_solvedTag_12 : decode cX4_solvedTag 12 = .ok (.land, 1) := by decide +kernel
theorem dX4_solvedTag_13 : decode cX4_solvedTag 13 = .ok (.ladd, 1) := by decide +kernel
theorem dX4_solvedTag_14 : decode cX4_solvedTag 14 = .ok (.l2i, 1) := by decide +kernel
theorem dX4_solvedTag_15 : decode cX4_solvedTag 15 = .ok (.ireturn, 1) := by decide +kernel
theorem dX4_rest_0 : decode cX4_rest 0 = .ok (.iload_n 2, 1) := by decide +kernel
theorem dX4_rest_1 : decode cX4_rest 1 = .ok (.ifCond .gt 7, 3) := by decide +kernel
theorem dX4_rest_4 : decode cX4_rest 4 = .ok (.iconst 0, 1) := by decide +kernel
theorem dX4_rest_5 : decode cX4_rest 5 = .ok (.goto 8, 3) := by decide +kernel
theorem dX4_rest_8 : decode cX4_rest 8 = .ok (.lload_n 0, 1) := by decide +kernel
theorem dX4_rest_9 : decode cX4_rest 9 = .ok (.iload_n 2, 1) := by decide +kernel
theorem dX4_rest_10 : decode cX4_rest 10 = .ok (.i2l, 1) := by decide +kernel
theorem dX4_rest_11 : decode cX4_rest 11 = .ok (.lrem, 1) := by decide +kernel
theorem dX4_rest_12 : decode cX4_rest 12 = .ok (.l2i, 1) := by decide +kernel
theorem dX4_rest_13 : decode cX4_rest 13 = .ok (.ireturn, 1) := by decide +kernel
set_option maxRecDepth 20000 in
theorem gu_wsX5_enter_1 : ∀ w ∈ wsX5_enter_r1, w ∈ wsX5_enter := fun _ h => List.mem_cons_of_mem _ (List.mem_append_left _ (List.mem_append_left _ h))
set_option maxRecDepth 20000 in
theorem ggX5_enter_X4_nestTag : GoodIn wsX5_enter wsX4_nestTag := goodIn_sub (gi_c (gu_wsX5_enter_1 _ gm_3) (gi_c (gu_wsX5_enter_1 _ gm_4) (gi_c (gu_wsX5_enter_1 _ gm_5) (gi_c (gu_wsX5_enter_1 _ gm_2) (gi_c (gu_wsX5_enter_1 _ gm_6) gi_0))))) (by decide +kernel)
set_option maxRecDepth 20000 in
theorem gX5_enter_X4_nestTag : GoodIn wsX5_enter (va_wsS RX5 9 yX4_nestTag wsX4_nestTag) := goodIn_app (goodIn_sub (gi_c (gu_wsX5_enter_1 _ gm_0) (gi_c (gu_wsX5_enter_1 _ gm_1) (gi_c (gu_wsX5_enter_1 _ gm_2) gi_0))) (by decide +kernel)) ggX5_enter_X4_nestTag
set_option maxRecDepth 20000 in
theorem ggX5_enter_X4_firstNest : GoodIn wsX5_enter wsX4_firstNest := goodIn_sub (gi_c (gu_wsX5_enter_1 _ gm_9) (gi_c (gu_wsX5_enter_1 _ gm_10) (gi_c (gu_wsX5_enter_1 _ gm_4) (gi_c (gu_wsX5_enter_1 _ gm_5) (gi_c (gu_wsX5_enter_1 _ gm_2) (gi_c (gu_wsX5_enter_1 _ gm_6) gi_0)))))) (by decide +kernel)
set_option maxRecDepth 20000 in
theorem gX5_enter_X4_firstNest : GoodIn wsX5_enter (va_wsS RX5 21 yX4_firstNest wsX4_firstNest) := goodIn_app (goodIn_sub (gi_c (gu_wsX5_enter_1 _ gm_7) (gi_c (gu_wsX5_enter_1 _ gm_8) (gi_c (gu_wsX5_enter_1 _ gm_2) gi_0))) (by decide +kernel)) ggX5_enter_X4_firstNest
set_option maxRecDepth 20000 in
theorem gu_wsX5_enter_2 : ∀ w ∈ wsX5_enter_r2, w ∈ wsX5_enter := fun _ h => List.mem_cons_of_mem _ (List.mem_append_left _ (List.mem_append_right _ h))
set_option maxRecDepth 20000 in
theorem gu_wsX5_enter_3 : ∀ w ∈ wsX60, w ∈ wsX5_enter := fun _ h => List.mem_cons_of_mem _ (List.mem_append_right _ h)
set_option maxRecDepth 20000 in
theorem ggX5_enter_X5_settle : GoodIn wsX5_enter wsX5_settle := goodIn_sub (gi_c (gu_wsX5_enter_1 _ gm_14) (gi_a (gi_c (gu_wsX5_enter_1 _ gm_15) (gi_c (gu_wsX5_enter_1 _ gm_16) (gi_c (gu_wsX5_enter_1 _ gm_13) (gi_c (gu_wsX5_enter_1 _ gm_17) (gi_c (gu_wsX5_enter_1 _ gm_18) (gi_c (gu_wsX5_enter_1 _ gm_19) (gi_c (gu_wsX5_enter_1 _ gm_20) (gi_c (gu_wsX5_enter_1 _ gm_21) (gi_c (gu_wsX5_enter_1 _ gm_22) (gi_c (gu_wsX5_enter_1 _ gm_23) (gi_c (gu_wsX5_enter_2 _ gm_0) (gi_c (gu_wsX5_enter_2 _ gm_1) (gi_c (gu_wsX5_enter_2 _ gm_2) (gi_c (gu_wsX5_enter_2 _ gm_3) gi_0)))))))))))))) (gu_wsX5_enter_3))) (by decide +kernel)
set_option maxRecDepth 20000 in
theorem gX5_enter_X5_settle : GoodIn wsX5_enter (va_wsS RX5 25 yX5_settle wsX5_settle) := goodIn_app (goodIn_sub (gi_c (gu_wsX5_enter_1 _ gm_11) (gi_c (gu_wsX5_enter_1 _ gm_12) (gi_c (gu_wsX5_enter_1 _ gm_13) gi_0))) (by decide +kernel)) ggX5_enter_X5_settle
set_option maxRecDepth 20000 in
theorem ggX5_enter_X5_secondNest : GoodIn wsX5_enter wsX5_secondNest := goodIn_sub (gi_c (gu_wsX5_enter_2 _ gm_6) (gi_a (gi_c (gu_wsX5_enter_1 _ gm_7) (gi_c (gu_wsX5_enter_1 _ gm_8) (gi_c (gu_wsX5_enter_1 _ gm_2) (gi_c (gu_wsX5_enter_1 _ gm_9) (gi_c (gu_wsX5_enter_1 _ gm_10) (gi_c (gu_wsX5_enter_1 _ gm_4) (gi_c (gu_wsX5_enter_1 _ gm_5) (gi_c (gu_wsX5_enter_1 _ gm_6) (gi_c (gu_wsX5_enter_1 _ gm_0) (gi_c (gu_wsX5_enter_1 _ gm_1) (gi_c (gu_wsX5_enter_1 _ gm_3) (gi_c (gu_wsX5_enter_2 _ gm_7) (gi_c (gu_wsX5_enter_2 _ gm_8) (gi_c (gu_wsX5_enter_2 _ gm_9) (gi_c (gu_wsX5_enter_2 _ gm_10) gi_0))))))))))))))) (gu_wsX5_enter_3))) (by decide +kernel)
set_option maxRecDepth 20000 in
theorem gX5_enter_X5_secondNest : GoodIn wsX5_enter (va_wsS RX5 31 yX5_secondNest wsX5_secondNest) := goodIn_app (goodIn_sub (gi_c (gu_wsX5_enter_2 _ gm_4) (gi_c (gu_wsX5_enter_2 _ gm_5) (gi_c (gu_wsX5_enter_1 _ gm_13) gi_0))) (by decide +kernel)) ggX5_enter_X5_secondNest
set_option maxRecDepth 20000 in
theorem ggX5_enter_X5_push : GoodIn wsX5_enter wsX5_push := goodIn_sub (gi_c (gu_wsX5_enter_2 _ gm_13) (gi_a (gi_a (gi_c (gu_wsX5_enter_2 _ gm_14) (gi_c (gu_wsX5_enter_2 _ gm_15) (gi_c (gu_wsX5_enter_1 _ gm_13) (gi_c (gu_wsX5_enter_2 _ gm_16) (gi_c (gu_wsX5_enter_1 _ gm_18) (gi_c (gu_wsX5_enter_1 _ gm_19) (gi_c (gu_wsX5_enter_1 _ gm_20) (gi_c (gu_wsX5_enter_1 _ gm_21) (gi_c (gu_wsX5_enter_1 _ gm_22) (gi_c (gu_wsX5_enter_1 _ gm_23) (gi_c (gu_wsX5_enter_2 _ gm_0) (gi_c (gu_wsX5_enter_2 _ gm_1) (gi_c (gu_wsX5_enter_2 _ gm_2) (gi_c (gu_wsX5_enter_2 _ gm_3) (gi_c (gu_wsX5_enter_2 _ gm_7) (gi_c (gu_wsX5_enter_2 _ gm_8) (gi_c (gu_wsX5_enter_1 _ gm_2) (gi_c (gu_wsX5_enter_2 _ gm_9) (gi_c (gu_wsX5_enter_2 _ gm_10) (gi_c (gu_wsX5_enter_1 _ gm_4) (gi_c (gu_wsX5_enter_1 _ gm_5) (gi_c (gu_wsX5_enter_1 _ gm_6) (gi_c (gu_wsX5_enter_1 _ gm_11) (gi_c (gu_wsX5_enter_1 _ gm_12) gi_0)))))))))))))))))))))))) (gi_c (gu_wsX5_enter_1 _ gm_14) (gi_c (gu_wsX5_enter_1 _ gm_15) (gi_c (gu_wsX5_enter_1 _ gm_16) (gi_c (gu_wsX5_enter_1 _ gm_17) (gi_c (gu_wsX5_enter_2 _ gm_17) (gi_c (gu_wsX5_enter_2 _ gm_18) (gi_c (gu_wsX5_enter_2 _ gm_19) gi_0)))))))) (gu_wsX5_enter_3))) (by decide +kernel)
set_option maxRecDepth 20000 in
theorem gX5_enter_X5_push : GoodIn wsX5_enter (va_wsS RX5 35 yX5_push wsX5_push) := goodIn_app (goodIn_sub (gi_c (gu_wsX5_enter_2 _ gm_11) (gi_c (gu_wsX5_enter_2 _ gm_12) (gi_c (gu_wsX5_enter_1 _ gm_13) gi_0))) (by decide +kernel)) ggX5_enter_X5_push
theorem dX5_enter_0 : decode cX5_enter 0 = .ok (.lload_n 1, 1) := by decide +kernel
theorem dX5_enter_1 : decode cX5_enter 1 = .ok (.invokestatic 9, 3) := by decide +kernel
theorem dX5_enter_4 : decode cX5_enter 4 = .ok (.istore_n 3, 1) := by decide +kernel
theorem dX5_enter_5 : decode cX5_enter 5 = .ok (.lload_n 1, 1) := by decide +kernel
theorem dX5_enter_6 : decode cX5_enter 6 = .ok (.aload_n 0, 1) := by decide +kernel
theorem dX5_enter_7 : decode cX5_enter 7 = .ok (.getfield 15, 3) := by decide +kernel
theorem dX5_enter_10 : decode cX5_enter 10 = .ok (.invokestatic 21, 3) := by decide +kernel
theorem dX5_enter_13 : decode cX5_enter 13 = .ok (.istore 4, 2) := by decide +kernel
theorem dX5_enter_15 : decode cX5_enter 15 = .ok (.aload_n 0, 1) := by decide +kernel
theorem dX5_enter_16 : decode cX5_enter 16 = .ok (.iload 4, 2) := by decide +kernel
theorem dX5_enter_18 : decode cX5_enter 18 = .ok (.iload_n 3, 1) := by decide +kernel
theorem dX5_enter_19 : decode cX5_enter 19 = .ok (.invokestatic 25, 3) := by decide +kernel
theorem dX5_enter_22 : decode cX5_enter 22 = .ok (.ifCond .ne 26, 3) := by decide +kernel
theorem dX5_enter_25 : decode cX5_enter 25 = .ok (.aload_n 0, 1) := by decide +kernel
theorem dX5_enter_26 : decode cX5_enter 26 = .ok (.aload_n 0, 1) := by decide +kernel
theorem dX5_enter_27 : decode cX5_enter 27 = .ok (.lload_n 1, 1) := by decide +kernel
theorem dX5_enter_28 : decode cX5_enter 28 = .ok (.invokestatic 31, 3) := by decide +kernel
theorem dX5_enter_31 : decode cX5_enter 31 = .ok (.iload_n 3, 1) := by decide +kernel
theorem dX5_enter_32 : decode cX5_enter 32 = .ok (.invokestatic 25, 3) := by decide +kernel
theorem dX5_enter_35 : decode cX5_enter 35 = .ok (.ifCond .ne 13, 3) := by decide +kernel
theorem dX5_enter_38 : decode cX5_enter 38 = .ok (.aload_n 0, 1) := by decide +kernel
theorem dX5_enter_39 : decode cX5_enter 39 = .ok (.iload 4, 2) := by decide +kernel
theorem dX5_enter_41 : decode cX5_enter 41 = .ok (.iload_n 3, 1) := by decide +kernel
theorem dX5_enter_42 : decode cX5_enter 42 = .ok (.invokestatic 35, 3) := by decide +kernel
theorem dX5_enter_45 : decode cX5_enter 45 = .ok (.ifCond .eq 7, 3) := by decide +kernel
theorem dX5_enter_48 : decode cX5_enter 48 = .ok (.iconst 1, 1) := by decide +kernel
theorem dX5_enter_49 : decode cX5_enter 49 = .ok (.goto 4, 3) := by decide +kernel
theorem dX5_enter_52 : decode cX5_enter 52 = .ok (.iconst 0, 1) := by decide +kernel
theorem dX5_enter_53 : decode cX5_enter 53 = .ok (.ireturn, 1) := by decide +kernel
set_option maxRecDepth 20000 in
theorem gu_wsX5_find_1 : ∀ w ∈ wsX5_find_r1, w ∈ wsX5_find := fun _ h => List.mem_cons_of_mem _ (List.mem_append_left _ (List.mem_append_left _ h))
set_option maxRecDepth 20000 in
theorem ggX5_find_X4_nestTag : GoodIn wsX5_find wsX4_nestTag := goodIn_sub (gi_c (gu_wsX5_find_1 _ gm_3) (gi_c (gu_wsX5_find_1 _ gm_4) (gi_c (gu_wsX5_find_1 _ gm_5) (gi_c (gu_wsX5_find_1 _ gm_2) (gi_c (gu_wsX5_find_1 _ gm_6) gi_0))))) (by decide +kernel)
set_option maxRecDepth 20000 in
theorem gX5_find_X4_nestTag : GoodIn wsX5_find (va_wsS RX5 9 yX4_nestTag wsX4_nestTag) := goodIn_app (goodIn_sub (gi_c (gu_wsX5_find_1 _ gm_0) (gi_c (gu_wsX5_find_1 _ gm_1) (gi_c (gu_wsX5_find_1 _ gm_2) gi_0))) (by decide +kernel)) ggX5_find_X4_nestTag
set_option maxRecDepth 20000 in
theorem ggX5_find_X4_firstNest : GoodIn wsX5_find wsX4_firstNest := goodIn_sub (gi_c (gu_wsX5_find_1 _ gm_9) (gi_c (gu_wsX5_find_1 _ gm_10) (gi_c (gu_wsX5_find_1 _ gm_4) (gi_c (gu_wsX5_find_1 _ gm_5) (gi_c (gu_wsX5_find_1 _ gm_2) (gi_c (gu_wsX5_find_1 _ gm_6) gi_0)))))) (by decide +kernel)
set_option maxRecDepth 20000 in
theorem gX5_find_X4_firstNest : GoodIn wsX5_find (va_wsS RX5 21 yX4_firstNest wsX4_firstNest) := goodIn_app (goodIn_sub (gi_c (gu_wsX5_find_1 _ gm_7) (gi_c (gu_wsX5_find_1 _ gm_8) (gi_c (gu_wsX5_find_1 _ gm_2) gi_0))) (by decide +kernel)) ggX5_find_X4_firstNest
set_option maxRecDepth 20000 in
theorem gu_wsX5_find_3 : ∀ w ∈ wsX60, w ∈ wsX5_find := fun _ h => List.mem_cons_of_mem _ (List.mem_append_right _ h)
set_option maxRecDepth 20000 in
theorem ggX5_find_X5_findIn : GoodIn wsX5_find wsX5_findIn := goodIn_sub (gi_c (gu_wsX5_find_1 _ gm_14) (gi_a (gi_c (gu_wsX5_find_1 _ gm_15) (gi_c (gu_wsX5_find_1 _ gm_16) (gi_c (gu_wsX5_find_1 _ gm_17) (gi_c (gu_wsX5_find_1 _ gm_18) (gi_c (gu_wsX5_find_1 _ gm_19) (gi_c (gu_wsX5_find_1 _ gm_20) gi_0)))))) (gu_wsX5_find_3))) (by decide +kernel)
set_option maxRecDepth 20000 in
theorem gX5_find_X5_findIn : GoodIn wsX5_find (va_wsS RX5 38 yX5_findIn wsX5_findIn) := goodIn_app (goodIn_sub (gi_c (gu_wsX5_find_1 _ gm_11) (gi_c (gu_wsX5_find_1 _ gm_12) (gi_c (gu_wsX5_find_1 _ gm_13) gi_0))) (by decide +kernel)) ggX5_find_X5_findIn
set_option maxRecDepth 20000 in
theorem gu_wsX5_find_2 : ∀ w ∈ wsX5_find_r2, w ∈ wsX5_find := fun _ h => List.mem_cons_of_mem _ (List.mem_append_left _ (List.mem_append_right _ h))
set_option maxRecDepth 20000 in
theorem ggX5_find_X5_secondNest : GoodIn wsX5_find wsX5_secondNest := goodIn_sub (gi_c (gu_wsX5_find_1 _ gm_23) (gi_a (gi_c (gu_wsX5_find_1 _ gm_7) (gi_c (gu_wsX5_find_1 _ gm_8) (gi_c (gu_wsX5_find_1 _ gm_2) (gi_c (gu_wsX5_find_1 _ gm_9) (gi_c (gu_wsX5_find_1 _ gm_10) (gi_c (gu_wsX5_find_1 _ gm_4) (gi_c (gu_wsX5_find_1 _ gm_5) (gi_c (gu_wsX5_find_1 _ gm_6) (gi_c (gu_wsX5_find_1 _ gm_0) (gi_c (gu_wsX5_find_1 _ gm_1) (gi_c (gu_wsX5_find_1 _ gm_3) (gi_c (gu_wsX5_find_2 _ gm_0) (gi_c (gu_wsX5_find_2 _ gm_1) (gi_c (gu_wsX5_find_2 _ gm_2) (gi_c (gu_wsX5_find_2 _ gm_3) gi_0))))))))))))))) (gu_wsX5_find_3))) (by decide +kernel)
set_option maxRecDepth 20000 in
theorem gX5_find_X5_secondNest : GoodIn wsX5_find (va_wsS RX5 31 yX5_secondNest wsX5_secondNest) := goodIn_app (goodIn_sub (gi_c (gu_wsX5_find_1 _ gm_21) (gi_c (gu_wsX5_find_1 _ gm_22) (gi_c (gu_wsX5_find_1 _ gm_13) gi_0))) (by decide +kernel)) ggX5_find_X5_secondNest
theorem dX5_find_0 : decode cX5_find 0 = .ok (.lload_n 1, 1) := by decide +kernel
theorem dX5_find_1 : decode cX5_find 1 = .ok (.invokestatic 9, 3) := by decide +kernel
theorem dX5_find_4 : decode cX5_find 4 = .ok (.istore_n 3, 1) := by decide +kernel
theorem dX5_find_5 : decode cX5_find 5 = .ok (.aload_n 0, 1) := by decide +kernel
theorem dX5_find_6 : decode cX5_find 6 = .ok (.lload_n 1, 1) := by decide +kernel
theorem dX5_find_7 : decode cX5_find 7 = .ok (.aload_n 0, 1) := by decide +kernel
theorem dX5_find_8 : decode cX5_find 8 = .ok (.getfield 15, 3) := by decide +kernel
theorem dX5_find_11 : decode cX5_find 11 = .ok (.invokestatic 21, 3) := by decide +kernel
theorem dX5_find_14 : decode cX5_find 14 = .ok (.iload_n 3, 1) := by decide +kernel
theorem dX5_find_15 : decode cX5_find 15 = .ok (.invokestatic 38, 3) := by decide +kernel
theorem dX5_find_18 : decode cX5_find 18 = .ok (.istore 4, 2) := by decide +kernel
theorem dX5_find_20 : decode cX5_find 20 = .ok (.iload 4, 2) := by decide +kernel
theorem dX5_find_22 : decode cX5_find 22 = .ok (.ifCond .lt 8, 3) := by decide +kernel
theorem dX5_find_25 : decode cX5_find 25 = .ok (.iload 4, 2) := by decide +kernel
theorem dX5_find_27 : decode cX5_find 27 = .ok (.goto 13, 3) := by decide +kernel
theorem dX5_find_30 : decode cX5_find 30 = .ok (.aload_n 0, 1) := by decide +kernel
theorem dX5_find_31 : decode cX5_find 31 = .ok (.aload_n 0, 1) := by decide +kernel
theorem dX5_find_32 : decode cX5_find 32 = .ok (.lload_n 1, 1) := by decide +kernel
theorem dX5_find_33 : decode cX5_find 33 = .ok (.invokestatic 31, 3) := by decide +kernel
theorem dX5_find_36 : decode cX5_find 36 = .ok (.iload_n 3, 1) := by decide +kernel
theorem dX5_find_37 : decode cX5_find 37 = .ok (.invokestatic 38, 3) := by decide +kernel
theorem dX5_find_40 : decode cX5_find 40 = .ok (.ireturn, 1) := by decide +kernel
set_option maxRecDepth 20000 in
theorem gu_wsX5_secondNest_1 : ∀ w ∈ ([Cond.methodLink RX5 21 yX4_firstNest, Cond.static yX4_firstNest, Cond.initialized RX4, Cond.code yX4_firstNest cX4_firstNest 3 (some .int), Cond.constantLong RX4 15 (4294967295), Cond.methodLink RX4 17 yX4_rest, Cond.static yX4_rest, Cond.code yX4_rest cX4_rest 3 (some .int), Cond.methodLink RX5 9 yX4_nestTag, Cond.static yX4_nestTag, Cond.code yX4_nestTag cX4_nestTag 2 (some .int), Cond.methodLink RX5 42 yX4_otherNest, Cond.static yX4_otherNest, Cond.code yX4_otherNest cX4_otherNest 3 (some .int), Cond.constantLong RX4 21 (2654435761)] : List Cond), w ∈ wsX5_secondNest := fun _ h => List.mem_cons_of_mem _ (List.mem_append_left _ h)
set_option maxRecDepth 20000 in
theorem ggX5_secondNest_X4_firstNest : GoodIn wsX5_secondNest wsX4_firstNest := goodIn_sub (gi_c (gu_wsX5_secondNest_1 _ gm_3) (gi_c (gu_wsX5_secondNest_1 _ gm_4) (gi_c (gu_wsX5_secondNest_1 _ gm_5) (gi_c (gu_wsX5_secondNest_1 _ gm_6) (gi_c (gu_wsX5_secondNest_1 _ gm_2) (gi_c (gu_wsX5_secondNest_1 _ gm_7) gi_0)))))) (by decide +kernel)
set_option maxRecDepth 20000 in
theorem gX5_secondNest_X4_firstNest : GoodIn wsX5_secondNest (va_wsS RX5 21 yX4_firstNest wsX4_firstNest) := goodIn_app (goodIn_sub (gi_c (gu_wsX5_secondNest_1 _ gm_0) (gi_c (gu_wsX5_secondNest_1 _ gm_1) (gi_c (gu_wsX5_secondNest_1 _ gm_2) gi_0))) (by decide +kernel)) ggX5_secondNest_X4_firstNest
set_option maxRecDepth 20000 in
theorem ggX5_secondNest_X4_nestTag : GoodIn wsX5_secondNest wsX4_nestTag := goodIn_sub (gi_c (gu_wsX5_secondNest_1 _ gm_10) (gi_c (gu_wsX5_secondNest_1 _ gm_5) (gi_c (gu_wsX5_secondNest_1 _ gm_6) (gi_c (gu_wsX5_secondNest_1 _ gm_2) (gi_c (gu_wsX5_secondNest_1 _ gm_7) gi_0))))) (by decide +kernel)
set_option maxRecDepth 20000 in
theorem gX5_secondNest_X4_nestTag : GoodIn wsX5_secondNest (va_wsS RX5 9 yX4_nestTag wsX4_nestTag) := goodIn_app (goodIn_sub (gi_c (gu_wsX5_secondNest_1 _ gm_8) (gi_c (gu_wsX5_secondNest_1 _ gm_9) (gi_c (gu_wsX5_secondNest_1 _ gm_2) gi_0))) (by decide +kernel)) ggX5_secondNest_X4_nestTag
set_option maxRecDepth 20000 in
theorem ggX5_secondNest_X4_otherNest : GoodIn wsX5_secondNest wsX4_otherNest := goodIn_sub (gi_c (gu_wsX5_secondNest_1 _ gm_13) (gi_c (gu_wsX5_secondNest_1 _ gm_14) (gi_c (gu_wsX5_secondNest_1 _ gm_5) (gi_c (gu_wsX5_secondNest_1 _ gm_6) (gi_c (gu_wsX5_secondNest_1 _ gm_2) (gi_c (gu_wsX5_secondNest_1 _ gm_7) gi_0)))))) (by decide +kernel)
set_option maxRecDepth 20000 in
theorem gX5_secondNest_X4_otherNest : GoodIn wsX5_secondNest (va_wsS RX5 42 yX4_otherNest wsX4_otherNest) := goodIn_app (goodIn_sub (gi_c (gu_wsX5_secondNest_1 _ gm_11) (gi_c (gu_wsX5_secondNest_1 _ gm_12) (gi_c (gu_wsX5_secondNest_1 _ gm_2) gi_0))) (by decide +kernel)) ggX5_secondNest_X4_otherNest
theorem dX5_secondNest_0 : decode cX5_secondNest 0 = .ok (.lload_n 1, 1) := by decide +kernel
theorem dX5_secondNest_1 : decode cX5_secondNest 1 = .ok (.aload_n 0, 1) := by decide +kernel
theorem dX5_secondNest_2 : decode cX5_secondNest 2 = .ok (.getfield 15, 3) := by decide +kernel
theorem dX5_secondNest_5 : decode cX5_secondNest 5 = .ok (.invokestatic 21, 3) := by decide +kernel
theorem dX5_secondNest_8 : decode cX5_secondNest 8 = .ok (.istore_n 3, 1) := by decide +kernel
theorem dX5_secondNest_9 : decode cX5_secondNest 9 = .ok (.iload_n 3, 1) := by decide +kernel
theorem dX5_secondNest_10 : decode cX5_secondNest 10 = .ok (.lload_n 1, 1) := by decide +kernel
theorem dX5_secondNest_11 : decode cX5_secondNest 11 = .ok (.invokestatic 9, 3) := by decide +kernel
theorem dX5_secondNest_14 : decode cX5_secondNest 14 = .ok (.aload_n 0, 1) := by decide +kernel
theorem dX5_secondNest_15 : decode cX5_secondNest 15 = .ok (.getfield 15, 3) := by decide +kernel
theorem dX5_secondNest_18 : decode cX5_secondNest 18 = .ok (.invokestatic 42, 3) := by decide +kernel
theorem dX5_secondNest_21 : decode cX5_secondNest 21 = .ok (.ireturn, 1) := by decide +kernel
set_option maxRecDepth 20000 in
theorem gu_wsX5_settle_1 : ∀ w ∈ ([Cond.methodLink RX5 38 yX5_findIn, Cond.static yX5_findIn, Cond.initialized RX5, Cond.code yX5_findIn cX5_findIn 5 (some .int), Cond.methodLink RX5 50 yX6_cellAt, Cond.instanceMethod yX6_cellAt, Cond.selects RX6 yX6_cellAt yX6_cellAt, Cond.initialized RX6, Cond.code yX6_cellAt cX6_cellAt 2 (some .int), Cond.fieldLink RX6 9 "SieveCabinet$Sieve" "cells" "[I", Cond.methodLink RX5 46 yX6_setCell, Cond.instanceMethod yX6_setCell, Cond.selects RX6 yX6_setCell yX6_setCell, Cond.code yX6_setCell cX6_setCell 3 none] : List Cond), w ∈ wsX5_settle := fun _ h => List.mem_cons_of_mem _ (List.mem_append_left _ h)
set_option maxRecDepth 20000 in
theorem gu_wsX5_settle_2 : ∀ w ∈ wsX60, w ∈ wsX5_settle := fun _ h => List.mem_cons_of_mem _ (List.mem_append_right _ h)
set_option maxRecDepth 20000 in
theorem ggX5_settle_X5_findIn : GoodIn wsX5_settle wsX5_findIn := goodIn_sub (gi_c (gu_wsX5_settle_1 _ gm_3) (gi_a (gi_c (gu_wsX5_settle_1 _ gm_4) (gi_c (gu_wsX5_settle_1 _ gm_5) (gi_c (gu_wsX5_settle_1 _ gm_6) (gi_c (gu_wsX5_settle_1 _ gm_7) (gi_c (gu_wsX5_settle_1 _ gm_8) (gi_c (gu_wsX5_settle_1 _ gm_9) gi_0)))))) (gu_wsX5_settle_2))) (by decide +kernel)
set_option maxRecDepth 20000 in
theorem gX5_settle_X5_findIn : GoodIn wsX5_settle (va_wsS RX5 38 yX5_findIn wsX5_findIn) := goodIn_app (goodIn_sub (gi_c (gu_wsX5_settle_1 _ gm_0) (gi_c (gu_wsX5_settle_1 _ gm_1) (gi_c (gu_wsX5_settle_1 _ gm_2) gi_0))) (by decide +kernel)) ggX5_settle_X5_findIn
set_option maxRecDepth 20000 in
theorem ggX5_settle_X6_setCell : GoodIn wsX5_settle wsX6_setCell := goodIn_sub (gi_c (gu_wsX5_settle_1 _ gm_13) (gi_a (gi_c (gu_wsX5_settle_1 _ gm_9) gi_0) (gu_wsX5_settle_2))) (by decide +kernel)
set_option maxRecDepth 20000 in
theorem gX5_settle_X6_setCell : GoodIn wsX5_settle (wsV RX5 46 RX6 yX6_setCell wsX6_setCell) := goodIn_app (goodIn_sub (gi_c (gu_wsX5_settle_1 _ gm_10) (gi_c (gu_wsX5_settle_1 _ gm_11) (gi_c (gu_wsX5_settle_1 _ gm_12) (gi_c (gu_wsX5_settle_1 _ gm_7) gi_0)))) (by decide +kernel)) ggX5_settle_X6_setCell
