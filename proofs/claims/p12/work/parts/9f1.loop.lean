set_option maxHeartbeats 4000000 in
set_option maxRecDepth 100000 in
theorem law_sw {p : Program} {l : Launch} {e : Env} {s : State} {m : MethodId} {below : List Frame} {meth : Method} {c : Code} {bs Ls i cells slots : Nat} {xs : Nat → Int32} {D : va_G} {g : Nat → ClassId} {L : List Nat} {f : Nat → va_E} {H : Heap} {locs : List Loc} {ls : Array Slot} {x y : Nat} {Q : State → Prop} (hx : p.tables.exec = Jvm.exec) (hb : c.code = cL_law) (hml : c.maxLocals = 4) (hown : s.vm.findClass RL = some m.cls) (hts : ∀ w ∈ wsL_law, w.before #[Value.ref bs] s = true) (hX : va_X bs Ls xs s s.heap) (hbl : bs < s.heap.size) (hLs : Ls ≤ 3072) (hi : i + 6 ≤ Ls) (hroom : cells + 49 ≤ room_1.cells ∧ slots + 7472 ≤ room_1.slots) (S : PS D g (fun q : Nat => s.heap.size ≤ q) s.heap s L f H locs) (hl : lv_has ls 4 [(3, .int (nI i)), (2, .ref y), (1, .ref x), (0, .ref bs)]) (I0 : InvF g L f x y) (kk : ∀ (L : List Nat) (f : Nat → va_E) (H : Heap) (locs : List Loc), PS D g (fun q : Nat => s.heap.size ≤ q) s.heap s L f H locs → InvF g L f x y → W p l e room_1 s m #[Value.ref bs] below meth c H locs (cells + 49) (slots + 7472) Q (F0 m 1119 ls [])) : W p l e room_1 s m #[Value.ref bs] below meth c H locs cells slots Q (F0 m 27 ls []) := by
  refine lv_aload_n hx hb dL_law_27 rfl (lv_at hl 3 rfl) ?_
  refine lv_iload_n hx hb dL_law_28 rfl (lv_at hl 0 rfl) ?_
  refine va_sld hx hb hX hbl (Nat.not_le.mpr hbl) S.2.2.2.1 (vp_in_nI (n := i) (by omega) (by omega)) dL_law_29 ?_
  refine lv_bipush (v := 31) hx hb dL_law_30 (by decide) ?_
  refine lv_iand hx hb dL_law_32 ?_
  obtain ⟨j, hj, ej⟩ := pk_andE (xs (nI i).toNatClampNeg) (m := 31) 5 rfl
  refine lv_topi (fun t_ et_ => ?_)
  obtain rfl : t_ = nI j := et_.trans ej
  rcases (show j = 0 ∨ j = 1 ∨ j = 2 ∨ j = 3 ∨ j = 4 ∨ j = 5 ∨ j = 6 ∨ j = 7 ∨ j = 8 ∨ j = 9 ∨ j = 10 ∨ j = 11 ∨ j = 12 ∨ j = 13 ∨ j = 14 ∨ j = 15 ∨ j = 16 ∨ j = 17 ∨ j = 18 ∨ j = 19 ∨ j = 20 ∨ j = 21 ∨ j = 22 ∨ 23 ≤ j by omega) with rfl | rfl | rfl | rfl | rfl | rfl | rfl | rfl | rfl | rfl | rfl | rfl | rfl | rfl | rfl | rfl | rfl | rfl | rfl | rfl | rfl | rfl | rfl | h23
  · refine lv_tableIn (off := 107) (tgt := 140) hx hb dL_law_33 (by decide) (by decide) (by decide) (by decide) ?_
    exact law_0 hx hb hml hown hts hX hbl hLs hi hroom S hl I0 kk
  · refine lv_tableIn (off := 190) (tgt := 223) hx hb dL_law_33 (by decide) (by decide) (by decide) (by decide) ?_
    exact law_1 hx hb hml hown hts hX hbl hLs hi hroom S hl I0 kk
  · refine lv_tableIn (off := 253) (tgt := 286) hx hb dL_law_33 (by decide) (by decide) (by decide) (by decide) ?_
    exact law_2 hx hb hml hown hts hX hbl hLs hi hroom S hl I0 kk
  · refine lv_tableIn (off := 276) (tgt := 309) hx hb dL_law_33 (by decide) (by decide) (by decide) (by decide) ?_
    exact law_3 hx hb hml hown hts hX hbl hLs hi hroom S hl I0 kk
  · refine lv_tableIn (off := 309) (tgt := 342) hx hb dL_law_33 (by decide) (by decide) (by decide) (by decide) ?_
    exact law_4 hx hb hml hown hts hX hbl hLs hi hroom S hl I0 kk
  · refine lv_tableIn (off := 362) (tgt := 395) hx hb dL_law_33 (by decide) (by decide) (by decide) (by decide) ?_
    exact law_5 hx hb hml hown hts hX hbl hLs hi hroom S hl I0 kk
  · refine lv_tableIn (off := 395) (tgt := 428) hx hb dL_law_33 (by decide) (by decide) (by decide) (by decide) ?_
    exact law_6 hx hb hml hown hts hX hbl hLs hi hroom S hl I0 kk
  · refine lv_tableIn (off := 438) (tgt := 471) hx hb dL_law_33 (by decide) (by decide) (by decide) (by decide) ?_
    exact law_7 hx hb hml hown hts hX hbl hLs hi hroom S hl I0 kk
  · refine lv_tableIn (off := 501) (tgt := 534) hx hb dL_law_33 (by decide) (by decide) (by decide) (by decide) ?_
    exact law_8 hx hb hml hown hts hX hbl hLs hi hroom S hl I0 kk
  · refine lv_tableIn (off := 534) (tgt := 567) hx hb dL_law_33 (by decide) (by decide) (by decide) (by decide) ?_
    exact law_9 hx hb hml hown hts hX hbl hLs hi hroom S hl I0 kk
  · refine lv_tableIn (off := 597) (tgt := 630) hx hb dL_law_33 (by decide) (by decide) (by decide) (by decide) ?_
    exact law_10 hx hb hml hown hts hX hbl hLs hi hroom S hl I0 kk
  · refine lv_tableIn (off := 660) (tgt := 693) hx hb dL_law_33 (by decide) (by decide) (by decide) (by decide) ?_
    exact law_11 hx hb hml hown hts hX hbl hLs hi hroom S hl I0 kk
  · refine lv_tableIn (off := 693) (tgt := 726) hx hb dL_law_33 (by decide) (by decide) (by decide) (by decide) ?_
    exact law_12 hx hb hml hown hts hX hbl hLs hi hroom S hl I0 kk
  · refine lv_tableIn (off := 736) (tgt := 769) hx hb dL_law_33 (by decide) (by decide) (by decide) (by decide) ?_
    exact law_13 hx hb hml hown hts hX hbl hLs hi hroom S hl I0 kk
  · refine lv_tableIn (off := 759) (tgt := 792) hx hb dL_law_33 (by decide) (by decide) (by decide) (by decide) ?_
    exact law_14 hx hb hml hown hts hX hbl hLs hi hroom S hl I0 kk
  · refine lv_tableIn (off := 802) (tgt := 835) hx hb dL_law_33 (by decide) (by decide) (by decide) (by decide) ?_
    exact law_15 hx hb hml hown hts hX hbl hLs hi hroom S hl I0 kk
  · refine lv_tableIn (off := 825) (tgt := 858) hx hb dL_law_33 (by decide) (by decide) (by decide) (by decide) ?_
    exact law_16 hx hb hml hown hts hX hbl hLs hi hroom S hl I0 kk
  · refine lv_tableIn (off := 858) (tgt := 891) hx hb dL_law_33 (by decide) (by decide) (by decide) (by decide) ?_
    exact law_17 hx hb hml hown hts hX hbl hLs hi hroom S hl I0 kk
  · refine lv_tableIn (off := 891) (tgt := 924) hx hb dL_law_33 (by decide) (by decide) (by decide) (by decide) ?_
    exact law_18 hx hb hml hown hts hX hbl hLs hi hroom S hl I0 kk
  · refine lv_tableIn (off := 934) (tgt := 967) hx hb dL_law_33 (by decide) (by decide) (by decide) (by decide) ?_
    exact law_19 hx hb hml hown hts hX hbl hLs hi hroom S hl I0 kk
  · refine lv_tableIn (off := 1007) (tgt := 1040) hx hb dL_law_33 (by decide) (by decide) (by decide) (by decide) ?_
    exact law_20 hx hb hml hown hts hX hbl hLs hi hroom S hl I0 kk
  · refine lv_tableIn (off := 1060) (tgt := 1093) hx hb dL_law_33 (by decide) (by decide) (by decide) (by decide) ?_
    exact law_21 hx hb hml hown hts hX hbl hLs hi hroom S hl I0 kk
  · refine lv_tableIn (off := 1073) (tgt := 1106) hx hb dL_law_33 (by decide) (by decide) (by decide) (by decide) ?_
    exact law_22 hx hb hml hown hts hX hbl hLs hi hroom S hl I0 kk
  · refine lv_tableOut (tgt := 1119) hx hb dL_law_33 (Or.inr (by rw [nI_toInt (by omega)]; omega)) (by decide) ?_
    exact W.widen (Nat.le_add_right _ _) (Nat.le_add_right _ _) (kk _ _ _ _ S I0)
theorem law_more {Ls i : Nat} (hLs : Ls ≤ 3072) (hi : i ≤ 3078) (h : ¬ nI Ls - 6 < nI i) : i + 6 ≤ Ls := by
  rcases Nat.lt_or_ge Ls 6 with q | q
  · have h1 : (nI Ls - (6 : Int32)).toInt = (Ls : Int) - 6 := pk_sub_toInt (a := Ls) (b := 6) (by omega) (by omega)
    exact absurd (Int32.lt_iff_toInt_lt.mpr (by rw [h1, nI_toInt (by omega)]; omega)) h
  · rw [show nI Ls - (6 : Int32) = nI (Ls - 6) from pk_sub (b := 6) q] at h
    have := Nat.le_of_not_lt (fun r => h ((nI_ltI (by omega) (by omega)).mpr r))
    omega
set_option maxHeartbeats 4000000 in
set_option maxRecDepth 100000 in
theorem law_loop {p : Program} {l : Launch} {e : Env} {s : State} {m : MethodId} {below : List Frame} {meth : Method} {c : Code} {bs Ls : Nat} {xs : Nat → Int32} {D : va_G} {g : Nat → ClassId} {x y : Nat} (hx : p.tables.exec = Jvm.exec) (hb : c.code = cL_law) (hr : meth.sig.returnType = ret) (hml : c.maxLocals = 4) (hown : s.vm.findClass RL = some m.cls) (hts : ∀ w ∈ wsL_law, w.before #[Value.ref bs] s = true) (hX : va_X bs Ls xs s s.heap) (hbl : bs < s.heap.size) (hlk : meth.locks = false) (hLs : Ls ≤ 3072) : ∀ (d i cells slots : Nat) (L : List Nat) (f : Nat → va_E) (H : Heap) (locs : List Loc) (ls : Array Slot), i ≤ 3078 → Ls < i + 6 * d + 6 → cells + 49 * d ≤ 232548 → slots + 7472 * d ≤ 8404606 → PS D g (fun q : Nat => s.heap.size ≤ q) s.heap s L f H locs → lv_has ls 4 [(3, .int (nI i)), (2, .ref y), (1, .ref x), (0, .ref bs)] → InvF g L f x y → W p l e room_1 s m #[Value.ref bs] below meth c H locs cells slots (lw_Z below #[Value.ref bs] s) (F0 m 18 ls []) := by
  intro d
  induction d with
  | zero =>
    intro i cells slots L f H locs ls hi hd hc hs S hl I0
    refine lv_iload_n hx hb dL_law_18 rfl (lv_at hl 0 rfl) ?_
    refine lv_aload_n hx hb dL_law_19 rfl (lv_at hl 3 rfl) ?_
    refine va_slen hx hb hX hbl (Nat.not_le.mpr hbl) S.2.2.2.1 dL_law_20 ?_
    refine lv_bipush (v := 6) hx hb dL_law_21 (by decide) ?_
    refine lv_isub hx hb dL_law_23 ?_
    refine lv_icmp_gt (tgt := 1125) hx hb dL_law_24 (by decide) (fun b24 => ?_) (fun b24 => absurd (law_more hLs hi b24) (by omega))
    refine lv_iconst (v := 1) hx hb dL_law_1125 (by decide) ?_
    refine va_forget (fun q hq => S.2.2.2.1.2.2 q hq) ?_
    refine W.widen (k := 232548) (n := 8404606) (by omega) (by omega) ?_
    exact lw_ret hx hb hr hlk dL_law_1126
  | succ d ih =>
    intro i cells slots L f H locs ls hi hd hc hs S hl I0
    refine lv_iload_n hx hb dL_law_18 rfl (lv_at hl 0 rfl) ?_
    refine lv_aload_n hx hb dL_law_19 rfl (lv_at hl 3 rfl) ?_
    refine va_slen hx hb hX hbl (Nat.not_le.mpr hbl) S.2.2.2.1 dL_law_20 ?_
    refine lv_bipush (v := 6) hx hb dL_law_21 (by decide) ?_
    refine lv_isub hx hb dL_law_23 ?_
    refine lv_icmp_gt (tgt := 1125) hx hb dL_law_24 (by decide) (fun b24 => ?_) (fun b24 => ?_)
    · skip
      refine lv_iconst (v := 1) hx hb dL_law_1125 (by decide) ?_
      refine va_forget (fun q hq => S.2.2.2.1.2.2 q hq) ?_
      refine W.widen (k := 232548) (n := 8404606) (by omega) (by omega) ?_
      exact lw_ret hx hb hr hlk dL_law_1126
    · have hi6 := law_more hLs hi b24
      refine law_sw hx hb hml hown hts hX hbl hLs hi6 ⟨show cells + 49 ≤ 232548 by omega, show slots + 7472 ≤ 8404606 by omega⟩ S hl I0 (fun L f H locs S I0 => ?_)
      refine lv_iinc (v := nI (i + 6)) (lv' := [(3, .int (nI (i + 6))), (2, .ref y), (1, .ref x), (0, .ref bs)]) hx hb dL_law_1119 hl (k := 0) rfl (nI_add i 6) (by decide) rfl (fun ls hl => ?_)
      refine lv_goto (tgt := 18) hx hb dL_law_1122 (by decide) ?_
      exact ih (i + 6) (cells + 49) (slots + 7472) L f H locs ls (by omega) (by omega) (by omega) (by omega) S hl I0
