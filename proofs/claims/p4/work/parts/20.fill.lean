set_option maxHeartbeats 4000000 in
set_option maxRecDepth 100000 in
/-- Arrays.fill -/
theorem c_J7_fill_53178 (l : Launch) (D : va_G) (g : Nat → ClassId) {L : List Nat} {f : Nat → va_E} {a n : Nat} {v : Nat → Int32} {z : Int32} (m_a : a ∈ L) (e_a : f a = .inl (g 0, n, .inl v)) (hn : n < 2 ^ 31) : cV l yJ7_fill_53178 wsJ7_fill_53178 { frames := 0, cells := 0, slots := 0, locals := 0 } D g [.ref a, .int z] L f 0 0 (fun L1 f1 => L1 = L ∧ ∃ v1 : Nat → Int32, f1 = va_up f a (.inl (g 0, n, .inl v1))) := by
  refine cV_of (cc := cJ7_fill_53178) (maxL := 4) (ret := none) (by decide) rfl (Nat.le_of_ble_eq_true rfl) ?_
  intro sz p e s m below meth c hx hb hr hml hts hown hlk hnm S ls hl
  have hl : lv_has ls 4 [(0, .ref a), (1, .int z)] := hl
  have e_a0 := e_a
  refine lv_iconst (v := 0) hx hb dJ7_fill_53178_0 (by decide) ?_
  refine lv_istore_n (lv' := [(2, .int 0), (0, .ref a), (1, .int z)]) hx hb dJ7_fill_53178_1 rfl hl (by decide) rfl (fun ls hl => ?_)
  refine lv_aload_n hx hb dJ7_fill_53178_2 rfl (lv_at hl 1 rfl) ?_
  refine q_alen hx hb S m_a 0 rfl e_a (v := (nI n)) rfl dJ7_fill_53178_3 ?_
  refine lv_istore_n (lv' := [(3, .int ((nI n))), (2, .int 0), (0, .ref a), (1, .int z)]) hx hb dJ7_fill_53178_4 rfl hl (by decide) rfl (fun ls hl => ?_)
  obtain ⟨i, ei⟩ : ∃ z_ : Nat, z_ = 0 := ⟨_, rfl⟩
  obtain ⟨k_a, ek_a⟩ : ∃ z_ : Nat → Int32, z_ = v := ⟨_, rfl⟩
  obtain ⟨fl, efl⟩ : ∃ z_, z_ = f := ⟨_, rfl⟩
  have e_a : fl a = .inl (g 0, n, .inl k_a) := by rw [efl, ek_a]; exact e_a
  have S_0 : PS D g (va_A (va_pl L f) sz) s.heap s L fl s.heap [] := by rw [efl]; exact S
  refine W_any (X := fun H locs => PS D g (va_A (va_pl L f) sz) s.heap s L fl H locs) S_0 (fun H locs S => ?_)
  refine W_ls (lv := [(2, .int ((nI i))), (3, .int ((nI n))), (0, .ref a), (1, .int z)]) (by have q := lv_sub hl [1, 0, 2, 3] rfl; rw [ei]; exact q) (fun ls hl => ?_)
  have hF : fl = va_up f a (.inl (g 0, n, .inl k_a)) := by rw [efl, ek_a]; exact (va_up_id e_a0).symm
  obtain ⟨d, hd⟩ : ∃ z_ : Nat, i + z_ = n := ⟨n - i, by omega⟩
  clear ei ek_a efl S_0
  induction d generalizing i k_a fl H locs ls with
  | zero =>
    have hN : i = n := by omega
    refine lv_iload_n hx hb dJ7_fill_53178_5 rfl (lv_at hl 0 rfl) ?_
    refine lv_iload_n hx hb dJ7_fill_53178_6 rfl (lv_at hl 1 rfl) ?_
    refine lv_icmp_ge (tgt := 20) hx hb dJ7_fill_53178_7 (by decide) (fun b7 => ?_) (fun b7 => absurd (by rw [hN]; exact Int32.le_refl _) b7)
    exact q_retv (post := fun L1 f1 => L1 = L ∧ ∃ v1 : Nat → Int32, f1 = va_up f a (.inl (g 0, n, .inl v1))) hx hb hr hlk S dJ7_fill_53178_20 (by decide) (by decide) (⟨rfl, k_a, hF⟩)
  | succ d ih =>
    have hlt : i < n := by omega
    refine lv_iload_n hx hb dJ7_fill_53178_5 rfl (lv_at hl 0 rfl) ?_
    refine lv_iload_n hx hb dJ7_fill_53178_6 rfl (lv_at hl 1 rfl) ?_
    refine lv_icmp_ge (tgt := 20) hx hb dJ7_fill_53178_7 (by decide) (fun b7 => absurd b7 (nI_ge hlt hn)) (fun b7 => ?_)
    refine lv_aload_n hx hb dJ7_fill_53178_10 rfl (lv_at hl 2 rfl) ?_
    refine lv_iload_n hx hb dJ7_fill_53178_11 rfl (lv_at hl 0 rfl) ?_
    refine lv_iload_n hx hb dJ7_fill_53178_12 rfl (lv_at hl 3 rfl) ?_
    refine q_iast hx hb S m_a e_a (vp_in_nI hlt hn) dJ7_fill_53178_13 (fun H locs S => ?_)
    obtain ⟨f1, ef1⟩ : ∃ z_, z_ = va_up fl a (.inl (g 0, n, .inl (upd k_a ((nI i) : Int32).toNatClampNeg z))) := ⟨_, rfl⟩
    have S : PS D g (va_A (va_pl L f) sz) s.heap s L f1 H locs := by rw [ef1]; exact S
    have e_a : f1 a = .inl (g 0, n, .inl (upd k_a ((nI i) : Int32).toNatClampNeg z)) := up_self ef1
    obtain ⟨i1, ei1⟩ : ∃ y : Int32, y = (nI i) + (1) := ⟨_, rfl⟩
    refine lv_iinc (v := i1) (lv' := [(2, .int i1), (3, .int ((nI n))), (0, .ref a), (1, .int z)]) hx hb dJ7_fill_53178_14 hl (k := 0) rfl (by rw [ei1]; rfl) (by decide) rfl (fun ls hl => ?_)
    refine lv_goto (tgt := 5) hx hb dJ7_fill_53178_17 (by decide) ?_
    exact ih (i := (i + 1)) (k_a := (upd k_a ((nI i) : Int32).toNatClampNeg z)) (fl := f1) (e_a := e_a) (H := _) (locs := _) (S := S) (ls := ls) (hd := by omega) (hF := by rw [ef1, hF, bx_uu]) (hl := by have q := lv_sub hl [0, 1, 2, 3] rfl; rw [ei1, nI_1] at q; exact q)

set_option maxHeartbeats 4000000 in
set_option maxRecDepth 100000 in
/-- Arrays.fill -/
theorem c_J7_fill_d0a16 (l : Launch) (D : va_G) (g : Nat → ClassId) {L : List Nat} {f : Nat → va_E} {a n : Nat} {v : Nat → Int64} {z : Int64} (m_a : a ∈ L) (e_a : f a = .inl (g 1, n, .inr (.inl v))) (hn : n < 2 ^ 31) : cV l yJ7_fill_d0a16 wsJ7_fill_d0a16 { frames := 0, cells := 0, slots := 0, locals := 0 } D g [.ref a, .long z] L f 0 0 (fun L1 f1 => L1 = L ∧ ∃ v1 : Nat → Int64, f1 = va_up f a (.inl (g 1, n, .inr (.inl v1)))) := by
  refine cV_of (cc := cJ7_fill_d0a16) (maxL := 5) (ret := none) (by decide) rfl (Nat.le_of_ble_eq_true rfl) ?_
  intro sz p e s m below meth c hx hb hr hml hts hown hlk hnm S ls hl
  have hl : lv_has ls 5 [(0, .ref a), (1, .long z)] := hl
  have e_a0 := e_a
  refine lv_iconst (v := 0) hx hb dJ7_fill_d0a16_0 (by decide) ?_
  refine lv_istore_n (lv' := [(3, .int 0), (0, .ref a), (1, .long z)]) hx hb dJ7_fill_d0a16_1 rfl hl (by decide) rfl (fun ls hl => ?_)
  refine lv_aload_n hx hb dJ7_fill_d0a16_2 rfl (lv_at hl 1 rfl) ?_
  refine q_alen hx hb S m_a 1 rfl e_a (v := (nI n)) rfl dJ7_fill_d0a16_3 ?_
  refine lv_istore (lv' := [(4, .int ((nI n))), (3, .int 0), (0, .ref a), (1, .long z)]) hx hb dJ7_fill_d0a16_4 hl (by decide) rfl (fun ls hl => ?_)
  obtain ⟨i, ei⟩ : ∃ z_ : Nat, z_ = 0 := ⟨_, rfl⟩
  obtain ⟨k_a, ek_a⟩ : ∃ z_ : Nat → Int64, z_ = v := ⟨_, rfl⟩
  obtain ⟨fl, efl⟩ : ∃ z_, z_ = f := ⟨_, rfl⟩
  have e_a : fl a = .inl (g 1, n, .inr (.inl k_a)) := by rw [efl, ek_a]; exact e_a
  have S_0 : PS D g (va_A (va_pl L f) sz) s.heap s L fl s.heap [] := by rw [efl]; exact S
  refine W_any (X := fun H locs => PS D g (va_A (va_pl L f) sz) s.heap s L fl H locs) S_0 (fun H locs S => ?_)
  refine W_ls (lv := [(3, .int ((nI i))), (4, .int ((nI n))), (0, .ref a), (1, .long z)]) (by have q := lv_sub hl [1, 0, 2, 3] rfl; rw [ei]; exact q) (fun ls hl => ?_)
  have hF : fl = va_up f a (.inl (g 1, n, .inr (.inl k_a))) := by rw [efl, ek_a]; exact (va_up_id e_a0).symm
  obtain ⟨d, hd⟩ : ∃ z_ : Nat, i + z_ = n := ⟨n - i, by omega⟩
  clear ei ek_a efl S_0
  induction d generalizing i k_a fl H locs ls with
  | zero =>
    have hN : i = n := by omega
    refine lv_iload_n hx hb dJ7_fill_d0a16_6 rfl (lv_at hl 0 rfl) ?_
    refine lv_iload hx hb dJ7_fill_d0a16_7 (lv_at hl 1 rfl) ?_
    refine lv_icmp_ge (tgt := 22) hx hb dJ7_fill_d0a16_9 (by decide) (fun b9 => ?_) (fun b9 => absurd (by rw [hN]; exact Int32.le_refl _) b9)
    exact q_retv (post := fun L1 f1 => L1 = L ∧ ∃ v1 : Nat → Int64, f1 = va_up f a (.inl (g 1, n, .inr (.inl v1)))) hx hb hr hlk S dJ7_fill_d0a16_22 (by decide) (by decide) (⟨rfl, k_a, hF⟩)
  | succ d ih =>
    have hlt : i < n := by omega
    refine lv_iload_n hx hb dJ7_fill_d0a16_6 rfl (lv_at hl 0 rfl) ?_
    refine lv_iload hx hb dJ7_fill_d0a16_7 (lv_at hl 1 rfl) ?_
    refine lv_icmp_ge (tgt := 22) hx hb dJ7_fill_d0a16_9 (by decide) (fun b9 => absurd b9 (nI_ge hlt hn)) (fun b9 => ?_)
    refine lv_aload_n hx hb dJ7_fill_d0a16_12 rfl (lv_at hl 2 rfl) ?_
    refine lv_iload_n hx hb dJ7_fill_d0a16_13 rfl (lv_at hl 0 rfl) ?_
    refine lv_lload_n hx hb dJ7_fill_d0a16_14 rfl (lv_at hl 3 rfl) ?_
    refine q_last hx hb S m_a e_a (vp_in_nI hlt hn) dJ7_fill_d0a16_15 (fun H locs S => ?_)
    obtain ⟨f1, ef1⟩ : ∃ z_, z_ = va_up fl a (.inl (g 1, n, .inr (.inl (vp_updL k_a ((nI i) : Int32).toNatClampNeg z)))) := ⟨_, rfl⟩
    have S : PS D g (va_A (va_pl L f) sz) s.heap s L f1 H locs := by rw [ef1]; exact S
    have e_a : f1 a = .inl (g 1, n, .inr (.inl (vp_updL k_a ((nI i) : Int32).toNatClampNeg z))) := up_self ef1
    obtain ⟨i1, ei1⟩ : ∃ y : Int32, y = (nI i) + (1) := ⟨_, rfl⟩
    refine lv_iinc (v := i1) (lv' := [(3, .int i1), (4, .int ((nI n))), (0, .ref a), (1, .long z)]) hx hb dJ7_fill_d0a16_16 hl (k := 0) rfl (by rw [ei1]; rfl) (by decide) rfl (fun ls hl => ?_)
    refine lv_goto (tgt := 6) hx hb dJ7_fill_d0a16_19 (by decide) ?_
    exact ih (i := (i + 1)) (k_a := (vp_updL k_a ((nI i) : Int32).toNatClampNeg z)) (fl := f1) (e_a := e_a) (H := _) (locs := _) (S := S) (ls := ls) (hd := by omega) (hF := by rw [ef1, hF, bx_uu]) (hl := by have q := lv_sub hl [0, 1, 2, 3] rfl; rw [ei1, nI_1] at q; exact q)
