theorem law_ev {s : State} {args : Array Value} (hts0 : ∀ w ∈ lw_tbl, w.before args s = true) : ∃ (D : va_G) (g : Nat → ClassId), EV D g s := by
  obtain ⟨c0, i0, hK0⟩ := u_known (C := RX0) (T := TX0) (N := 2) (n := 2) hts0 inX0 (hts0 (.instantiable RX0 2) (by decide +kernel))
  obtain ⟨c1, i1, hK1⟩ := u_known (C := RX1) (T := TX1) (N := 2) (n := 2) hts0 inX1 (hts0 (.instantiable RX1 2) (by decide +kernel))
  obtain ⟨c2, i2, hK2⟩ := u_known (C := RX2) (T := TX2) (N := 5) (n := 5) hts0 inX2 (hts0 (.instantiable RX2 5) (by decide +kernel))
  obtain ⟨c3, i3, hK3⟩ := u_known (C := RX3) (T := TX3) (N := 5) (n := 5) hts0 inX3 (hts0 (.instantiable RX3 5) (by decide +kernel))
  obtain ⟨c4, i4, hK4⟩ := u_known (C := RX6) (T := TX6) (N := 7) (n := 7) hts0 inX6 (hts0 (.instantiable RX6 7) (by decide +kernel))
  obtain ⟨c5, i5, hK5⟩ := u_known (C := RX7) (T := TX7) (N := 9) (n := 9) hts0 inX7 (hts0 (.instantiable RX7 9) (by decide +kernel))
  obtain ⟨c6, i6, hK6⟩ := u_known (C := RX8) (T := TX8) (N := 8) (n := 8) hts0 inX8 (hts0 (.instantiable RX8 8) (by decide +kernel))
  obtain ⟨c7, i7, hK7⟩ := u_known (C := RX9) (T := TX9) (N := 23) (n := 23) hts0 inX9 (hts0 (.instantiable RX9 23) (by decide +kernel))
  obtain ⟨a0, k0, p0, f0, g0, h0⟩ := Cond.arrayClass_spec (hts0 (.arrayClass .int) (by decide +kernel))
  obtain ⟨a1, k1, p1, f1, g1, h1⟩ := Cond.arrayClass_spec (hts0 (.arrayClass .long) (by decide +kernel))
  obtain ⟨a2, k2, p2, f2, g2, h2⟩ := Cond.arrayClass_spec (hts0 (.arrayClass .boolean) (by decide +kernel))
  obtain ⟨p3, a3, k3, q3, -, g3, h3, f3⟩ := Cond.arrayOver_spec (hts0 (.arrayOver (.object "SieveCabinet$Bag")) (by decide +kernel))
  obtain ⟨p4, a4, k4, q4, -, g4, h4, f4⟩ := Cond.arrayOver_spec (hts0 (.arrayOver (.object "SieveCabinet$BitRow")) (by decide +kernel))
  obtain ⟨p5, a5, k5, q5, -, g5, h5, f5⟩ := Cond.arrayOver_spec (hts0 (.arrayOver (.object "SieveCabinet$Sieve")) (by decide +kernel))
  refine ⟨(fun k => if k = 0 then c0 else if k = 1 then c1 else if k = 2 then c2 else if k = 3 then c3 else if k = 4 then c4 else if k = 5 then c5 else if k = 6 then c6 else c7, fun k => if k = 0 then i0 else if k = 1 then i1 else if k = 2 then i2 else if k = 3 then i3 else if k = 4 then i4 else if k = 5 then i5 else if k = 6 then i6 else i7), fun k => if k = 0 then a0 else if k = 1 then a1 else if k = 2 then a2 else if k = 3 then a3 else if k = 4 then a4 else a5, ⟨?_, ?_⟩, ?_, ?_, ?_⟩
  · intro k q hq
    match k, hq with
    | 0, hq => cases hq; exact hK0
    | 1, hq => cases hq; exact hK1
    | 2, hq => cases hq; exact hK2
    | 3, hq => cases hq; exact hK3
    | 4, hq => cases hq; exact hK4
    | 5, hq => cases hq; exact hK5
    | 6, hq => cases hq; exact hK6
    | 7, hq => cases hq; exact hK7
    | k + 8, hq => simp [vwCl] at hq
  · intro k q hq
    match k, hq with
    | 0, hq => cases hq; exact ⟨fun n z => ⟨fun k h => (by cases h), k0, g0, p0, h0⟩, f0⟩
    | 1, hq => cases hq; exact ⟨fun n z => ⟨fun k h => (by cases h), k1, g1, p1, h1⟩, f1⟩
    | 2, hq => cases hq; exact ⟨fun n z => ⟨fun k h => (by cases h), k2, g2, p2, h2⟩, f2⟩
    | 3, hq => cases hq; exact ⟨fun n z => ⟨fun k h => (by cases h), k3, g3, p3, h3⟩, k3, p3, g3, h3, q3, f3⟩
    | 4, hq => cases hq; exact ⟨fun n z => ⟨fun k h => (by cases h), k4, g4, p4, h4⟩, k4, p4, g4, h4, q4, f4⟩
    | 5, hq => cases hq; exact ⟨fun n z => ⟨fun k h => (by cases h), k5, g5, p5, h5⟩, k5, p5, g5, h5, q5, f5⟩
    | k + 6, hq => simp [tyL] at hq
  · intro q hq
    have hm : ∀ q ∈ nkMs, nkM q ∈ lw_tbl := by decide +kernel
    exact va_Nw.of rfl (hts0 _ (hm q hq))
  · intro q hq
    have hm : ∀ q ∈ nkFs, nkF q ∈ lw_tbl := by decide +kernel
    exact va_Nw.of rfl (hts0 _ (hm q hq))
  · intro C hC
    have hm : ∀ C ∈ nkOs, Cond.arrayOver (.object C) ∈ lw_tbl := by decide +kernel
    exact va_AO.of (hts0 _ (hm C hC))
set_option maxHeartbeats 4000000 in
set_option maxRecDepth 100000 in
theorem law_go {p : Program} {e : Env} {s : State} {m : MethodId} {below : List Frame} {meth : Method} {c : Code} (l : Launch) {bs Ls : Nat} {xs : Nat → Int32} (hL : Ls ≤ 3072) (C0 : lw_At p s m meth c bs Ls xs) : W p l e room_1 s m #[Value.ref bs] below meth c s.heap [] 0 0 (lw_Z below #[Value.ref bs] s) (entryFrame m ([Value.ref bs] : List Value).toArray 4) := by
  obtain ⟨hx, hb, hr, hml, hown, hts0, hX, hbl, hlk, hgv⟩ := C0
  have hts : ∀ w ∈ wsL_law, w.before #[Value.ref bs] s = true := fun w h => hts0 w (wsL_law_in w h)
  obtain ⟨D, g, hEV⟩ := law_ev hts0
  obtain ⟨f0, -⟩ : ∃ z_ : Nat → va_E, z_ = z_ := ⟨fun _ => .inr (0, []), rfl⟩
  have S : PS D g (fun q : Nat => s.heap.size ≤ q) s.heap s [] f0 s.heap [] := ⟨hEV, fun k q h => by simp [va_pl] at h, ⟨fun i j p q h => by simp [va_pl] at h, fun k q h => by simp [va_pl] at h⟩, va_S.rf, fun _ h => h⟩
  have hl := lv_entry ([.ref bs]) (n := 4) (Nat.le_of_ble_eq_true rfl)
  rw [lg_entry_eq]
  generalize (lg_sl ([.ref bs]) ++ List.replicate (4 - (lg_sl ([.ref bs])).length) Slot.unset).toArray = ls at hl ⊢
  have hl : lv_has ls 4 [(0, .ref bs)] := hl
  have in_X8 : ∀ w ∈ wsX80, w ∈ wsL_law := inlX8
  have in_X9 : ∀ w ∈ wsX90, w ∈ wsL_law := inlX9
  refine q_new (fs := [.null, .null, .null, .null, .null, .null, .null, .int 0]) (C := RX8) (T := TX8) (N := 8) (ci := 6) hx hb hts in_X8 tyX8 tyX8_ok hown (hts (.classLink RL 7 RX8) (by decide +kernel)) (hts (.instantiable RX8 8) (by decide +kernel)) (hts (.initialized RX8) (by decide +kernel)) S rfl (fun j hj => by rcases (show j = 0 ∨ j = 1 ∨ j = 2 ∨ j = 3 ∨ j = 4 ∨ j = 5 ∨ j = 6 ∨ j = 7 by omega) with rfl | rfl | rfl | rfl | rfl | rfl | rfl | rfl <;> rfl) (Nat.le_of_ble_eq_true rfl) (Nat.le_of_ble_eq_true rfl) dL_law_0 (fun q0 H nq0 S => ?_)
  refine W.widen (k := 1) (n := 8) (by decide) (by decide) ?_
  obtain ⟨f1, ef1⟩ : ∃ z_, z_ = va_up f0 q0 (.inr (6, [.null, .null, .null, .null, .null, .null, .null, .int 0])) := ⟨_, rfl⟩
  obtain ⟨L2, eL2⟩ : ∃ z_, z_ = [] ++ [q0] := ⟨_, rfl⟩
  have S : PS D g (fun q : Nat => s.heap.size ≤ q) s.heap s L2 f1 H [] := by rw [ef1, eL2]; exact S
  have e_q0 : f1 q0 = .inr (6, [.null, .null, .null, .null, .null, .null, .null, .int 0]) := up_self ef1
  have m_q0 : q0 ∈ L2 := by rw [eL2]; simp
  refine lv_dup hx hb dL_law_3 rfl ?_
  refine q_iv (As := []) (rest := [.ref q0]) ⟨hx, hb, hml, hown, hts⟩ (c_X8_initF l D g m_q0 e_q0) (cwI 0 hts gL_law_X8_init rfl rfl rfl (hts (.initialized RX8) (by decide +kernel)) (hts (.methodLink RL 9 yX8_init) (by decide +kernel)) (hts (.instanceMethod yX8_init) (by decide +kernel)) rfl (by decide +kernel) ⟨Nat.le_of_ble_eq_true rfl, Nat.le_of_ble_eq_true rfl⟩) S rfl hl.1 rfl (Nat.le_of_ble_eq_true rfl) dL_law_4 ⟨Nat.le_of_ble_eq_true rfl, Nat.le_of_ble_eq_true rfl⟩ (fun L3 f4 H locs S w4 => ?_)
  refine W.widen (k := 39) (n := 26762) (by decide) (by decide) ?_
  obtain ⟨q16_8, q23_8, q827_8, q34_8, q838_8, q45_8, q849_8, q56_8, q860_8, q1760_8, q2660_8, q3560_8, q4160_8, q74560_8, q5560_8, q6460_8, q67_8, q871_8, q1771_8, q2371_8, q72771_8, q7_8, kf_8, mo4, fv4, ⟨nq16_8, m_q16_8, e_q16_8⟩, ⟨nq23_8, m_q23_8, e_q23_8⟩, ⟨nq827_8, m_q827_8, e_q827_8⟩, ⟨nq34_8, m_q34_8, e_q34_8⟩, ⟨nq838_8, m_q838_8, e_q838_8⟩, ⟨nq45_8, m_q45_8, e_q45_8⟩, ⟨nq849_8, m_q849_8, e_q849_8⟩, ⟨nq56_8, m_q56_8, e_q56_8⟩, ⟨nq860_8, m_q860_8, e_q860_8⟩, ⟨nq1760_8, m_q1760_8, e_q1760_8⟩, ⟨nq2660_8, m_q2660_8, e_q2660_8⟩, ⟨nq3560_8, m_q3560_8, e_q3560_8⟩, ⟨nq4160_8, m_q4160_8, e_q4160_8⟩, ⟨nq74560_8, m_q74560_8, e_q74560_8⟩, ⟨nq5560_8, m_q5560_8, e_q5560_8⟩, ⟨nq6460_8, m_q6460_8, e_q6460_8⟩, ⟨nq67_8, m_q67_8, e_q67_8⟩, ⟨nq871_8, m_q871_8, e_q871_8⟩, ⟨nq1771_8, m_q1771_8, e_q1771_8⟩, ⟨nq2371_8, m_q2371_8, e_q2371_8⟩, ⟨nq72771_8, m_q72771_8, e_q72771_8⟩, ⟨nq7_8, m_q7_8, e_q7_8⟩, E_q0, ⟨hne8, h608, h718, LP8, lb8, lw8, hLP8, hW8, hWW8⟩⟩ := w4
  have nq16_8_q0 : q0 ≠ q16_8 := fun h => nq16_8 (h ▸ m_q0)
  have nq23_8_q0 : q0 ≠ q23_8 := fun h => nq23_8 (h ▸ m_q0)
  have nq827_8_q0 : q0 ≠ q827_8 := fun h => nq827_8 (h ▸ m_q0)
  have nq34_8_q0 : q0 ≠ q34_8 := fun h => nq34_8 (h ▸ m_q0)
  have nq838_8_q0 : q0 ≠ q838_8 := fun h => nq838_8 (h ▸ m_q0)
  have nq45_8_q0 : q0 ≠ q45_8 := fun h => nq45_8 (h ▸ m_q0)
  have nq849_8_q0 : q0 ≠ q849_8 := fun h => nq849_8 (h ▸ m_q0)
  have nq56_8_q0 : q0 ≠ q56_8 := fun h => nq56_8 (h ▸ m_q0)
  have nq860_8_q0 : q0 ≠ q860_8 := fun h => nq860_8 (h ▸ m_q0)
  have nq1760_8_q0 : q0 ≠ q1760_8 := fun h => nq1760_8 (h ▸ m_q0)
  have nq2660_8_q0 : q0 ≠ q2660_8 := fun h => nq2660_8 (h ▸ m_q0)
  have nq3560_8_q0 : q0 ≠ q3560_8 := fun h => nq3560_8 (h ▸ m_q0)
  have nq4160_8_q0 : q0 ≠ q4160_8 := fun h => nq4160_8 (h ▸ m_q0)
  have nq74560_8_q0 : q0 ≠ q74560_8 := fun h => nq74560_8 (h ▸ m_q0)
  have nq5560_8_q0 : q0 ≠ q5560_8 := fun h => nq5560_8 (h ▸ m_q0)
  have nq6460_8_q0 : q0 ≠ q6460_8 := fun h => nq6460_8 (h ▸ m_q0)
  have nq67_8_q0 : q0 ≠ q67_8 := fun h => nq67_8 (h ▸ m_q0)
  have nq871_8_q0 : q0 ≠ q871_8 := fun h => nq871_8 (h ▸ m_q0)
  have nq1771_8_q0 : q0 ≠ q1771_8 := fun h => nq1771_8 (h ▸ m_q0)
  have nq2371_8_q0 : q0 ≠ q2371_8 := fun h => nq2371_8 (h ▸ m_q0)
  have nq72771_8_q0 : q0 ≠ q72771_8 := fun h => nq72771_8 (h ▸ m_q0)
  have nq7_8_q0 : q0 ≠ q7_8 := fun h => nq7_8 (h ▸ m_q0)
  have m_q0 : q0 ∈ L3 := mo4 q0 m_q0
  have e_q0 := E_q0
  have hLx0 : ∀ b, b ∈ L3 → b ∈ L3 := fun _ h => h
  have lx_q0 := m_q0
  have lx_q16_8 := m_q16_8
  have lx_q23_8 := m_q23_8
  have lx_q827_8 := m_q827_8
  have lx_q34_8 := m_q34_8
  have lx_q838_8 := m_q838_8
  have lx_q45_8 := m_q45_8
  have lx_q849_8 := m_q849_8
  have lx_q56_8 := m_q56_8
  have lx_q860_8 := m_q860_8
  have lx_q1760_8 := m_q1760_8
  have lx_q2660_8 := m_q2660_8
  have lx_q3560_8 := m_q3560_8
  have lx_q4160_8 := m_q4160_8
  have lx_q74560_8 := m_q74560_8
  have lx_q5560_8 := m_q5560_8
  have lx_q6460_8 := m_q6460_8
  have lx_q67_8 := m_q67_8
  have lx_q871_8 := m_q871_8
  have lx_q1771_8 := m_q1771_8
  have lx_q2371_8 := m_q2371_8
  have lx_q72771_8 := m_q72771_8
  have lx_q7_8 := m_q7_8
  have frX : ∀ b, b ∈ L3 → f4 b = f4 b := fun _ _  => rfl
  have monoX : ∀ b, b ∈ L3 → b ∈ L3 := fun _ h => h
  refine lv_astore_n (lv' := [(1, .ref q0), (0, .ref bs)]) hx hb dL_law_7 rfl hl (by decide) rfl (fun ls hl => ?_)
  refine q_new (fs := [.null, .null, .null, .null, .null, .null, .null, .null, .null, .null, .null, .null, .null, .null, .int 0, .null, .null, .null, .null, .null, .null, .null, .null]) (C := RX9) (T := TX9) (N := 23) (ci := 7) hx hb hts in_X9 tyX9 tyX9_ok hown (hts (.classLink RL 10 RX9) (by decide +kernel)) (hts (.instantiable RX9 23) (by decide +kernel)) (hts (.initialized RX9) (by decide +kernel)) S rfl (fun j hj => by rcases (show j = 0 ∨ j = 1 ∨ j = 2 ∨ j = 3 ∨ j = 4 ∨ j = 5 ∨ j = 6 ∨ j = 7 ∨ j = 8 ∨ j = 9 ∨ j = 10 ∨ j = 11 ∨ j = 12 ∨ j = 13 ∨ j = 14 ∨ j = 15 ∨ j = 16 ∨ j = 17 ∨ j = 18 ∨ j = 19 ∨ j = 20 ∨ j = 21 ∨ j = 22 by omega) with rfl | rfl | rfl | rfl | rfl | rfl | rfl | rfl | rfl | rfl | rfl | rfl | rfl | rfl | rfl | rfl | rfl | rfl | rfl | rfl | rfl | rfl | rfl <;> rfl) (Nat.le_of_ble_eq_true rfl) (Nat.le_of_ble_eq_true rfl) dL_law_8 (fun q8 H nq8 S => ?_)
  refine W.widen (k := 40) (n := 26785) (by decide) (by decide) ?_
  obtain ⟨f6, ef6⟩ : ∃ z_, z_ = va_up f4 q8 (.inr (7, [.null, .null, .null, .null, .null, .null, .null, .null, .null, .null, .null, .null, .null, .null, .int 0, .null, .null, .null, .null, .null, .null, .null, .null])) := ⟨_, rfl⟩
  obtain ⟨L7, eL7⟩ : ∃ z_, z_ = L3 ++ [q8] := ⟨_, rfl⟩
  have S : PS D g (fun q : Nat => s.heap.size ≤ q) s.heap s L7 f6 H locs := by rw [ef6, eL7]; exact S
  have e_q0 : f6 q0 = .inr (6, [.ref q7_8, .ref q16_8, .ref q23_8, .ref q34_8, .ref q45_8, .ref q56_8, .ref q67_8, .int 0]) := up_ne ef6 (fun h => nq8 (h ▸ m_q0)) e_q0
  have nq8_q0 : q0 ≠ q8 := fun h => nq8 (h ▸ m_q0)
  have m_q0 : q0 ∈ L7 := by rw [eL7]; exact List.mem_append_left _ m_q0
  have e_q16_8 : f6 q16_8 = .inl (g 5, 30, .inr (.inr (.inr (.inr (fun _ => none))))) := up_ne ef6 (fun h => nq8 (h ▸ m_q16_8)) e_q16_8
  have nq8_q16_8 : q16_8 ≠ q8 := fun h => nq8 (h ▸ m_q16_8)
  have m_q16_8 : q16_8 ∈ L7 := by rw [eL7]; exact List.mem_append_left _ m_q16_8
  have e_q23_8 : f6 q23_8 = .inr (0, [.ref q827_8, .int 0]) := up_ne ef6 (fun h => nq8 (h ▸ m_q23_8)) e_q23_8
  have nq8_q23_8 : q23_8 ≠ q8 := fun h => nq8 (h ▸ m_q23_8)
  have m_q23_8 : q23_8 ∈ L7 := by rw [eL7]; exact List.mem_append_left _ m_q23_8
  have e_q827_8 : f6 q827_8 = .inl (g 1, 1000, .inr (.inl (fun _ => 0))) := up_ne ef6 (fun h => nq8 (h ▸ m_q827_8)) e_q827_8
  have nq8_q827_8 : q827_8 ≠ q8 := fun h => nq8 (h ▸ m_q827_8)
  have m_q827_8 : q827_8 ∈ L7 := by rw [eL7]; exact List.mem_append_left _ m_q827_8
  have e_q34_8 : f6 q34_8 = .inr (0, [.ref q838_8, .int 0]) := up_ne ef6 (fun h => nq8 (h ▸ m_q34_8)) e_q34_8
  have nq8_q34_8 : q34_8 ≠ q8 := fun h => nq8 (h ▸ m_q34_8)
  have m_q34_8 : q34_8 ∈ L7 := by rw [eL7]; exact List.mem_append_left _ m_q34_8
  have e_q838_8 : f6 q838_8 = .inl (g 1, 1000, .inr (.inl (fun _ => 0))) := up_ne ef6 (fun h => nq8 (h ▸ m_q838_8)) e_q838_8
  have nq8_q838_8 : q838_8 ≠ q8 := fun h => nq8 (h ▸ m_q838_8)
  have m_q838_8 : q838_8 ∈ L7 := by rw [eL7]; exact List.mem_append_left _ m_q838_8
  have e_q45_8 : f6 q45_8 = .inr (0, [.ref q849_8, .int 0]) := up_ne ef6 (fun h => nq8 (h ▸ m_q45_8)) e_q45_8
  have nq8_q45_8 : q45_8 ≠ q8 := fun h => nq8 (h ▸ m_q45_8)
  have m_q45_8 : q45_8 ∈ L7 := by rw [eL7]; exact List.mem_append_left _ m_q45_8
  have e_q849_8 : f6 q849_8 = .inl (g 1, 1000, .inr (.inl (fun _ => 0))) := up_ne ef6 (fun h => nq8 (h ▸ m_q849_8)) e_q849_8
  have nq8_q849_8 : q849_8 ≠ q8 := fun h => nq8 (h ▸ m_q849_8)
  have m_q849_8 : q849_8 ∈ L7 := by rw [eL7]; exact List.mem_append_left _ m_q849_8
  have e_q56_8 : f6 q56_8 = .inr (5, [.ref q860_8, .ref q1760_8, .ref q2660_8, .ref q3560_8, .ref q4160_8, .ref q5560_8, .ref q6460_8, .int 0, .int 0]) := up_ne ef6 (fun h => nq8 (h ▸ m_q56_8)) e_q56_8
  have nq8_q56_8 : q56_8 ≠ q8 := fun h => nq8 (h ▸ m_q56_8)
  have m_q56_8 : q56_8 ∈ L7 := by rw [eL7]; exact List.mem_append_left _ m_q56_8
  have e_q860_8 : f6 q860_8 = .inl (g 0, 3000, .inl (fun _ => 0)) := up_ne ef6 (fun h => nq8 (h ▸ m_q860_8)) e_q860_8
  have nq8_q860_8 : q860_8 ≠ q8 := fun h => nq8 (h ▸ m_q860_8)
  have m_q860_8 : q860_8 ∈ L7 := by rw [eL7]; exact List.mem_append_left _ m_q860_8
  have e_q1760_8 : f6 q1760_8 = .inl (g 0, 1000, .inl (fun _ => 0)) := up_ne ef6 (fun h => nq8 (h ▸ m_q1760_8)) e_q1760_8
  have nq8_q1760_8 : q1760_8 ≠ q8 := fun h => nq8 (h ▸ m_q1760_8)
  have m_q1760_8 : q1760_8 ∈ L7 := by rw [eL7]; exact List.mem_append_left _ m_q1760_8
  have e_q2660_8 : f6 q2660_8 = .inl (g 0, 3774, .inl (fun _ => 0)) := up_ne ef6 (fun h => nq8 (h ▸ m_q2660_8)) e_q2660_8
  have nq8_q2660_8 : q2660_8 ≠ q8 := fun h => nq8 (h ▸ m_q2660_8)
  have m_q2660_8 : q2660_8 ∈ L7 := by rw [eL7]; exact List.mem_append_left _ m_q2660_8
  have e_q3560_8 : f6 q3560_8 = .inl (g 0, 3774, .inl (fun _ => 0)) := up_ne ef6 (fun h => nq8 (h ▸ m_q3560_8)) e_q3560_8
  have nq8_q3560_8 : q3560_8 ≠ q8 := fun h => nq8 (h ▸ m_q3560_8)
  have m_q3560_8 : q3560_8 ∈ L7 := by rw [eL7]; exact List.mem_append_left _ m_q3560_8
  have e_q4160_8 : f6 q4160_8 = .inr (1, [.ref q74560_8, .int 0]) := up_ne ef6 (fun h => nq8 (h ▸ m_q4160_8)) e_q4160_8
  have nq8_q4160_8 : q4160_8 ≠ q8 := fun h => nq8 (h ▸ m_q4160_8)
  have m_q4160_8 : q4160_8 ∈ L7 := by rw [eL7]; exact List.mem_append_left _ m_q4160_8
  have e_q74560_8 : f6 q74560_8 = .inl (g 1, 64, .inr (.inl (fun _ => 0))) := up_ne ef6 (fun h => nq8 (h ▸ m_q74560_8)) e_q74560_8
  have nq8_q74560_8 : q74560_8 ≠ q8 := fun h => nq8 (h ▸ m_q74560_8)
  have m_q74560_8 : q74560_8 ∈ L7 := by rw [eL7]; exact List.mem_append_left _ m_q74560_8
  have e_q5560_8 : f6 q5560_8 = .inl (g 0, 1000, .inl (fun _ => 0)) := up_ne ef6 (fun h => nq8 (h ▸ m_q5560_8)) e_q5560_8
  have nq8_q5560_8 : q5560_8 ≠ q8 := fun h => nq8 (h ▸ m_q5560_8)
  have m_q5560_8 : q5560_8 ∈ L7 := by rw [eL7]; exact List.mem_append_left _ m_q5560_8
  have e_q6460_8 : f6 q6460_8 = .inl (g 0, 1000, .inl (fun _ => 0)) := up_ne ef6 (fun h => nq8 (h ▸ m_q6460_8)) e_q6460_8
  have nq8_q6460_8 : q6460_8 ≠ q8 := fun h => nq8 (h ▸ m_q6460_8)
  have m_q6460_8 : q6460_8 ∈ L7 := by rw [eL7]; exact List.mem_append_left _ m_q6460_8
  have e_q67_8 : f6 q67_8 = .inr (2, [.ref q871_8, .ref q1771_8, .ref q2371_8, .int 0, .int 0]) := up_ne ef6 (fun h => nq8 (h ▸ m_q67_8)) e_q67_8
  have nq8_q67_8 : q67_8 ≠ q8 := fun h => nq8 (h ▸ m_q67_8)
  have m_q67_8 : q67_8 ∈ L7 := by rw [eL7]; exact List.mem_append_left _ m_q67_8
  have e_q871_8 : f6 q871_8 = .inl (g 1, 1000, .inr (.inl (fun _ => 0))) := up_ne ef6 (fun h => nq8 (h ▸ m_q871_8)) e_q871_8
  have nq8_q871_8 : q871_8 ≠ q8 := fun h => nq8 (h ▸ m_q871_8)
  have m_q871_8 : q871_8 ∈ L7 := by rw [eL7]; exact List.mem_append_left _ m_q871_8
  have e_q1771_8 : f6 q1771_8 = .inl (g 1, 1000, .inr (.inl (fun _ => 0))) := up_ne ef6 (fun h => nq8 (h ▸ m_q1771_8)) e_q1771_8
  have nq8_q1771_8 : q1771_8 ≠ q8 := fun h => nq8 (h ▸ m_q1771_8)
  have m_q1771_8 : q1771_8 ∈ L7 := by rw [eL7]; exact List.mem_append_left _ m_q1771_8
  have e_q2371_8 : f6 q2371_8 = .inr (1, [.ref q72771_8, .int 0]) := up_ne ef6 (fun h => nq8 (h ▸ m_q2371_8)) e_q2371_8
  have nq8_q2371_8 : q2371_8 ≠ q8 := fun h => nq8 (h ▸ m_q2371_8)
  have m_q2371_8 : q2371_8 ∈ L7 := by rw [eL7]; exact List.mem_append_left _ m_q2371_8
  have e_q72771_8 : f6 q72771_8 = .inl (g 1, 64, .inr (.inl (fun _ => 0))) := up_ne ef6 (fun h => nq8 (h ▸ m_q72771_8)) e_q72771_8
  have nq8_q72771_8 : q72771_8 ≠ q8 := fun h => nq8 (h ▸ m_q72771_8)
  have m_q72771_8 : q72771_8 ∈ L7 := by rw [eL7]; exact List.mem_append_left _ m_q72771_8
  have e_q7_8 : f6 q7_8 = .inl (g 3, 8, .inr (.inr (.inr (.inr kf_8)))) := up_ne ef6 (fun h => nq8 (h ▸ m_q7_8)) e_q7_8
  have nq8_q7_8 : q7_8 ≠ q8 := fun h => nq8 (h ▸ m_q7_8)
  have m_q7_8 : q7_8 ∈ L7 := by rw [eL7]; exact List.mem_append_left _ m_q7_8
  have e_q8 : f6 q8 = .inr (7, [.null, .null, .null, .null, .null, .null, .null, .null, .null, .null, .null, .null, .null, .null, .int 0, .null, .null, .null, .null, .null, .null, .null, .null]) := up_self ef6
  have m_q8 : q8 ∈ L7 := by rw [eL7]; simp
  have nzXq8 : q8 ∉ L3 := fun h => nq8 (monoX _ h)
  have frX : ∀ b, b ∈ L3 → f6 b = f4 b := fun b mb  => (up_ne ef6 (fun h => nzXq8 (h ▸ mb)) rfl).trans (frX b mb )
  have monoX : ∀ b, b ∈ L3 → b ∈ L7 := fun b h => by rw [eL7]; exact List.mem_append_left _ (monoX b h)
  refine lv_dup hx hb dL_law_11 rfl ?_
  refine q_iv (As := []) (rest := [.ref q8]) ⟨hx, hb, hml, hown, hts⟩ (c_X9_init l D g m_q8 e_q8) (cwI 0 hts gL_law_X9_init rfl rfl rfl (hts (.initialized RX9) (by decide +kernel)) (hts (.methodLink RL 12 yX9_init) (by decide +kernel)) (hts (.instanceMethod yX9_init) (by decide +kernel)) rfl (by decide +kernel) ⟨Nat.le_of_ble_eq_true rfl, Nat.le_of_ble_eq_true rfl⟩) S rfl hl.1 rfl (Nat.le_of_ble_eq_true rfl) dL_law_12 ⟨Nat.le_of_ble_eq_true rfl, Nat.le_of_ble_eq_true rfl⟩ (fun L8 f9 H locs S w12 => ?_)
  refine W.widen (k := 62) (n := 310045) (by decide) (by decide) ?_
  obtain ⟨q8_9, q16_9, q24_9, q32_9, q40_9, q48_9, q57_9, q65_9, q73_9, q81_9, q90_9, q99_9, q108_9, q116_9, q125_9, q134_9, q143_9, q152_9, q161_9, q170_9, q179_9, q188_9, mo12, fv12, ⟨nq8_9, m_q8_9, e_q8_9⟩, ⟨nq16_9, m_q16_9, e_q16_9⟩, ⟨nq24_9, m_q24_9, e_q24_9⟩, ⟨nq32_9, m_q32_9, e_q32_9⟩, ⟨nq40_9, m_q40_9, e_q40_9⟩, ⟨nq48_9, m_q48_9, e_q48_9⟩, ⟨nq57_9, m_q57_9, e_q57_9⟩, ⟨nq65_9, m_q65_9, e_q65_9⟩, ⟨nq73_9, m_q73_9, e_q73_9⟩, ⟨nq81_9, m_q81_9, e_q81_9⟩, ⟨nq90_9, m_q90_9, e_q90_9⟩, ⟨nq99_9, m_q99_9, e_q99_9⟩, ⟨nq108_9, m_q108_9, e_q108_9⟩, ⟨nq116_9, m_q116_9, e_q116_9⟩, ⟨nq125_9, m_q125_9, e_q125_9⟩, ⟨nq134_9, m_q134_9, e_q134_9⟩, ⟨nq143_9, m_q143_9, e_q143_9⟩, ⟨nq152_9, m_q152_9, e_q152_9⟩, ⟨nq161_9, m_q161_9, e_q161_9⟩, ⟨nq170_9, m_q170_9, e_q170_9⟩, ⟨nq179_9, m_q179_9, e_q179_9⟩, ⟨nq188_9, m_q188_9, e_q188_9⟩, E_q8, hnd9⟩ := w12
  have e_q0 : f9 q0 = .inr (6, [.ref q7_8, .ref q16_8, .ref q23_8, .ref q34_8, .ref q45_8, .ref q56_8, .ref q67_8, .int 0]) := (fv12 q0 m_q0 (fun h => nq8_q0 h)).trans e_q0
  have e_q16_8 : f9 q16_8 = .inl (g 5, 30, .inr (.inr (.inr (.inr (fun _ => none))))) := (fv12 q16_8 m_q16_8 (fun h => nq8_q16_8 h)).trans e_q16_8
  have e_q23_8 : f9 q23_8 = .inr (0, [.ref q827_8, .int 0]) := (fv12 q23_8 m_q23_8 (fun h => nq8_q23_8 h)).trans e_q23_8
  have e_q827_8 : f9 q827_8 = .inl (g 1, 1000, .inr (.inl (fun _ => 0))) := (fv12 q827_8 m_q827_8 (fun h => nq8_q827_8 h)).trans e_q827_8
  have e_q34_8 : f9 q34_8 = .inr (0, [.ref q838_8, .int 0]) := (fv12 q34_8 m_q34_8 (fun h => nq8_q34_8 h)).trans e_q34_8
  have e_q838_8 : f9 q838_8 = .inl (g 1, 1000, .inr (.inl (fun _ => 0))) := (fv12 q838_8 m_q838_8 (fun h => nq8_q838_8 h)).trans e_q838_8
  have e_q45_8 : f9 q45_8 = .inr (0, [.ref q849_8, .int 0]) := (fv12 q45_8 m_q45_8 (fun h => nq8_q45_8 h)).trans e_q45_8
  have e_q849_8 : f9 q849_8 = .inl (g 1, 1000, .inr (.inl (fun _ => 0))) := (fv12 q849_8 m_q849_8 (fun h => nq8_q849_8 h)).trans e_q849_8
  have e_q56_8 : f9 q56_8 = .inr (5, [.ref q860_8, .ref q1760_8, .ref q2660_8, .ref q3560_8, .ref q4160_8, .ref q5560_8, .ref q6460_8, .int 0, .int 0]) := (fv12 q56_8 m_q56_8 (fun h => nq8_q56_8 h)).trans e_q56_8
  have e_q860_8 : f9 q860_8 = .inl (g 0, 3000, .inl (fun _ => 0)) := (fv12 q860_8 m_q860_8 (fun h => nq8_q860_8 h)).trans e_q860_8
  have e_q1760_8 : f9 q1760_8 = .inl (g 0, 1000, .inl (fun _ => 0)) := (fv12 q1760_8 m_q1760_8 (fun h => nq8_q1760_8 h)).trans e_q1760_8
  have e_q2660_8 : f9 q2660_8 = .inl (g 0, 3774, .inl (fun _ => 0)) := (fv12 q2660_8 m_q2660_8 (fun h => nq8_q2660_8 h)).trans e_q2660_8
  have e_q3560_8 : f9 q3560_8 = .inl (g 0, 3774, .inl (fun _ => 0)) := (fv12 q3560_8 m_q3560_8 (fun h => nq8_q3560_8 h)).trans e_q3560_8
  have e_q4160_8 : f9 q4160_8 = .inr (1, [.ref q74560_8, .int 0]) := (fv12 q4160_8 m_q4160_8 (fun h => nq8_q4160_8 h)).trans e_q4160_8
  have e_q74560_8 : f9 q74560_8 = .inl (g 1, 64, .inr (.inl (fun _ => 0))) := (fv12 q74560_8 m_q74560_8 (fun h => nq8_q74560_8 h)).trans e_q74560_8
  have e_q5560_8 : f9 q5560_8 = .inl (g 0, 1000, .inl (fun _ => 0)) := (fv12 q5560_8 m_q5560_8 (fun h => nq8_q5560_8 h)).trans e_q5560_8
  have e_q6460_8 : f9 q6460_8 = .inl (g 0, 1000, .inl (fun _ => 0)) := (fv12 q6460_8 m_q6460_8 (fun h => nq8_q6460_8 h)).trans e_q6460_8
  have e_q67_8 : f9 q67_8 = .inr (2, [.ref q871_8, .ref q1771_8, .ref q2371_8, .int 0, .int 0]) := (fv12 q67_8 m_q67_8 (fun h => nq8_q67_8 h)).trans e_q67_8
  have e_q871_8 : f9 q871_8 = .inl (g 1, 1000, .inr (.inl (fun _ => 0))) := (fv12 q871_8 m_q871_8 (fun h => nq8_q871_8 h)).trans e_q871_8
  have e_q1771_8 : f9 q1771_8 = .inl (g 1, 1000, .inr (.inl (fun _ => 0))) := (fv12 q1771_8 m_q1771_8 (fun h => nq8_q1771_8 h)).trans e_q1771_8
  have e_q2371_8 : f9 q2371_8 = .inr (1, [.ref q72771_8, .int 0]) := (fv12 q2371_8 m_q2371_8 (fun h => nq8_q2371_8 h)).trans e_q2371_8
  have e_q72771_8 : f9 q72771_8 = .inl (g 1, 64, .inr (.inl (fun _ => 0))) := (fv12 q72771_8 m_q72771_8 (fun h => nq8_q72771_8 h)).trans e_q72771_8
  have e_q7_8 : f9 q7_8 = .inl (g 3, 8, .inr (.inr (.inr (.inr kf_8)))) := (fv12 q7_8 m_q7_8 (fun h => nq8_q7_8 h)).trans e_q7_8
  have nq8_9_q0 : q0 ≠ q8_9 := fun h => nq8_9 (h ▸ m_q0)
  have nq16_9_q0 : q0 ≠ q16_9 := fun h => nq16_9 (h ▸ m_q0)
  have nq24_9_q0 : q0 ≠ q24_9 := fun h => nq24_9 (h ▸ m_q0)
  have nq32_9_q0 : q0 ≠ q32_9 := fun h => nq32_9 (h ▸ m_q0)
  have nq40_9_q0 : q0 ≠ q40_9 := fun h => nq40_9 (h ▸ m_q0)
  have nq48_9_q0 : q0 ≠ q48_9 := fun h => nq48_9 (h ▸ m_q0)
  have nq57_9_q0 : q0 ≠ q57_9 := fun h => nq57_9 (h ▸ m_q0)
  have nq65_9_q0 : q0 ≠ q65_9 := fun h => nq65_9 (h ▸ m_q0)
  have nq73_9_q0 : q0 ≠ q73_9 := fun h => nq73_9 (h ▸ m_q0)
  have nq81_9_q0 : q0 ≠ q81_9 := fun h => nq81_9 (h ▸ m_q0)
  have nq90_9_q0 : q0 ≠ q90_9 := fun h => nq90_9 (h ▸ m_q0)
  have nq99_9_q0 : q0 ≠ q99_9 := fun h => nq99_9 (h ▸ m_q0)
  have nq108_9_q0 : q0 ≠ q108_9 := fun h => nq108_9 (h ▸ m_q0)
  have nq116_9_q0 : q0 ≠ q116_9 := fun h => nq116_9 (h ▸ m_q0)
  have nq125_9_q0 : q0 ≠ q125_9 := fun h => nq125_9 (h ▸ m_q0)
  have nq134_9_q0 : q0 ≠ q134_9 := fun h => nq134_9 (h ▸ m_q0)
  have nq143_9_q0 : q0 ≠ q143_9 := fun h => nq143_9 (h ▸ m_q0)
  have nq152_9_q0 : q0 ≠ q152_9 := fun h => nq152_9 (h ▸ m_q0)
  have nq161_9_q0 : q0 ≠ q161_9 := fun h => nq161_9 (h ▸ m_q0)
  have nq170_9_q0 : q0 ≠ q170_9 := fun h => nq170_9 (h ▸ m_q0)
  have nq179_9_q0 : q0 ≠ q179_9 := fun h => nq179_9 (h ▸ m_q0)
  have nq188_9_q0 : q0 ≠ q188_9 := fun h => nq188_9 (h ▸ m_q0)
  have nq8_9_q16_8 : q16_8 ≠ q8_9 := fun h => nq8_9 (h ▸ m_q16_8)
  have nq16_9_q16_8 : q16_8 ≠ q16_9 := fun h => nq16_9 (h ▸ m_q16_8)
  have nq24_9_q16_8 : q16_8 ≠ q24_9 := fun h => nq24_9 (h ▸ m_q16_8)
  have nq32_9_q16_8 : q16_8 ≠ q32_9 := fun h => nq32_9 (h ▸ m_q16_8)
  have nq40_9_q16_8 : q16_8 ≠ q40_9 := fun h => nq40_9 (h ▸ m_q16_8)
  have nq48_9_q16_8 : q16_8 ≠ q48_9 := fun h => nq48_9 (h ▸ m_q16_8)
  have nq57_9_q16_8 : q16_8 ≠ q57_9 := fun h => nq57_9 (h ▸ m_q16_8)
  have nq65_9_q16_8 : q16_8 ≠ q65_9 := fun h => nq65_9 (h ▸ m_q16_8)
  have nq73_9_q16_8 : q16_8 ≠ q73_9 := fun h => nq73_9 (h ▸ m_q16_8)
  have nq81_9_q16_8 : q16_8 ≠ q81_9 := fun h => nq81_9 (h ▸ m_q16_8)
  have nq90_9_q16_8 : q16_8 ≠ q90_9 := fun h => nq90_9 (h ▸ m_q16_8)
  have nq99_9_q16_8 : q16_8 ≠ q99_9 := fun h => nq99_9 (h ▸ m_q16_8)
  have nq108_9_q16_8 : q16_8 ≠ q108_9 := fun h => nq108_9 (h ▸ m_q16_8)
  have nq116_9_q16_8 : q16_8 ≠ q116_9 := fun h => nq116_9 (h ▸ m_q16_8)
  have nq125_9_q16_8 : q16_8 ≠ q125_9 := fun h => nq125_9 (h ▸ m_q16_8)
  have nq134_9_q16_8 : q16_8 ≠ q134_9 := fun h => nq134_9 (h ▸ m_q16_8)
  have nq143_9_q16_8 : q16_8 ≠ q143_9 := fun h => nq143_9 (h ▸ m_q16_8)
  have nq152_9_q16_8 : q16_8 ≠ q152_9 := fun h => nq152_9 (h ▸ m_q16_8)
  have nq161_9_q16_8 : q16_8 ≠ q161_9 := fun h => nq161_9 (h ▸ m_q16_8)
  have nq170_9_q16_8 : q16_8 ≠ q170_9 := fun h => nq170_9 (h ▸ m_q16_8)
  have nq179_9_q16_8 : q16_8 ≠ q179_9 := fun h => nq179_9 (h ▸ m_q16_8)
  have nq188_9_q16_8 : q16_8 ≠ q188_9 := fun h => nq188_9 (h ▸ m_q16_8)
  have nq8_9_q23_8 : q23_8 ≠ q8_9 := fun h => nq8_9 (h ▸ m_q23_8)
  have nq16_9_q23_8 : q23_8 ≠ q16_9 := fun h => nq16_9 (h ▸ m_q23_8)
  have nq24_9_q23_8 : q23_8 ≠ q24_9 := fun h => nq24_9 (h ▸ m_q23_8)
  have nq32_9_q23_8 : q23_8 ≠ q32_9 := fun h => nq32_9 (h ▸ m_q23_8)
  have nq40_9_q23_8 : q23_8 ≠ q40_9 := fun h => nq40_9 (h ▸ m_q23_8)
  have nq48_9_q23_8 : q23_8 ≠ q48_9 := fun h => nq48_9 (h ▸ m_q23_8)
  have nq57_9_q23_8 : q23_8 ≠ q57_9 := fun h => nq57_9 (h ▸ m_q23_8)
  have nq65_9_q23_8 : q23_8 ≠ q65_9 := fun h => nq65_9 (h ▸ m_q23_8)
  have nq73_9_q23_8 : q23_8 ≠ q73_9 := fun h => nq73_9 (h ▸ m_q23_8)
  have nq81_9_q23_8 : q23_8 ≠ q81_9 := fun h => nq81_9 (h ▸ m_q23_8)
  have nq90_9_q23_8 : q23_8 ≠ q90_9 := fun h => nq90_9 (h ▸ m_q23_8)
  have nq99_9_q23_8 : q23_8 ≠ q99_9 := fun h => nq99_9 (h ▸ m_q23_8)
  have nq108_9_q23_8 : q23_8 ≠ q108_9 := fun h => nq108_9 (h ▸ m_q23_8)
  have nq116_9_q23_8 : q23_8 ≠ q116_9 := fun h => nq116_9 (h ▸ m_q23_8)
  have nq125_9_q23_8 : q23_8 ≠ q125_9 := fun h => nq125_9 (h ▸ m_q23_8)
  have nq134_9_q23_8 : q23_8 ≠ q134_9 := fun h => nq134_9 (h ▸ m_q23_8)
  have nq143_9_q23_8 : q23_8 ≠ q143_9 := fun h => nq143_9 (h ▸ m_q23_8)
  have nq152_9_q23_8 : q23_8 ≠ q152_9 := fun h => nq152_9 (h ▸ m_q23_8)
  have nq161_9_q23_8 : q23_8 ≠ q161_9 := fun h => nq161_9 (h ▸ m_q23_8)
  have nq170_9_q23_8 : q23_8 ≠ q170_9 := fun h => nq170_9 (h ▸ m_q23_8)
  have nq179_9_q23_8 : q23_8 ≠ q179_9 := fun h => nq179_9 (h ▸ m_q23_8)
  have nq188_9_q23_8 : q23_8 ≠ q188_9 := fun h => nq188_9 (h ▸ m_q23_8)
  have nq8_9_q827_8 : q827_8 ≠ q8_9 := fun h => nq8_9 (h ▸ m_q827_8)
  have nq16_9_q827_8 : q827_8 ≠ q16_9 := fun h => nq16_9 (h ▸ m_q827_8)
  have nq24_9_q827_8 : q827_8 ≠ q24_9 := fun h => nq24_9 (h ▸ m_q827_8)
  have nq32_9_q827_8 : q827_8 ≠ q32_9 := fun h => nq32_9 (h ▸ m_q827_8)
  have nq40_9_q827_8 : q827_8 ≠ q40_9 := fun h => nq40_9 (h ▸ m_q827_8)
  have nq48_9_q827_8 : q827_8 ≠ q48_9 := fun h => nq48_9 (h ▸ m_q827_8)
  have nq57_9_q827_8 : q827_8 ≠ q57_9 := fun h => nq57_9 (h ▸ m_q827_8)
  have nq65_9_q827_8 : q827_8 ≠ q65_9 := fun h => nq65_9 (h ▸ m_q827_8)
  have nq73_9_q827_8 : q827_8 ≠ q73_9 := fun h => nq73_9 (h ▸ m_q827_8)
  have nq81_9_q827_8 : q827_8 ≠ q81_9 := fun h => nq81_9 (h ▸ m_q827_8)
  have nq90_9_q827_8 : q827_8 ≠ q90_9 := fun h => nq90_9 (h ▸ m_q827_8)
  have nq99_9_q827_8 : q827_8 ≠ q99_9 := fun h => nq99_9 (h ▸ m_q827_8)
  have nq108_9_q827_8 : q827_8 ≠ q108_9 := fun h => nq108_9 (h ▸ m_q827_8)
  have nq116_9_q827_8 : q827_8 ≠ q116_9 := fun h => nq116_9 (h ▸ m_q827_8)
  have nq125_9_q827_8 : q827_8 ≠ q125_9 := fun h => nq125_9 (h ▸ m_q827_8)
  have nq134_9_q827_8 : q827_8 ≠ q134_9 := fun h => nq134_9 (h ▸ m_q827_8)
  have nq143_9_q827_8 : q827_8 ≠ q143_9 := fun h => nq143_9 (h ▸ m_q827_8)
  have nq152_9_q827_8 : q827_8 ≠ q152_9 := fun h => nq152_9 (h ▸ m_q827_8)
  have nq161_9_q827_8 : q827_8 ≠ q161_9 := fun h => nq161_9 (h ▸ m_q827_8)
  have nq170_9_q827_8 : q827_8 ≠ q170_9 := fun h => nq170_9 (h ▸ m_q827_8)
  have nq179_9_q827_8 : q827_8 ≠ q179_9 := fun h => nq179_9 (h ▸ m_q827_8)
  have nq188_9_q827_8 : q827_8 ≠ q188_9 := fun h => nq188_9 (h ▸ m_q827_8)
  have nq8_9_q34_8 : q34_8 ≠ q8_9 := fun h => nq8_9 (h ▸ m_q34_8)
  have nq16_9_q34_8 : q34_8 ≠ q16_9 := fun h => nq16_9 (h ▸ m_q34_8)
  have nq24_9_q34_8 : q34_8 ≠ q24_9 := fun h => nq24_9 (h ▸ m_q34_8)
  have nq32_9_q34_8 : q34_8 ≠ q32_9 := fun h => nq32_9 (h ▸ m_q34_8)
  have nq40_9_q34_8 : q34_8 ≠ q40_9 := fun h => nq40_9 (h ▸ m_q34_8)
  have nq48_9_q34_8 : q34_8 ≠ q48_9 := fun h => nq48_9 (h ▸ m_q34_8)
  have nq57_9_q34_8 : q34_8 ≠ q57_9 := fun h => nq57_9 (h ▸ m_q34_8)
  have nq65_9_q34_8 : q34_8 ≠ q65_9 := fun h => nq65_9 (h ▸ m_q34_8)
  have nq73_9_q34_8 : q34_8 ≠ q73_9 := fun h => nq73_9 (h ▸ m_q34_8)
  have nq81_9_q34_8 : q34_8 ≠ q81_9 := fun h => nq81_9 (h ▸ m_q34_8)
  have nq90_9_q34_8 : q34_8 ≠ q90_9 := fun h => nq90_9 (h ▸ m_q34_8)
  have nq99_9_q34_8 : q34_8 ≠ q99_9 := fun h => nq99_9 (h ▸ m_q34_8)
  have nq108_9_q34_8 : q34_8 ≠ q108_9 := fun h => nq108_9 (h ▸ m_q34_8)
  have nq116_9_q34_8 : q34_8 ≠ q116_9 := fun h => nq116_9 (h ▸ m_q34_8)
  have nq125_9_q34_8 : q34_8 ≠ q125_9 := fun h => nq125_9 (h ▸ m_q34_8)
  have nq134_9_q34_8 : q34_8 ≠ q134_9 := fun h => nq134_9 (h ▸ m_q34_8)
  have nq143_9_q34_8 : q34_8 ≠ q143_9 := fun h => nq143_9 (h ▸ m_q34_8)
  have nq152_9_q34_8 : q34_8 ≠ q152_9 := fun h => nq152_9 (h ▸ m_q34_8)
  have nq161_9_q34_8 : q34_8 ≠ q161_9 := fun h => nq161_9 (h ▸ m_q34_8)
  have nq170_9_q34_8 : q34_8 ≠ q170_9 := fun h => nq170_9 (h ▸ m_q34_8)
  have nq179_9_q34_8 : q34_8 ≠ q179_9 := fun h => nq179_9 (h ▸ m_q34_8)
  have nq188_9_q34_8 : q34_8 ≠ q188_9 := fun h => nq188_9 (h ▸ m_q34_8)
  have nq8_9_q838_8 : q838_8 ≠ q8_9 := fun h => nq8_9 (h ▸ m_q838_8)
  have nq16_9_q838_8 : q838_8 ≠ q16_9 := fun h => nq16_9 (h ▸ m_q838_8)
  have nq24_9_q838_8 : q838_8 ≠ q24_9 := fun h => nq24_9 (h ▸ m_q838_8)
  have nq32_9_q838_8 : q838_8 ≠ q32_9 := fun h => nq32_9 (h ▸ m_q838_8)
  have nq40_9_q838_8 : q838_8 ≠ q40_9 := fun h => nq40_9 (h ▸ m_q838_8)
  have nq48_9_q838_8 : q838_8 ≠ q48_9 := fun h => nq48_9 (h ▸ m_q838_8)
  have nq57_9_q838_8 : q838_8 ≠ q57_9 := fun h => nq57_9 (h ▸ m_q838_8)
  have nq65_9_q838_8 : q838_8 ≠ q65_9 := fun h => nq65_9 (h ▸ m_q838_8)
  have nq73_9_q838_8 : q838_8 ≠ q73_9 := fun h => nq73_9 (h ▸ m_q838_8)
  have nq81_9_q838_8 : q838_8 ≠ q81_9 := fun h => nq81_9 (h ▸ m_q838_8)
  have nq90_9_q838_8 : q838_8 ≠ q90_9 := fun h => nq90_9 (h ▸ m_q838_8)
  have nq99_9_q838_8 : q838_8 ≠ q99_9 := fun h => nq99_9 (h ▸ m_q838_8)
  have nq108_9_q838_8 : q838_8 ≠ q108_9 := fun h => nq108_9 (h ▸ m_q838_8)
  have nq116_9_q838_8 : q838_8 ≠ q116_9 := fun h => nq116_9 (h ▸ m_q838_8)
  have nq125_9_q838_8 : q838_8 ≠ q125_9 := fun h => nq125_9 (h ▸ m_q838_8)
  have nq134_9_q838_8 : q838_8 ≠ q134_9 := fun h => nq134_9 (h ▸ m_q838_8)
  have nq143_9_q838_8 : q838_8 ≠ q143_9 := fun h => nq143_9 (h ▸ m_q838_8)
  have nq152_9_q838_8 : q838_8 ≠ q152_9 := fun h => nq152_9 (h ▸ m_q838_8)
  have nq161_9_q838_8 : q838_8 ≠ q161_9 := fun h => nq161_9 (h ▸ m_q838_8)
  have nq170_9_q838_8 : q838_8 ≠ q170_9 := fun h => nq170_9 (h ▸ m_q838_8)
  have nq179_9_q838_8 : q838_8 ≠ q179_9 := fun h => nq179_9 (h ▸ m_q838_8)
  have nq188_9_q838_8 : q838_8 ≠ q188_9 := fun h => nq188_9 (h ▸ m_q838_8)
  have nq8_9_q45_8 : q45_8 ≠ q8_9 := fun h => nq8_9 (h ▸ m_q45_8)
  have nq16_9_q45_8 : q45_8 ≠ q16_9 := fun h => nq16_9 (h ▸ m_q45_8)
  have nq24_9_q45_8 : q45_8 ≠ q24_9 := fun h => nq24_9 (h ▸ m_q45_8)
  have nq32_9_q45_8 : q45_8 ≠ q32_9 := fun h => nq32_9 (h ▸ m_q45_8)
  have nq40_9_q45_8 : q45_8 ≠ q40_9 := fun h => nq40_9 (h ▸ m_q45_8)
  have nq48_9_q45_8 : q45_8 ≠ q48_9 := fun h => nq48_9 (h ▸ m_q45_8)
  have nq57_9_q45_8 : q45_8 ≠ q57_9 := fun h => nq57_9 (h ▸ m_q45_8)
  have nq65_9_q45_8 : q45_8 ≠ q65_9 := fun h => nq65_9 (h ▸ m_q45_8)
  have nq73_9_q45_8 : q45_8 ≠ q73_9 := fun h => nq73_9 (h ▸ m_q45_8)
  have nq81_9_q45_8 : q45_8 ≠ q81_9 := fun h => nq81_9 (h ▸ m_q45_8)
  have nq90_9_q45_8 : q45_8 ≠ q90_9 := fun h => nq90_9 (h ▸ m_q45_8)
  have nq99_9_q45_8 : q45_8 ≠ q99_9 := fun h => nq99_9 (h ▸ m_q45_8)
  have nq108_9_q45_8 : q45_8 ≠ q108_9 := fun h => nq108_9 (h ▸ m_q45_8)
  have nq116_9_q45_8 : q45_8 ≠ q116_9 := fun h => nq116_9 (h ▸ m_q45_8)
  have nq125_9_q45_8 : q45_8 ≠ q125_9 := fun h => nq125_9 (h ▸ m_q45_8)
  have nq134_9_q45_8 : q45_8 ≠ q134_9 := fun h => nq134_9 (h ▸ m_q45_8)
  have nq143_9_q45_8 : q45_8 ≠ q143_9 := fun h => nq143_9 (h ▸ m_q45_8)
  have nq152_9_q45_8 : q45_8 ≠ q152_9 := fun h => nq152_9 (h ▸ m_q45_8)
  have nq161_9_q45_8 : q45_8 ≠ q161_9 := fun h => nq161_9 (h ▸ m_q45_8)
  have nq170_9_q45_8 : q45_8 ≠ q170_9 := fun h => nq170_9 (h ▸ m_q45_8)
  have nq179_9_q45_8 : q45_8 ≠ q179_9 := fun h => nq179_9 (h ▸ m_q45_8)
  have nq188_9_q45_8 : q45_8 ≠ q188_9 := fun h => nq188_9 (h ▸ m_q45_8)
  have nq8_9_q849_8 : q849_8 ≠ q8_9 := fun h => nq8_9 (h ▸ m_q849_8)
  have nq16_9_q849_8 : q849_8 ≠ q16_9 := fun h => nq16_9 (h ▸ m_q849_8)
  have nq24_9_q849_8 : q849_8 ≠ q24_9 := fun h => nq24_9 (h ▸ m_q849_8)
  have nq32_9_q849_8 : q849_8 ≠ q32_9 := fun h => nq32_9 (h ▸ m_q849_8)
  have nq40_9_q849_8 : q849_8 ≠ q40_9 := fun h => nq40_9 (h ▸ m_q849_8)
  have nq48_9_q849_8 : q849_8 ≠ q48_9 := fun h => nq48_9 (h ▸ m_q849_8)
  have nq57_9_q849_8 : q849_8 ≠ q57_9 := fun h => nq57_9 (h ▸ m_q849_8)
  have nq65_9_q849_8 : q849_8 ≠ q65_9 := fun h => nq65_9 (h ▸ m_q849_8)
  have nq73_9_q849_8 : q849_8 ≠ q73_9 := fun h => nq73_9 (h ▸ m_q849_8)
  have nq81_9_q849_8 : q849_8 ≠ q81_9 := fun h => nq81_9 (h ▸ m_q849_8)
  have nq90_9_q849_8 : q849_8 ≠ q90_9 := fun h => nq90_9 (h ▸ m_q849_8)
  have nq99_9_q849_8 : q849_8 ≠ q99_9 := fun h => nq99_9 (h ▸ m_q849_8)
  have nq108_9_q849_8 : q849_8 ≠ q108_9 := fun h => nq108_9 (h ▸ m_q849_8)
  have nq116_9_q849_8 : q849_8 ≠ q116_9 := fun h => nq116_9 (h ▸ m_q849_8)
  have nq125_9_q849_8 : q849_8 ≠ q125_9 := fun h => nq125_9 (h ▸ m_q849_8)
  have nq134_9_q849_8 : q849_8 ≠ q134_9 := fun h => nq134_9 (h ▸ m_q849_8)
  have nq143_9_q849_8 : q849_8 ≠ q143_9 := fun h => nq143_9 (h ▸ m_q849_8)
  have nq152_9_q849_8 : q849_8 ≠ q152_9 := fun h => nq152_9 (h ▸ m_q849_8)
  have nq161_9_q849_8 : q849_8 ≠ q161_9 := fun h => nq161_9 (h ▸ m_q849_8)
  have nq170_9_q849_8 : q849_8 ≠ q170_9 := fun h => nq170_9 (h ▸ m_q849_8)
  have nq179_9_q849_8 : q849_8 ≠ q179_9 := fun h => nq179_9 (h ▸ m_q849_8)
  have nq188_9_q849_8 : q849_8 ≠ q188_9 := fun h => nq188_9 (h ▸ m_q849_8)
  have nq8_9_q56_8 : q56_8 ≠ q8_9 := fun h => nq8_9 (h ▸ m_q56_8)
  have nq16_9_q56_8 : q56_8 ≠ q16_9 := fun h => nq16_9 (h ▸ m_q56_8)
  have nq24_9_q56_8 : q56_8 ≠ q24_9 := fun h => nq24_9 (h ▸ m_q56_8)
  have nq32_9_q56_8 : q56_8 ≠ q32_9 := fun h => nq32_9 (h ▸ m_q56_8)
  have nq40_9_q56_8 : q56_8 ≠ q40_9 := fun h => nq40_9 (h ▸ m_q56_8)
  have nq48_9_q56_8 : q56_8 ≠ q48_9 := fun h => nq48_9 (h ▸ m_q56_8)
  have nq57_9_q56_8 : q56_8 ≠ q57_9 := fun h => nq57_9 (h ▸ m_q56_8)
  have nq65_9_q56_8 : q56_8 ≠ q65_9 := fun h => nq65_9 (h ▸ m_q56_8)
  have nq73_9_q56_8 : q56_8 ≠ q73_9 := fun h => nq73_9 (h ▸ m_q56_8)
  have nq81_9_q56_8 : q56_8 ≠ q81_9 := fun h => nq81_9 (h ▸ m_q56_8)
  have nq90_9_q56_8 : q56_8 ≠ q90_9 := fun h => nq90_9 (h ▸ m_q56_8)
  have nq99_9_q56_8 : q56_8 ≠ q99_9 := fun h => nq99_9 (h ▸ m_q56_8)
  have nq108_9_q56_8 : q56_8 ≠ q108_9 := fun h => nq108_9 (h ▸ m_q56_8)
  have nq116_9_q56_8 : q56_8 ≠ q116_9 := fun h => nq116_9 (h ▸ m_q56_8)
  have nq125_9_q56_8 : q56_8 ≠ q125_9 := fun h => nq125_9 (h ▸ m_q56_8)
  have nq134_9_q56_8 : q56_8 ≠ q134_9 := fun h => nq134_9 (h ▸ m_q56_8)
  have nq143_9_q56_8 : q56_8 ≠ q143_9 := fun h => nq143_9 (h ▸ m_q56_8)
  have nq152_9_q56_8 : q56_8 ≠ q152_9 := fun h => nq152_9 (h ▸ m_q56_8)
  have nq161_9_q56_8 : q56_8 ≠ q161_9 := fun h => nq161_9 (h ▸ m_q56_8)
  have nq170_9_q56_8 : q56_8 ≠ q170_9 := fun h => nq170_9 (h ▸ m_q56_8)
  have nq179_9_q56_8 : q56_8 ≠ q179_9 := fun h => nq179_9 (h ▸ m_q56_8)
  have nq188_9_q56_8 : q56_8 ≠ q188_9 := fun h => nq188_9 (h ▸ m_q56_8)
  have nq8_9_q860_8 : q860_8 ≠ q8_9 := fun h => nq8_9 (h ▸ m_q860_8)
  have nq16_9_q860_8 : q860_8 ≠ q16_9 := fun h => nq16_9 (h ▸ m_q860_8)
  have nq24_9_q860_8 : q860_8 ≠ q24_9 := fun h => nq24_9 (h ▸ m_q860_8)
  have nq32_9_q860_8 : q860_8 ≠ q32_9 := fun h => nq32_9 (h ▸ m_q860_8)
  have nq40_9_q860_8 : q860_8 ≠ q40_9 := fun h => nq40_9 (h ▸ m_q860_8)
  have nq48_9_q860_8 : q860_8 ≠ q48_9 := fun h => nq48_9 (h ▸ m_q860_8)
  have nq57_9_q860_8 : q860_8 ≠ q57_9 := fun h => nq57_9 (h ▸ m_q860_8)
  have nq65_9_q860_8 : q860_8 ≠ q65_9 := fun h => nq65_9 (h ▸ m_q860_8)
  have nq73_9_q860_8 : q860_8 ≠ q73_9 := fun h => nq73_9 (h ▸ m_q860_8)
  have nq81_9_q860_8 : q860_8 ≠ q81_9 := fun h => nq81_9 (h ▸ m_q860_8)
  have nq90_9_q860_8 : q860_8 ≠ q90_9 := fun h => nq90_9 (h ▸ m_q860_8)
  have nq99_9_q860_8 : q860_8 ≠ q99_9 := fun h => nq99_9 (h ▸ m_q860_8)
  have nq108_9_q860_8 : q860_8 ≠ q108_9 := fun h => nq108_9 (h ▸ m_q860_8)
  have nq116_9_q860_8 : q860_8 ≠ q116_9 := fun h => nq116_9 (h ▸ m_q860_8)
  have nq125_9_q860_8 : q860_8 ≠ q125_9 := fun h => nq125_9 (h ▸ m_q860_8)
  have nq134_9_q860_8 : q860_8 ≠ q134_9 := fun h => nq134_9 (h ▸ m_q860_8)
  have nq143_9_q860_8 : q860_8 ≠ q143_9 := fun h => nq143_9 (h ▸ m_q860_8)
  have nq152_9_q860_8 : q860_8 ≠ q152_9 := fun h => nq152_9 (h ▸ m_q860_8)
  have nq161_9_q860_8 : q860_8 ≠ q161_9 := fun h => nq161_9 (h ▸ m_q860_8)
  have nq170_9_q860_8 : q860_8 ≠ q170_9 := fun h => nq170_9 (h ▸ m_q860_8)
  have nq179_9_q860_8 : q860_8 ≠ q179_9 := fun h => nq179_9 (h ▸ m_q860_8)
  have nq188_9_q860_8 : q860_8 ≠ q188_9 := fun h => nq188_9 (h ▸ m_q860_8)
  have nq8_9_q1760_8 : q1760_8 ≠ q8_9 := fun h => nq8_9 (h ▸ m_q1760_8)
  have nq16_9_q1760_8 : q1760_8 ≠ q16_9 := fun h => nq16_9 (h ▸ m_q1760_8)
  have nq24_9_q1760_8 : q1760_8 ≠ q24_9 := fun h => nq24_9 (h ▸ m_q1760_8)
  have nq32_9_q1760_8 : q1760_8 ≠ q32_9 := fun h => nq32_9 (h ▸ m_q1760_8)
  have nq40_9_q1760_8 : q1760_8 ≠ q40_9 := fun h => nq40_9 (h ▸ m_q1760_8)
  have nq48_9_q1760_8 : q1760_8 ≠ q48_9 := fun h => nq48_9 (h ▸ m_q1760_8)
  have nq57_9_q1760_8 : q1760_8 ≠ q57_9 := fun h => nq57_9 (h ▸ m_q1760_8)
  have nq65_9_q1760_8 : q1760_8 ≠ q65_9 := fun h => nq65_9 (h ▸ m_q1760_8)
  have nq73_9_q1760_8 : q1760_8 ≠ q73_9 := fun h => nq73_9 (h ▸ m_q1760_8)
  have nq81_9_q1760_8 : q1760_8 ≠ q81_9 := fun h => nq81_9 (h ▸ m_q1760_8)
  have nq90_9_q1760_8 : q1760_8 ≠ q90_9 := fun h => nq90_9 (h ▸ m_q1760_8)
  have nq99_9_q1760_8 : q1760_8 ≠ q99_9 := fun h => nq99_9 (h ▸ m_q1760_8)
  have nq108_9_q1760_8 : q1760_8 ≠ q108_9 := fun h => nq108_9 (h ▸ m_q1760_8)
  have nq116_9_q1760_8 : q1760_8 ≠ q116_9 := fun h => nq116_9 (h ▸ m_q1760_8)
  have nq125_9_q1760_8 : q1760_8 ≠ q125_9 := fun h => nq125_9 (h ▸ m_q1760_8)
  have nq134_9_q1760_8 : q1760_8 ≠ q134_9 := fun h => nq134_9 (h ▸ m_q1760_8)
  have nq143_9_q1760_8 : q1760_8 ≠ q143_9 := fun h => nq143_9 (h ▸ m_q1760_8)
  have nq152_9_q1760_8 : q1760_8 ≠ q152_9 := fun h => nq152_9 (h ▸ m_q1760_8)
  have nq161_9_q1760_8 : q1760_8 ≠ q161_9 := fun h => nq161_9 (h ▸ m_q1760_8)
  have nq170_9_q1760_8 : q1760_8 ≠ q170_9 := fun h => nq170_9 (h ▸ m_q1760_8)
  have nq179_9_q1760_8 : q1760_8 ≠ q179_9 := fun h => nq179_9 (h ▸ m_q1760_8)
  have nq188_9_q1760_8 : q1760_8 ≠ q188_9 := fun h => nq188_9 (h ▸ m_q1760_8)
  have nq8_9_q2660_8 : q2660_8 ≠ q8_9 := fun h => nq8_9 (h ▸ m_q2660_8)
  have nq16_9_q2660_8 : q2660_8 ≠ q16_9 := fun h => nq16_9 (h ▸ m_q2660_8)
  have nq24_9_q2660_8 : q2660_8 ≠ q24_9 := fun h => nq24_9 (h ▸ m_q2660_8)
  have nq32_9_q2660_8 : q2660_8 ≠ q32_9 := fun h => nq32_9 (h ▸ m_q2660_8)
  have nq40_9_q2660_8 : q2660_8 ≠ q40_9 := fun h => nq40_9 (h ▸ m_q2660_8)
  have nq48_9_q2660_8 : q2660_8 ≠ q48_9 := fun h => nq48_9 (h ▸ m_q2660_8)
  have nq57_9_q2660_8 : q2660_8 ≠ q57_9 := fun h => nq57_9 (h ▸ m_q2660_8)
  have nq65_9_q2660_8 : q2660_8 ≠ q65_9 := fun h => nq65_9 (h ▸ m_q2660_8)
  have nq73_9_q2660_8 : q2660_8 ≠ q73_9 := fun h => nq73_9 (h ▸ m_q2660_8)
  have nq81_9_q2660_8 : q2660_8 ≠ q81_9 := fun h => nq81_9 (h ▸ m_q2660_8)
  have nq90_9_q2660_8 : q2660_8 ≠ q90_9 := fun h => nq90_9 (h ▸ m_q2660_8)
  have nq99_9_q2660_8 : q2660_8 ≠ q99_9 := fun h => nq99_9 (h ▸ m_q2660_8)
  have nq108_9_q2660_8 : q2660_8 ≠ q108_9 := fun h => nq108_9 (h ▸ m_q2660_8)
  have nq116_9_q2660_8 : q2660_8 ≠ q116_9 := fun h => nq116_9 (h ▸ m_q2660_8)
  have nq125_9_q2660_8 : q2660_8 ≠ q125_9 := fun h => nq125_9 (h ▸ m_q2660_8)
  have nq134_9_q2660_8 : q2660_8 ≠ q134_9 := fun h => nq134_9 (h ▸ m_q2660_8)
  have nq143_9_q2660_8 : q2660_8 ≠ q143_9 := fun h => nq143_9 (h ▸ m_q2660_8)
  have nq152_9_q2660_8 : q2660_8 ≠ q152_9 := fun h => nq152_9 (h ▸ m_q2660_8)
  have nq161_9_q2660_8 : q2660_8 ≠ q161_9 := fun h => nq161_9 (h ▸ m_q2660_8)
  have nq170_9_q2660_8 : q2660_8 ≠ q170_9 := fun h => nq170_9 (h ▸ m_q2660_8)
  have nq179_9_q2660_8 : q2660_8 ≠ q179_9 := fun h => nq179_9 (h ▸ m_q2660_8)
  have nq188_9_q2660_8 : q2660_8 ≠ q188_9 := fun h => nq188_9 (h ▸ m_q2660_8)
  have nq8_9_q3560_8 : q3560_8 ≠ q8_9 := fun h => nq8_9 (h ▸ m_q3560_8)
  have nq16_9_q3560_8 : q3560_8 ≠ q16_9 := fun h => nq16_9 (h ▸ m_q3560_8)
  have nq24_9_q3560_8 : q3560_8 ≠ q24_9 := fun h => nq24_9 (h ▸ m_q3560_8)
  have nq32_9_q3560_8 : q3560_8 ≠ q32_9 := fun h => nq32_9 (h ▸ m_q3560_8)
  have nq40_9_q3560_8 : q3560_8 ≠ q40_9 := fun h => nq40_9 (h ▸ m_q3560_8)
  have nq48_9_q3560_8 : q3560_8 ≠ q48_9 := fun h => nq48_9 (h ▸ m_q3560_8)
  have nq57_9_q3560_8 : q3560_8 ≠ q57_9 := fun h => nq57_9 (h ▸ m_q3560_8)
  have nq65_9_q3560_8 : q3560_8 ≠ q65_9 := fun h => nq65_9 (h ▸ m_q3560_8)
  have nq73_9_q3560_8 : q3560_8 ≠ q73_9 := fun h => nq73_9 (h ▸ m_q3560_8)
  have nq81_9_q3560_8 : q3560_8 ≠ q81_9 := fun h => nq81_9 (h ▸ m_q3560_8)
  have nq90_9_q3560_8 : q3560_8 ≠ q90_9 := fun h => nq90_9 (h ▸ m_q3560_8)
  have nq99_9_q3560_8 : q3560_8 ≠ q99_9 := fun h => nq99_9 (h ▸ m_q3560_8)
  have nq108_9_q3560_8 : q3560_8 ≠ q108_9 := fun h => nq108_9 (h ▸ m_q3560_8)
  have nq116_9_q3560_8 : q3560_8 ≠ q116_9 := fun h => nq116_9 (h ▸ m_q3560_8)
  have nq125_9_q3560_8 : q3560_8 ≠ q125_9 := fun h => nq125_9 (h ▸ m_q3560_8)
  have nq134_9_q3560_8 : q3560_8 ≠ q134_9 := fun h => nq134_9 (h ▸ m_q3560_8)
  have nq143_9_q3560_8 : q3560_8 ≠ q143_9 := fun h => nq143_9 (h ▸ m_q3560_8)
  have nq152_9_q3560_8 : q3560_8 ≠ q152_9 := fun h => nq152_9 (h ▸ m_q3560_8)
  have nq161_9_q3560_8 : q3560_8 ≠ q161_9 := fun h => nq161_9 (h ▸ m_q3560_8)
  have nq170_9_q3560_8 : q3560_8 ≠ q170_9 := fun h => nq170_9 (h ▸ m_q3560_8)
  have nq179_9_q3560_8 : q3560_8 ≠ q179_9 := fun h => nq179_9 (h ▸ m_q3560_8)
  have nq188_9_q3560_8 : q3560_8 ≠ q188_9 := fun h => nq188_9 (h ▸ m_q3560_8)
  have nq8_9_q4160_8 : q4160_8 ≠ q8_9 := fun h => nq8_9 (h ▸ m_q4160_8)
  have nq16_9_q4160_8 : q4160_8 ≠ q16_9 := fun h => nq16_9 (h ▸ m_q4160_8)
  have nq24_9_q4160_8 : q4160_8 ≠ q24_9 := fun h => nq24_9 (h ▸ m_q4160_8)
  have nq32_9_q4160_8 : q4160_8 ≠ q32_9 := fun h => nq32_9 (h ▸ m_q4160_8)
  have nq40_9_q4160_8 : q4160_8 ≠ q40_9 := fun h => nq40_9 (h ▸ m_q4160_8)
  have nq48_9_q4160_8 : q4160_8 ≠ q48_9 := fun h => nq48_9 (h ▸ m_q4160_8)
  have nq57_9_q4160_8 : q4160_8 ≠ q57_9 := fun h => nq57_9 (h ▸ m_q4160_8)
  have nq65_9_q4160_8 : q4160_8 ≠ q65_9 := fun h => nq65_9 (h ▸ m_q4160_8)
  have nq73_9_q4160_8 : q4160_8 ≠ q73_9 := fun h => nq73_9 (h ▸ m_q4160_8)
  have nq81_9_q4160_8 : q4160_8 ≠ q81_9 := fun h => nq81_9 (h ▸ m_q4160_8)
  have nq90_9_q4160_8 : q4160_8 ≠ q90_9 := fun h => nq90_9 (h ▸ m_q4160_8)
  have nq99_9_q4160_8 : q4160_8 ≠ q99_9 := fun h => nq99_9 (h ▸ m_q4160_8)
  have nq108_9_q4160_8 : q4160_8 ≠ q108_9 := fun h => nq108_9 (h ▸ m_q4160_8)
  have nq116_9_q4160_8 : q4160_8 ≠ q116_9 := fun h => nq116_9 (h ▸ m_q4160_8)
  have nq125_9_q4160_8 : q4160_8 ≠ q125_9 := fun h => nq125_9 (h ▸ m_q4160_8)
  have nq134_9_q4160_8 : q4160_8 ≠ q134_9 := fun h => nq134_9 (h ▸ m_q4160_8)
  have nq143_9_q4160_8 : q4160_8 ≠ q143_9 := fun h => nq143_9 (h ▸ m_q4160_8)
  have nq152_9_q4160_8 : q4160_8 ≠ q152_9 := fun h => nq152_9 (h ▸ m_q4160_8)
  have nq161_9_q4160_8 : q4160_8 ≠ q161_9 := fun h => nq161_9 (h ▸ m_q4160_8)
  have nq170_9_q4160_8 : q4160_8 ≠ q170_9 := fun h => nq170_9 (h ▸ m_q4160_8)
  have nq179_9_q4160_8 : q4160_8 ≠ q179_9 := fun h => nq179_9 (h ▸ m_q4160_8)
  have nq188_9_q4160_8 : q4160_8 ≠ q188_9 := fun h => nq188_9 (h ▸ m_q4160_8)
  have nq8_9_q74560_8 : q74560_8 ≠ q8_9 := fun h => nq8_9 (h ▸ m_q74560_8)
  have nq16_9_q74560_8 : q74560_8 ≠ q16_9 := fun h => nq16_9 (h ▸ m_q74560_8)
  have nq24_9_q74560_8 : q74560_8 ≠ q24_9 := fun h => nq24_9 (h ▸ m_q74560_8)
  have nq32_9_q74560_8 : q74560_8 ≠ q32_9 := fun h => nq32_9 (h ▸ m_q74560_8)
  have nq40_9_q74560_8 : q74560_8 ≠ q40_9 := fun h => nq40_9 (h ▸ m_q74560_8)
  have nq48_9_q74560_8 : q74560_8 ≠ q48_9 := fun h => nq48_9 (h ▸ m_q74560_8)
  have nq57_9_q74560_8 : q74560_8 ≠ q57_9 := fun h => nq57_9 (h ▸ m_q74560_8)
  have nq65_9_q74560_8 : q74560_8 ≠ q65_9 := fun h => nq65_9 (h ▸ m_q74560_8)
  have nq73_9_q74560_8 : q74560_8 ≠ q73_9 := fun h => nq73_9 (h ▸ m_q74560_8)
  have nq81_9_q74560_8 : q74560_8 ≠ q81_9 := fun h => nq81_9 (h ▸ m_q74560_8)
  have nq90_9_q74560_8 : q74560_8 ≠ q90_9 := fun h => nq90_9 (h ▸ m_q74560_8)
  have nq99_9_q74560_8 : q74560_8 ≠ q99_9 := fun h => nq99_9 (h ▸ m_q74560_8)
  have nq108_9_q74560_8 : q74560_8 ≠ q108_9 := fun h => nq108_9 (h ▸ m_q74560_8)
  have nq116_9_q74560_8 : q74560_8 ≠ q116_9 := fun h => nq116_9 (h ▸ m_q74560_8)
  have nq125_9_q74560_8 : q74560_8 ≠ q125_9 := fun h => nq125_9 (h ▸ m_q74560_8)
  have nq134_9_q74560_8 : q74560_8 ≠ q134_9 := fun h => nq134_9 (h ▸ m_q74560_8)
  have nq143_9_q74560_8 : q74560_8 ≠ q143_9 := fun h => nq143_9 (h ▸ m_q74560_8)
  have nq152_9_q74560_8 : q74560_8 ≠ q152_9 := fun h => nq152_9 (h ▸ m_q74560_8)
  have nq161_9_q74560_8 : q74560_8 ≠ q161_9 := fun h => nq161_9 (h ▸ m_q74560_8)
  have nq170_9_q74560_8 : q74560_8 ≠ q170_9 := fun h => nq170_9 (h ▸ m_q74560_8)
  have nq179_9_q74560_8 : q74560_8 ≠ q179_9 := fun h => nq179_9 (h ▸ m_q74560_8)
  have nq188_9_q74560_8 : q74560_8 ≠ q188_9 := fun h => nq188_9 (h ▸ m_q74560_8)
  have nq8_9_q5560_8 : q5560_8 ≠ q8_9 := fun h => nq8_9 (h ▸ m_q5560_8)
  have nq16_9_q5560_8 : q5560_8 ≠ q16_9 := fun h => nq16_9 (h ▸ m_q5560_8)
  have nq24_9_q5560_8 : q5560_8 ≠ q24_9 := fun h => nq24_9 (h ▸ m_q5560_8)
  have nq32_9_q5560_8 : q5560_8 ≠ q32_9 := fun h => nq32_9 (h ▸ m_q5560_8)
  have nq40_9_q5560_8 : q5560_8 ≠ q40_9 := fun h => nq40_9 (h ▸ m_q5560_8)
  have nq48_9_q5560_8 : q5560_8 ≠ q48_9 := fun h => nq48_9 (h ▸ m_q5560_8)
  have nq57_9_q5560_8 : q5560_8 ≠ q57_9 := fun h => nq57_9 (h ▸ m_q5560_8)
  have nq65_9_q5560_8 : q5560_8 ≠ q65_9 := fun h => nq65_9 (h ▸ m_q5560_8)
  have nq73_9_q5560_8 : q5560_8 ≠ q73_9 := fun h => nq73_9 (h ▸ m_q5560_8)
  have nq81_9_q5560_8 : q5560_8 ≠ q81_9 := fun h => nq81_9 (h ▸ m_q5560_8)
  have nq90_9_q5560_8 : q5560_8 ≠ q90_9 := fun h => nq90_9 (h ▸ m_q5560_8)
  have nq99_9_q5560_8 : q5560_8 ≠ q99_9 := fun h => nq99_9 (h ▸ m_q5560_8)
  have nq108_9_q5560_8 : q5560_8 ≠ q108_9 := fun h => nq108_9 (h ▸ m_q5560_8)
  have nq116_9_q5560_8 : q5560_8 ≠ q116_9 := fun h => nq116_9 (h ▸ m_q5560_8)
  have nq125_9_q5560_8 : q5560_8 ≠ q125_9 := fun h => nq125_9 (h ▸ m_q5560_8)
  have nq134_9_q5560_8 : q5560_8 ≠ q134_9 := fun h => nq134_9 (h ▸ m_q5560_8)
  have nq143_9_q5560_8 : q5560_8 ≠ q143_9 := fun h => nq143_9 (h ▸ m_q5560_8)
  have nq152_9_q5560_8 : q5560_8 ≠ q152_9 := fun h => nq152_9 (h ▸ m_q5560_8)
  have nq161_9_q5560_8 : q5560_8 ≠ q161_9 := fun h => nq161_9 (h ▸ m_q5560_8)
  have nq170_9_q5560_8 : q5560_8 ≠ q170_9 := fun h => nq170_9 (h ▸ m_q5560_8)
  have nq179_9_q5560_8 : q5560_8 ≠ q179_9 := fun h => nq179_9 (h ▸ m_q5560_8)
  have nq188_9_q5560_8 : q5560_8 ≠ q188_9 := fun h => nq188_9 (h ▸ m_q5560_8)
  have nq8_9_q6460_8 : q6460_8 ≠ q8_9 := fun h => nq8_9 (h ▸ m_q6460_8)
  have nq16_9_q6460_8 : q6460_8 ≠ q16_9 := fun h => nq16_9 (h ▸ m_q6460_8)
  have nq24_9_q6460_8 : q6460_8 ≠ q24_9 := fun h => nq24_9 (h ▸ m_q6460_8)
  have nq32_9_q6460_8 : q6460_8 ≠ q32_9 := fun h => nq32_9 (h ▸ m_q6460_8)
  have nq40_9_q6460_8 : q6460_8 ≠ q40_9 := fun h => nq40_9 (h ▸ m_q6460_8)
  have nq48_9_q6460_8 : q6460_8 ≠ q48_9 := fun h => nq48_9 (h ▸ m_q6460_8)
  have nq57_9_q6460_8 : q6460_8 ≠ q57_9 := fun h => nq57_9 (h ▸ m_q6460_8)
  have nq65_9_q6460_8 : q6460_8 ≠ q65_9 := fun h => nq65_9 (h ▸ m_q6460_8)
  have nq73_9_q6460_8 : q6460_8 ≠ q73_9 := fun h => nq73_9 (h ▸ m_q6460_8)
  have nq81_9_q6460_8 : q6460_8 ≠ q81_9 := fun h => nq81_9 (h ▸ m_q6460_8)
  have nq90_9_q6460_8 : q6460_8 ≠ q90_9 := fun h => nq90_9 (h ▸ m_q6460_8)
  have nq99_9_q6460_8 : q6460_8 ≠ q99_9 := fun h => nq99_9 (h ▸ m_q6460_8)
  have nq108_9_q6460_8 : q6460_8 ≠ q108_9 := fun h => nq108_9 (h ▸ m_q6460_8)
  have nq116_9_q6460_8 : q6460_8 ≠ q116_9 := fun h => nq116_9 (h ▸ m_q6460_8)
  have nq125_9_q6460_8 : q6460_8 ≠ q125_9 := fun h => nq125_9 (h ▸ m_q6460_8)
  have nq134_9_q6460_8 : q6460_8 ≠ q134_9 := fun h => nq134_9 (h ▸ m_q6460_8)
  have nq143_9_q6460_8 : q6460_8 ≠ q143_9 := fun h => nq143_9 (h ▸ m_q6460_8)
  have nq152_9_q6460_8 : q6460_8 ≠ q152_9 := fun h => nq152_9 (h ▸ m_q6460_8)
  have nq161_9_q6460_8 : q6460_8 ≠ q161_9 := fun h => nq161_9 (h ▸ m_q6460_8)
  have nq170_9_q6460_8 : q6460_8 ≠ q170_9 := fun h => nq170_9 (h ▸ m_q6460_8)
  have nq179_9_q6460_8 : q6460_8 ≠ q179_9 := fun h => nq179_9 (h ▸ m_q6460_8)
  have nq188_9_q6460_8 : q6460_8 ≠ q188_9 := fun h => nq188_9 (h ▸ m_q6460_8)
  have nq8_9_q67_8 : q67_8 ≠ q8_9 := fun h => nq8_9 (h ▸ m_q67_8)
  have nq16_9_q67_8 : q67_8 ≠ q16_9 := fun h => nq16_9 (h ▸ m_q67_8)
  have nq24_9_q67_8 : q67_8 ≠ q24_9 := fun h => nq24_9 (h ▸ m_q67_8)
  have nq32_9_q67_8 : q67_8 ≠ q32_9 := fun h => nq32_9 (h ▸ m_q67_8)
  have nq40_9_q67_8 : q67_8 ≠ q40_9 := fun h => nq40_9 (h ▸ m_q67_8)
  have nq48_9_q67_8 : q67_8 ≠ q48_9 := fun h => nq48_9 (h ▸ m_q67_8)
  have nq57_9_q67_8 : q67_8 ≠ q57_9 := fun h => nq57_9 (h ▸ m_q67_8)
  have nq65_9_q67_8 : q67_8 ≠ q65_9 := fun h => nq65_9 (h ▸ m_q67_8)
  have nq73_9_q67_8 : q67_8 ≠ q73_9 := fun h => nq73_9 (h ▸ m_q67_8)
  have nq81_9_q67_8 : q67_8 ≠ q81_9 := fun h => nq81_9 (h ▸ m_q67_8)
  have nq90_9_q67_8 : q67_8 ≠ q90_9 := fun h => nq90_9 (h ▸ m_q67_8)
  have nq99_9_q67_8 : q67_8 ≠ q99_9 := fun h => nq99_9 (h ▸ m_q67_8)
  have nq108_9_q67_8 : q67_8 ≠ q108_9 := fun h => nq108_9 (h ▸ m_q67_8)
  have nq116_9_q67_8 : q67_8 ≠ q116_9 := fun h => nq116_9 (h ▸ m_q67_8)
  have nq125_9_q67_8 : q67_8 ≠ q125_9 := fun h => nq125_9 (h ▸ m_q67_8)
  have nq134_9_q67_8 : q67_8 ≠ q134_9 := fun h => nq134_9 (h ▸ m_q67_8)
  have nq143_9_q67_8 : q67_8 ≠ q143_9 := fun h => nq143_9 (h ▸ m_q67_8)
  have nq152_9_q67_8 : q67_8 ≠ q152_9 := fun h => nq152_9 (h ▸ m_q67_8)
  have nq161_9_q67_8 : q67_8 ≠ q161_9 := fun h => nq161_9 (h ▸ m_q67_8)
  have nq170_9_q67_8 : q67_8 ≠ q170_9 := fun h => nq170_9 (h ▸ m_q67_8)
  have nq179_9_q67_8 : q67_8 ≠ q179_9 := fun h => nq179_9 (h ▸ m_q67_8)
  have nq188_9_q67_8 : q67_8 ≠ q188_9 := fun h => nq188_9 (h ▸ m_q67_8)
  have nq8_9_q871_8 : q871_8 ≠ q8_9 := fun h => nq8_9 (h ▸ m_q871_8)
  have nq16_9_q871_8 : q871_8 ≠ q16_9 := fun h => nq16_9 (h ▸ m_q871_8)
  have nq24_9_q871_8 : q871_8 ≠ q24_9 := fun h => nq24_9 (h ▸ m_q871_8)
  have nq32_9_q871_8 : q871_8 ≠ q32_9 := fun h => nq32_9 (h ▸ m_q871_8)
  have nq40_9_q871_8 : q871_8 ≠ q40_9 := fun h => nq40_9 (h ▸ m_q871_8)
  have nq48_9_q871_8 : q871_8 ≠ q48_9 := fun h => nq48_9 (h ▸ m_q871_8)
  have nq57_9_q871_8 : q871_8 ≠ q57_9 := fun h => nq57_9 (h ▸ m_q871_8)
  have nq65_9_q871_8 : q871_8 ≠ q65_9 := fun h => nq65_9 (h ▸ m_q871_8)
  have nq73_9_q871_8 : q871_8 ≠ q73_9 := fun h => nq73_9 (h ▸ m_q871_8)
  have nq81_9_q871_8 : q871_8 ≠ q81_9 := fun h => nq81_9 (h ▸ m_q871_8)
  have nq90_9_q871_8 : q871_8 ≠ q90_9 := fun h => nq90_9 (h ▸ m_q871_8)
  have nq99_9_q871_8 : q871_8 ≠ q99_9 := fun h => nq99_9 (h ▸ m_q871_8)
  have nq108_9_q871_8 : q871_8 ≠ q108_9 := fun h => nq108_9 (h ▸ m_q871_8)
  have nq116_9_q871_8 : q871_8 ≠ q116_9 := fun h => nq116_9 (h ▸ m_q871_8)
  have nq125_9_q871_8 : q871_8 ≠ q125_9 := fun h => nq125_9 (h ▸ m_q871_8)
  have nq134_9_q871_8 : q871_8 ≠ q134_9 := fun h => nq134_9 (h ▸ m_q871_8)
  have nq143_9_q871_8 : q871_8 ≠ q143_9 := fun h => nq143_9 (h ▸ m_q871_8)
  have nq152_9_q871_8 : q871_8 ≠ q152_9 := fun h => nq152_9 (h ▸ m_q871_8)
  have nq161_9_q871_8 : q871_8 ≠ q161_9 := fun h => nq161_9 (h ▸ m_q871_8)
  have nq170_9_q871_8 : q871_8 ≠ q170_9 := fun h => nq170_9 (h ▸ m_q871_8)
  have nq179_9_q871_8 : q871_8 ≠ q179_9 := fun h => nq179_9 (h ▸ m_q871_8)
  have nq188_9_q871_8 : q871_8 ≠ q188_9 := fun h => nq188_9 (h ▸ m_q871_8)
  have nq8_9_q1771_8 : q1771_8 ≠ q8_9 := fun h => nq8_9 (h ▸ m_q1771_8)
  have nq16_9_q1771_8 : q1771_8 ≠ q16_9 := fun h => nq16_9 (h ▸ m_q1771_8)
  have nq24_9_q1771_8 : q1771_8 ≠ q24_9 := fun h => nq24_9 (h ▸ m_q1771_8)
  have nq32_9_q1771_8 : q1771_8 ≠ q32_9 := fun h => nq32_9 (h ▸ m_q1771_8)
  have nq40_9_q1771_8 : q1771_8 ≠ q40_9 := fun h => nq40_9 (h ▸ m_q1771_8)
  have nq48_9_q1771_8 : q1771_8 ≠ q48_9 := fun h => nq48_9 (h ▸ m_q1771_8)
  have nq57_9_q1771_8 : q1771_8 ≠ q57_9 := fun h => nq57_9 (h ▸ m_q1771_8)
  have nq65_9_q1771_8 : q1771_8 ≠ q65_9 := fun h => nq65_9 (h ▸ m_q1771_8)
  have nq73_9_q1771_8 : q1771_8 ≠ q73_9 := fun h => nq73_9 (h ▸ m_q1771_8)
  have nq81_9_q1771_8 : q1771_8 ≠ q81_9 := fun h => nq81_9 (h ▸ m_q1771_8)
  have nq90_9_q1771_8 : q1771_8 ≠ q90_9 := fun h => nq90_9 (h ▸ m_q1771_8)
  have nq99_9_q1771_8 : q1771_8 ≠ q99_9 := fun h => nq99_9 (h ▸ m_q1771_8)
  have nq108_9_q1771_8 : q1771_8 ≠ q108_9 := fun h => nq108_9 (h ▸ m_q1771_8)
  have nq116_9_q1771_8 : q1771_8 ≠ q116_9 := fun h => nq116_9 (h ▸ m_q1771_8)
  have nq125_9_q1771_8 : q1771_8 ≠ q125_9 := fun h => nq125_9 (h ▸ m_q1771_8)
  have nq134_9_q1771_8 : q1771_8 ≠ q134_9 := fun h => nq134_9 (h ▸ m_q1771_8)
  have nq143_9_q1771_8 : q1771_8 ≠ q143_9 := fun h => nq143_9 (h ▸ m_q1771_8)
  have nq152_9_q1771_8 : q1771_8 ≠ q152_9 := fun h => nq152_9 (h ▸ m_q1771_8)
  have nq161_9_q1771_8 : q1771_8 ≠ q161_9 := fun h => nq161_9 (h ▸ m_q1771_8)
  have nq170_9_q1771_8 : q1771_8 ≠ q170_9 := fun h => nq170_9 (h ▸ m_q1771_8)
  have nq179_9_q1771_8 : q1771_8 ≠ q179_9 := fun h => nq179_9 (h ▸ m_q1771_8)
  have nq188_9_q1771_8 : q1771_8 ≠ q188_9 := fun h => nq188_9 (h ▸ m_q1771_8)
  have nq8_9_q2371_8 : q2371_8 ≠ q8_9 := fun h => nq8_9 (h ▸ m_q2371_8)
  have nq16_9_q2371_8 : q2371_8 ≠ q16_9 := fun h => nq16_9 (h ▸ m_q2371_8)
  have nq24_9_q2371_8 : q2371_8 ≠ q24_9 := fun h => nq24_9 (h ▸ m_q2371_8)
  have nq32_9_q2371_8 : q2371_8 ≠ q32_9 := fun h => nq32_9 (h ▸ m_q2371_8)
  have nq40_9_q2371_8 : q2371_8 ≠ q40_9 := fun h => nq40_9 (h ▸ m_q2371_8)
  have nq48_9_q2371_8 : q2371_8 ≠ q48_9 := fun h => nq48_9 (h ▸ m_q2371_8)
  have nq57_9_q2371_8 : q2371_8 ≠ q57_9 := fun h => nq57_9 (h ▸ m_q2371_8)
  have nq65_9_q2371_8 : q2371_8 ≠ q65_9 := fun h => nq65_9 (h ▸ m_q2371_8)
  have nq73_9_q2371_8 : q2371_8 ≠ q73_9 := fun h => nq73_9 (h ▸ m_q2371_8)
  have nq81_9_q2371_8 : q2371_8 ≠ q81_9 := fun h => nq81_9 (h ▸ m_q2371_8)
  have nq90_9_q2371_8 : q2371_8 ≠ q90_9 := fun h => nq90_9 (h ▸ m_q2371_8)
  have nq99_9_q2371_8 : q2371_8 ≠ q99_9 := fun h => nq99_9 (h ▸ m_q2371_8)
  have nq108_9_q2371_8 : q2371_8 ≠ q108_9 := fun h => nq108_9 (h ▸ m_q2371_8)
  have nq116_9_q2371_8 : q2371_8 ≠ q116_9 := fun h => nq116_9 (h ▸ m_q2371_8)
  have nq125_9_q2371_8 : q2371_8 ≠ q125_9 := fun h => nq125_9 (h ▸ m_q2371_8)
  have nq134_9_q2371_8 : q2371_8 ≠ q134_9 := fun h => nq134_9 (h ▸ m_q2371_8)
  have nq143_9_q2371_8 : q2371_8 ≠ q143_9 := fun h => nq143_9 (h ▸ m_q2371_8)
  have nq152_9_q2371_8 : q2371_8 ≠ q152_9 := fun h => nq152_9 (h ▸ m_q2371_8)
  have nq161_9_q2371_8 : q2371_8 ≠ q161_9 := fun h => nq161_9 (h ▸ m_q2371_8)
  have nq170_9_q2371_8 : q2371_8 ≠ q170_9 := fun h => nq170_9 (h ▸ m_q2371_8)
  have nq179_9_q2371_8 : q2371_8 ≠ q179_9 := fun h => nq179_9 (h ▸ m_q2371_8)
  have nq188_9_q2371_8 : q2371_8 ≠ q188_9 := fun h => nq188_9 (h ▸ m_q2371_8)
  have nq8_9_q72771_8 : q72771_8 ≠ q8_9 := fun h => nq8_9 (h ▸ m_q72771_8)
  have nq16_9_q72771_8 : q72771_8 ≠ q16_9 := fun h => nq16_9 (h ▸ m_q72771_8)
  have nq24_9_q72771_8 : q72771_8 ≠ q24_9 := fun h => nq24_9 (h ▸ m_q72771_8)
  have nq32_9_q72771_8 : q72771_8 ≠ q32_9 := fun h => nq32_9 (h ▸ m_q72771_8)
  have nq40_9_q72771_8 : q72771_8 ≠ q40_9 := fun h => nq40_9 (h ▸ m_q72771_8)
  have nq48_9_q72771_8 : q72771_8 ≠ q48_9 := fun h => nq48_9 (h ▸ m_q72771_8)
  have nq57_9_q72771_8 : q72771_8 ≠ q57_9 := fun h => nq57_9 (h ▸ m_q72771_8)
  have nq65_9_q72771_8 : q72771_8 ≠ q65_9 := fun h => nq65_9 (h ▸ m_q72771_8)
  have nq73_9_q72771_8 : q72771_8 ≠ q73_9 := fun h => nq73_9 (h ▸ m_q72771_8)
  have nq81_9_q72771_8 : q72771_8 ≠ q81_9 := fun h => nq81_9 (h ▸ m_q72771_8)
  have nq90_9_q72771_8 : q72771_8 ≠ q90_9 := fun h => nq90_9 (h ▸ m_q72771_8)
  have nq99_9_q72771_8 : q72771_8 ≠ q99_9 := fun h => nq99_9 (h ▸ m_q72771_8)
  have nq108_9_q72771_8 : q72771_8 ≠ q108_9 := fun h => nq108_9 (h ▸ m_q72771_8)
  have nq116_9_q72771_8 : q72771_8 ≠ q116_9 := fun h => nq116_9 (h ▸ m_q72771_8)
  have nq125_9_q72771_8 : q72771_8 ≠ q125_9 := fun h => nq125_9 (h ▸ m_q72771_8)
  have nq134_9_q72771_8 : q72771_8 ≠ q134_9 := fun h => nq134_9 (h ▸ m_q72771_8)
  have nq143_9_q72771_8 : q72771_8 ≠ q143_9 := fun h => nq143_9 (h ▸ m_q72771_8)
  have nq152_9_q72771_8 : q72771_8 ≠ q152_9 := fun h => nq152_9 (h ▸ m_q72771_8)
  have nq161_9_q72771_8 : q72771_8 ≠ q161_9 := fun h => nq161_9 (h ▸ m_q72771_8)
  have nq170_9_q72771_8 : q72771_8 ≠ q170_9 := fun h => nq170_9 (h ▸ m_q72771_8)
  have nq179_9_q72771_8 : q72771_8 ≠ q179_9 := fun h => nq179_9 (h ▸ m_q72771_8)
  have nq188_9_q72771_8 : q72771_8 ≠ q188_9 := fun h => nq188_9 (h ▸ m_q72771_8)
  have nq8_9_q7_8 : q7_8 ≠ q8_9 := fun h => nq8_9 (h ▸ m_q7_8)
  have nq16_9_q7_8 : q7_8 ≠ q16_9 := fun h => nq16_9 (h ▸ m_q7_8)
  have nq24_9_q7_8 : q7_8 ≠ q24_9 := fun h => nq24_9 (h ▸ m_q7_8)
  have nq32_9_q7_8 : q7_8 ≠ q32_9 := fun h => nq32_9 (h ▸ m_q7_8)
  have nq40_9_q7_8 : q7_8 ≠ q40_9 := fun h => nq40_9 (h ▸ m_q7_8)
  have nq48_9_q7_8 : q7_8 ≠ q48_9 := fun h => nq48_9 (h ▸ m_q7_8)
  have nq57_9_q7_8 : q7_8 ≠ q57_9 := fun h => nq57_9 (h ▸ m_q7_8)
  have nq65_9_q7_8 : q7_8 ≠ q65_9 := fun h => nq65_9 (h ▸ m_q7_8)
  have nq73_9_q7_8 : q7_8 ≠ q73_9 := fun h => nq73_9 (h ▸ m_q7_8)
  have nq81_9_q7_8 : q7_8 ≠ q81_9 := fun h => nq81_9 (h ▸ m_q7_8)
  have nq90_9_q7_8 : q7_8 ≠ q90_9 := fun h => nq90_9 (h ▸ m_q7_8)
  have nq99_9_q7_8 : q7_8 ≠ q99_9 := fun h => nq99_9 (h ▸ m_q7_8)
  have nq108_9_q7_8 : q7_8 ≠ q108_9 := fun h => nq108_9 (h ▸ m_q7_8)
  have nq116_9_q7_8 : q7_8 ≠ q116_9 := fun h => nq116_9 (h ▸ m_q7_8)
  have nq125_9_q7_8 : q7_8 ≠ q125_9 := fun h => nq125_9 (h ▸ m_q7_8)
  have nq134_9_q7_8 : q7_8 ≠ q134_9 := fun h => nq134_9 (h ▸ m_q7_8)
  have nq143_9_q7_8 : q7_8 ≠ q143_9 := fun h => nq143_9 (h ▸ m_q7_8)
  have nq152_9_q7_8 : q7_8 ≠ q152_9 := fun h => nq152_9 (h ▸ m_q7_8)
  have nq161_9_q7_8 : q7_8 ≠ q161_9 := fun h => nq161_9 (h ▸ m_q7_8)
  have nq170_9_q7_8 : q7_8 ≠ q170_9 := fun h => nq170_9 (h ▸ m_q7_8)
  have nq179_9_q7_8 : q7_8 ≠ q179_9 := fun h => nq179_9 (h ▸ m_q7_8)
  have nq188_9_q7_8 : q7_8 ≠ q188_9 := fun h => nq188_9 (h ▸ m_q7_8)
  have nq8_9_q8 : q8 ≠ q8_9 := fun h => nq8_9 (h ▸ m_q8)
  have nq16_9_q8 : q8 ≠ q16_9 := fun h => nq16_9 (h ▸ m_q8)
  have nq24_9_q8 : q8 ≠ q24_9 := fun h => nq24_9 (h ▸ m_q8)
  have nq32_9_q8 : q8 ≠ q32_9 := fun h => nq32_9 (h ▸ m_q8)
  have nq40_9_q8 : q8 ≠ q40_9 := fun h => nq40_9 (h ▸ m_q8)
  have nq48_9_q8 : q8 ≠ q48_9 := fun h => nq48_9 (h ▸ m_q8)
  have nq57_9_q8 : q8 ≠ q57_9 := fun h => nq57_9 (h ▸ m_q8)
  have nq65_9_q8 : q8 ≠ q65_9 := fun h => nq65_9 (h ▸ m_q8)
  have nq73_9_q8 : q8 ≠ q73_9 := fun h => nq73_9 (h ▸ m_q8)
  have nq81_9_q8 : q8 ≠ q81_9 := fun h => nq81_9 (h ▸ m_q8)
  have nq90_9_q8 : q8 ≠ q90_9 := fun h => nq90_9 (h ▸ m_q8)
  have nq99_9_q8 : q8 ≠ q99_9 := fun h => nq99_9 (h ▸ m_q8)
  have nq108_9_q8 : q8 ≠ q108_9 := fun h => nq108_9 (h ▸ m_q8)
  have nq116_9_q8 : q8 ≠ q116_9 := fun h => nq116_9 (h ▸ m_q8)
  have nq125_9_q8 : q8 ≠ q125_9 := fun h => nq125_9 (h ▸ m_q8)
  have nq134_9_q8 : q8 ≠ q134_9 := fun h => nq134_9 (h ▸ m_q8)
  have nq143_9_q8 : q8 ≠ q143_9 := fun h => nq143_9 (h ▸ m_q8)
  have nq152_9_q8 : q8 ≠ q152_9 := fun h => nq152_9 (h ▸ m_q8)
  have nq161_9_q8 : q8 ≠ q161_9 := fun h => nq161_9 (h ▸ m_q8)
  have nq170_9_q8 : q8 ≠ q170_9 := fun h => nq170_9 (h ▸ m_q8)
  have nq179_9_q8 : q8 ≠ q179_9 := fun h => nq179_9 (h ▸ m_q8)
  have nq188_9_q8 : q8 ≠ q188_9 := fun h => nq188_9 (h ▸ m_q8)
  have m_q0 : q0 ∈ L8 := mo12 q0 m_q0
  have m_q16_8 : q16_8 ∈ L8 := mo12 q16_8 m_q16_8
  have m_q23_8 : q23_8 ∈ L8 := mo12 q23_8 m_q23_8
  have m_q827_8 : q827_8 ∈ L8 := mo12 q827_8 m_q827_8
  have m_q34_8 : q34_8 ∈ L8 := mo12 q34_8 m_q34_8
  have m_q838_8 : q838_8 ∈ L8 := mo12 q838_8 m_q838_8
  have m_q45_8 : q45_8 ∈ L8 := mo12 q45_8 m_q45_8
  have m_q849_8 : q849_8 ∈ L8 := mo12 q849_8 m_q849_8
  have m_q56_8 : q56_8 ∈ L8 := mo12 q56_8 m_q56_8
  have m_q860_8 : q860_8 ∈ L8 := mo12 q860_8 m_q860_8
  have m_q1760_8 : q1760_8 ∈ L8 := mo12 q1760_8 m_q1760_8
  have m_q2660_8 : q2660_8 ∈ L8 := mo12 q2660_8 m_q2660_8
  have m_q3560_8 : q3560_8 ∈ L8 := mo12 q3560_8 m_q3560_8
  have m_q4160_8 : q4160_8 ∈ L8 := mo12 q4160_8 m_q4160_8
  have m_q74560_8 : q74560_8 ∈ L8 := mo12 q74560_8 m_q74560_8
  have m_q5560_8 : q5560_8 ∈ L8 := mo12 q5560_8 m_q5560_8
  have m_q6460_8 : q6460_8 ∈ L8 := mo12 q6460_8 m_q6460_8
  have m_q67_8 : q67_8 ∈ L8 := mo12 q67_8 m_q67_8
  have m_q871_8 : q871_8 ∈ L8 := mo12 q871_8 m_q871_8
  have m_q1771_8 : q1771_8 ∈ L8 := mo12 q1771_8 m_q1771_8
  have m_q2371_8 : q2371_8 ∈ L8 := mo12 q2371_8 m_q2371_8
  have m_q72771_8 : q72771_8 ∈ L8 := mo12 q72771_8 m_q72771_8
  have m_q7_8 : q7_8 ∈ L8 := mo12 q7_8 m_q7_8
  have m_q8 : q8 ∈ L8 := mo12 q8 m_q8
  have e_q8 := E_q8
  have nzXq8_9 : q8_9 ∉ L3 := fun h => nq8_9 (monoX _ h)
  have nzXq16_9 : q16_9 ∉ L3 := fun h => nq16_9 (monoX _ h)
  have nzXq24_9 : q24_9 ∉ L3 := fun h => nq24_9 (monoX _ h)
  have nzXq32_9 : q32_9 ∉ L3 := fun h => nq32_9 (monoX _ h)
  have nzXq40_9 : q40_9 ∉ L3 := fun h => nq40_9 (monoX _ h)
  have nzXq48_9 : q48_9 ∉ L3 := fun h => nq48_9 (monoX _ h)
  have nzXq57_9 : q57_9 ∉ L3 := fun h => nq57_9 (monoX _ h)
  have nzXq65_9 : q65_9 ∉ L3 := fun h => nq65_9 (monoX _ h)
  have nzXq73_9 : q73_9 ∉ L3 := fun h => nq73_9 (monoX _ h)
  have nzXq81_9 : q81_9 ∉ L3 := fun h => nq81_9 (monoX _ h)
  have nzXq90_9 : q90_9 ∉ L3 := fun h => nq90_9 (monoX _ h)
  have nzXq99_9 : q99_9 ∉ L3 := fun h => nq99_9 (monoX _ h)
  have nzXq108_9 : q108_9 ∉ L3 := fun h => nq108_9 (monoX _ h)
  have nzXq116_9 : q116_9 ∉ L3 := fun h => nq116_9 (monoX _ h)
  have nzXq125_9 : q125_9 ∉ L3 := fun h => nq125_9 (monoX _ h)
  have nzXq134_9 : q134_9 ∉ L3 := fun h => nq134_9 (monoX _ h)
  have nzXq143_9 : q143_9 ∉ L3 := fun h => nq143_9 (monoX _ h)
  have nzXq152_9 : q152_9 ∉ L3 := fun h => nq152_9 (monoX _ h)
  have nzXq161_9 : q161_9 ∉ L3 := fun h => nq161_9 (monoX _ h)
  have nzXq170_9 : q170_9 ∉ L3 := fun h => nq170_9 (monoX _ h)
  have nzXq179_9 : q179_9 ∉ L3 := fun h => nq179_9 (monoX _ h)
  have nzXq188_9 : q188_9 ∉ L3 := fun h => nq188_9 (monoX _ h)
  have frX : ∀ b, b ∈ L3 → f9 b = f4 b := fun b mb  => (fv12 b (monoX b mb) (fun h => nzXq8 (h ▸ mb))).trans (frX b mb )
  have monoX : ∀ b, b ∈ L3 → b ∈ L8 := fun b h => mo12 b (monoX b h)
  refine lv_astore_n (lv' := [(2, .ref q8), (1, .ref q0), (0, .ref bs)]) hx hb dL_law_15 rfl hl (by decide) rfl (fun ls hl => ?_)
  refine lv_iconst (v := 0) hx hb dL_law_16 (by decide) ?_
  refine lv_istore_n (lv' := [(3, .int 0), (2, .ref q8), (1, .ref q0), (0, .ref bs)]) hx hb dL_law_17 rfl hl (by decide) rfl (fun ls hl => ?_)
  have hl : lv_has ls 4 [(3, .int (nI 0)), (2, .ref q8), (1, .ref q0), (0, .ref bs)] := hl
  have I0 : InvF g L8 f9 q0 q8 := by
    refine init_invF (Lx := L3) (LP := LP8) (A := fun k => [q0, q7_8, q16_8, q23_8, q827_8, q34_8, q838_8, q45_8, q849_8, q56_8, q860_8, q1760_8, q2660_8, q3560_8, q4160_8, q74560_8, q5560_8, q6460_8, q67_8, q871_8, q1771_8, q2371_8, q72771_8].getD k 0) (lb := lb8) (lw := lw8) (B := fun k => [q8, q8_9, q16_9, q24_9, q32_9, q40_9, q48_9, q57_9, q65_9, q73_9, q81_9, q90_9, q99_9, q108_9, q116_9, 0, q125_9, q134_9, q143_9, q152_9, q161_9, q170_9, q179_9, q188_9].getD k 0) (kf := kf_8) ?_ ?_ e_q0 e_q7_8 e_q16_8 ?_ ?_ hWW8 ?_ ?_ ?_
    · exact all23 ⟨m_q0, lx_q0, hLP8 q0 (by simp only [List.mem_cons, true_or, or_true])⟩ ⟨m_q7_8, lx_q7_8, hLP8 q7_8 (by simp only [List.mem_cons, true_or, or_true])⟩ ⟨m_q16_8, lx_q16_8, hLP8 q16_8 (by simp only [List.mem_cons, true_or, or_true])⟩ ⟨m_q23_8, lx_q23_8, hLP8 q23_8 (by simp only [List.mem_cons, true_or, or_true])⟩ ⟨m_q827_8, lx_q827_8, hLP8 q827_8 (by simp only [List.mem_cons, true_or, or_true])⟩ ⟨m_q34_8, lx_q34_8, hLP8 q34_8 (by simp only [List.mem_cons, true_or, or_true])⟩ ⟨m_q838_8, lx_q838_8, hLP8 q838_8 (by simp only [List.mem_cons, true_or, or_true])⟩ ⟨m_q45_8, lx_q45_8, hLP8 q45_8 (by simp only [List.mem_cons, true_or, or_true])⟩ ⟨m_q849_8, lx_q849_8, hLP8 q849_8 (by simp only [List.mem_cons, true_or, or_true])⟩ ⟨m_q56_8, lx_q56_8, hLP8 q56_8 (by simp only [List.mem_cons, true_or, or_true])⟩ ⟨m_q860_8, lx_q860_8, hLP8 q860_8 (by simp only [List.mem_cons, true_or, or_true])⟩ ⟨m_q1760_8, lx_q1760_8, hLP8 q1760_8 (by simp only [List.mem_cons, true_or, or_true])⟩ ⟨m_q2660_8, lx_q2660_8, hLP8 q2660_8 (by simp only [List.mem_cons, true_or, or_true])⟩ ⟨m_q3560_8, lx_q3560_8, hLP8 q3560_8 (by simp only [List.mem_cons, true_or, or_true])⟩ ⟨m_q4160_8, lx_q4160_8, hLP8 q4160_8 (by simp only [List.mem_cons, true_or, or_true])⟩ ⟨m_q74560_8, lx_q74560_8, hLP8 q74560_8 (by simp only [List.mem_cons, true_or, or_true])⟩ ⟨m_q5560_8, lx_q5560_8, hLP8 q5560_8 (by simp only [List.mem_cons, true_or, or_true])⟩ ⟨m_q6460_8, lx_q6460_8, hLP8 q6460_8 (by simp only [List.mem_cons, true_or, or_true])⟩ ⟨m_q67_8, lx_q67_8, hLP8 q67_8 (by simp only [List.mem_cons, true_or, or_true])⟩ ⟨m_q871_8, lx_q871_8, hLP8 q871_8 (by simp only [List.mem_cons, true_or, or_true])⟩ ⟨m_q1771_8, lx_q1771_8, hLP8 q1771_8 (by simp only [List.mem_cons, true_or, or_true])⟩ ⟨m_q2371_8, lx_q2371_8, hLP8 q2371_8 (by simp only [List.mem_cons, true_or, or_true])⟩ ⟨m_q72771_8, lx_q72771_8, hLP8 q72771_8 (by simp only [List.mem_cons, true_or, or_true])⟩
    · intro p hp
      simp only [prL, List.mem_cons, List.not_mem_nil, or_false] at hp
      rcases hp with rfl | rfl | rfl | rfl | rfl | rfl | rfl | rfl | rfl | rfl | rfl | rfl | rfl | rfl | rfl | rfl | rfl | rfl | rfl
      · exact Ne.symm hne8.1
      · exact Ne.symm hne8.2.1
      · exact Ne.symm hne8.2.2.2.1
      · exact Ne.symm hne8.2.2.2.2.1
      · exact Ne.symm hne8.2.2.2.2.2.2.1
      · exact Ne.symm hne8.2.2.2.2.2.2.2.2.2.1
      · exact Ne.symm hne8.2.2.1
      · exact Ne.symm hne8.2.2.2.2.2.1
      · exact Ne.symm hne8.2.2.2.2.2.2.2.1
      · exact Ne.symm hne8.2.2.2.2.2.2.2.2.2.2.1
      · exact Ne.symm hne8.2.2.2.2.2.2.2.2.1
      · exact Ne.symm hne8.2.2.2.2.2.2.2.2.2.2.2.1
      · exact Ne.symm h608.2.1
      · exact Ne.symm h608.2.2.1
      · exact Ne.symm h608.1
      · exact Ne.symm hne8.2.2.2.2.2.2.2.2.2.2.2.2.1
      · exact Ne.symm hne8.2.2.2.2.2.2.2.2.2.2.2.2.2
      · exact Ne.symm h608.2.2.2
      · exact Ne.symm h718
    · exact all23 (fun h => absurd h (by decide)) (fun h => absurd h (by decide)) (fun h => absurd h (by decide)) (fun _ => ⟨_, e_q23_8⟩) (fun _ => ⟨_, e_q827_8⟩) (fun _ => ⟨_, e_q34_8⟩) (fun _ => ⟨_, e_q838_8⟩) (fun _ => ⟨_, e_q45_8⟩) (fun _ => ⟨_, e_q849_8⟩) (fun _ => ⟨_, _, e_q56_8⟩) (fun _ => ⟨_, e_q860_8⟩) (fun _ => ⟨_, e_q1760_8⟩) (fun _ => ⟨_, e_q2660_8⟩) (fun _ => ⟨_, e_q3560_8⟩) (fun _ => ⟨_, e_q4160_8⟩) (fun _ => ⟨_, e_q74560_8⟩) (fun _ => ⟨_, e_q5560_8⟩) (fun _ => ⟨_, e_q6460_8⟩) (fun _ => ⟨_, _, e_q67_8⟩) (fun _ => ⟨_, e_q871_8⟩) (fun _ => ⟨_, e_q1771_8⟩) (fun _ => ⟨_, e_q2371_8⟩) (fun _ => ⟨_, e_q72771_8⟩)
    · intro j hj
      obtain ⟨h1, h2, h3, h4, h5, h6, h7⟩ := hW8 j hj
      exact ⟨h1, monoX _ h2, (frX _ h2).trans h3, monoX _ h4, (frX _ h4).trans h5, h6, h7, h2, h4⟩
    · exact all24 ⟨m_q8, nzXq8⟩ ⟨m_q8_9, nzXq8_9⟩ ⟨m_q16_9, nzXq16_9⟩ ⟨m_q24_9, nzXq24_9⟩ ⟨m_q32_9, nzXq32_9⟩ ⟨m_q40_9, nzXq40_9⟩ ⟨m_q48_9, nzXq48_9⟩ ⟨m_q57_9, nzXq57_9⟩ ⟨m_q65_9, nzXq65_9⟩ ⟨m_q73_9, nzXq73_9⟩ ⟨m_q81_9, nzXq81_9⟩ ⟨m_q90_9, nzXq90_9⟩ ⟨m_q99_9, nzXq99_9⟩ ⟨m_q108_9, nzXq108_9⟩ ⟨m_q116_9, nzXq116_9⟩ ⟨m_q125_9, nzXq125_9⟩ ⟨m_q134_9, nzXq134_9⟩ ⟨m_q143_9, nzXq143_9⟩ ⟨m_q152_9, nzXq152_9⟩ ⟨m_q161_9, nzXq161_9⟩ ⟨m_q170_9, nzXq170_9⟩ ⟨m_q179_9, nzXq179_9⟩ ⟨m_q188_9, nzXq188_9⟩
    · exact nod24 hnd9
    · refine ⟨e_q8, e_q8_9, e_q16_9, e_q24_9, e_q32_9, e_q40_9, e_q48_9, e_q57_9, e_q65_9, e_q73_9, e_q81_9, e_q90_9, e_q99_9, e_q108_9, e_q116_9, ?_⟩
      intro k hk
      simp only [List.mem_cons, List.not_mem_nil, or_false] at hk
      rcases hk with rfl | rfl | rfl | rfl | rfl | rfl | rfl | rfl
      · exact ⟨_, e_q125_9⟩
      · exact ⟨_, e_q134_9⟩
      · exact ⟨_, e_q143_9⟩
      · exact ⟨_, e_q152_9⟩
      · exact ⟨_, e_q161_9⟩
      · exact ⟨_, e_q170_9⟩
      · exact ⟨_, e_q179_9⟩
      · exact ⟨_, e_q188_9⟩
  refine law_loop hx hb hr hml hown hts hX hbl hlk hL 512 0 62 310045 _ _ _ _ _ (by decide) (by omega) (by decide) (by decide) S hl I0
theorem whole_start {p : Program} {e : Env} {s : State} {m : MethodId} {below : List Frame} {meth : Method} {c : Code} (l : Launch) {b L : Nat} {xs : Nat → Int32} (hL : L ≤ 3072) (C0 : lw_At p s m meth c b L xs) : W p l e room_1 s m #[Value.ref b] below meth c s.heap [] 0 0 (lw_Z below #[Value.ref b] s) (entryFrame m ([Value.ref b] : List Value).toArray 4) := law_go l hL C0
