/-! ===== worlds, exact: the class ===== -/
def AG (n : Nat) (u v : Nat → Int64) : Prop := ∀ i, i < n → u i = v i
theorem AG_r (n : Nat) (v : Nat → Int64) : AG n v v := fun _ _ => rfl
theorem AG_t {n : Nat} {u v w : Nat → Int64} (h : AG n u v) (k : AG n v w) : AG n u w := fun i hi => (h i hi).trans (k i hi)
theorem AG_s {n : Nat} {u v : Nat → Int64} (h : AG n u v) : AG n v u := fun i hi => (h i hi).symm
theorem AG_w {n : Nat} {u v : Nat → Int64} (h : AG n u v) (k : worldR v n) : worldR u n := by
  intro i j hij hj
  rw [h i (by omega), h j hj]
  exact k i j hij hj
theorem AG_m {n : Nat} {u v : Nat → Int64} (h : AG n u v) {t : Int64} : memW n u t ↔ memW n v t := by
  constructor
  · rintro ⟨a, ha, e⟩
    exact ⟨a, ha, by rw [← h a ha]; exact e⟩
  · rintro ⟨a, ha, e⟩
    exact ⟨a, ha, by rw [h a ha]; exact e⟩
theorem AG_cb {n : Nat} {u v : Nat → Int64} (h : AG n u v) (k : worldR v n) (hn : n ≤ 1000) (t : Int64) : cb u n t = cb v n t := by
  have hc := cb_le v n t
  obtain ⟨h1, h2⟩ := cb_spec (t := t) k.rising hn
  exact cb_eq (AG_w h k) hn hc (fun i hi => by rw [h i (by omega)]; exact h1 i hi) (fun i hi hi2 => by rw [h i hi2]; exact h2 i hi hi2)
theorem AG_ins {n : Nat} {u v : Nat → Int64} (h : AG n u v) (k : worldR v n) (hn : n ≤ 1000) (t : Int64) : AG (n + 1) (insR u n t) (insR v n t) := by
  intro a ha
  have e := AG_cb h k hn t
  have hc := cb_le v n t
  rcases Nat.lt_trichotomy a (cb v n t) with q | q | q
  · rw [insR_lo (by omega), insR_lo q]
    exact h a (by omega)
  · rw [q, insR_at]
    conv => lhs; rw [← e]
    exact insR_at
  · rw [insR_hi (by omega) (by omega), insR_hi q (by omega)]
    exact h (a - 1) (by omega)
theorem AG_del {n c : Nat} {u v : Nat → Int64} (h : AG n u v) (hc : c < n) : AG (n - 1) (delR u n c) (delR v n c) := by
  intro a ha
  rcases Nat.lt_or_ge a c with q | q
  · rw [delR_lo q, delR_lo q]
    exact h a (by omega)
  · rw [delR_hi q (by omega), delR_hi q (by omega)]
    exact h (a + 1) (by omega)
theorem AG_cpy {n : Nat} (v d : Nat → Int64) : AG n (va_cpy v d 0 0 n) v := by
  intro i hi
  rw [pk_cpy_in (by omega) (by omega)]
  congr 1
  omega
theorem hasW {n : Nat} {v : Nat → Int64} (hw : worldR v n) (hn : n ≤ 1000) (t : Int64) : (cb v n t < n ∧ v (cb v n t) = t) ↔ memW n v t := has_iff hw.rising hn
/-- what span does to a world -/
def SpR (n : Nat) (v : Nat → Int64) (fi : Int64) (st nn : Int32) (m : Nat) (u : Nat → Int64) : Prop :=
  ((nn < 1 ∨ ¬ nn ≤ 1000 ∨ ∃ N, N ≤ 1000 ∧ nn = nI N ∧ 1000 < (spn n v fi st N).1) ∧ m = n ∧ AG n u v) ∨
  (¬ nn < 1 ∧ nn ≤ 1000 ∧ ∃ N, N ≤ 1000 ∧ nn = nI N ∧ (spn n v fi st N).1 ≤ 1000 ∧ m = (spn n v fi st N).1 ∧ AG m u (spn n v fi st N).2)
theorem span_loop8 {n N : Nat} (hn : n ≤ 1000) (hN : N ≤ 1000) {v : Nat → Int64} (hw : worldR v n) (fi : Int64) (st : Int32) (wv d : Nat → Int64) (wn : Int32) (hd : AG n d v) :
    OK (mX8_span_L40 fi st (nI N) wn wv FU 0 (nI n) d) (fun o => (∃ x, o = .inl x ∧ x.1 = -4 ∧ 1000 < (spn n v fi st N).1 ∧ x.2.1 = wn ∧ x.2.2.1 = wv ∧ BN x.2.2.2.1) ∨ ∃ x, o = .inr x ∧ (spn n v fi st N).1 ≤ 1000 ∧ x.2.1 = nI (spn n v fi st N).1 ∧ AG (spn n v fi st N).1 x.2.2 (spn n v fi st N).2) := by
  refine OK_for (fun fu k (x : Int32 × (Nat → Int64)) => mX8_span_L40 fi st (nI N) wn wv fu k x.1 x.2) N (by omega) (fun k x => (spn n v fi st k).1 ≤ 1000 ∧ x.1 = nI (spn n v fi st k).1 ∧ AG (spn n v fi st k).1 x.2 (spn n v fi st k).2) _ (s := (nI n, d)) ⟨hn, rfl, hd⟩ ?_ ?_
  · rintro fu ⟨x1, x2⟩ ⟨h1, h2, h3⟩
    show OK (mX8_span_L40 fi st (nI N) wn wv (fu + 1) (nI N) x1 x2) _
    rw [mX8_span_L40]
    exact OK_T (Int32.le_refl _) (OK_some (Or.inr ⟨_, rfl, h1, h2, h3⟩))
  · rintro fu k ⟨x1, x2⟩ hk ⟨h1, h2, h3⟩ ih
    show OK (mX8_span_L40 fi st (nI N) wn wv (fu + 1) (nI k) x1 x2) _
    dsimp only at h2 h3
    subst h2
    have hwk : worldR (spn n v fi st k).2 (spn n v fi st k).1 := spn_world hw hn k (by omega)
    have hwx := AG_w h3 hwk
    have hm : (cb x2 (spn n v fi st k).1 (tk fi st k) < (spn n v fi st k).1 ∧ x2 (cb x2 (spn n v fi st k).1 (tk fi st k)) = tk fi st k) ↔ memW (spn n v fi st k).1 (spn n v fi st k).2 (tk fi st k) := (hasW hwx h1 _).trans (AG_m h3)
    rw [mX8_span_L40, nI_s]
    refine OK_F (nI_ge hk (by omega)) (OK_lt ?_)
    show OK ((mX0_has (nI (spn n v fi st k).1) x2 (tk fi st k)).bind _) _
    rw [bag_has h1, sb_]
    by_cases q : memW (spn n v fi st k).1 (spn n v fi st k).2 (tk fi st k)
    · rw [if_pos (hm.mpr q)]
      refine OK_F (by decide) (ih (_, x2) ?_)
      rw [spn_y q]
      exact ⟨h1, rfl, h3⟩
    · rw [if_neg (fun w => q (hm.mp w))]
      refine OK_T rfl ?_
      show OK ((mX0_insert (nI (spn n v fi st k).1) x2 (tk fi st k)).bind _) _
      rcases Nat.lt_or_ge (spn n v fi st k).1 1000 with h5 | h5
      · refine OK_be (bag_ins h5) (OK_F (show ¬ (1 : Int32) = 0 by decide) (ih (_, _) ?_))
        rw [spn_n q]
        exact ⟨by omega, rfl, AG_ins h3 hwk h1 _⟩
      · refine OK_be (bag_insF (by omega)) (OK_T rfl (OK_some (Or.inl ⟨_, rfl, rfl, ?_, rfl, rfl, ⟨_, h1, rfl⟩⟩)))
        have h6 := congrArg Prod.fst (spn_n q)
        have h7 : (spn n v fi st (k + 1)).1 ≤ (spn n v fi st N).1 := spn_mono hk
        dsimp only at h6
        omega
/-- what span answers -/
def SpA (n : Nat) (v : Nat → Int64) (fi : Int64) (st nn : Int32) (r : Int32) : Prop :=
  ((nn < 1 ∨ ¬ nn ≤ 1000) ∧ r = -1) ∨ (¬ nn < 1 ∧ nn ≤ 1000 ∧ ∃ N, N ≤ 1000 ∧ nn = nI N ∧ ((1000 < (spn n v fi st N).1 ∧ r = -4) ∨ ((spn n v fi st N).1 ≤ 1000 ∧ r = nI (spn n v fi st N).1)))
theorem SpA_det {n : Nat} {v : Nat → Int64} {fi : Int64} {st nn r r' : Int32} (h : SpA n v fi st nn r) (h' : SpA n v fi st nn r') : r = r' := by
  rcases h with ⟨h1, h2⟩ | ⟨h1, h2, N, h3, h4, h5⟩
  · rcases h' with ⟨-, g2⟩ | ⟨g1, g2, -⟩
    · rw [h2, g2]
    · exact absurd h1 (fun q => q.elim g1 (fun q => q g2))
  · rcases h' with ⟨g1, -⟩ | ⟨g1, g2, N', g3, g4, g5⟩
    · exact absurd g1 (fun q => q.elim h1 (fun q => q h2))
    · have e : N = N' := (nI_eq (by omega) (by omega)).mp (h4.symm.trans g4)
      subst e
      rcases h5 with ⟨a1, a2⟩ | ⟨a1, a2⟩
      · rcases g5 with ⟨b1, b2⟩ | ⟨b1, b2⟩
        · rw [a2, b2]
        · omega
      · rcases g5 with ⟨b1, b2⟩ | ⟨b1, b2⟩
        · omega
        · rw [a2, b2]
def TkA (n : Nat) (v : Nat → Int64) (t : Int64) (r : Int32) : Prop := (¬ memW n v t ∧ r = -1) ∨ (memW n v t ∧ r = nI (n - 1))
theorem TkA_det {n : Nat} {v : Nat → Int64} {t : Int64} {r r' : Int32} (h : TkA n v t r) (h' : TkA n v t r') : r = r' := by
  rcases h with ⟨h1, h2⟩ | ⟨h1, h2⟩
  · rcases h' with ⟨-, g2⟩ | ⟨g1, -⟩
    · rw [h2, g2]
    · exact absurd g1 h1
  · rcases h' with ⟨g1, -⟩ | ⟨-, g2⟩
    · exact absurd h1 g1
    · rw [h2, g2]
/-- what take does to a world -/
def TkR (n : Nat) (v : Nat → Int64) (t : Int64) (m : Nat) (u : Nat → Int64) : Prop := (¬ memW n v t ∧ m = n ∧ AG n u v) ∨ ∃ c, c < n ∧ v c = t ∧ m = n - 1 ∧ AG m u (delR v n c)
theorem stake_ok {n : Nat} (hn : n ≤ 1000) {v : Nat → Int64} (hw : worldR v n) (t : Int64) : OK (mX8_take t (nI n) v) (fun z => ∃ m, z.2.1 = nI m ∧ TkR n v t m z.2.2 ∧ TkA n v t z.1) := by
  unfold mX8_take
  by_cases q : cb v n t < n ∧ v (cb v n t) = t
  · exact OK_be (bag_take1 hn q) (OK_F (show ¬ (1 : Int32) = 0 by decide) (OK_be rfl (OK_some ⟨n - 1, rfl, Or.inr ⟨_, q.1, q.2, rfl, AG_r _ _⟩, Or.inr ⟨⟨_, q.1, q.2⟩, rfl⟩⟩)))
  · exact OK_be (bag_take0 hn q) (OK_T rfl (OK_some ⟨n, rfl, Or.inl ⟨fun w => q ((hasW hw hn t).mpr w), rfl, AG_r _ _⟩, Or.inl ⟨fun w => q ((hasW hw hn t).mpr w), rfl⟩⟩))
