/-! ===== what a mirror answers ===== -/
def OK {α : Type} (o : Option α) (Q : α → Prop) : Prop := ∃ z, o = some z ∧ Q z
theorem OK_some {α : Type} {a : α} {Q : α → Prop} (h : Q a) : OK (some a) Q := ⟨a, rfl, h⟩
theorem OK_eq {α : Type} {o : Option α} {a : α} {Q : α → Prop} (e : o = some a) (h : Q a) : OK o Q := ⟨a, e, h⟩
theorem OK_mono {α : Type} {o : Option α} {P Q : α → Prop} (h : OK o P) (hq : ∀ z, P z → Q z) : OK o Q := by
  obtain ⟨z, e, hz⟩ := h
  exact ⟨z, e, hq z hz⟩
theorem OK_bind {α β : Type} {o : Option α} {k : α → Option β} {P : α → Prop} {Q : β → Prop} (h : OK o P) (hk : ∀ z, P z → OK (k z) Q) : OK (o.bind k) Q := by
  obtain ⟨z, rfl, hz⟩ := h
  exact hk z hz
theorem OK_be {α β : Type} {o : Option α} {k : α → Option β} {a : α} {Q : β → Prop} (e : o = some a) (hk : OK (k a) Q) : OK (o.bind k) Q := by
  subst e; exact hk
theorem OK_ite {α : Type} {c : Prop} {dc : Decidable c} {a b : Option α} {Q : α → Prop} (h1 : c → OK a Q) (h2 : ¬ c → OK b Q) : OK (if c then a else b) Q := by
  by_cases hc : c
  · rw [if_pos hc]; exact h1 hc
  · rw [if_neg hc]; exact h2 hc
theorem OK_T {α : Type} {c : Prop} {dc : Decidable c} {a b : Option α} {Q : α → Prop} (hc : c) (h : OK a Q) : OK (if c then a else b) Q := by rw [if_pos hc]; exact h
theorem OK_F {α : Type} {c : Prop} {dc : Decidable c} {a b : Option α} {Q : α → Prop} (hc : ¬ c) (h : OK b Q) : OK (if c then a else b) Q := by rw [if_neg hc]; exact h
theorem OK_lt {α β : Type} {a : α} {k : α → Option β} {Q : β → Prop} (h : OK (k a) Q) : OK (lt_ a k) Q := h
theorem OK_sum {α β γ : Type} {o : α ⊕ β} {k1 : α → Option γ} {k2 : β → Option γ} {Q : γ → Prop} (h1 : ∀ a, o = .inl a → OK (k1 a) Q) (h2 : ∀ b, o = .inr b → OK (k2 b) Q) : OK (Sum.elim k1 k2 o) Q := by
  cases o with
  | inl a => exact h1 a rfl
  | inr b => exact h2 b rfl
theorem sb_ {α β : Type} {a : α} {k : α → Option β} : (some a).bind k = k a := rfl
theorem OK_use {α : Type} {o : Option α} {Q : α → Prop} {z : α} (h : OK o Q) (e : o = some z) : Q z := by
  obtain ⟨y, e1, hy⟩ := h
  rw [e] at e1
  exact Option.some.inj e1 ▸ hy
/-- a loop that counts up to N -/
theorem OK_up {σ τ : Type} (F : Nat → Int32 → σ → Option τ) (N : Nat) (P : Nat → σ → Prop) (Q : τ → Prop)
    (hex : ∀ fu s, P N s → OK (F (fu + 1) (nI N) s) Q)
    (hst : ∀ fu i s, i < N → P i s → (∀ s', P (i + 1) s' → OK (F fu (nI (i + 1)) s') Q) → OK (F (fu + 1) (nI i) s) Q) :
    ∀ (d i : Nat) (s : σ) (fu : Nat), i + d = N → P i s → d < fu → OK (F fu (nI i) s) Q := by
  intro d
  induction d with
  | zero =>
    intro i s fu hi hP hf
    obtain ⟨k, rfl⟩ : ∃ k, fu = k + 1 := ⟨fu - 1, by omega⟩
    obtain rfl : i = N := by omega
    exact hex k s hP
  | succ d ih =>
    intro i s fu hi hP hf
    obtain ⟨k, rfl⟩ : ∃ k, fu = k + 1 := ⟨fu - 1, by omega⟩
    exact hst k i s (by omega) hP (fun s' h => ih (i + 1) s' k (by omega) h (by omega))
theorem OK_for {σ τ : Type} (F : Nat → Int32 → σ → Option τ) (N : Nat) (hN : N < 5000) (P : Nat → σ → Prop) (Q : τ → Prop) {s : σ} (h0 : P 0 s)
    (hex : ∀ fu s, P N s → OK (F (fu + 1) (nI N) s) Q)
    (hst : ∀ fu i s, i < N → P i s → (∀ s', P (i + 1) s' → OK (F fu (nI (i + 1)) s') Q) → OK (F (fu + 1) (nI i) s) Q) : OK (F FU 0 s) Q :=
  OK_up F N P Q hex hst N 0 s FU (by omega) h0 hN
theorem ix_nI {k n : Nat} (h : k < n) (hn : n < 2 ^ 31 := by decide) : ix (nI k) n = true := ix_iff.mpr (vp_in_nI h hn)
theorem cl_nI {k : Nat} (h : k < 2 ^ 31 := by omega) : Int32.toNatClampNeg (nI k) = k := nI_clamp h
theorem nI_s (k : Nat) : nI k + (1 : Int32) = nI (k + 1) := nI_1 k
/-- Arrays.fill -/
def filI (n : Nat) (v : Nat → Int32) (x : Int32) : Nat → Int32 := fun k => if k < n then x else v k
def filJ (n : Nat) (v : Nat → Int64) (x : Int64) : Nat → Int64 := fun k => if k < n then x else v k
theorem fill_I {n : Nat} (hn : n < 5000) (v : Nat → Int32) (x : Int32) : mJ7_fill_53178 n v x = some (filI n v x) := by
  have h : OK (mJ7_fill_53178_L5 n x FU 0 v) (fun z => z.2 = filI n v x) := by
    refine OK_for (fun fu i (s : Nat → Int32) => mJ7_fill_53178_L5 n x fu i s) n hn (fun i s => s = filI i v x) _ ?_ ?_ ?_
    · funext k; simp [filI]
    · intro fu s hs
      show OK (mJ7_fill_53178_L5 n x (fu + 1) (nI n) s) _
      rw [mJ7_fill_53178_L5]
      exact OK_T (Int32.le_refl _) (OK_some hs)
    · intro fu i s hi hs ih
      show OK (mJ7_fill_53178_L5 n x (fu + 1) (nI i) s) _
      rw [mJ7_fill_53178_L5]
      refine OK_F (nI_ge hi (by omega)) (OK_T (ix_nI hi (by omega)) ?_)
      rw [nI_s]
      refine ih _ ?_
      rw [cl_nI, hs]
      funext k
      simp only [upd, filI]
      by_cases h1 : k = i
      · rw [if_pos h1, if_pos (by omega)]
      · rw [if_neg h1]
        by_cases h2 : k < i
        · rw [if_pos h2, if_pos (by omega)]
        · rw [if_neg h2, if_neg (by omega)]
  obtain ⟨z, e, hz⟩ := h
  unfold mJ7_fill_53178
  rw [e]
  exact congrArg some hz
theorem fill_J {n : Nat} (hn : n < 5000) (v : Nat → Int64) (x : Int64) : mJ7_fill_d0a16 n v x = some (filJ n v x) := by
  have h : OK (mJ7_fill_d0a16_L6 n x FU 0 v) (fun z => z.2 = filJ n v x) := by
    refine OK_for (fun fu i (s : Nat → Int64) => mJ7_fill_d0a16_L6 n x fu i s) n hn (fun i s => s = filJ i v x) _ ?_ ?_ ?_
    · funext k; simp [filJ]
    · intro fu s hs
      show OK (mJ7_fill_d0a16_L6 n x (fu + 1) (nI n) s) _
      rw [mJ7_fill_d0a16_L6]
      exact OK_T (Int32.le_refl _) (OK_some hs)
    · intro fu i s hi hs ih
      show OK (mJ7_fill_d0a16_L6 n x (fu + 1) (nI i) s) _
      rw [mJ7_fill_d0a16_L6]
      refine OK_F (nI_ge hi (by omega)) (OK_T (ix_nI hi (by omega)) ?_)
      rw [nI_s]
      refine ih _ ?_
      rw [cl_nI, hs]
      funext k
      simp only [vp_updL, filJ]
      by_cases h1 : k = i
      · rw [if_pos h1, if_pos (by omega)]
      · rw [if_neg h1]
        by_cases h2 : k < i
        · rw [if_pos h2, if_pos (by omega)]
        · rw [if_neg h2, if_neg (by omega)]
  obtain ⟨z, e, hz⟩ := h
  unfold mJ7_fill_d0a16
  rw [e]
  exact congrArg some hz
/-! Bag -/
theorem cb_loop {v : Nat → Int64} {n : Nat} {t : Int64} (hn : n ≤ 1000) : ∀ (k b fu : Nat), k ≤ 10 → b ≤ n → k < fu → ∃ q, mX0_countBelow_L7 (nI n) v t fu (nI (2 ^ k / 2)) (nI b) = some (q, nI (cbk v n t k b)) := by
  intro k
  induction k with
  | zero =>
    intro b fu _ hb hf
    obtain ⟨fu, rfl⟩ : ∃ q, fu = q + 1 := ⟨fu - 1, by omega⟩
    refine ⟨nI (2 ^ 0 / 2), ?_⟩
    rw [mX0_countBelow_L7, if_pos (show nI (2 ^ 0 / 2) ≤ 0 by decide)]
    rfl
  | succ k ih =>
    intro b fu hk hb hf
    obtain ⟨fu, rfl⟩ : ∃ q, fu = q + 1 := ⟨fu - 1, by omega⟩
    have hp0 : 0 < 2 ^ k := Nat.two_pow_pos k
    have hp1 := pow_le10 (k := k) (by omega)
    have hp2 : 2 ^ (k + 1) / 2 = 2 ^ k := by rw [Nat.pow_succ]; omega
    have hdv : nI (2 ^ k) / 2 = nI (2 ^ k / 2) := pk_div (d := 2) (by omega) (by decide) (by decide)
    have hla : (nI b + nI (2 ^ k)) - (1 : Int32) = nI (b + 2 ^ k - 1) := by
      rw [nI_add, show b + 2 ^ k = (b + 2 ^ k - 1) + 1 by omega, nI_pred]; simp
    rw [mX0_countBelow_L7, hp2, if_neg (nI_nle hp0 (by omega)), hla, hdv]
    show ∃ q, _ = some (q, nI (cbk v n t k (if b + 2 ^ k - 1 < n ∧ v (b + 2 ^ k - 1) < t then b + 2 ^ k else b)))
    by_cases h1 : n ≤ b + 2 ^ k - 1
    · rw [if_pos (nI_le h1 (by omega)), if_neg (fun h => by omega)]
      exact ih b fu (by omega) hb (by omega)
    · rw [if_neg (nI_ge (by omega) (by omega)), if_pos (ix_nI (by omega)), cl_nI]
      by_cases h2 : v (b + 2 ^ k - 1) < t
      · rw [if_neg (fun h => absurd ((lg_cmp_ge _ _).mp h) (Int64.not_le.mpr h2)), nI_add, if_pos ⟨by omega, h2⟩]
        exact ih (b + 2 ^ k) fu (by omega) (by omega) (by omega)
      · rw [if_pos ((lg_cmp_ge _ _).mpr (Int64.not_lt.mp h2)), if_neg (fun h => h2 h.2)]
        exact ih b fu (by omega) hb (by omega)
theorem bag_cb {v : Nat → Int64} {n : Nat} {t : Int64} (hn : n ≤ 1000) : mX0_countBelow (nI n) v t = some (nI (cb v n t)) := by
  obtain ⟨q, h⟩ := cb_loop (v := v) (t := t) hn 10 0 FU (by decide) (by omega) (by decide)
  unfold mX0_countBelow
  rw [show mX0_countBelow_L7 (nI n) v t FU 512 0 = _ from h]
  rfl
theorem bag_has {v : Nat → Int64} {n : Nat} {t : Int64} (hn : n ≤ 1000) : mX0_has (nI n) v t = some (if cb v n t < n ∧ v (cb v n t) = t then 1 else 0) := by
  have hc := cb_le v n t
  unfold mX0_has
  rw [bag_cb hn]
  show (if nI n ≤ nI (cb v n t) then _ else _) = _
  by_cases h1 : n ≤ cb v n t
  · rw [if_pos (nI_le h1 (by omega)), if_neg (fun h => by omega)]
  · rw [if_neg (nI_ge (by omega) (by omega)), if_pos (ix_nI (by omega)), cl_nI]
    by_cases h2 : v (cb v n t) = t
    · rw [if_pos ((lg_cmp_eq _ _).mpr h2), if_pos ⟨by omega, h2⟩]
    · rw [if_neg (fun h => h2 ((lg_cmp_eq _ _).mp h)), if_neg (fun h => h2 h.2)]
theorem bag_full0 {n : Nat} (hn : n < 1000) : mX0_isFull (nI n) = some 0 := by
  unfold mX0_isFull
  rw [if_pos (show nI n < 1000 from nI_lt (b := 1000) hn (by decide))]
theorem bag_full1 {n : Nat} (hn : n = 1000) : mX0_isFull (nI n) = some 1 := by
  subst hn; rfl
theorem cpok_nI {i j k n0 n1 : Nat} (h0 : i + k ≤ n0) (h1 : j + k ≤ n1) (b0 : n0 < 2 ^ 31) (b1 : n1 < 2 ^ 31) : cpok (nI i) (nI j) (nI k) n0 n1 = true := by
  unfold cpok
  rw [decide_eq_true_iff, cl_nI, cl_nI, cl_nI]
  exact ⟨nI_pos (by omega), nI_pos (by omega), nI_pos (by omega), h0, h1⟩
theorem bag_ins {v : Nat → Int64} {n : Nat} {t : Int64} (hn : n < 1000) : mX0_insert (nI n) v t = some (1, nI (n + 1), insR v n t) := by
  have hc := cb_le v n t
  unfold mX0_insert
  rw [bag_full0 hn, bag_cb (by omega), sb_, if_pos rfl, sb_, nI_s, pk_sub hc, if_pos (cpok_nI (by omega) (by omega) (by decide) (by decide)), if_pos (ix_nI (by omega)), cl_nI, cl_nI, cl_nI, nI_s]
  rfl
theorem bag_insF {v : Nat → Int64} {n : Nat} {t : Int64} (hn : n = 1000) : mX0_insert (nI n) v t = some (0, nI n, v) := by
  subst hn; rfl
theorem bag_take1 {v : Nat → Int64} {n : Nat} {t : Int64} (hn : n ≤ 1000) (h : cb v n t < n ∧ v (cb v n t) = t) : mX0_takeOne (nI n) v t = some (1, nI (n - 1), delR v n (cb v n t)) := by
  unfold mX0_takeOne
  rw [bag_cb hn]
  show (if nI n ≤ nI (cb v n t) then _ else _) = _
  rw [if_neg (nI_ge h.1 (by omega)), if_pos (ix_nI (by omega)), cl_nI, if_pos ((lg_cmp_eq _ _).mpr h.2), nI_s, pk_sub (by omega), show nI (n - cb v n t) - (1 : Int32) = nI (n - cb v n t - 1) from pk_sub (b := 1) (by omega), if_pos (cpok_nI (by omega) (by omega) (by decide) (by decide)), cl_nI, cl_nI, show nI n - (1 : Int32) = nI (n - 1) from pk_sub (b := 1) (by omega)]
  rfl
theorem bag_take0 {v : Nat → Int64} {n : Nat} {t : Int64} (hn : n ≤ 1000) (h : ¬ (cb v n t < n ∧ v (cb v n t) = t)) : mX0_takeOne (nI n) v t = some (0, nI n, v) := by
  have hc := cb_le v n t
  unfold mX0_takeOne
  rw [bag_cb hn]
  show (if nI n ≤ nI (cb v n t) then _ else _) = _
  by_cases h1 : n ≤ cb v n t
  · rw [if_pos (nI_le h1 (by omega))]
  · rw [if_neg (nI_ge (by omega) (by omega)), if_pos (ix_nI (by omega)), cl_nI, if_neg (fun q => h ⟨by omega, (lg_cmp_eq _ _).mp q⟩)]
theorem bag_app {v : Nat → Int64} {n : Nat} {t : Int64} (hn : n < 1000) : mX0_append (nI n) v t = some (nI (n + 1), vp_updL v n t) := by
  unfold mX0_append
  rw [bag_full0 hn, sb_, if_pos rfl, if_pos (ix_nI hn), cl_nI, nI_s]
theorem bag_appF {v : Nat → Int64} {n : Nat} {t : Int64} (hn : n = 1000) : mX0_append (nI n) v t = some (nI n, v) := by
  subst hn; rfl
theorem bag_cpy {v vo : Nat → Int64} {n : Nat} (hn : n ≤ 1000) : mX0_copyFrom v (nI n) vo = some (nI n, va_cpy vo v 0 0 n) := by
  unfold mX0_copyFrom
  rw [show (0 : Int32) = nI 0 from rfl, if_pos (cpok_nI (by omega) (by omega) (by decide) (by decide)), cl_nI, cl_nI]
theorem bag_at {v : Nat → Int64} {n : Nat} {i : Int32} (hn : n ≤ 1000) : mX0_at (nI n) v i = some (if ¬ i < 0 ∧ ¬ nI n ≤ i then v i.toNatClampNeg else 0) := by
  unfold mX0_at
  by_cases h0 : i < 0
  · rw [if_pos h0, if_neg (fun h => h.1 h0)]
  · rw [if_neg h0]
    by_cases h1 : nI n ≤ i
    · rw [if_pos h1, if_neg (fun h => h.2 h1)]
    · rw [if_neg h1, if_pos (ix_iff.mpr (pu_in h0 h1 hn (by decide))), if_pos ⟨h0, h1⟩]
theorem bag_atN {v : Nat → Int64} {n k : Nat} (hn : n ≤ 1000) (hk : k < n) : mX0_at (nI n) v (nI k) = some (v k) := by
  rw [bag_at hn, if_pos ⟨nI_pos (by omega), nI_ge hk (by omega)⟩, cl_nI]
