/-! ===== pure rows ===== -/
theorem pu_in {i : Int32} {n N : Nat} (h0 : ¬ i < 0) (h1 : ¬ nI n ≤ i) (hn : n ≤ N) (hN : N < 2 ^ 31) : vp_in i N := by
  have e1 := nI_toInt (n := n) (by omega)
  rw [Int32.lt_iff_toInt_lt] at h0
  rw [Int32.le_iff_toInt_le] at h1
  rw [vp_in_iff]
  have e0 : (0 : Int32).toInt = 0 := rfl
  omega
theorem pu_of {i : Int32} {n : Nat} (h0 : ¬ i < 0) (h1 : ¬ nI n ≤ i) (hn : n < 2 ^ 31) : ∃ j : Nat, j < n ∧ i = nI j := vp_in_of (pu_in h0 h1 (Nat.le_refl n) hn) hn
/-- Bag.countBelow: k halvings are left, b is below -/
def cbk (v : Nat → Int64) (n : Nat) (t : Int64) : Nat → Nat → Nat
  | 0, b => b
  | k + 1, b => cbk v n t k (if b + 2 ^ k - 1 < n ∧ v (b + 2 ^ k - 1) < t then b + 2 ^ k else b)
theorem cbk_le (v : Nat → Int64) (n : Nat) (t : Int64) : ∀ (k b : Nat), b ≤ n → cbk v n t k b ≤ n := by
  intro k
  induction k with
  | zero => intro b h; exact h
  | succ k ih =>
    intro b h
    show cbk v n t k _ ≤ n
    apply ih
    have : 0 < 2 ^ k := Nat.two_pow_pos k
    split <;> omega
def cb (v : Nat → Int64) (n : Nat) (t : Int64) : Nat := cbk v n t 10 0
theorem cb_le (v : Nat → Int64) (n : Nat) (t : Int64) : cb v n t ≤ n := cbk_le v n t 10 0 (Nat.zero_le n)
theorem cbk_0 (v : Nat → Int64) (t : Int64) : ∀ k b, cbk v 0 t k b = b := by
  intro k
  induction k with
  | zero => intro b; rfl
  | succ k ih =>
    intro b
    show cbk v 0 t k _ = b
    rw [ih, if_neg (fun h => Nat.not_lt_zero _ h.1)]
theorem pow_le10 {k : Nat} (h : k ≤ 10) : 2 ^ k ≤ 1024 := Nat.pow_le_pow_right (by decide) h
theorem pu_inL {la : Int32} {j n N : Nat} (e : la = nI j) (h : ¬ nI n ≤ la) (hn : n ≤ N) (hj : j < 2 ^ 31 := by omega) (hN : N < 2 ^ 31 := by decide) : vp_in la N := by
  subst e
  have h1 : j < n := Nat.lt_of_not_le (fun q => h (nI_le q hj))
  exact vp_in_nI (by omega) hN
def insR (v : Nat → Int64) (n : Nat) (t : Int64) : Nat → Int64 := vp_updL (va_cpy v v (cb v n t) (cb v n t + 1) (n - cb v n t)) (cb v n t) t
theorem W_any {p : Program} {l : Launch} {e : Env} {R : Room} {s : State} {m : MethodId} {args : Array Value} {below : List Frame} {meth : Method} {c : Code} {H : Heap} {locs : List Loc} {cells slots : Nat} {Q : State → Prop} {g : JFrame} {X : Heap → List Loc → Prop} (h : X H locs) (k : ∀ (H1 : Heap) (locs1 : List Loc), X H1 locs1 → W p l e R s m args below meth c H1 locs1 cells slots Q g) : W p l e R s m args below meth c H locs cells slots Q g := k H locs h
theorem W_ls {p : Program} {l : Launch} {e : Env} {R : Room} {s : State} {m : MethodId} {args : Array Value} {below : List Frame} {meth : Method} {c : Code} {H : Heap} {locs : List Loc} {cells slots : Nat} {Q : State → Prop} {pc nL : Nat} {ls : Array Slot} {st : List Value} {lv : List (Nat × Value)} (h : lv_has ls nL lv) (k : ∀ ls1 : Array Slot, lv_has ls1 nL lv → W p l e R s m args below meth c H locs cells slots Q (F0 m pc ls1 st)) : W p l e R s m args below meth c H locs cells slots Q (F0 m pc ls st) := k ls h
theorem va_up_id {α : Type} {f : Nat → α} {a : Nat} {x : α} (h : f a = x) : va_up f a x = f := by
  funext j
  by_cases hj : j = a
  · rw [hj, va_up_self, h]
  · rw [va_up_ne _ _ hj]
