/-! ===== the mirrors' words ===== -/
def FU : Nat := 5000
def lush_ (x : Int64) (y : Int32) : Int64 := (x.toUInt64 >>> (y.toInt64.toUInt64 &&& Int64.toUInt64 63)).toInt64
def lsh_ (x : Int64) (y : Int32) : Int64 := x <<< (y.toInt64 &&& 63)
def iush_ (x y : Int32) : Int32 := (x.toUInt32 >>> (y.toUInt32 &&& Int32.toUInt32 31)).toInt32
def lrm (x y : Int64) : Int64 := x - x / y * y
def irm (x y : Int32) : Int32 := x - x / y * y
def imn (x y : Int32) : Int32 := if y < x then y else x
def imx (x y : Int32) : Int32 := if x < y then y else x
def ix (i : Int32) (n : Nat) : Bool := !(decide (i < 0) || decide (n ≤ i.toNatClampNeg))
def cpok (i j k : Int32) (n0 n1 : Nat) : Bool := decide (¬ i < 0 ∧ ¬ j < 0 ∧ ¬ k < 0 ∧ i.toNatClampNeg + k.toNatClampNeg ≤ n0 ∧ j.toNatClampNeg + k.toNatClampNeg ≤ n1)
theorem ix_iff {i : Int32} {n : Nat} : ix i n = true ↔ vp_in i n := by
  unfold ix vp_in
  simp only [Bool.not_eq_true', Bool.or_eq_false_iff, decide_eq_false_iff_not, not_or]
def lt_ {α β : Type} (a : α) (k : α → β) : β := k a
theorem lt_some {α β : Type} {a : α} {k : α → Option β} {r : β} (h : lt_ a k = some r) {y : α} (e : y = a) : k y = some r := by subst e; exact h
theorem no_some {α : Type} {r : α} {P : Prop} (h : (none : Option α) = some r) : P := nomatch h
theorem bind_some {α β : Type} {o : Option α} {k : α → Option β} {r : β} (h : o.bind k = some r) : ∃ z, o = some z ∧ k z = some r := by
  cases o with
  | none => exact nomatch h
  | some z => exact ⟨z, rfl, h⟩
theorem itT {α : Type} {c : Prop} {dc : Decidable c} {a b : Option α} {r : α} (hc : c) (h : (if c then a else b) = some r) : a = some r := by
  rw [if_pos hc] at h; exact h
theorem itF {α : Type} {c : Prop} {dc : Decidable c} {a b : Option α} {r : α} (hc : ¬ c) (h : (if c then a else b) = some r) : b = some r := by
  rw [if_neg hc] at h; exact h
theorem ck {α : Type} {c : Prop} {dc : Decidable c} {a : Option α} {r : α} (h : (if c then a else none) = some r) : c ∧ a = some r := by
  by_cases hc : c
  · rw [if_pos hc] at h; exact ⟨hc, h⟩
  · rw [if_neg hc] at h; exact nomatch h
theorem ckx {α : Type} {i : Int32} {n : Nat} {a : Option α} {r : α} (h : (if ix i n = true then a else none) = some r) : vp_in i n ∧ a = some r := by
  obtain ⟨h1, h2⟩ := ck h
  exact ⟨ix_iff.mp h1, h2⟩
theorem W_gen {p : Program} {l : Launch} {e : Env} {R : Room} {s : State} {m : MethodId} {args : Array Value} {below : List Frame} {meth : Method} {c : Code} {H : Heap} {locs : List Loc} {cells slots : Nat} {Q : State → Prop} {g : JFrame} (k : ∀ QQ : State → Prop, Q = QQ → W p l e R s m args below meth c H locs cells slots QQ g) : W p l e R s m args below meth c H locs cells slots Q g := k Q rfl
theorem ne_ri {f : Nat → va_E} {a b : Nat} {x : Nat × List Value} {y : ClassId × vp_A} (ha : f a = .inr x) (hb : f b = .inl y) : b ≠ a := by
  intro h; rw [h, ha] at hb; exact nomatch hb
theorem ne_ir {f : Nat → va_E} {a b : Nat} {x : Nat × List Value} {y : ClassId × vp_A} (ha : f a = .inl y) (hb : f b = .inr x) : b ≠ a := by
  intro h; rw [h, ha] at hb; exact nomatch hb
theorem ne_rr {f : Nat → va_E} {a b i j : Nat} {xs ys : List Value} (ha : f a = .inr (i, xs)) (hb : f b = .inr (j, ys)) (hn : j ≠ i) : b ≠ a := by
  intro h; rw [h, ha] at hb; injection hb with hb; injection hb with h1 h2; exact hn h1.symm
theorem ne_len {f : Nat → va_E} {a b n k : Nat} {c d : ClassId} {x y} (ha : f a = .inl (c, n, x)) (hb : f b = .inl (d, k, y)) (hn : k ≠ n) : b ≠ a := by
  intro h; rw [h, ha] at hb; injection hb with hb; injection hb with h1 h2; injection h2 with h3 h4; exact hn h3.symm
theorem ne_01 {f : Nat → va_E} {a b n k : Nat} {c d : ClassId} {x y} (ha : f a = .inl (c, n, .inl x)) (hb : f b = .inl (d, k, .inr y)) : b ≠ a := by
  intro h; rw [h, ha] at hb; injection hb with hb; injection hb with h1 h2; injection h2 with h3 h4; exact nomatch h4
theorem ne_10 {f : Nat → va_E} {a b n k : Nat} {c d : ClassId} {x y} (ha : f a = .inl (c, n, .inr x)) (hb : f b = .inl (d, k, .inl y)) : b ≠ a := by
  intro h; rw [h, ha] at hb; injection hb with hb; injection hb with h1 h2; injection h2 with h3 h4; exact nomatch h4
theorem role_ne {ρ : Nat → Nat × Nat} {a b : Nat} {i j : Nat × Nat} (ha : ρ a = i) (hb : ρ b = j) (h : j ≠ i) : b ≠ a := by
  intro q; subst q; exact h (hb.symm.trans ha)
section DecRows
variable {p : Program} {l : Launch} {e : Env} {R : Room} {s : State} {m : MethodId} {args : Array Value} {below : List Frame} {meth : Method} {c : Code} {H : Heap} {locs : List Loc} {cells slots : Nat} {Q : State → Prop} {cc : ByteArray} {pc : Nat} {ls : Array Slot} {rest : List Value} {D : va_G} {A : Nat → Prop} {H0 : Heap} {g : Nat → ClassId} {L : List Nat} {f : Nat → va_E} {a : Nat}
theorem k_put (hx : p.tables.exec = Jvm.exec) (hb : c.code = cc) {own C : String} {T : u_T} {N ci index : Nat} {Ts : List Cond} (hts : ∀ w ∈ Ts, w.before args s = true) (hin : ∀ w ∈ u_ws C T N, w ∈ Ts) (ty0 : Nat → FieldType) (hty : ∀ k, k < N → parseFieldDescriptor (T k).2.2.1 = some (ty0 k)) (hnm : ∀ a, a < N → ∀ b, b < N → a ≠ b → (T a).2.1 ≠ (T b).2.1) (hown : s.vm.findClass own = some m.cls) (S : PS D g A H0 s L f H locs) (ha : a ∈ L) {fs : List Value} (hf : f a = .inr (ci, fs)) (hc : vwCl[ci]? = some (C, T, N)) (k : Nat) (hk : k < N) (hlink : (Cond.fieldLink own index (T k).1 (T k).2.1 (T k).2.2.1).before args s = true) (hfin : (T k).2.2.2 = false) {v : Value} (hn : narrow (ty0 k) v = v) (hfit : fits (ty0 k) v = true) (hl : k < fs.length)
    (hdg : decode cc pc = .ok (.putfield index, 3)) (kk : ∀ (f1 : Nat → va_E), f1 = va_up f a (.inr (ci, fs.set k v)) → ∀ (H1 : Heap) (locs1 : List Loc), PS D g A H0 s L f1 H1 locs1 → W p l e R s m args below meth c H1 locs1 cells slots Q (F0 m (pc + 3) ls rest)) : W p l e R s m args below meth c H locs cells slots Q (F0 m pc ls (v :: .ref a :: rest)) :=
  q_put hx hb hts hin ty0 hty hnm hown S ha hf hc k hk hlink hfin hn hfit hl hdg (fun H1 locs1 S1 => kk _ rfl H1 locs1 S1)
theorem k_iast (hx : p.tables.exec = Jvm.exec) (hb : c.code = cc) (S : PS D g A H0 s L f H locs) (ha : a ∈ L) {n : Nat} {v : Nat → Int32} (hf : f a = .inl (g 0, n, .inl v)) {i x : Int32} (hin : vp_in i n) (hdg : decode cc pc = .ok (.iastore, 1))
    (kk : ∀ (f1 : Nat → va_E), f1 = va_up f a (.inl (g 0, n, .inl (upd v i.toNatClampNeg x))) → ∀ (H1 : Heap) (locs1 : List Loc), PS D g A H0 s L f1 H1 locs1 → W p l e R s m args below meth c H1 locs1 cells slots Q (F0 m (pc + 1) ls rest)) : W p l e R s m args below meth c H locs cells slots Q (F0 m pc ls (.int x :: .int i :: .ref a :: rest)) :=
  q_iast hx hb S ha hf hin hdg (fun H1 locs1 S1 => kk _ rfl H1 locs1 S1)
theorem k_last (hx : p.tables.exec = Jvm.exec) (hb : c.code = cc) (S : PS D g A H0 s L f H locs) (ha : a ∈ L) {n : Nat} {v : Nat → Int64} (hf : f a = .inl (g 1, n, .inr (.inl v))) {i : Int32} {x : Int64} (hin : vp_in i n) (hdg : decode cc pc = .ok (.lastore, 1))
    (kk : ∀ (f1 : Nat → va_E), f1 = va_up f a (.inl (g 1, n, .inr (.inl (vp_updL v i.toNatClampNeg x)))) → ∀ (H1 : Heap) (locs1 : List Loc), PS D g A H0 s L f1 H1 locs1 → W p l e R s m args below meth c H1 locs1 cells slots Q (F0 m (pc + 1) ls rest)) : W p l e R s m args below meth c H locs cells slots Q (F0 m pc ls (.long x :: .int i :: .ref a :: rest)) :=
  q_last hx hb S ha hf hin hdg (fun H1 locs1 S1 => kk _ rfl H1 locs1 S1)
theorem k_zast (hx : p.tables.exec = Jvm.exec) (hb : c.code = cc) (S : PS D g A H0 s L f H locs) (ha : a ∈ L) {n : Nat} {v : Nat → Int32} (hf : f a = .inl (g 2, n, .inl v)) {i x : Int32} (hin : vp_in i n) (hdg : decode cc pc = .ok (.bastore, 1))
    (kk : ∀ (f1 : Nat → va_E), f1 = va_up f a (.inl (g 2, n, .inl (upd v i.toNatClampNeg (vp_nar .boolean x)))) → ∀ (H1 : Heap) (locs1 : List Loc), PS D g A H0 s L f1 H1 locs1 → W p l e R s m args below meth c H1 locs1 cells slots Q (F0 m (pc + 1) ls rest)) : W p l e R s m args below meth c H locs cells slots Q (F0 m pc ls (.int x :: .int i :: .ref a :: rest)) :=
  q_zast hx hb S ha hf hin hdg (fun H1 locs1 S1 => kk _ rfl H1 locs1 S1)
theorem k_copyl {a0 : Nat} {own : String} {index : Nat} (hx : p.tables.exec = Jvm.exec) (hb : c.code = cc) (hml : c.maxLocals = ls.size) (hown : s.vm.findClass own = some m.cls) (hlink : (Cond.methodLink own index arraycopyName).before args s = true) (hnat : (Cond.native arraycopyName).before args s = true) (hstat : (Cond.static arraycopyName).before args s = true) (hini : (Cond.initialized "java/lang/System").before args s = true)
    (S : PS D g A H0 s L f H locs) (m0 : a0 ∈ L) {n0 n1 : Nat} {u w : Nat → Int64} (h0 : f a0 = .inl (g 1, n0, .inr (.inl u))) (m1 : a ∈ L) (h1 : f a = .inl (g 1, n1, .inr (.inl w))) {x1 x2 k : Int32} (hc : cpok x1 x2 k n0 n1 = true)
    (hframes : 1 ≤ R.frames) (hlocals : (rest.map fun v => v.category).sum + 18 ≤ R.locals) (hdg : decode cc pc = .ok (.invokestatic index, 3))
    (kk : ∀ (f1 : Nat → va_E), f1 = va_up f a (.inl (g 1, n1, .inr (.inl (va_cpy u w x1.toNatClampNeg x2.toNatClampNeg k.toNatClampNeg)))) → ∀ (H1 : Heap) (locs1 : List Loc), PS D g A H0 s L f1 H1 locs1 → W p l e R s m args below meth c H1 locs1 cells slots Q (F0 m (pc + 3) ls rest)) : W p l e R s m args below meth c H locs cells slots Q (F0 m pc ls (.int k :: .int x2 :: .ref a :: .int x1 :: .ref a0 :: rest)) := by
  obtain ⟨q0, hq0⟩ := pl_get m0 h0
  obtain ⟨q1, hq1⟩ := pl_get m1 h1
  obtain ⟨c1, c2, c3, c4, c5⟩ := of_decide_eq_true hc
  refine va_copyl (D := D) hx hb hml hown hlink hnat hstat hini S.1.1 S.2.1 S.2.2.1 S.2.2.2.1 q0 q1 1 1 hq0 hq1 rfl rfl rfl c1 c2 c3 c4 c5 (fun _ _ => rfl) hframes hlocals hdg (fun H1 locs1 g1 g2 g3 => ?_)
  rw [pl_set S.2.2.1 m1 h1 hq1] at g1 g2
  exact kk _ rfl H1 locs1 ⟨S.1, g1, g2, g3, S.2.2.2.2⟩
end DecRows
