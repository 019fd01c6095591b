theorem k_ast {p : Program} {l : Launch} {e : Env} {R : Room} {s : State} {m : MethodId} {args : Array Value} {below : List Frame} {meth : Method} {c : Code} {H : Heap} {locs : List Loc} {cells slots : Nat} {Q : State → Prop} {cc : ByteArray} {pc : Nat} {ls : Array Slot} {rest : List Value} {D : va_G} {A : Nat → Prop} {H0 : Heap} {g : Nat → ClassId} {L : List Nat} {f : Nat → va_E} {a : Nat} (hx : p.tables.exec = Jvm.exec) (hb : c.code = cc) (S : PS D g A H0 s L f H locs) (ha : a ∈ L) (t0 : Nat) {b ci : Nat} {r : vw_C} {vs : List Value} (ht : (tyL g)[t0]? = some (g t0, .object r.1)) {n : Nat} {v : Nat → Option Nat} (hf : f a = .inl (g t0, n, .inr (.inr (.inr (.inr v))))) (hbL : b ∈ L) (hfb : f b = .inr (ci, vs)) (hc : vwCl[ci]? = some r) {i : Int32} (hin : vp_in i n) (hdg : decode cc pc = .ok (.aastore, 1))
    (kk : ∀ (f1 : Nat → va_E), f1 = va_up f a (.inl (g t0, n, .inr (.inr (.inr (.inr (va_up v i.toNatClampNeg (some b))))))) → ∀ (H1 : Heap) (locs1 : List Loc), PS D g A H0 s L f1 H1 locs1 → W p l e R s m args below meth c H1 locs1 cells slots Q (F0 m (pc + 1) ls rest)) : W p l e R s m args below meth c H locs cells slots Q (F0 m pc ls (.ref b :: .int i :: .ref a :: rest)) :=
  q_ast hx hb S ha t0 ht hf hbL hfb hc hin hdg (fun H1 locs1 S1 => kk _ rfl H1 locs1 S1)
theorem nr_ss {i j : Nat} (h : i ≠ j) {k l : Nat} : ((2 + 2 * i, k) : Nat × Nat) ≠ (2 + 2 * j, l) := by
  intro q; have := congrArg Prod.fst q; dsimp only at this; omega
theorem nr_sw {i j k l : Nat} : ((2 + 2 * i, k) : Nat × Nat) ≠ (1 + 2 * j, l) := by
  intro q; have := congrArg Prod.fst q; dsimp only at this; omega
theorem nr_ws {i j k l : Nat} : ((1 + 2 * i, k) : Nat × Nat) ≠ (2 + 2 * j, l) := by
  intro q; have := congrArg Prod.fst q; dsimp only at this; omega
theorem nr_s0 {i k l : Nat} : ((2 + 2 * i, k) : Nat × Nat) ≠ (0, l) := by
  intro q; have := congrArg Prod.fst q; dsimp only at this; omega
theorem nr_w0 {i k l : Nat} : ((1 + 2 * i, k) : Nat × Nat) ≠ (0, l) := by
  intro q; have := congrArg Prod.fst q; dsimp only at this; omega
theorem nr_0s {i k l : Nat} : ((0, l) : Nat × Nat) ≠ (2 + 2 * i, k) := Ne.symm nr_s0
theorem nr_0w {i k l : Nat} : ((0, l) : Nat × Nat) ≠ (1 + 2 * i, k) := Ne.symm nr_w0
