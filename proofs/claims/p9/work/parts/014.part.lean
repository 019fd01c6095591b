/-! ===== the pool: all cells of the system by one list of addresses L and what each holds, f ===== -/
def nkMs : List (String × Nat × MethodName) := [("SieveCabinet", 21, yX0_init), ("SieveCabinet", 34, yX7_init), ("SieveCabinet$Solver", 26, yX1_init), ("SieveCabinet", 41, yX2_init), ("SieveCabinet$Chooser", 20, yX1_init), ("SieveCabinet", 195, yX6_init), ("SieveCabinet$Sieve", 17, yX0_init), ("SieveCabinet$Layers", 23, yX0_init), ("SieveCabinet$Layers", 28, yX1_init)]
def nkFs : List (String × Nat × String × String × String) := [("SieveCabinet", 95, "SieveCabinet$Sieve", "contents", "LSieveCabinet$Bag;"), ("SieveCabinet", 172, "SieveCabinet$Sieve", "layers", "LSieveCabinet$Layers;"), ("SieveCabinet", 122, "SieveCabinet$Sieve", "kind", "I"), ("SieveCabinet$Nests", 15, "SieveCabinet$Sieve", "size", "I"), ("SieveCabinet", 139, "SieveCabinet$Sieve", "size", "I"), ("SieveCabinet", 142, "SieveCabinet$Sieve", "marks", "I"), ("SieveCabinet", 145, "SieveCabinet$Sieve", "seed", "I")]
def nkM (q : String × Nat × MethodName) : Cond := .methodLinkNest q.1 q.2.1 q.2.2 "SieveCabinet"
def nkF (q : String × Nat × String × String × String) : Cond := .fieldLinkNest q.1 q.2.1 q.2.2.1 q.2.2.2.1 q.2.2.2.2 "SieveCabinet"
def nkOs : List String := ["SieveCabinet$Bag", "SieveCabinet$BitRow", "SieveCabinet$Sieve"]
def nk (U : State) : Prop := (∀ q ∈ nkMs, va_Nw (nkM q) U) ∧ (∀ q ∈ nkFs, va_Nw (nkF q) U) ∧ ∀ C ∈ nkOs, va_AO C U
theorem nk.warm {s U : State} (hW : s.WarmedH U.vm) (h : nk s) : nk U := ⟨fun q hq => va_Nw.warmM hW (h.1 q hq), fun q hq => va_Nw.warmF hW (h.2.1 q hq), fun C hC => (h.2.2 C hC).moved hW.alike⟩
theorem nk.same {s U : State} (hW : s.vm = U.vm) (h : nk s) : nk U := ⟨fun q hq => va_Nw.same rfl hW (h.1 q hq), fun q hq => va_Nw.same rfl hW (h.2.1 q hq), fun C hC => (h.2.2 C hC).moved (hW ▸ Vm.Alike.refl s.vm)⟩
def tyL (g : Nat → ClassId) : List (ClassId × FieldType) := [(g 0, .int), (g 1, .long), (g 2, .boolean), (g 3, .object "SieveCabinet$Bag"), (g 4, .object "SieveCabinet$BitRow"), (g 5, .object "SieveCabinet$Sieve")]
def EV (D : va_G) (g : Nat → ClassId) (U : State) : Prop := va_K D vwCl (tyL g) U ∧ nk U
theorem EV.warm {D : va_G} {g : Nat → ClassId} {s U : State} (hW : s.WarmedH U.vm) (h : EV D g s) : EV D g U := ⟨va_K.moved hW.alike h.1, h.2.warm hW⟩
theorem EV.same {D : va_G} {g : Nat → ClassId} {s U : State} (hW : s.vm = U.vm) (h : EV D g s) : EV D g U := ⟨va_K.moved (hW ▸ Vm.Alike.refl s.vm) h.1, h.2.same hW⟩
def PS (D : va_G) (g : Nat → ClassId) (A : Nat → Prop) (H0 : Heap) (s : State) (L : List Nat) (f : Nat → va_E) (H : Heap) (locs : List Loc) : Prop :=
  EV D g s ∧ va_P D vwCl (va_pl L f) H ∧ va_D A (va_pl L f) ∧ va_S A H0 H locs ∧ ∀ q, H0.size ≤ q → A q
theorem pl_get {L : List Nat} {f : Nat → va_E} {a : Nat} {e : va_E} (h : a ∈ L) (he : f a = e) : ∃ k : Nat, (va_pl L f)[k]? = some (a, e) := by
  obtain ⟨k, hk⟩ := va_pl_get (X := []) (f := f) h
  exact ⟨k, by rw [← he]; exact hk⟩
theorem pl_set {A : Nat → Prop} {L : List Nat} {f : Nat → va_E} {a k : Nat} {e e0 : va_E} (hD : va_D A (va_pl L f)) (h : a ∈ L) (he : f a = e0) (hk : (va_pl L f)[k]? = some (a, e0)) : (va_pl L f).set k (a, e) = va_pl L (va_up f a e) := by
  subst he
  exact va_pl_set (X := []) hD h hk
theorem pl_all {A : Nat → Prop} {L : List Nat} {f : Nat → va_E} (hD : va_D A (va_pl L f)) {a : Nat} (h : a ∈ L) : A a := by
  obtain ⟨k, hk⟩ := pl_get (f := f) h rfl
  exact hD.2 k _ hk
theorem pl_mem {L : List Nat} {f : Nat → va_E} {k q : Nat} {e : va_E} (h : (va_pl L f)[k]? = some (q, e)) : q ∈ L := by
  have h1 := List.mem_of_getElem? h
  simp only [va_pl, List.mem_map, Prod.mk.injEq] at h1
  obtain ⟨a, ha, hq, -⟩ := h1
  exact hq ▸ ha
theorem pl_free {A : Nat → Prop} {H0 H : Heap} {locs : List Loc} {L : List Nat} {f : Nat → va_E} (hD : va_D A (va_pl L f)) (hS : va_S A H0 H locs) (hA : ∀ q, H0.size ≤ q → A q) : ∀ q, va_A (va_pl L f) H.size q → A q := by
  intro q h
  rcases h with ⟨k, e, h⟩ | h
  · exact pl_all hD (pl_mem h)
  · exact hA q (Nat.le_trans hS.1 h)
theorem RA_eq {U : State} {a b : ClassId} {ty : FieldType} (ha : va_RA U a ty) (hb : va_RA U b ty) : a = b := by
  cases ty with
  | object C =>
    obtain ⟨_, _, _, _, _, h4⟩ := ha
    obtain ⟨_, _, _, _, _, k4⟩ := hb
    exact Option.some.inj (h4.symm.trans k4)
  | _ => exact Option.some.inj (Eq.trans (Eq.symm ha) hb)
/-- a contract's start: the pool is L, f; its end: a pool L', f' -/
def CP (D : va_G) (g : Nat → ClassId) (av : List Value) (L : List Nat) (f : Nat → va_E) (sz : Nat) : Array Value → State → Prop := va_Pc av (fun U => U.heap.size = sz ∧ va_P D vwCl (va_pl L f) U.heap ∧ EV D g U ∧ va_D (fun _ => True) (va_pl L f))
def CB (D : va_G) (L : List Nat) (f : Nat → va_E) (sz : Nat) (u : List Nat × (Nat → va_E)) (t : State) : Prop := va_P D vwCl (va_pl u.1 u.2) t.heap ∧ va_D (va_A (va_pl L f) sz) (va_pl u.1 u.2)
theorem CP.blind {D : va_G} {g : Nat → ClassId} {av : List Value} {L : List Nat} {f : Nat → va_E} {sz : Nat} : FrameBlind (CP D g av L f sz) := by
  intro a U gg mk q
  obtain ⟨h1, h2, h3, h4, h5⟩ := q
  exact ⟨h1, h2, h3, h4.same rfl, h5⟩
section PoolRows
variable {p : Program} {l : Launch} {e : Env} {R : Room} {s : State} {m : MethodId} {args : Array Value} {below : List Frame} {meth : Method} {c : Code} {H : Heap} {locs : List Loc} {cells slots : Nat} {Q : State → Prop} {cc : ByteArray} {pc : Nat} {ls : Array Slot} {rest : List Value} {D : va_G} {A : Nat → Prop} {H0 : Heap} {g : Nat → ClassId} {L : List Nat} {f : Nat → va_E} {a : Nat}
theorem CP.at {av : List Value} (S : PS D g A H0 s L f H locs) {U : State} (hU : U.heap = H) (hW : s.WarmedH U.vm) : CP D g av L f H.size av.toArray U :=
  ⟨rfl, by rw [hU], by rw [hU]; exact S.2.1, S.1.warm hW, S.2.2.1.weaken (fun _ _ _ _ => trivial)⟩
theorem PS.back (S : PS D g A H0 s L f H locs) {u : List Nat × (Nat → va_E)} {t : State} {H1 : Heap} {locs1 : List Loc} (ht : t.heap = H1) (hB : CB D L f H.size u t) (hS : va_S A H0 H1 locs1) : PS D g A H0 s u.1 u.2 H1 locs1 :=
  ⟨S.1, ht ▸ hB.1, hB.2.weaken (fun _ q _ h => pl_free S.2.2.1 S.2.2.2.1 S.2.2.2.2 q.1 h), hS, S.2.2.2.2⟩
/-- at a method's entry -/
theorem PS.entry {av : List Value} {sz : Nat} (h : CP D g av L f sz args s) : PS D g (va_A (va_pl L f) sz) s.heap s L f s.heap [] ∧ s.heap.size = sz := by
  obtain ⟨-, h2, h3, h4, h5⟩ := h
  exact ⟨⟨h4, h3, h5.self, va_S.rf, fun q hq => Or.inr (by rw [← h2]; exact hq)⟩, h2⟩
theorem PS.leave {sz : Nat} {L0 : List Nat} {f0 : Nat → va_E} (S : PS D g (va_A (va_pl L0 f0) sz) s.heap s L f H locs) {t : State} (ht : t.heap = H) : CB D L0 f0 sz (L, f) t ∧ va_F (va_A (va_pl L0 f0) sz) s t :=
  ⟨⟨ht ▸ S.2.1, S.2.2.1⟩, S.2.2.2.1.F ht⟩
theorem q_get (hx : p.tables.exec = Jvm.exec) (hb : c.code = cc) {own C : String} {T : u_T} {N ci index : Nat} {Ts : List Cond} (hts : ∀ w ∈ Ts, w.before args s = true) (hin : ∀ w ∈ u_ws C T N, w ∈ Ts) (hown : s.vm.findClass own = some m.cls) (S : PS D g A H0 s L f H locs) (ha : a ∈ L) {fs : List Value} (hf : f a = .inr (ci, fs)) (hc : vwCl[ci]? = some (C, T, N)) (k : Nat) (hk : k < N) {v : Value} (hv : fs[k]? = some v) (hlink : (Cond.fieldLink own index (T k).1 (T k).2.1 (T k).2.2.1).before args s = true) (hdg : decode cc pc = .ok (.getfield index, 3))
    (kk : W p l e R s m args below meth c H locs cells slots Q (F0 m (pc + 3) ls (v :: rest))) : W p l e R s m args below meth c H locs cells slots Q (F0 m pc ls (.ref a :: rest)) := by
  obtain ⟨q0, hq⟩ := pl_get ha hf
  exact va_get (D := D) hx hb hts hin hown S.1.1 S.2.1 q0 hq hc k hk hlink (fun _ h => h) hv hdg kk
theorem q_getN (hx : p.tables.exec = Jvm.exec) (hb : c.code = cc) {own C : String} {T : u_T} {N ci index : Nat} {Ts : List Cond} (hts : ∀ w ∈ Ts, w.before args s = true) (hin : ∀ w ∈ u_ws C T N, w ∈ Ts) (hown : s.vm.findClass own = some m.cls) (S : PS D g A H0 s L f H locs) (ha : a ∈ L) {fs : List Value} (hf : f a = .inr (ci, fs)) (hc : vwCl[ci]? = some (C, T, N)) (k : Nat) (hk : k < N) {v : Value} (hv : fs[k]? = some v) (hlink : (own, index, (T k).1, (T k).2.1, (T k).2.2.1) ∈ nkFs) (hdg : decode cc pc = .ok (.getfield index, 3))
    (kk : W p l e R s m args below meth c H locs cells slots Q (F0 m (pc + 3) ls (v :: rest))) : W p l e R s m args below meth c H locs cells slots Q (F0 m pc ls (.ref a :: rest)) := by
  obtain ⟨q0, hq⟩ := pl_get ha hf
  exact va_getN (D := D) hx hb hts hin hown S.1.1 S.2.1 q0 hq hc k hk (va_Nw.use rfl (S.1.2.2.1 _ hlink)) (fun _ h => h) hv hdg kk
theorem q_put (hx : p.tables.exec = Jvm.exec) (hb : c.code = cc) {own C : String} {T : u_T} {N ci index : Nat} {Ts : List Cond} (hts : ∀ w ∈ Ts, w.before args s = true) (hin : ∀ w ∈ u_ws C T N, w ∈ Ts) (ty0 : Nat → FieldType) (hty : ∀ k, k < N → parseFieldDescriptor (T k).2.2.1 = some (ty0 k)) (hnm : ∀ a, a < N → ∀ b, b < N → a ≠ b → (T a).2.1 ≠ (T b).2.1) (hown : s.vm.findClass own = some m.cls) (S : PS D g A H0 s L f H locs) (ha : a ∈ L) {fs : List Value} (hf : f a = .inr (ci, fs)) (hc : vwCl[ci]? = some (C, T, N)) (k : Nat) (hk : k < N) (hlink : (Cond.fieldLink own index (T k).1 (T k).2.1 (T k).2.2.1).before args s = true) (hfin : (T k).2.2.2 = false) {v : Value} (hn : narrow (ty0 k) v = v) (hfit : fits (ty0 k) v = true) (hl : k < fs.length)
    (hdg : decode cc pc = .ok (.putfield index, 3)) (kk : ∀ (H1 : Heap) (locs1 : List Loc), PS D g A H0 s L (va_up f a (.inr (ci, fs.set k v))) H1 locs1 → W p l e R s m args below meth c H1 locs1 cells slots Q (F0 m (pc + 3) ls rest)) : W p l e R s m args below meth c H locs cells slots Q (F0 m pc ls (v :: .ref a :: rest)) := by
  obtain ⟨q0, hq⟩ := pl_get ha hf
  refine va_put (D := D) hx hb hts hin ty0 hty hnm hown S.1.1 S.2.1 S.2.2.1 S.2.2.2.1 q0 hq hc k hk hlink (fun _ h => h) hfin (hty k hk) hn hfit hl hdg (fun H1 locs1 h1 h2 h3 => ?_)
  rw [pl_set S.2.2.1 ha hf hq] at h1 h2
  exact kk H1 locs1 ⟨S.1, h1, h2, h3, S.2.2.2.2⟩
theorem q_putF (hx : p.tables.exec = Jvm.exec) (hb : c.code = cc) {own C : String} {T : u_T} {N ci index : Nat} {Ts : List Cond} (hts : ∀ w ∈ Ts, w.before args s = true) (hin : ∀ w ∈ u_ws C T N, w ∈ Ts) (ty0 : Nat → FieldType) (hty : ∀ k, k < N → parseFieldDescriptor (T k).2.2.1 = some (ty0 k)) (hnm : ∀ a, a < N → ∀ b, b < N → a ≠ b → (T a).2.1 ≠ (T b).2.1) (hown : s.vm.findClass own = some m.cls) (hini : meth.name = "<init>") (S : PS D g A H0 s L f H locs) (ha : a ∈ L) {fs : List Value} (hf : f a = .inr (ci, fs)) (hc : vwCl[ci]? = some (C, T, N)) (k : Nat) (hk : k < N) (hlink : (Cond.fieldLink own index (T k).1 (T k).2.1 (T k).2.2.1).before args s = true) (hfin : (T k).2.2.2 = true) (hoK : (T k).1 = own) {v : Value} (hn : narrow (ty0 k) v = v) (hfit : fits (ty0 k) v = true) (hl : k < fs.length)
    (hdg : decode cc pc = .ok (.putfield index, 3)) (kk : ∀ (H1 : Heap) (locs1 : List Loc), PS D g A H0 s L (va_up f a (.inr (ci, fs.set k v))) H1 locs1 → W p l e R s m args below meth c H1 locs1 cells slots Q (F0 m (pc + 3) ls rest)) : W p l e R s m args below meth c H locs cells slots Q (F0 m pc ls (v :: .ref a :: rest)) := by
  obtain ⟨q0, hq⟩ := pl_get ha hf
  refine va_putF (D := D) hx hb hts hin ty0 hty hnm hown S.1.1 S.2.1 S.2.2.1 S.2.2.2.1 q0 hq hc k hk hlink (fun _ h => h) hfin hini hoK (hty k hk) hn hfit hl hdg (fun H1 locs1 h1 h2 h3 => ?_)
  rw [pl_set S.2.2.1 ha hf hq] at h1 h2
  exact kk H1 locs1 ⟨S.1, h1, h2, h3, S.2.2.2.2⟩
theorem q_iald (hx : p.tables.exec = Jvm.exec) (hb : c.code = cc) (S : PS D g A H0 s L f H locs) (ha : a ∈ L) {n : Nat} {v : Nat → Int32} (hf : f a = .inl (g 0, n, .inl v)) {i : Int32} (hin : vp_in i n) (hdg : decode cc pc = .ok (.iaload, 1))
    (kk : W p l e R s m args below meth c H locs cells slots Q (F0 m (pc + 1) ls (.int (v i.toNatClampNeg) :: rest))) : W p l e R s m args below meth c H locs cells slots Q (F0 m pc ls (.int i :: .ref a :: rest)) := by
  obtain ⟨q0, hq⟩ := pl_get ha hf
  exact va_iald (D := D) hx hb S.1.1 S.2.1 q0 0 hq rfl hin hdg kk
theorem q_lald (hx : p.tables.exec = Jvm.exec) (hb : c.code = cc) (S : PS D g A H0 s L f H locs) (ha : a ∈ L) {n : Nat} {v : Nat → Int64} (hf : f a = .inl (g 1, n, .inr (.inl v))) {i : Int32} (hin : vp_in i n) (hdg : decode cc pc = .ok (.laload, 1))
    (kk : W p l e R s m args below meth c H locs cells slots Q (F0 m (pc + 1) ls (.long (v i.toNatClampNeg) :: rest))) : W p l e R s m args below meth c H locs cells slots Q (F0 m pc ls (.int i :: .ref a :: rest)) := by
  obtain ⟨q0, hq⟩ := pl_get ha hf
  exact va_lald (D := D) hx hb S.1.1 S.2.1 q0 1 hq rfl hin hdg kk
theorem q_zald (hx : p.tables.exec = Jvm.exec) (hb : c.code = cc) (S : PS D g A H0 s L f H locs) (ha : a ∈ L) {n : Nat} {v : Nat → Int32} (hf : f a = .inl (g 2, n, .inl v)) {i : Int32} (hin : vp_in i n) (hdg : decode cc pc = .ok (.baload, 1))
    (kk : W p l e R s m args below meth c H locs cells slots Q (F0 m (pc + 1) ls (.int (v i.toNatClampNeg) :: rest))) : W p l e R s m args below meth c H locs cells slots Q (F0 m pc ls (.int i :: .ref a :: rest)) := by
  obtain ⟨q0, hq⟩ := pl_get ha hf
  exact va_zald (D := D) hx hb S.1.1 S.2.1 q0 2 hq rfl hin hdg kk
theorem q_ald (hx : p.tables.exec = Jvm.exec) (hb : c.code = cc) (S : PS D g A H0 s L f H locs) (ha : a ∈ L) (t0 : Nat) {C : String} (ht : (tyL g)[t0]? = some (g t0, .object C)) {n : Nat} {v : Nat → Option Nat} (hf : f a = .inl (g t0, n, .inr (.inr (.inr (.inr v))))) {i : Int32} (hin : vp_in i n) (hdg : decode cc pc = .ok (.aaload, 1))
    (kk : W p l e R s m args below meth c H locs cells slots Q (F0 m (pc + 1) ls (va_rf (v i.toNatClampNeg) :: rest))) : W p l e R s m args below meth c H locs cells slots Q (F0 m pc ls (.int i :: .ref a :: rest)) := by
  obtain ⟨q0, hq⟩ := pl_get ha hf
  exact va_aldq (D := D) hx hb S.1.1 S.2.1 q0 t0 hq ht hin hdg kk
theorem q_alen (hx : p.tables.exec = Jvm.exec) (hb : c.code = cc) (S : PS D g A H0 s L f H locs) (ha : a ∈ L) (t0 : Nat) {ty : FieldType} (ht : (tyL g)[t0]? = some (g t0, ty)) {x : vp_A} (hf : f a = .inl (g t0, x)) {v : Int32} (hv : Int32.ofNat x.1 = v) (hdg : decode cc pc = .ok (.arraylength, 1))
    (kk : W p l e R s m args below meth c H locs cells slots Q (F0 m (pc + 1) ls (.int v :: rest))) : W p l e R s m args below meth c H locs cells slots Q (F0 m pc ls (.ref a :: rest)) := by
  obtain ⟨q0, hq⟩ := pl_get ha hf
  exact va_alen (D := D) hx hb S.1.1 S.2.1 q0 t0 hq ht hv hdg kk
theorem q_iast (hx : p.tables.exec = Jvm.exec) (hb : c.code = cc) (S : PS D g A H0 s L f H locs) (ha : a ∈ L) {n : Nat} {v : Nat → Int32} (hf : f a = .inl (g 0, n, .inl v)) {i x : Int32} (hin : vp_in i n) (hdg : decode cc pc = .ok (.iastore, 1))
    (kk : ∀ (H1 : Heap) (locs1 : List Loc), PS D g A H0 s L (va_up f a (.inl (g 0, n, .inl (upd v i.toNatClampNeg x)))) H1 locs1 → W p l e R s m args below meth c H1 locs1 cells slots Q (F0 m (pc + 1) ls rest)) : W p l e R s m args below meth c H locs cells slots Q (F0 m pc ls (.int x :: .int i :: .ref a :: rest)) := by
  obtain ⟨q0, hq⟩ := pl_get ha hf
  refine va_iast (D := D) hx hb S.1.1 S.2.1 S.2.2.1 S.2.2.2.1 q0 0 hq rfl hin hdg (fun H1 locs1 h1 h2 h3 => ?_)
  rw [pl_set S.2.2.1 ha hf hq] at h1 h2
  exact kk H1 locs1 ⟨S.1, h1, h2, h3, S.2.2.2.2⟩
theorem q_last (hx : p.tables.exec = Jvm.exec) (hb : c.code = cc) (S : PS D g A H0 s L f H locs) (ha : a ∈ L) {n : Nat} {v : Nat → Int64} (hf : f a = .inl (g 1, n, .inr (.inl v))) {i : Int32} {x : Int64} (hin : vp_in i n) (hdg : decode cc pc = .ok (.lastore, 1))
    (kk : ∀ (H1 : Heap) (locs1 : List Loc), PS D g A H0 s L (va_up f a (.inl (g 1, n, .inr (.inl (vp_updL v i.toNatClampNeg x))))) H1 locs1 → W p l e R s m args below meth c H1 locs1 cells slots Q (F0 m (pc + 1) ls rest)) : W p l e R s m args below meth c H locs cells slots Q (F0 m pc ls (.long x :: .int i :: .ref a :: rest)) := by
  obtain ⟨q0, hq⟩ := pl_get ha hf
  refine va_last (D := D) hx hb S.1.1 S.2.1 S.2.2.1 S.2.2.2.1 q0 1 hq rfl hin hdg (fun H1 locs1 h1 h2 h3 => ?_)
  rw [pl_set S.2.2.1 ha hf hq] at h1 h2
  exact kk H1 locs1 ⟨S.1, h1, h2, h3, S.2.2.2.2⟩
theorem q_zast (hx : p.tables.exec = Jvm.exec) (hb : c.code = cc) (S : PS D g A H0 s L f H locs) (ha : a ∈ L) {n : Nat} {v : Nat → Int32} (hf : f a = .inl (g 2, n, .inl v)) {i x : Int32} (hin : vp_in i n) (hdg : decode cc pc = .ok (.bastore, 1))
    (kk : ∀ (H1 : Heap) (locs1 : List Loc), PS D g A H0 s L (va_up f a (.inl (g 2, n, .inl (upd v i.toNatClampNeg (vp_nar .boolean x))))) H1 locs1 → W p l e R s m args below meth c H1 locs1 cells slots Q (F0 m (pc + 1) ls rest)) : W p l e R s m args below meth c H locs cells slots Q (F0 m pc ls (.int x :: .int i :: .ref a :: rest)) := by
  obtain ⟨q0, hq⟩ := pl_get ha hf
  refine va_zast (D := D) hx hb S.1.1 S.2.1 S.2.2.1 S.2.2.2.1 q0 2 hq rfl hin hdg (fun H1 locs1 h1 h2 h3 => ?_)
  rw [pl_set S.2.2.1 ha hf hq] at h1 h2
  exact kk H1 locs1 ⟨S.1, h1, h2, h3, S.2.2.2.2⟩
theorem q_ast (hx : p.tables.exec = Jvm.exec) (hb : c.code = cc) (S : PS D g A H0 s L f H locs) (ha : a ∈ L) (t0 : Nat) {b ci : Nat} {r : vw_C} {vs : List Value} (ht : (tyL g)[t0]? = some (g t0, .object r.1)) {n : Nat} {v : Nat → Option Nat} (hf : f a = .inl (g t0, n, .inr (.inr (.inr (.inr v))))) (hbL : b ∈ L) (hfb : f b = .inr (ci, vs)) (hc : vwCl[ci]? = some r) {i : Int32} (hin : vp_in i n) (hdg : decode cc pc = .ok (.aastore, 1))
    (kk : ∀ (H1 : Heap) (locs1 : List Loc), PS D g A H0 s L (va_up f a (.inl (g t0, n, .inr (.inr (.inr (.inr (va_up v i.toNatClampNeg (some b)))))))) H1 locs1 → W p l e R s m args below meth c H1 locs1 cells slots Q (F0 m (pc + 1) ls rest)) : W p l e R s m args below meth c H locs cells slots Q (F0 m pc ls (.ref b :: .int i :: .ref a :: rest)) := by
  obtain ⟨q0, hq⟩ := pl_get ha hf
  obtain ⟨q1, hq1⟩ := pl_get hbL hfb
  refine va_astq (D := D) hx hb S.1.1 S.2.1 S.2.2.1 S.2.2.2.1 q0 t0 q1 ci hq ht hq1 hc hin hdg (fun H1 locs1 h1 h2 h3 => ?_)
  rw [pl_set S.2.2.1 ha hf hq] at h1 h2
  exact kk H1 locs1 ⟨S.1, h1, h2, h3, S.2.2.2.2⟩
theorem pl_fresh (S : PS D g A H0 s L f H locs) {q : Nat} {e0 : va_E} (hD : va_D A (va_pl L f ++ [(q, e0)])) : q ∉ L := by
  intro h
  obtain ⟨k, hk⟩ := pl_get (f := f) h rfl
  have hl : k < (va_pl L f).length := (List.getElem?_eq_some_iff.mp hk).1
  have := hD.1 k (va_pl L f).length (q, f q) (q, e0) (by rw [List.getElem?_append_left hl]; exact hk) (by simp) rfl
  omega
theorem q_new {C : String} {T : u_T} {N ci index : Nat} {own : String} {Ts : List Cond} (hx : p.tables.exec = Jvm.exec) (hb : c.code = cc) (hts : ∀ w ∈ Ts, w.before args s = true) (hin : ∀ w ∈ u_ws C T N, w ∈ Ts) (ty : Nat → FieldType) (hty : ∀ k, k < N → parseFieldDescriptor (T k).2.2.1 = some (ty k)) (hown : s.vm.findClass own = some m.cls) (hcl : (Cond.classLink own index C).before args s = true) (hinst : (Cond.instantiable C N).before args s = true) (hini : (Cond.initialized C).before args s = true)
    (S : PS D g A H0 s L f H locs) (hc : vwCl[ci]? = some (C, T, N)) {fs : List Value} (hfs : ∀ j, j < N → defaultValue (ty j) = vp_V fs j) (hcells : cells + 1 ≤ R.cells) (hslots : slots + N ≤ R.slots) (hdg : decode cc pc = .ok (.new index, 3))
    (kk : ∀ (q : Nat) (H1 : Heap), q ∉ L → PS D g A H0 s (L ++ [q]) (va_up f q (.inr (ci, fs))) H1 locs →
      W p l e R s m args below meth c H1 locs (cells + 1) (slots + N) Q (F0 m (pc + 3) ls (.ref q :: rest))) : W p l e R s m args below meth c H locs cells slots Q (F0 m pc ls rest) := by
  refine va_new (D := D) hx hb hts hin ty hty hown hcl hinst hini S.1.1 S.2.1 S.2.2.1 S.2.2.2.1 S.2.2.2.2 hc hfs hcells hslots hdg (fun q H1 h1 h2 h3 => ?_)
  have hq := pl_fresh S h2
  rw [va_pl_push hq] at h1 h2
  exact kk q H1 hq ⟨S.1, h1, h2, h3, S.2.2.2.2⟩
theorem tyL_new {cA : ClassId} {ty : FieldType} (hK : va_K D vwCl (tyL g) s) (h : va_K D vwCl (tyL g ++ [(cA, ty)]) s) (t0 : Nat) (ht : (tyL g)[t0]? = some (g t0, ty)) : cA = g t0 :=
  RA_eq (h.2 6 (cA, ty) rfl).2 (hK.2 t0 _ ht).2
theorem q_newi (hx : p.tables.exec = Jvm.exec) (hb : c.code = cc) (harr : (Cond.arrayClass .int).before args s = true) (S : PS D g A H0 s L f H locs)
    {n : Int32} {N' : Nat} (hn : ¬ n < 0) (hN : n.toNatClampNeg = N') (hbytes : N' * 4 ≤ 536870912) (hcells : cells + 1 ≤ R.cells) (hslots : slots + N' ≤ R.slots) (hdg : decode cc pc = .ok (.newarray .int, 2))
    (kk : ∀ (q : Nat) (H1 : Heap), q ∉ L → PS D g A H0 s (L ++ [q]) (va_up f q (.inl (g 0, N', .inl (fun _ => 0)))) H1 locs →
      W p l e R s m args below meth c H1 locs (cells + 1) (slots + N') Q (F0 m (pc + 2) ls (.ref q :: rest))) : W p l e R s m args below meth c H locs cells slots Q (F0 m pc ls (.int n :: rest)) := by
  refine va_newa (D := D) hx hb (atype := .int) harr rfl S.1.1 S.2.1 S.2.2.1 S.2.2.2.1 S.2.2.2.2 (a0 := (N', .inl (fun _ => 0))) (fun _ => rfl) hn hN hbytes hcells hslots hdg (fun q cA H1 hK h1 h2 h3 => ?_)
  have hq := pl_fresh S h2
  rw [va_pl_push hq] at h1 h2
  have e1 := tyL_new S.1.1 hK 0 rfl
  subst e1
  exact kk q H1 hq ⟨S.1, h1, h2, h3, S.2.2.2.2⟩
theorem q_newl (hx : p.tables.exec = Jvm.exec) (hb : c.code = cc) (harr : (Cond.arrayClass .long).before args s = true) (S : PS D g A H0 s L f H locs)
    {n : Int32} {N' : Nat} (hn : ¬ n < 0) (hN : n.toNatClampNeg = N') (hbytes : N' * 8 ≤ 536870912) (hcells : cells + 1 ≤ R.cells) (hslots : slots + N' ≤ R.slots) (hdg : decode cc pc = .ok (.newarray .long, 2))
    (kk : ∀ (q : Nat) (H1 : Heap), q ∉ L → PS D g A H0 s (L ++ [q]) (va_up f q (.inl (g 1, N', .inr (.inl (fun _ => 0))))) H1 locs →
      W p l e R s m args below meth c H1 locs (cells + 1) (slots + N') Q (F0 m (pc + 2) ls (.ref q :: rest))) : W p l e R s m args below meth c H locs cells slots Q (F0 m pc ls (.int n :: rest)) := by
  refine va_newa (D := D) hx hb (atype := .long) harr rfl S.1.1 S.2.1 S.2.2.1 S.2.2.2.1 S.2.2.2.2 (a0 := (N', .inr (.inl (fun _ => 0)))) (fun _ => rfl) hn hN hbytes hcells hslots hdg (fun q cA H1 hK h1 h2 h3 => ?_)
  have hq := pl_fresh S h2
  rw [va_pl_push hq] at h1 h2
  have e1 := tyL_new S.1.1 hK 1 rfl
  subst e1
  exact kk q H1 hq ⟨S.1, h1, h2, h3, S.2.2.2.2⟩
theorem q_newz (hx : p.tables.exec = Jvm.exec) (hb : c.code = cc) (harr : (Cond.arrayClass .boolean).before args s = true) (S : PS D g A H0 s L f H locs)
    {n : Int32} {N' : Nat} (hn : ¬ n < 0) (hN : n.toNatClampNeg = N') (hbytes : N' * 1 ≤ 536870912) (hcells : cells + 1 ≤ R.cells) (hslots : slots + N' ≤ R.slots) (hdg : decode cc pc = .ok (.newarray .boolean, 2))
    (kk : ∀ (q : Nat) (H1 : Heap), q ∉ L → PS D g A H0 s (L ++ [q]) (va_up f q (.inl (g 2, N', .inl (fun _ => 0)))) H1 locs →
      W p l e R s m args below meth c H1 locs (cells + 1) (slots + N') Q (F0 m (pc + 2) ls (.ref q :: rest))) : W p l e R s m args below meth c H locs cells slots Q (F0 m pc ls (.int n :: rest)) := by
  refine va_newa (D := D) hx hb (atype := .boolean) harr rfl S.1.1 S.2.1 S.2.2.1 S.2.2.2.1 S.2.2.2.2 (a0 := (N', .inl (fun _ => 0))) (fun _ => rfl) hn hN hbytes hcells hslots hdg (fun q cA H1 hK h1 h2 h3 => ?_)
  have hq := pl_fresh S h2
  rw [va_pl_push hq] at h1 h2
  have e1 := tyL_new S.1.1 hK 2 rfl
  subst e1
  exact kk q H1 hq ⟨S.1, h1, h2, h3, S.2.2.2.2⟩
theorem q_newq (hx : p.tables.exec = Jvm.exec) (hb : c.code = cc) {own C : String} {index : Nat} (hown : s.vm.findClass own = some m.cls) (hcl : (Cond.classLink own index C).before args s = true) (hC : C ∈ nkOs) (S : PS D g A H0 s L f H locs) (t0 : Nat) (ht : (tyL g)[t0]? = some (g t0, .object C))
    {n : Int32} {N' : Nat} (hn : ¬ n < 0) (hN : n.toNatClampNeg = N') (hbytes : N' * 4 ≤ 536870912) (hcells : cells + 1 ≤ R.cells) (hslots : slots + N' ≤ R.slots) (hdg : decode cc pc = .ok (.anewarray index, 3))
    (kk : ∀ (q : Nat) (H1 : Heap), q ∉ L → PS D g A H0 s (L ++ [q]) (va_up f q (.inl (g t0, N', .inr (.inr (.inr (.inr (fun _ => none))))))) H1 locs →
      W p l e R s m args below meth c H1 locs (cells + 1) (slots + N') Q (F0 m (pc + 3) ls (.ref q :: rest))) : W p l e R s m args below meth c H locs cells slots Q (F0 m pc ls (.int n :: rest)) := by
  refine va_newq (D := D) hx hb hown hcl (S.1.2.2.2 C hC) S.1.1 S.2.1 S.2.2.1 S.2.2.2.1 S.2.2.2.2 hn hN hbytes hcells hslots hdg (fun q cA H1 hK h1 h2 h3 => ?_)
  have hq := pl_fresh S h2
  rw [va_pl_push hq] at h1 h2
  have e1 := tyL_new S.1.1 hK t0 ht
  subst e1
  exact kk q H1 hq ⟨S.1, h1, h2, h3, S.2.2.2.2⟩
end PoolRows
