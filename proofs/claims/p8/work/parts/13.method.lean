/-! ===== a method over the pool: its entry, its end ===== -/
section PoolMethod
variable {p : Program} {l : Launch} {e : Env} {R : Room} {s : State} {m : MethodId} {args : Array Value} {below : List Frame} {meth : Method} {c : Code} {H : Heap} {locs : List Loc} {cells slots : Nat} {Q : State → Prop} {cc : ByteArray} {pc : Nat} {ls : Array Slot} {D : va_G} {g : Nat → ClassId} {L L0 : List Nat} {f f0 : Nat → va_E} {sz mc ms : Nat}
theorem q_reti {post : Int32 → List Nat → (Nat → va_E) → Prop} {v : Int32} (hx : p.tables.exec = Jvm.exec) (hb : c.code = cc) (hr : meth.sig.returnType = some .int) (hlk : meth.locks = false) (S : PS D g (va_A (va_pl L0 f0) sz) s.heap s L f H locs) (hd : decode cc pc = .ok (.ireturn, 1)) (hc : cells ≤ mc) (hs : slots ≤ ms) (hp : post v L f) :
    W p l e R s m args below meth c H locs cells slots (MQ below (va_Qi (fun r (u : List Nat × (Nat → va_E)) => post r u.1 u.2) (CB D L0 f0 sz) (va_A (va_pl L0 f0) sz)) args s mc ms (va_A (va_pl L0 f0) sz)) (F0 m pc ls [.int v]) := by
  refine W.widen hc hs ?_
  exact W.iret hx hb hr (fun t ht _ => ⟨⟨v, (L, f), rfl, hp, (S.leave ht).1⟩, (S.leave ht).2⟩) S.2.2.2.1.2.2 hd hlk
theorem q_retz {post : Int32 → List Nat → (Nat → va_E) → Prop} {v : Int32} (hx : p.tables.exec = Jvm.exec) (hb : c.code = cc) (hr : meth.sig.returnType = some .boolean) (hlk : meth.locks = false) (S : PS D g (va_A (va_pl L0 f0) sz) s.heap s L f H locs) (hd : decode cc pc = .ok (.ireturn, 1)) (hn : v = 0 ∨ v = 1) (hc : cells ≤ mc) (hs : slots ≤ ms) (hp : post v L f) :
    W p l e R s m args below meth c H locs cells slots (MQ below (va_Qi (fun r (u : List Nat × (Nat → va_E)) => post r u.1 u.2) (CB D L0 f0 sz) (va_A (va_pl L0 f0) sz)) args s mc ms (va_A (va_pl L0 f0) sz)) (F0 m pc ls [.int v]) := by
  refine W.widen hc hs ?_
  exact W.zret hx hb hr (by rcases hn with rfl | rfl <;> rfl) (fun t ht _ => ⟨⟨v, (L, f), rfl, hp, (S.leave ht).1⟩, (S.leave ht).2⟩) S.2.2.2.1.2.2 hd hlk
theorem q_retl {post : Int64 → List Nat → (Nat → va_E) → Prop} {v : Int64} (hx : p.tables.exec = Jvm.exec) (hb : c.code = cc) (hr : meth.sig.returnType = some .long) (hlk : meth.locks = false) (S : PS D g (va_A (va_pl L0 f0) sz) s.heap s L f H locs) (hd : decode cc pc = .ok (.lreturn, 1)) (hc : cells ≤ mc) (hs : slots ≤ ms) (hp : post v L f) :
    W p l e R s m args below meth c H locs cells slots (MQ below (va_Ql (fun r (u : List Nat × (Nat → va_E)) => post r u.1 u.2) (CB D L0 f0 sz) (va_A (va_pl L0 f0) sz)) args s mc ms (va_A (va_pl L0 f0) sz)) (F0 m pc ls [.long v]) := by
  refine W.widen hc hs ?_
  exact W.lret hx hb hr (fun t ht _ => ⟨⟨v, (L, f), rfl, hp, (S.leave ht).1⟩, (S.leave ht).2⟩) S.2.2.2.1.2.2 hd hlk
theorem q_retv {post : List Nat → (Nat → va_E) → Prop} (hx : p.tables.exec = Jvm.exec) (hb : c.code = cc) (hr : meth.sig.returnType = none) (hlk : meth.locks = false) (S : PS D g (va_A (va_pl L0 f0) sz) s.heap s L f H locs) (hd : decode cc pc = .ok (.return_, 1)) (hc : cells ≤ mc) (hs : slots ≤ ms) (hp : post L f) :
    W p l e R s m args below meth c H locs cells slots (MQ below (va_Qv (fun (u : List Nat × (Nat → va_E)) => post u.1 u.2) (CB D L0 f0 sz) (va_A (va_pl L0 f0) sz)) args s mc ms (va_A (va_pl L0 f0) sz)) (F0 m pc ls []) := by
  refine W.widen hc hs ?_
  exact W.vret hx hb hr (fun t ht _ => ⟨⟨(L, f), rfl, hp, (S.leave ht).1⟩, (S.leave ht).2⟩) S.2.2.2.1.2.2 hd hlk
theorem q_retq {post : Option Nat → List Nat → (Nat → va_E) → Prop} {v : Option Nat} {C : String} (hx : p.tables.exec = Jvm.exec) (hb : c.code = cc) (hr : meth.sig.returnType = some (.object C)) (hlk : meth.locks = false) (S : PS D g (va_A (va_pl L0 f0) sz) s.heap s L f H locs) (hd : decode cc pc = .ok (.areturn, 1)) (hc : cells ≤ mc) (hs : slots ≤ ms) (hp : post v L f) :
    W p l e R s m args below meth c H locs cells slots (MQ below (va_Qq (fun r (u : List Nat × (Nat → va_E)) => post r u.1 u.2) (CB D L0 f0 sz) (va_A (va_pl L0 f0) sz)) args s mc ms (va_A (va_pl L0 f0) sz)) (F0 m pc ls [va_rf v]) := by
  refine W.widen hc hs ?_
  exact W.aret hx hb hr (Or.inl ⟨C, rfl⟩) (va_rf_or v) (fun t ht _ => ⟨⟨v, (L, f), rfl, hp, (S.leave ht).1⟩, (S.leave ht).2⟩) S.2.2.2.1.2.2 hd hlk
variable {y : MethodName} {ws ws' : List Cond} {rm : Room} {av : List Value} {maxL : Nat} {ret : Option FieldType}
def Body (l : Launch) (y : MethodName) (ws : List Cond) (rm : Room) (D : va_G) (g : Nat → ClassId) (av : List Value) (L : List Nat) (f : Nat → va_E) (mc ms : Nat) (cc : ByteArray) (maxL : Nat) (ret : Option FieldType) (Qc : Nat → Array Value → State → Outcome → State → Prop) : Prop :=
  ∀ (sz : Nat) (p : Program) (e : Env) (s : State) (m : MethodId) (below : List Frame) (meth : Method) (c : Code), p.tables.exec = Jvm.exec → c.code = cc → meth.sig.returnType = ret → c.maxLocals = maxL → (∀ w ∈ ws, w.before av.toArray s = true) → s.vm.findClass y.cls = some m.cls → meth.locks = false → meth.name = y.name → PS D g (va_A (va_pl L f) sz) s.heap s L f s.heap [] → ∀ ls : Array Slot, lv_has ls maxL (lv_args 0 av) →
    W p l e rm s m av.toArray below meth c s.heap [] 0 0 (MQ below (Qc sz) av.toArray s mc ms (va_A (va_pl L f) sz)) (F0 m 0 ls [])
theorem body_met {Qc : Nat → Array Value → State → Outcome → State → Prop} (hy : plainName y.cls = true) (hw : ws = Cond.code y cc maxL ret :: ws') (hn : (lg_sl av).length ≤ maxL) (h : Body l y ws rm D g av L f mc ms cc maxL ret Qc) (sz : Nat) : Met l y ws rm (CP D g av L f sz) (Qc sz) mc ms (va_A (va_pl L f) sz) := by
  refine Met.ofW (cc := cc) (maxL := maxL) (ret := ret) hy hw ?_
  intro p e s m args below meth c s₁ B hml hv
  have S := (PS.entry hv).1
  obtain ⟨rfl, -⟩ := hv
  have hts := atoms_spec (ws := ws) B.pre
  have hl := lv_entry av (n := maxL) hn
  rw [lg_entry_eq]
  exact h sz p e s m below meth c B.exec B.bytes B.returns hml hts (findClass_of_methodNamed B.named) B.notSynchronized (name_of_methodNamed B.named B.method).1 S _ hl
theorem cI_of {post : Int32 → List Nat → (Nat → va_E) → Prop} (hy : plainName y.cls = true) (hw : ws = Cond.code y cc maxL ret :: ws') (hn : (lg_sl av).length ≤ maxL) (h : Body l y ws rm D g av L f mc ms cc maxL ret (fun sz => va_Qi (fun r (u : List Nat × (Nat → va_E)) => post r u.1 u.2) (CB D L f sz) (va_A (va_pl L f) sz))) : cI l y ws rm D g av L f mc ms post := fun sz => body_met (Qc := fun sz => va_Qi (fun r (u : List Nat × (Nat → va_E)) => post r u.1 u.2) (CB D L f sz) (va_A (va_pl L f) sz)) hy hw hn h sz
theorem cL_of {post : Int64 → List Nat → (Nat → va_E) → Prop} (hy : plainName y.cls = true) (hw : ws = Cond.code y cc maxL ret :: ws') (hn : (lg_sl av).length ≤ maxL) (h : Body l y ws rm D g av L f mc ms cc maxL ret (fun sz => va_Ql (fun r (u : List Nat × (Nat → va_E)) => post r u.1 u.2) (CB D L f sz) (va_A (va_pl L f) sz))) : cL l y ws rm D g av L f mc ms post := fun sz => body_met (Qc := fun sz => va_Ql (fun r (u : List Nat × (Nat → va_E)) => post r u.1 u.2) (CB D L f sz) (va_A (va_pl L f) sz)) hy hw hn h sz
theorem cQ_of {post : Option Nat → List Nat → (Nat → va_E) → Prop} (hy : plainName y.cls = true) (hw : ws = Cond.code y cc maxL ret :: ws') (hn : (lg_sl av).length ≤ maxL) (h : Body l y ws rm D g av L f mc ms cc maxL ret (fun sz => va_Qq (fun r (u : List Nat × (Nat → va_E)) => post r u.1 u.2) (CB D L f sz) (va_A (va_pl L f) sz))) : cQ l y ws rm D g av L f mc ms post := fun sz => body_met (Qc := fun sz => va_Qq (fun r (u : List Nat × (Nat → va_E)) => post r u.1 u.2) (CB D L f sz) (va_A (va_pl L f) sz)) hy hw hn h sz
theorem cV_of {post : List Nat → (Nat → va_E) → Prop} (hy : plainName y.cls = true) (hw : ws = Cond.code y cc maxL ret :: ws') (hn : (lg_sl av).length ≤ maxL) (h : Body l y ws rm D g av L f mc ms cc maxL ret (fun sz => va_Qv (fun (u : List Nat × (Nat → va_E)) => post u.1 u.2) (CB D L f sz) (va_A (va_pl L f) sz))) : cV l y ws rm D g av L f mc ms post := fun sz => body_met (Qc := fun sz => va_Qv (fun (u : List Nat × (Nat → va_E)) => post u.1 u.2) (CB D L f sz) (va_A (va_pl L f) sz)) hy hw hn h sz
theorem ne_sh {f : Nat → va_E} {a b : Nat} {x y : va_E} (h1 : f a = x) (h2 : f b = y) (h : x ≠ y) : b ≠ a := fun q => h (by rw [← h1, ← h2, q])
theorem up_ne {f f1 : Nat → va_E} {a b : Nat} {x y : va_E} (hf : f1 = va_up f a x) (h : b ≠ a) (hb : f b = y) : f1 b = y := by rw [hf, va_up_ne _ _ h]; exact hb
theorem up_self {f f1 : Nat → va_E} {a : Nat} {x : va_E} (hf : f1 = va_up f a x) : f1 a = x := by rw [hf]; exact va_up_self _ _ _
end PoolMethod
