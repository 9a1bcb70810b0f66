/-! ===== my own layer: contracts without new cells, over lists of cells; rows for each instruction that touches the heap ===== -/
section BASE
variable {p : Program} {l : Launch} {e : Env} {R : Room} {s : State} {m : MethodId} {args : Array Value} {below : List Frame} {meth : Method} {c : Code} {H : Heap} {locs : List Loc} {cells slots : Nat} {Q : State → Prop}
variable {cc : ByteArray} {nL pc : Nat} {own : String} {ret : Option FieldType} {D : va_G} {cy : Nat → ClassId} {A : Nat → Prop} {ws ws' : va_W} {ls : Array Slot} {rest st : List Value} {a q0 ci k idx : Nat} {fs : List Value} {v : Value}
abbrev TYc (cy : Nat → ClassId) : List (ClassId × FieldType) := [(cy 0, .byte), (cy 1, .char), (cy 2, .int), (cy 3, .long), (cy 4, .boolean), (cy 5, .object "BellForWanted$Folk")]
/-- what stands in a method: the machine, its code, the tables' words, the classes -/
def Ev (p : Program) (s : State) (m : MethodId) (args : Array Value) (meth : Method) (c : Code) (cc : ByteArray) (nL : Nat) (own : String) (ret : Option FieldType) (D : va_G) (cy : Nat → ClassId) (A : Nat → Prop) : Prop :=
  p.tables.exec = Jvm.exec ∧ c.code = cc ∧ c.maxLocals = nL ∧ s.vm.findClass own = some m.cls ∧ (∀ w ∈ lw_g, w.before args s = true) ∧ va_K D vwCl (TYc cy) s ∧ (∀ q, s.heap.size ≤ q → A q) ∧ meth.sig.returnType = ret ∧ meth.locks = false
theorem Ev.x (E : Ev p s m args meth c cc nL own ret D cy A) : p.tables.exec = Jvm.exec := E.1
theorem Ev.b (E : Ev p s m args meth c cc nL own ret D cy A) : c.code = cc := E.2.1
theorem Ev.ml (E : Ev p s m args meth c cc nL own ret D cy A) : c.maxLocals = nL := E.2.2.1
theorem Ev.ow (E : Ev p s m args meth c cc nL own ret D cy A) : s.vm.findClass own = some m.cls := E.2.2.2.1
theorem Ev.ts (E : Ev p s m args meth c cc nL own ret D cy A) : ∀ w ∈ lw_g, w.before args s = true := E.2.2.2.2.1
theorem Ev.K (E : Ev p s m args meth c cc nL own ret D cy A) : va_K D vwCl (TYc cy) s := E.2.2.2.2.2.1
theorem Ev.ha (E : Ev p s m args meth c cc nL own ret D cy A) : ∀ q, s.heap.size ≤ q → A q := E.2.2.2.2.2.2.1
theorem Ev.r (E : Ev p s m args meth c cc nL own ret D cy A) : meth.sig.returnType = ret := E.2.2.2.2.2.2.2.1
theorem Ev.lk (E : Ev p s m args meth c cc nL own ret D cy A) : meth.locks = false := E.2.2.2.2.2.2.2.2
/-- the heap holds the cells, apart, in A; outside A nothing old has changed -/
def Sv (D : va_G) (A : Nat → Prop) (H0 : Heap) (ws : va_W) (H : Heap) (locs : List Loc) : Prop := va_P D vwCl ws H ∧ va_D A ws ∧ va_S A H0 H locs
def Qc0 (D : va_G) (o : Option Value) (w' : Value → va_W) (A : Nat → Prop) : Array Value → State → Outcome → State → Prop := fun _ st oc t => (oc = .returned o ∧ ∃ rv, va_P D vwCl (w' rv) t.heap) ∧ va_F A st t
/-- a contract: from the cells w (and arguments av) it returns o and leaves the cells w' -/
def Ct (l : Launch) (y : MethodName) (cc : ByteArray) (maxL : Nat) (ret : Option FieldType) (fr lo : Nat) (D : va_G) (cy : Nat → ClassId) (av : List Value) (w : va_W) (w' : Value → va_W) (o : Option Value) : Prop :=
  Cond.code y cc maxL ret ∈ lw_g ∧ ∀ sz : Nat, Met l y (.code y cc maxL ret :: lw_g) { frames := fr, cells := 0, slots := 0, locals := lo } (va_Pc av (fun U => U.heap.size = sz ∧ va_P D vwCl w U.heap ∧ va_K D vwCl (TYc cy) U ∧ va_D (fun _ => True) w)) (Qc0 D o w' (va_A w sz)) 0 0 (va_A w sz)
/-- as Met.ofW, for a method of any class that has no row among the natives -/
theorem Met_ofWF {y : MethodName} {ws ws' : List Cond} {rm : Room} {Pc : Array Value → State → Prop} {Qc : Array Value → State → Outcome → State → Prop} {mc ms : Nat} {free : Addr → Prop} {cc : ByteArray} {maxL : Nat} {ret : Option FieldType}
    (hy : plainFor y = true) (hw : ws = Cond.code y cc maxL ret :: ws')
    (body : ∀ p e s m args below meth c s₁, BodyLoose p l y (headSpec ws rm) cc maxL ret e s m args below meth c s₁ → c.maxLocals = maxL → Pc args s →
      W p l e (headSpec ws rm).room s m args below meth c s.heap [] 0 0 (MQ below Qc args s mc ms free) (entryFrame m args maxL)) : Met l y ws rm Pc Qc mc ms free := by
  refine MetFree.of_bodySF (code := cc) (maxLocals := maxL) (ret := ret) hy ?_ ?_
  · intro args s m h hn
    obtain ⟨meth, c, h1, h2, h3, h4, h5, h6, -, -⟩ := Cond.code_spec hn (atoms_spec (ws := ws) h _ (by rw [hw]; exact List.mem_cons_self))
    exact ⟨meth, c, h1, h2, h3, h4, h5, h6⟩
  · intro p e s m args below meth c s₁ B hml hP _
    have hh0 : s₁.heap = s.heap := by rw [B.state]; rfl
    obtain ⟨t, a1, o, b1, b2, b3⟩ := body p e s m args below meth c s₁ B hml hP s₁ hh0 (Stand.of_body B)
    exact ⟨t, o, a1, b1, b2, ⟨b3.1, b3.2⟩⟩
theorem Ct.mk {y : MethodName} {maxL fr lo : Nat} {av : List Value} {w : va_W} {w' : Value → va_W} {o : Option Value} (hk : Cond.code y cc maxL ret ∈ lw_g) (hy : plainFor y = true) (ha : (lg_sl av).length ≤ maxL)
    (body : ∀ (p : Program) (e : Env) (s : State) (m : MethodId) (below : List Frame) (meth : Method) (c : Code) (A : Nat → Prop) (ls : Array Slot) (args : Array Value) (R : Room) (Q : State → Prop), R.frames = fr → R.locals = lo → Q = MQ below (Qc0 D o w' A) args s 0 0 A → Ev p s m args meth c cc maxL y.cls ret D cy A → ∀ (H : Heap) (locs : List Loc), Sv D A s.heap w H locs → lv_has ls maxL (lv_args 0 av) →
      W p l e R s m args below meth c H locs 0 0 Q (F0 m 0 ls [])) : Ct l y cc maxL ret fr lo D cy av w w' o := by
  refine ⟨hk, fun sz => ?_⟩
  refine Met_ofWF (cc := cc) (maxL := maxL) (ret := ret) hy rfl ?_
  intro p e s m args below meth c s₁ B hml hv
  obtain ⟨rfl, hsz, hP, hK, hD0⟩ := hv
  have hts := atoms_spec (ws := Cond.code y cc maxL ret :: lw_g) B.pre
  subst hsz
  have hD := hD0.self (sz := s.heap.size)
  have hA : ∀ q : Nat, s.heap.size ≤ q → va_A w s.heap.size q := fun q h => Or.inr h
  have hl := lv_entry av (n := maxL) ha
  rw [lg_entry_eq]
  exact body p e s m below meth c _ _ _ _ _ rfl rfl rfl ⟨B.exec, B.bytes, hml, findClass_of_methodNamed B.named, fun w hw => hts w (List.mem_cons_of_mem _ hw), hK, hA, B.returns, B.notSynchronized⟩ _ _ ⟨hP, hD, va_S.rf⟩ hl
/-! ends -/
theorem rt_i {o : Int32} {w' : Value → va_W} (E : Ev p s m args meth c cc nL own (some .int) D cy A) (hQ : Q = MQ below (Qc0 D (some (.int o)) w' A) args s 0 0 A) (rv : Value) (hS : Sv D A s.heap (w' rv) H locs) (hd : decode cc pc = .ok (.ireturn, 1)) : W p l e R s m args below meth c H locs 0 0 Q (F0 m pc ls [.int o]) := by
  subst hQ
  exact W.iret E.x E.b E.r (fun t ht hW => ⟨⟨rfl, rv, by rw [ht]; exact hS.1⟩, hS.2.2.F ht⟩) hS.2.2.2.2 hd E.lk
theorem rt_n {ty : FieldType} {o : Int32} {w' : Value → va_W} (E : Ev p s m args meth c cc nL own (some ty) D cy A) (hn : narrow ty (.int o) = .int o) (hQ : Q = MQ below (Qc0 D (some (.int o)) w' A) args s 0 0 A) (rv : Value) (hS : Sv D A s.heap (w' rv) H locs) (hd : decode cc pc = .ok (.ireturn, 1)) : W p l e R s m args below meth c H locs 0 0 Q (F0 m pc ls [.int o]) := by
  subst hQ
  exact W.zret E.x E.b E.r hn (fun t ht hW => ⟨⟨rfl, rv, by rw [ht]; exact hS.1⟩, hS.2.2.F ht⟩) hS.2.2.2.2 hd E.lk
theorem rt_l {o : Int64} {w' : Value → va_W} (E : Ev p s m args meth c cc nL own (some .long) D cy A) (hQ : Q = MQ below (Qc0 D (some (.long o)) w' A) args s 0 0 A) (rv : Value) (hS : Sv D A s.heap (w' rv) H locs) (hd : decode cc pc = .ok (.lreturn, 1)) : W p l e R s m args below meth c H locs 0 0 Q (F0 m pc ls [.long o]) := by
  subst hQ
  exact W.lret E.x E.b E.r (fun t ht hW => ⟨⟨rfl, rv, by rw [ht]; exact hS.1⟩, hS.2.2.F ht⟩) hS.2.2.2.2 hd E.lk
theorem rt_v {w' : Value → va_W} (E : Ev p s m args meth c cc nL own none D cy A) (hQ : Q = MQ below (Qc0 D none w' A) args s 0 0 A) (rv : Value) (hS : Sv D A s.heap (w' rv) H locs) (hd : decode cc pc = .ok (.return_, 1)) : W p l e R s m args below meth c H locs 0 0 Q (F0 m pc ls []) := by
  subst hQ
  exact W.vret E.x E.b E.r (fun t ht hW => ⟨⟨rfl, rv, by rw [ht]; exact hS.1⟩, hS.2.2.F ht⟩) hS.2.2.2.2 hd E.lk
/-! fields -/
theorem r_get {C : String} {T : u_T} {N : Nat} {ty0 : Nat → FieldType} (E : Ev p s m args meth c cc nL own ret D cy A) (fr : FR own idx ci C T N ty0 k) (hS : Sv D A s.heap ws H locs) (q0 : Nat) (he : ws[q0]? = some (a, .inr (ci, fs))) (hv : fs[k]? = some v) (hd : decode cc pc = .ok (.getfield idx, 3))
    (kk : W p l e R s m args below meth c H locs cells slots Q (F0 m (pc + 3) ls (v :: rest))) : W p l e R s m args below meth c H locs cells slots Q (F0 m pc ls (.ref a :: rest)) := by
  obtain ⟨f1, f2, f3, f4, f5, f6, f7⟩ := fr
  rcases f7 with h | ⟨host, h⟩
  · exact va_get E.x E.b E.ts f3 E.ow E.K hS.1 q0 he f1 k f2 (E.ts _ h) (fun x hx => by rw [← f6]; exact hx) hv hd kk
  · exact va_getN E.x E.b E.ts f3 E.ow E.K hS.1 q0 he f1 k f2 (E.ts _ h) (fun x hx => by rw [← f6]; exact hx) hv hd kk
theorem r_put {C : String} {T : u_T} {N : Nat} {ty0 : Nat → FieldType} (E : Ev p s m args meth c cc nL own ret D cy A) (fr : FR own idx ci C T N ty0 k) (hS : Sv D A s.heap ws H locs) (q0 : Nat) (he : ws[q0]? = some (a, .inr (ci, fs))) (hl : k < fs.length) (hfin : (T k).2.2.2 = false) (hn : narrow (ty0 k) v = v) (hfit : fits (ty0 k) v = true) (hw : ws.set q0 (a, .inr (ci, fs.set k v)) = ws') (hd : decode cc pc = .ok (.putfield idx, 3))
    (kk : ∀ (H : Heap) (locs : List Loc), Sv D A s.heap ws' H locs → W p l e R s m args below meth c H locs cells slots Q (F0 m (pc + 3) ls rest)) : W p l e R s m args below meth c H locs cells slots Q (F0 m pc ls (v :: .ref a :: rest)) := by
  obtain ⟨f1, f2, f3, f4, f5, f6, f7⟩ := fr
  subst hw
  rcases f7 with h | ⟨host, h⟩
  · exact va_put E.x E.b E.ts f3 ty0 f4 f5 E.ow E.K hS.1 hS.2.1 hS.2.2 q0 he f1 k f2 (E.ts _ h) (fun x hx => by rw [← f6]; exact hx) hfin (f4 k f2) hn hfit hl hd (fun H1 locs1 h1 h2 h3 => kk H1 locs1 ⟨h1, h2, h3⟩)
  · exact va_putN E.x E.b E.ts f3 ty0 f4 f5 E.ow E.K hS.1 hS.2.1 hS.2.2 q0 he f1 k f2 (E.ts _ h) (fun x hx => by rw [← f6]; exact hx) hfin (f4 k f2) hn hfit hl hd (fun H1 locs1 h1 h2 h3 => kk H1 locs1 ⟨h1, h2, h3⟩)
/-! arrays -/
theorem r_iald {n : Nat} {f : Nat → Int32} {i : Int32} (E : Ev p s m args meth c cc nL own ret D cy A) (hS : Sv D A s.heap ws H locs) (q0 : Nat) (he : ws[q0]? = some (a, .inl (cy 2, n, .inl f))) (hin : vp_in i n) (hd : decode cc pc = .ok (.iaload, 1))
    (kk : W p l e R s m args below meth c H locs cells slots Q (F0 m (pc + 1) ls (.int (f i.toNatClampNeg) :: rest))) : W p l e R s m args below meth c H locs cells slots Q (F0 m pc ls (.int i :: .ref a :: rest)) :=
  va_iald E.x E.b E.K hS.1 q0 2 he rfl hin hd kk
theorem r_bald {n : Nat} {f : Nat → Int32} {i : Int32} (E : Ev p s m args meth c cc nL own ret D cy A) (hS : Sv D A s.heap ws H locs) (q0 : Nat) (he : ws[q0]? = some (a, .inl (cy 0, n, .inl f))) (hin : vp_in i n) (hd : decode cc pc = .ok (.baload, 1))
    (kk : W p l e R s m args below meth c H locs cells slots Q (F0 m (pc + 1) ls (.int (f i.toNatClampNeg) :: rest))) : W p l e R s m args below meth c H locs cells slots Q (F0 m pc ls (.int i :: .ref a :: rest)) :=
  va_bald E.x E.b E.K hS.1 q0 0 he rfl hin hd kk
theorem r_zald {n : Nat} {f : Nat → Int32} {i : Int32} (E : Ev p s m args meth c cc nL own ret D cy A) (hS : Sv D A s.heap ws H locs) (q0 : Nat) (he : ws[q0]? = some (a, .inl (cy 4, n, .inl f))) (hin : vp_in i n) (hd : decode cc pc = .ok (.baload, 1))
    (kk : W p l e R s m args below meth c H locs cells slots Q (F0 m (pc + 1) ls (.int (f i.toNatClampNeg) :: rest))) : W p l e R s m args below meth c H locs cells slots Q (F0 m pc ls (.int i :: .ref a :: rest)) :=
  va_zald E.x E.b E.K hS.1 q0 4 he rfl hin hd kk
theorem r_cald {n : Nat} {f : Nat → Int32} {i : Int32} (E : Ev p s m args meth c cc nL own ret D cy A) (hS : Sv D A s.heap ws H locs) (q0 : Nat) (he : ws[q0]? = some (a, .inl (cy 1, n, .inl f))) (hin : vp_in i n) (hd : decode cc pc = .ok (.caload, 1))
    (kk : W p l e R s m args below meth c H locs cells slots Q (F0 m (pc + 1) ls (.int (f i.toNatClampNeg) :: rest))) : W p l e R s m args below meth c H locs cells slots Q (F0 m pc ls (.int i :: .ref a :: rest)) :=
  va_cald E.x E.b E.K hS.1 q0 1 he rfl hin hd kk
theorem r_lald {n : Nat} {f : Nat → Int64} {i : Int32} (E : Ev p s m args meth c cc nL own ret D cy A) (hS : Sv D A s.heap ws H locs) (q0 : Nat) (he : ws[q0]? = some (a, .inl (cy 3, n, .inr (.inl f)))) (hin : vp_in i n) (hd : decode cc pc = .ok (.laload, 1))
    (kk : W p l e R s m args below meth c H locs cells slots Q (F0 m (pc + 1) ls (.long (f i.toNatClampNeg) :: rest))) : W p l e R s m args below meth c H locs cells slots Q (F0 m pc ls (.int i :: .ref a :: rest)) :=
  va_lald E.x E.b E.K hS.1 q0 3 he rfl hin hd kk
theorem r_aald {n : Nat} {f : Nat → Option Nat} {i : Int32} (E : Ev p s m args meth c cc nL own ret D cy A) (hS : Sv D A s.heap ws H locs) (q0 : Nat) (he : ws[q0]? = some (a, .inl (cy 5, n, .inr (.inr (.inr (.inr f)))))) (hin : vp_in i n) (hd : decode cc pc = .ok (.aaload, 1))
    (kk : W p l e R s m args below meth c H locs cells slots Q (F0 m (pc + 1) ls (va_rf (f i.toNatClampNeg) :: rest))) : W p l e R s m args below meth c H locs cells slots Q (F0 m pc ls (.int i :: .ref a :: rest)) :=
  va_aldq E.x E.b E.K hS.1 q0 5 he rfl hin hd kk
theorem r_alen {x : vp_A} {cA : ClassId} {ty : FieldType} {v : Int32} (E : Ev p s m args meth c cc nL own ret D cy A) (hS : Sv D A s.heap ws H locs) (q0 t0 : Nat) (he : ws[q0]? = some (a, .inl (cA, x))) (ht : (TYc cy)[t0]? = some (cA, ty)) (hv : Int32.ofNat x.1 = v) (hd : decode cc pc = .ok (.arraylength, 1))
    (kk : W p l e R s m args below meth c H locs cells slots Q (F0 m (pc + 1) ls (.int v :: rest))) : W p l e R s m args below meth c H locs cells slots Q (F0 m pc ls (.ref a :: rest)) :=
  va_alen E.x E.b E.K hS.1 q0 t0 he ht hv hd kk
theorem r_iast {n : Nat} {f : Nat → Int32} {i x : Int32} (E : Ev p s m args meth c cc nL own ret D cy A) (hS : Sv D A s.heap ws H locs) (q0 : Nat) (he : ws[q0]? = some (a, .inl (cy 2, n, .inl f))) (hin : vp_in i n) (hw : ws.set q0 (a, .inl (cy 2, n, .inl (upd f i.toNatClampNeg x))) = ws') (hd : decode cc pc = .ok (.iastore, 1))
    (kk : ∀ (H : Heap) (locs : List Loc), Sv D A s.heap ws' H locs → W p l e R s m args below meth c H locs cells slots Q (F0 m (pc + 1) ls rest)) : W p l e R s m args below meth c H locs cells slots Q (F0 m pc ls (.int x :: .int i :: .ref a :: rest)) := by
  subst hw
  exact va_iast E.x E.b E.K hS.1 hS.2.1 hS.2.2 q0 2 he rfl hin hd (fun H1 locs1 h1 h2 h3 => kk H1 locs1 ⟨h1, h2, h3⟩)
theorem r_bast {n : Nat} {f : Nat → Int32} {i x : Int32} (E : Ev p s m args meth c cc nL own ret D cy A) (hS : Sv D A s.heap ws H locs) (q0 : Nat) (he : ws[q0]? = some (a, .inl (cy 0, n, .inl f))) (hin : vp_in i n) (hw : ws.set q0 (a, .inl (cy 0, n, .inl (upd f i.toNatClampNeg (vp_nar .byte x)))) = ws') (hd : decode cc pc = .ok (.bastore, 1))
    (kk : ∀ (H : Heap) (locs : List Loc), Sv D A s.heap ws' H locs → W p l e R s m args below meth c H locs cells slots Q (F0 m (pc + 1) ls rest)) : W p l e R s m args below meth c H locs cells slots Q (F0 m pc ls (.int x :: .int i :: .ref a :: rest)) := by
  subst hw
  exact va_bast E.x E.b E.K hS.1 hS.2.1 hS.2.2 q0 0 he rfl hin hd (fun H1 locs1 h1 h2 h3 => kk H1 locs1 ⟨h1, h2, h3⟩)
theorem r_zast {n : Nat} {f : Nat → Int32} {i x : Int32} (E : Ev p s m args meth c cc nL own ret D cy A) (hS : Sv D A s.heap ws H locs) (q0 : Nat) (he : ws[q0]? = some (a, .inl (cy 4, n, .inl f))) (hin : vp_in i n) (hw : ws.set q0 (a, .inl (cy 4, n, .inl (upd f i.toNatClampNeg (vp_nar .boolean x)))) = ws') (hd : decode cc pc = .ok (.bastore, 1))
    (kk : ∀ (H : Heap) (locs : List Loc), Sv D A s.heap ws' H locs → W p l e R s m args below meth c H locs cells slots Q (F0 m (pc + 1) ls rest)) : W p l e R s m args below meth c H locs cells slots Q (F0 m pc ls (.int x :: .int i :: .ref a :: rest)) := by
  subst hw
  exact va_zast E.x E.b E.K hS.1 hS.2.1 hS.2.2 q0 4 he rfl hin hd (fun H1 locs1 h1 h2 h3 => kk H1 locs1 ⟨h1, h2, h3⟩)
theorem r_cast {n : Nat} {f : Nat → Int32} {i x : Int32} (E : Ev p s m args meth c cc nL own ret D cy A) (hS : Sv D A s.heap ws H locs) (q0 : Nat) (he : ws[q0]? = some (a, .inl (cy 1, n, .inl f))) (hin : vp_in i n) (hw : ws.set q0 (a, .inl (cy 1, n, .inl (upd f i.toNatClampNeg (vp_nar .char x)))) = ws') (hd : decode cc pc = .ok (.castore, 1))
    (kk : ∀ (H : Heap) (locs : List Loc), Sv D A s.heap ws' H locs → W p l e R s m args below meth c H locs cells slots Q (F0 m (pc + 1) ls rest)) : W p l e R s m args below meth c H locs cells slots Q (F0 m pc ls (.int x :: .int i :: .ref a :: rest)) := by
  subst hw
  exact va_cast E.x E.b E.K hS.1 hS.2.1 hS.2.2 q0 1 he rfl hin hd (fun H1 locs1 h1 h2 h3 => kk H1 locs1 ⟨h1, h2, h3⟩)
theorem r_last {n : Nat} {f : Nat → Int64} {i : Int32} {x : Int64} (E : Ev p s m args meth c cc nL own ret D cy A) (hS : Sv D A s.heap ws H locs) (q0 : Nat) (he : ws[q0]? = some (a, .inl (cy 3, n, .inr (.inl f)))) (hin : vp_in i n) (hw : ws.set q0 (a, .inl (cy 3, n, .inr (.inl (vp_updL f i.toNatClampNeg x)))) = ws') (hd : decode cc pc = .ok (.lastore, 1))
    (kk : ∀ (H : Heap) (locs : List Loc), Sv D A s.heap ws' H locs → W p l e R s m args below meth c H locs cells slots Q (F0 m (pc + 1) ls rest)) : W p l e R s m args below meth c H locs cells slots Q (F0 m pc ls (.long x :: .int i :: .ref a :: rest)) := by
  subst hw
  exact va_last E.x E.b E.K hS.1 hS.2.1 hS.2.2 q0 3 he rfl hin hd (fun H1 locs1 h1 h2 h3 => kk H1 locs1 ⟨h1, h2, h3⟩)
end BASE
