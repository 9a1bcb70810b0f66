/-! ===== one, row: what is thrown, and caught by the law's own methods ===== -/
abbrev NSE : String := "java/util/NoSuchElementException"
abbrev NSn : List String := ["java/lang/RuntimeException", "java/lang/Exception"]
def XNw : List Cond := (vx_at0 RX10 153 NSE NSn).filter (fun w => !goodWord w)
def xfw (w : Cond) : Bool := w.onTables && (w.faceAtom || (match w with | .native _ => true | _ => false))
theorem XN_x : ∀ w ∈ XNw, xfw w = true := by decide +kernel
theorem xfw_m {w : Cond} (hx : xfw w = true) {u U : State} (hvm : u.vm.Alike U.vm) (h : va_Nw w u) : va_Nw w U := by
  unfold xfw at hx
  rw [Bool.and_eq_true, Bool.or_eq_true] at hx
  refine va_tabs (A := #[]) hx.1 (rfl : (u.setVm U.vm).vm = U.vm) ?_
  rcases hx.2 with h1 | h1
  · exact Cond.faceAtom_setVm hvm w h1 h
  · cases w with
    | native x => rw [Cond.native_setVm hvm]; exact h
    | _ => cases h1
def Tx (A : Nat → Prop) (U : State) (H : Heap) : Prop := vx_Zq Bundle.tN "UNASSIGNED_STACK" Bundle.steD A U H ∧ vx_Zq Bundle.tN "SUPPRESSED_SENTINEL" Bundle.listD A U H ∧ ∀ w ∈ XNw, va_Nw w U
theorem Tx.moved {A : Nat → Prop} {u U : State} {H : Heap} (hvm : u.vm.Alike U.vm) (h : Tx A u H) : Tx A U H := ⟨h.1.moved hvm, h.2.1.moved hvm, fun w hw => xfw_m (XN_x w hw) hvm (h.2.2 w hw)⟩
theorem Tx.go {A B : Nat → Prop} {s U : State} {H : Heap} {locs : List Loc} (hW : s.WarmedH U.vm) (hS : va_S A s.heap H locs) (hAB : ∀ q, B q → A q) (h : Tx A s s.heap) : Tx B U H := by
  have hk : ∀ a : Nat, a < s.heap.size → ¬ A a → H[a]? = s.heap[a]? := fun a h1 h2 => hS.2.1 a h1 h2
  exact ⟨((h.1.kept hk).narrow hAB).moved hW.alike, ((h.2.1.kept hk).narrow hAB).moved hW.alike, fun w hw => xfw_m (XN_x w hw) hW.alike (h.2.2 w hw)⟩
theorem Tx.bf {A : Nat → Prop} {U : State} {H : Heap} (h : Tx A U H) (a : Array Value) : ∀ w ∈ XNw, w.before a U = true := fun w hw => by
  have hx := XN_x w hw
  unfold xfw at hx
  rw [Bool.and_eq_true] at hx
  exact va_Nw.use hx.1 (h.2.2 w hw)
theorem xat : ∀ w ∈ (vx_at0 RX10 153 NSE NSn).filter goodWord, w ∈ lw_g := by decide +kernel
theorem xcs : Cond.castable NSE NSE ∈ XNw := by decide +kernel
theorem xgd : ∀ w ∈ Cond.classLink RX10 151 NSE :: Cond.initialized NSE :: vx_at0 RX10 153 NSE NSn, vx_ot w = true := by decide +kernel
theorem xcl : Cond.classLink RX10 151 NSE ∈ lw_g := mgT 1006 (by decide +kernel) rfl
theorem xini : Cond.initialized NSE ∈ lw_g := mgT 22 (by decide +kernel) rfl
theorem xlcl : Cond.classLink RL 13 NSE ∈ lw_g := mgT 1001 (by decide +kernel) rfl
theorem kL_one : Cond.codeWith yL_one cL_one 5 (some .int) [(0, 10, 13, 13)] ∈ lw_g := mgT 1000 (by decide +kernel) rfl
theorem kL_row : Cond.codeWith yL_row cL_row 4 (some .int) [(0, 8, 11, 13)] ∈ lw_g := mgT 1069 (by decide +kernel) rfl
section THROW
variable {p : Program} {l : Launch} {e : Env} {R : Room} {s : State} {m : MethodId} {args : Array Value} {below : List Frame} {meth : Method} {c : Code} {H : Heap} {locs : List Loc} {cells slots : Nat} {Q : State → Prop}
variable {cc : ByteArray} {nL pc : Nat} {own : String} {ret : Option FieldType} {D : va_G} {cy : Nat → ClassId} {A : Nat → Prop} {w ws : va_W} {ws' : Value → va_W} {ls : Array Slot} {rest st st' : List Value} {idx : Nat}
variable {y : MethodName} {bytes : ByteArray} {maxL' fr lo b n mc ms : Nat} {ret' : Option FieldType} {As : List Value} {wc : va_W} {w1 : Value → va_W} {o : Option Value} {hh : List (Nat × Nat × Nat × Nat)}
abbrev XCn (D : va_G) (w : va_W) (A : Nat → Prop) : String → State → State → Prop := vx_X (fun _ : Unit => True) (fun E _ t => E = NSE ∧ va_P D vwCl w t.heap) A
def Cx (l : Launch) (y : MethodName) (cc : ByteArray) (maxL : Nat) (ret : Option FieldType) (fr lo : Nat) (D : va_G) (cy : Nat → ClassId) (av : List Value) (w : va_W) : Prop :=
  Cond.code y cc maxL ret ∈ lw_g ∧ ∀ sz : Nat, vx_Met l y (.code y cc maxL ret :: lw_g) { frames := fr, cells := 1, slots := 6, locals := lo } (va_Pc av (fun U => U.heap.size = sz ∧ va_P D vwCl w U.heap ∧ va_K D vwCl (TYc cy) U ∧ va_D (fun _ => True) w ∧ Tx (va_A w sz) U U.heap)) (fun _ _ _ _ => False) (XCn D w (va_A w sz)) 1 6 (va_A w sz)
theorem Cx.mk {maxL : Nat} {av : List Value} (hk : Cond.code y cc maxL ret ∈ lw_g) (hy : plainName y.cls = true) (ha : (lg_sl av).length ≤ maxL)
    (body : ∀ (p : Program) (e : Env) (s : State) (m : MethodId) (below : List Frame) (meth : Method) (c : Code) (A : Nat → Prop) (ls : Array Slot) (args : Array Value) (R : Room) (Q : State → Prop), R.frames = fr → R.locals = lo → R.cells = 1 → R.slots = 6 → Q = vx_MQ below (fun _ _ _ _ => False) (XCn D w A) args s 1 6 A → Tx A s s.heap → (∀ x ∈ c.exceptionTable.toList, False) → Ev p s m args meth c cc maxL y.cls ret D cy A → ∀ (H : Heap) (locs : List Loc), Sv D A s.heap w H locs → lv_has ls maxL (lv_args 0 av) →
      W p l e R s m args below meth c H locs 0 0 Q (F0 m 0 ls [])) : Cx l y cc maxL ret fr lo D cy av w := by
  refine ⟨hk, fun sz => ?_⟩
  refine vx_ofW (cc := cc) (maxL := maxL) (ret := ret) hy rfl ?_
  intro p e s m args below meth c s₁ B hml hx0 hv
  obtain ⟨rfl, hsz, hP, hK, hD0, hT⟩ := hv
  have hts := atoms_spec (ws := Cond.code y cc maxL ret :: lw_g) B.pre
  subst hsz
  have hD := hD0.self (sz := s.heap.size)
  have hA : ∀ q : Nat, s.heap.size ≤ q → va_A w s.heap.size q := fun q h => Or.inr h
  have hl := lv_entry av (n := maxL) ha
  rw [lg_entry_eq]
  exact body p e s m below meth c _ _ _ _ _ rfl rfl rfl rfl rfl hT hx0 ⟨B.exec, B.bytes, hml, findClass_of_methodNamed B.named, fun w hw => hts w (List.mem_cons_of_mem _ hw), hK, hA, B.returns, B.notSynchronized⟩ _ _ ⟨hP, hD, va_S.rf⟩ hl
theorem th_0 (E : Ev p s m args meth c cc nL RX10 ret D cy A) (hfl : l.stackTraces = false) (hQ : Q = vx_MQ below (fun _ _ _ _ => False) (XCn D w A) args s 1 6 A) (hT : Tx A s s.heap) (hx0 : ∀ x ∈ c.exceptionTable.toList, False) (hS : Sv D A s.heap w H locs) (hsz : ls.size = nL) (d0 : decode cc pc = .ok (.new 151, 3)) (d3 : decode cc (pc + 3) = .ok (.dup, 1)) (d4 : decode cc (pc + 4) = .ok (.invokespecial 153, 3)) (d7 : decode cc (pc + 7) = .ok (.athrow, 1)) (hf : 5 < R.frames) (hlo : (rest.map fun v => v.category).sum + 81 ≤ R.locals) (hc : 1 ≤ R.cells) (hs : 6 ≤ R.slots) : W p l e R s m args below meth c H locs 0 0 Q (F0 m pc ls rest) := by
  subst hQ
  refine vx_throw0 (names := NSn) (cls := NSE) E.x E.b hfl E.ow (by decide +kernel) (by decide +kernel) (E.ts _ xcl) (E.ts _ xini) (vx_hat (fun w hw => E.ts _ (xat w hw)) (B := XNw) (fun w hw => hw) (hT.bf _)) xgd hT.1 hT.2.1 hS.2.2 (by rw [E.ml]; exact hsz) d0 d3 d4 d7 (fun x hx => (hx0 x hx).elim) hf hlo (by omega) (by omega) E.lk (fun t hvm hz hk => ⟨(), trivial, ⟨rfl, ?_⟩, ?_⟩) hS.2.2.2.2 (Nat.le_refl _) (Nat.le_refl _)
  · exact hS.1.kept (fun k x hx => hk x.1 (hS.1 k x hx).lt)
  · exact ⟨Nat.le_trans hS.2.2.1 hz, fun q h1 h2 => by rw [hk q (Nat.lt_of_lt_of_le h1 hS.2.2.1)]; exact hS.2.2.2.1 q h1 h2⟩
theorem blind_Px {av : List Value} {sz : Nat} : FrameBlind (va_Pc av (fun U => U.heap.size = sz ∧ va_P D vwCl wc U.heap ∧ va_K D vwCl (TYc cy) U ∧ va_D (fun _ => True) wc ∧ Tx (va_A wc sz) U U.heap)) := fun a U f mk q => by
  obtain ⟨q0, q1, qP, qK, qD, qT⟩ := q
  exact ⟨q0, q1, qP, va_K.moved (u := U) (U := U.calling f mk a) (Vm.Alike.refl U.vm) qK, qD, Tx.moved (u := U) (U := U.calling f mk a) (Vm.Alike.refl U.vm) qT⟩
theorem xt_V (E : Ev p s m args meth c cc nL own ret D cy A) (hT : Tx A s s.heap) (hS : Sv D A s.heap ws H locs) (lk : VL own idx y n) (hlk : Cond.methodLink own idx y ∈ lw_g) (hc : Cx l y bytes maxL' ret' fr lo D cy (.ref b :: As) wc) (isC : List Nat) (hC : isC.map (fun i => ws[i]?) = wc.map some) (hnd : va_nd isC = true) (hw : va_sets ws (isC.zip wc) = ws)
    {ci : Nat} {fs : List Value} {T0 : u_T} {N0 : Nat} (hrec : wc[0]? = some (b, .inr (ci, fs))) (hcl : vwCl[ci]? = some (y.cls, T0, N0)) (hn : As.length = n) (hst : st = As.reverse ++ .ref b :: rest) (hW : (rest.map fun v => v.category).sum ≤ 8) (hsz : ls.size = nL) (hf : fr + 1 ≤ R.frames) (hlo : 8 + (maxL' + 11) + lo ≤ R.locals) (hcs : cells + 1 ≤ R.cells ∧ slots + 6 ≤ R.slots) (hd : decode cc pc = .ok (.invokevirtual idx, 3))
    (kx : ∀ (ce : Cell) (q9 : Addr) (H : Heap) (locs : List Loc), Sv D A s.heap ws H locs → H[q9]? = some ce → ce.vm = .none → s.vm.findClass NSE = some ce.cls → vx_W p l e R s m args below meth c H locs (cells + 1) (slots + 6) Q (F0 m pc ls rest) q9) : W p l e R s m args below meth c H locs cells slots Q (F0 m pc ls st) := by
  obtain ⟨⟨-, hini, hy1, hy2, hnp⟩, hins, hsel⟩ := lk
  obtain ⟨hcode, hM⟩ := hc
  have hPc := pick_P hS.1 hC
  have hDc := hS.2.1.sub isC hnd hC
  have hFc : ∀ q, va_A wc H.size q → A q := va_free hS.2.1 hS.2.2 E.ha isC hC
  have hp : PreV s H y.cls b (va_Pc (.ref b :: As) (fun U => U.heap.size = H.size ∧ va_P D vwCl wc U.heap ∧ va_K D vwCl (TYc cy) U ∧ va_D (fun _ => True) wc ∧ Tx (va_A wc H.size) U U.heap)) As :=
    ⟨blind_Px, va_recv E.K hPc hcl hrec, fun U hU hWm => ⟨rfl, by rw [hU], by rw [hU]; exact hPc, va_K.moved hWm.alike E.K, hDc.weaken (fun _ _ _ _ => trivial), by rw [hU]; exact hT.go hWm hS.2.2 hFc⟩⟩
  have hws : ∀ w ∈ (Cond.code y bytes maxL' ret' :: lw_g), ∀ (a' : Array Value) (U : State), s.WarmedH U.vm → w.before a' U = true := fun w hw a' U hWm => by
    rcases List.mem_cons.mp hw with rfl | hw
    · exact lw_g_warm E.ts _ hcode a' U hWm
    · exact lw_g_warm E.ts w hw a' U hWm
  have hlen : ∀ sig, parseMethodDescriptor y.desc = some sig → n = sig.parameters.length := fun sig h => by rw [h] at hnp; exact (Option.some.inj hnp).symm
  have hW2 : 2 * (F0 m pc ls st).monitorRoom + (rest.map fun v => v.category).sum ≤ 8 := by show 2 * 0 + _ ≤ 8; omega
  have hr := vx_runV (Ts := lw_g) (g := F0 m pc ls st) (rest := rest) (e := e) (below := below) (meth := meth) (locs := locs) (cells := cells) (slots := slots) ⟨E.x, E.b, E.ml, E.ow, E.ts⟩ (hM H.size) ⟨⟨rfl, rfl, hf, hlo, hws, List.mem_cons_self, E.ts _ hcode, E.ts _ hini, ⟨hy1, hy2⟩, hlen, E.ts _ hlk⟩, E.ts _ hins, E.ts _ hsel⟩ hp rfl hn hsz hst hW2 hd hcs
  intro T hT2 X
  rcases hr T hT2 X with ⟨v, st₀, t, T', L, h0, X', hL, e1, e2, hq, st⟩ | ⟨q, st₀, t, T', L, E9, ce, h0, X', hL, e1, e2, ⟨u, hp, ⟨hE, hP1⟩, hF⟩, hce, hcv, hcl9, st⟩
  · exact hq.elim
  · obtain ⟨k1, k2, k3⟩ := vx_keep h0 e1 hS.2.2 (fun z _ h => hFc z h) hFc hL hF
    obtain ⟨hP2, hD2⟩ := va_back isC hS.1 hS.2.1 hC rfl k2 (by rw [e1]; exact hP1)
    rw [hw] at hP2 hD2
    rw [hE] at hcl9
    obtain ⟨t2, a1, b1⟩ := kx ce q T'.heap (locs ++ L) ⟨hP2, hD2, k3⟩ (by rw [e1]; exact hce) hcv hcl9 T' rfl X'
    exact ⟨t2, st.trans a1, b1⟩
theorem Met_ofWH {ws ws' : List Cond} {rm : Room} {Pc : Array Value → State → Prop} {Qc : Array Value → State → Outcome → State → Prop} {free : Addr → Prop} {maxL : Nat}
    (hy : plainName y.cls = true) (hw : ws = Cond.codeWith y cc maxL ret hh :: ws')
    (body : ∀ p e s m args below meth c s₁, BodyLoose p l y (headSpec ws rm) cc maxL ret e s m args below meth c s₁ → c.maxLocals = maxL → Pc args s →
      W p l e (headSpec ws rm).room s m args below meth c s.heap [] 0 0 (MQ below Qc args s mc ms free) (entryFrame m args maxL)) : Met l y ws rm Pc Qc mc ms free := by
  refine MetFree.of_bodyS (code := cc) (maxLocals := maxL) (ret := ret) hy ?_ ?_
  · intro args s m h hn
    obtain ⟨m9, meth, c, hn9, h1, h2, h3, h4, -, h5, h6, -⟩ := Cond.codeWith_spec (atoms_spec (ws := ws) h _ (by rw [hw]; exact List.mem_cons_self))
    cases hn.symm.trans hn9
    exact ⟨meth, c, h1, h2, h3, h4, h5, h6⟩
  · intro p e s m args below meth c s₁ B hml hP _
    have hh0 : s₁.heap = s.heap := by rw [B.state]; rfl
    obtain ⟨t, a1, o, b1, b2, b3⟩ := body p e s m args below meth c s₁ B hml hP s₁ hh0 (Stand.of_body B)
    exact ⟨t, o, a1, b1, b2, ⟨b3.1, b3.2⟩⟩
def Cw (l : Launch) (y : MethodName) (cc : ByteArray) (maxL : Nat) (hh : List (Nat × Nat × Nat × Nat)) (fr lo mc ms : Nat) (D : va_G) (cy : Nat → ClassId) (av : List Value) (w : va_W) (w' : Value → va_W) (o : Option Value) : Prop :=
  Cond.codeWith y cc maxL (some .int) hh ∈ lw_g ∧ ∀ sz : Nat, Met l y (.codeWith y cc maxL (some .int) hh :: lw_g) { frames := fr, cells := mc, slots := ms, locals := lo } (va_Pc av (fun U => U.heap.size = sz ∧ va_P D vwCl w U.heap ∧ va_K D vwCl (TYc cy) U ∧ va_D (fun _ => True) w ∧ Tx (va_A w sz) U U.heap)) (Qc0 D o w' (va_A w sz)) mc ms (va_A w sz)
theorem Cw.mk {maxL : Nat} {av : List Value} {w' : Value → va_W} (hk : Cond.codeWith y cc maxL (some .int) hh ∈ lw_g) (hy : plainName y.cls = true) (ha : (lg_sl av).length ≤ maxL)
    (body : ∀ (p : Program) (e : Env) (s : State) (m : MethodId) (below : List Frame) (meth : Method) (c : Code) (A : Nat → Prop) (ls : Array Slot) (args : Array Value) (R : Room) (Q : State → Prop), R.frames = fr → R.locals = lo → R.cells = mc → R.slots = ms → Q = MQ below (Qc0 D o w' A) args s mc ms A → Tx A s s.heap → c.exceptionTable.toList = tableOf hh → Ev p s m args meth c cc maxL y.cls (some .int) D cy A → ∀ (H : Heap) (locs : List Loc), Sv D A s.heap w H locs → lv_has ls maxL (lv_args 0 av) →
      W p l e R s m args below meth c H locs 0 0 Q (F0 m 0 ls [])) : Cw l y cc maxL hh fr lo mc ms D cy av w w' o := by
  refine ⟨hk, fun sz => ?_⟩
  refine Met_ofWH (cc := cc) (maxL := maxL) (ret := some .int) (hh := hh) hy rfl ?_
  intro p e s m args below meth c s₁ B hml hv
  obtain ⟨rfl, hsz, hP, hK, hD0, hT⟩ := hv
  have hts := atoms_spec (ws := Cond.codeWith y cc maxL (some .int) hh :: lw_g) B.pre
  have hx0 := vx_table (x := y) B (hts _ List.mem_cons_self)
  subst hsz
  have hD := hD0.self (sz := s.heap.size)
  have hA : ∀ q : Nat, s.heap.size ≤ q → va_A w s.heap.size q := fun q h => Or.inr h
  have hl := lv_entry av (n := maxL) ha
  rw [lg_entry_eq]
  exact body p e s m below meth c _ _ _ _ _ rfl rfl rfl rfl rfl hT hx0 ⟨B.exec, B.bytes, hml, findClass_of_methodNamed B.named, fun w hw => hts w (List.mem_cons_of_mem _ hw), hK, hA, B.returns, B.notSynchronized⟩ _ _ ⟨hP, hD, va_S.rf⟩ hl
theorem rt_iw {o : Int32} {w' : Value → va_W} (E : Ev p s m args meth c cc nL own (some .int) D cy A) (hQ : Q = MQ below (Qc0 D (some (.int o)) w' A) args s mc ms A) (rv : Value) (hS : Sv D A s.heap (w' rv) H locs) (h1 : cells ≤ mc) (h2 : slots ≤ ms) (hd : decode cc pc = .ok (.ireturn, 1)) : W p l e R s m args below meth c H locs cells slots Q (F0 m pc ls [.int o]) := by
  subst hQ
  refine W.widen h1 h2 ?_
  exact W.iret E.x E.b E.r (fun t ht hW => ⟨⟨rfl, rv, by rw [ht]; exact hS.1⟩, hS.2.2.F ht⟩) hS.2.2.2.2 hd E.lk
theorem ct_goN {isC : List Nat} {free : Addr → Prop} {av : Array Value} (E : Ev p s m args meth c cc nL own ret D cy A) (hS : Sv D A s.heap ws H locs) (hC : isC.map (fun i => ws[i]?) = wc.map some) (hadr : ∀ rv, (w1 rv).map (fun q => q.1) = wc.map (fun q => q.1)) (hw : ∀ rv, va_sets ws (isC.zip (w1 rv)) = ws' rv)
    (hfree : free = va_A wc H.size) (hr : va_Run p l e R s m args below meth c H locs cells slots mc ms (F0 m pc ls st) rest (Qc0 D o w1 (va_A wc H.size) av) free)
    (hst' : o.toList ++ rest = st') (kk : ∀ (H : Heap) (locs : List Loc) (rv : Value), Sv D A s.heap (ws' rv) H locs → W p l e R s m args below meth c H locs (cells + mc) (slots + ms) Q (F0 m (pc + 3) ls st')) : W p l e R s m args below meth c H locs cells slots Q (F0 m pc ls st) := by
  subst hfree
  subst hst'
  have hFc : ∀ q, va_A wc H.size q → A q := va_free hS.2.1 hS.2.2 E.ha isC hC
  intro T hT X
  obtain ⟨v, st₀, t, T', L, h0, X', hL, e1, e2, ⟨⟨hv, rv, hP1⟩, hz, hk⟩, stp⟩ := hr T hT X
  have hv : v = o := by injection hv
  subst hv
  rw [h0] at hz hk
  have hk' : ∀ q : Nat, q < H.size → ¬ va_A wc H.size q → T'.heap[q]? = H[q]? := fun q h1 h2 => by rw [e1]; exact hk q h1 h2
  obtain ⟨hP2, hD2⟩ := va_back isC hS.1 hS.2.1 hC (hadr rv) hk' (by rw [e1]; exact hP1)
  rw [hw rv] at hP2 hD2
  have hS2 : va_S A s.heap T'.heap (locs ++ L) := ⟨Nat.le_trans hS.2.2.1 (by rw [e1]; exact hz), fun q h1 h2 => by rw [hk' q (Nat.lt_of_lt_of_le h1 hS.2.2.1) (fun z => h2 (hFc q z))]; exact hS.2.2.2.1 q h1 h2, fun q hq => by
      rcases List.mem_append.mp hq with h | h
      · exact hS.2.2.2.2 q h
      · exact hFc _ (hL q h)⟩
  obtain ⟨t2, a1, b1⟩ := kk T'.heap (locs ++ L) rv ⟨hP2, hD2, hS2⟩ T' rfl X'
  exact ⟨t2, stp t2 a1, b1⟩
theorem ct_SW {maxL : Nat} (E : Ev p s m args meth c cc nL own ret D cy A) (hT : Tx A s s.heap) (hS : Sv D A s.heap ws H locs) (hini : Cond.initialized y.cls ∈ lw_g) (hlk : Cond.methodLink own idx y ∈ lw_g) (hsta : Cond.static y ∈ lw_g) (hy1 : y.cls ≠ "java/lang/invoke/MethodHandle" ∧ y.cls ≠ "java/lang/invoke/VarHandle") (hnp : (parseMethodDescriptor y.desc).map (fun d => d.parameters.length) = some n) (hc : Cw l y bytes maxL hh fr lo mc ms D cy As wc w1 o) (isC : List Nat) (hC : isC.map (fun i => ws[i]?) = wc.map some) (hnd : va_nd isC = true) (hadr : ∀ rv, (w1 rv).map (fun q => q.1) = wc.map (fun q => q.1)) (hw : ∀ rv, va_sets ws (isC.zip (w1 rv)) = ws' rv)
    (hn : As.length = n) (hst : st = As.reverse ++ rest) (hW : (rest.map fun v => v.category).sum ≤ 8) (hsz : ls.size = nL) (hf : fr + 1 ≤ R.frames) (hlo : 8 + (maxL + 11) + lo ≤ R.locals) (hcs : cells + mc ≤ R.cells ∧ slots + ms ≤ R.slots) (hd : decode cc pc = .ok (.invokestatic idx, 3))
    (hst' : o.toList ++ rest = st') (kk : ∀ (H : Heap) (locs : List Loc) (rv : Value), Sv D A s.heap (ws' rv) H locs → W p l e R s m args below meth c H locs (cells + mc) (slots + ms) Q (F0 m (pc + 3) ls st')) : W p l e R s m args below meth c H locs cells slots Q (F0 m pc ls st) := by
  obtain ⟨hcode, hM⟩ := hc
  have hPc := pick_P hS.1 hC
  have hDc := hS.2.1.sub isC hnd hC
  have hFc : ∀ q, va_A wc H.size q → A q := va_free hS.2.1 hS.2.2 E.ha isC hC
  have hp : PreS s H (va_Pc As (fun U => U.heap.size = H.size ∧ va_P D vwCl wc U.heap ∧ va_K D vwCl (TYc cy) U ∧ va_D (fun _ => True) wc ∧ Tx (va_A wc H.size) U U.heap)) As :=
    ⟨blind_Px, fun U hU hWm => ⟨rfl, by rw [hU], by rw [hU]; exact hPc, va_K.moved hWm.alike E.K, hDc.weaken (fun _ _ _ _ => trivial), by rw [hU]; exact hT.go hWm hS.2.2 hFc⟩⟩
  have hws : ∀ w ∈ (Cond.codeWith y bytes maxL (some .int) hh :: lw_g), ∀ (a' : Array Value) (U : State), s.WarmedH U.vm → w.before a' U = true := fun w hw a' U hWm => by
    rcases List.mem_cons.mp hw with rfl | hw
    · exact lw_g_warm E.ts _ hcode a' U hWm
    · exact lw_g_warm E.ts w hw a' U hWm
  have hlen : ∀ sig, parseMethodDescriptor y.desc = some sig → n = sig.parameters.length := fun sig h => by rw [h] at hnp; exact (Option.some.inj hnp).symm
  have hW2 : 2 * (F0 m pc ls st).monitorRoom + (rest.map fun v => v.category).sum ≤ 8 := by show 2 * 0 + _ ≤ 8; omega
  refine ct_goN (av := As.toArray) (free := va_A wc H.size) E hS hC hadr hw rfl ?_ hst' kk
  exact vx_runSW (Ts := lw_g) ⟨E.x, E.b, E.ml, E.ow, E.ts⟩ (hM H.size) ⟨⟨rfl, rfl, hf, hlo, hws, List.mem_cons_self⟩, E.ts _ hcode, E.ts _ hini, hy1, hlen, E.ts _ hlk, E.ts _ hsta⟩ hp rfl hn hsz hst hW2 hd hcs
end THROW
