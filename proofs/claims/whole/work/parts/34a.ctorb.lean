/-! ===== constructors: contracts with new cells ===== -/
section CTOR
variable {p : Program} {l : Launch} {e : Env} {R : Room} {s : State} {m : MethodId} {args : Array Value} {below : List Frame} {meth : Method} {c : Code} {H : Heap} {locs : List Loc} {cells slots : Nat} {Q : State → Prop}
variable {cc : ByteArray} {nL pc : Nat} {own : String} {ret : Option FieldType} {D : va_G} {cy : Nat → ClassId} {A : Nat → Prop} {ws ws' : va_W} {ls : Array Slot} {rest st : List Value} {a q0 ci k idx : Nat} {fs : List Value} {v : Value} {g : Gt}
abbrev Qn (D : va_G) (w' : (Nat → Nat) → va_W) (A : Nat → Prop) : Array Value → State → Outcome → State → Prop := va_Qv (S := Nat → Nat) (fun _ => True) (fun ν t => va_P D vwCl (w' ν) t.heap ∧ va_D A (w' ν)) A
def Cn (l : Launch) (y : MethodName) (cc : ByteArray) (maxL : Nat) (fr lo mc ms : Nat) (D : va_G) (cy : Nat → ClassId) (g : Gt) (b : Nat) (w : va_W) (w' : (Nat → Nat) → va_W) : Prop :=
  Cond.code y cc maxL none ∈ lw_g ∧ ∀ sz : Nat, Met l y (.code y cc maxL none :: lw_g) { frames := fr, cells := mc, slots := ms, locals := lo } (va_Pc [.ref b] (fun U => U.heap.size = sz ∧ va_P D vwCl w U.heap ∧ va_K D vwCl (TYc cy) U ∧ va_D (fun _ => True) w ∧ Gx g (va_A w sz) U U.heap ∧ va_AO "BellForWanted$Folk" U)) (Qn D w' (va_A w sz)) mc ms (va_A w sz)
theorem Cn.mk {y : MethodName} {maxL fr lo mc ms b : Nat} {w : va_W} {w' : (Nat → Nat) → va_W} (hk : Cond.code y cc maxL none ∈ lw_g) (hy : plainFor y = true) (hn : y.name = "<init>") (ha : (lg_sl [Value.ref b]).length ≤ maxL)
    (body : ∀ (p : Program) (e : Env) (s : State) (m : MethodId) (below : List Frame) (meth : Method) (c : Code) (A : Nat → Prop) (ls : Array Slot) (args : Array Value) (R : Room) (Q : State → Prop), R.frames = fr → R.locals = lo → R.cells = mc → R.slots = ms → Q = MQ below (Qn D w' A) args s mc ms A → Gx g A s s.heap → va_AO "BellForWanted$Folk" s → meth.name = "<init>" → Ev p s m args meth c cc maxL y.cls none D cy A → ∀ (H : Heap) (locs : List Loc), Sv D A s.heap w H locs → lv_has ls maxL (lv_args 0 [Value.ref b]) →
      W p l e R s m args below meth c H locs 0 0 Q (F0 m 0 ls [])) : Cn l y cc maxL fr lo mc ms D cy g b w w' := by
  refine ⟨hk, fun sz => ?_⟩
  refine Met_ofWF (cc := cc) (maxL := maxL) (ret := none) hy rfl ?_
  intro p e s m args below meth c s₁ B hml hv
  obtain ⟨rfl, hsz, hP, hK, hD0, hG, hAO⟩ := hv
  have hts := atoms_spec (ws := Cond.code y cc maxL none :: lw_g) B.pre
  subst hsz
  have hD := hD0.self (sz := s.heap.size)
  have hA : ∀ q : Nat, s.heap.size ≤ q → va_A w s.heap.size q := fun q h => Or.inr h
  have hin : meth.name = "<init>" := by rw [(name_of_methodNamed B.named B.method).1]; exact hn
  have hl := lv_entry [Value.ref b] (n := maxL) ha
  rw [lg_entry_eq]
  exact body p e s m below meth c _ _ _ _ _ rfl rfl rfl rfl rfl hG hAO hin ⟨B.exec, B.bytes, hml, findClass_of_methodNamed B.named, fun w hw => hts w (List.mem_cons_of_mem _ hw), hK, hA, B.returns, B.notSynchronized⟩ _ _ ⟨hP, hD, va_S.rf⟩ hl
theorem rt_c {w' : (Nat → Nat) → va_W} {mc ms : Nat} (E : Ev p s m args meth c cc nL own none D cy A) (hQ : Q = MQ below (Qn D w' A) args s mc ms A) (ν : Nat → Nat) (hS : Sv D A s.heap (w' ν) H locs) (h1 : cells ≤ mc) (h2 : slots ≤ ms) (hd : decode cc pc = .ok (.return_, 1)) : W p l e R s m args below meth c H locs cells slots Q (F0 m pc ls []) := by
  subst hQ
  refine W.widen h1 h2 ?_
  exact W.vret E.x E.b E.r (fun t ht hW => ⟨⟨ν, rfl, trivial, by rw [ht]; exact hS.1, hS.2.1⟩, hS.2.2.F ht⟩) hS.2.2.2.2 hd E.lk
theorem r_obj (E : Ev p s m args meth c cc nL own ret D cy A) (hlk : Cond.methodLink own idx Lib.objectInit ∈ lw_g) (hi : Cond.instanceMethod Lib.objectInit ∈ lw_g) (hco : Cond.code Lib.objectInit ⟨#[0xb1]⟩ 1 none ∈ lw_g) (hsz : ls.size = nL) (hf : 1 ≤ R.frames) (hlo : (rest.map fun v => v.category).sum + 12 ≤ R.locals) (hd : decode cc pc = .ok (.invokespecial idx, 3))
    (kk : W p l e R s m args below meth c H locs cells slots Q (F0 m (pc + 3) ls rest)) : W p l e R s m args below meth c H locs cells slots Q (F0 m pc ls (.ref a :: rest)) :=
  W.objInit E.x E.b E.ow (E.ts _ hlk) (E.ts _ hi) (E.ts _ hco) rfl (by rw [E.ml]; exact hsz) rfl hd hf (by show 2 * 0 + _ + 12 ≤ _; omega) kk
theorem r_putF {C : String} {T : u_T} {N : Nat} {ty0 : Nat → FieldType} (E : Ev p s m args meth c cc nL own ret D cy A) (hin : meth.name = "<init>") (fr : FR own idx ci C T N ty0 k) (hlk : Cond.fieldLink own idx C (T k).2.1 (T k).2.2.1 ∈ lw_g) (hS : Sv D A s.heap ws H locs) (q0 : Nat) (he : ws[q0]? = some (a, .inr (ci, fs))) (hl : k < fs.length) (hfin : (T k).2.2.2 = true) (hdc : (T k).1 = own) (hn : narrow (ty0 k) v = v) (hfit : fits (ty0 k) v = true) (hw : ws.set q0 (a, .inr (ci, fs.set k v)) = ws') (hd : decode cc pc = .ok (.putfield idx, 3))
    (kk : ∀ (H : Heap) (locs : List Loc), Sv D A s.heap ws' H locs → W p l e R s m args below meth c H locs cells slots Q (F0 m (pc + 3) ls rest)) : W p l e R s m args below meth c H locs cells slots Q (F0 m pc ls (v :: .ref a :: rest)) := by
  obtain ⟨f1, f2, f3, f4, f5, f6, f7⟩ := fr
  subst hw
  exact va_putF E.x E.b E.ts f3 ty0 f4 f5 E.ow E.K hS.1 hS.2.1 hS.2.2 q0 he f1 k f2 (E.ts _ hlk) (fun x hx => by rw [← f6]; exact hx) hfin hin hdc (f4 k f2) hn hfit hl hd (fun H1 locs1 h1 h2 h3 => kk H1 locs1 ⟨h1, h2, h3⟩)
theorem r_newI {n : Int32} {N : Nat} (E : Ev p s m args meth c cc nL own ret D cy A) (hS : Sv D A s.heap ws H locs) (hk : Cond.arrayClass .int ∈ lw_g) (hn : ¬ n < 0) (hN : n.toNatClampNeg = N) (hb : N * componentBytes .int ≤ 536870912) (h1 : cells + 1 ≤ R.cells) (h2 : slots + N ≤ R.slots) (hd : decode cc pc = .ok (.newarray .int, 2))
    (kk : ∀ (q : Nat) (H : Heap) (locs : List Loc), Sv D A s.heap (ws ++ [aI cy q N (fun _ => 0)]) H locs → W p l e R s m args below meth c H locs (cells + 1) (slots + N) Q (F0 m (pc + 2) ls (.ref q :: rest))) : W p l e R s m args below meth c H locs cells slots Q (F0 m pc ls (.int n :: rest)) := by
  refine va_newa (atype := .int) (ty := .int) (a0 := (N, .inl (fun _ => 0))) E.x E.b (E.ts _ hk) rfl E.K hS.1 hS.2.1 hS.2.2 E.ha (fun _ => rfl) hn hN hb h1 h2 hd (fun q cA H1 hK hP hD hS1 => ?_)
  have e : cA = cy 2 := Option.some.inj ((hK.2 6 (cA, .int) rfl).2.symm.trans (E.K.2 2 (cy 2, .int) rfl).2)
  subst e
  exact kk q H1 _ ⟨hP, hD, hS1⟩
theorem r_newB {n : Int32} {N : Nat} (E : Ev p s m args meth c cc nL own ret D cy A) (hS : Sv D A s.heap ws H locs) (hk : Cond.arrayClass .byte ∈ lw_g) (hn : ¬ n < 0) (hN : n.toNatClampNeg = N) (hb : N * componentBytes .byte ≤ 536870912) (h1 : cells + 1 ≤ R.cells) (h2 : slots + N ≤ R.slots) (hd : decode cc pc = .ok (.newarray .byte, 2))
    (kk : ∀ (q : Nat) (H : Heap) (locs : List Loc), Sv D A s.heap (ws ++ [aB cy q N (fun _ => 0)]) H locs → W p l e R s m args below meth c H locs (cells + 1) (slots + N) Q (F0 m (pc + 2) ls (.ref q :: rest))) : W p l e R s m args below meth c H locs cells slots Q (F0 m pc ls (.int n :: rest)) := by
  refine va_newa (atype := .byte) (ty := .byte) (a0 := (N, .inl (fun _ => 0))) E.x E.b (E.ts _ hk) rfl E.K hS.1 hS.2.1 hS.2.2 E.ha (fun _ => rfl) hn hN hb h1 h2 hd (fun q cA H1 hK hP hD hS1 => ?_)
  have e : cA = cy 0 := Option.some.inj ((hK.2 6 (cA, .byte) rfl).2.symm.trans (E.K.2 0 (cy 0, .byte) rfl).2)
  subst e
  exact kk q H1 _ ⟨hP, hD, hS1⟩
theorem r_newC {n : Int32} {N : Nat} (E : Ev p s m args meth c cc nL own ret D cy A) (hS : Sv D A s.heap ws H locs) (hk : Cond.arrayClass .char ∈ lw_g) (hn : ¬ n < 0) (hN : n.toNatClampNeg = N) (hb : N * componentBytes .char ≤ 536870912) (h1 : cells + 1 ≤ R.cells) (h2 : slots + N ≤ R.slots) (hd : decode cc pc = .ok (.newarray .char, 2))
    (kk : ∀ (q : Nat) (H : Heap) (locs : List Loc), Sv D A s.heap (ws ++ [aC cy q N (fun _ => 0)]) H locs → W p l e R s m args below meth c H locs (cells + 1) (slots + N) Q (F0 m (pc + 2) ls (.ref q :: rest))) : W p l e R s m args below meth c H locs cells slots Q (F0 m pc ls (.int n :: rest)) := by
  refine va_newa (atype := .char) (ty := .char) (a0 := (N, .inl (fun _ => 0))) E.x E.b (E.ts _ hk) rfl E.K hS.1 hS.2.1 hS.2.2 E.ha (fun _ => rfl) hn hN hb h1 h2 hd (fun q cA H1 hK hP hD hS1 => ?_)
  have e : cA = cy 1 := Option.some.inj ((hK.2 6 (cA, .char) rfl).2.symm.trans (E.K.2 1 (cy 1, .char) rfl).2)
  subst e
  exact kk q H1 _ ⟨hP, hD, hS1⟩
theorem r_newZ {n : Int32} {N : Nat} (E : Ev p s m args meth c cc nL own ret D cy A) (hS : Sv D A s.heap ws H locs) (hk : Cond.arrayClass .boolean ∈ lw_g) (hn : ¬ n < 0) (hN : n.toNatClampNeg = N) (hb : N * componentBytes .boolean ≤ 536870912) (h1 : cells + 1 ≤ R.cells) (h2 : slots + N ≤ R.slots) (hd : decode cc pc = .ok (.newarray .boolean, 2))
    (kk : ∀ (q : Nat) (H : Heap) (locs : List Loc), Sv D A s.heap (ws ++ [aZ cy q N (fun _ => 0)]) H locs → W p l e R s m args below meth c H locs (cells + 1) (slots + N) Q (F0 m (pc + 2) ls (.ref q :: rest))) : W p l e R s m args below meth c H locs cells slots Q (F0 m pc ls (.int n :: rest)) := by
  refine va_newa (atype := .boolean) (ty := .boolean) (a0 := (N, .inl (fun _ => 0))) E.x E.b (E.ts _ hk) rfl E.K hS.1 hS.2.1 hS.2.2 E.ha (fun _ => rfl) hn hN hb h1 h2 hd (fun q cA H1 hK hP hD hS1 => ?_)
  have e : cA = cy 4 := Option.some.inj ((hK.2 6 (cA, .boolean) rfl).2.symm.trans (E.K.2 4 (cy 4, .boolean) rfl).2)
  subst e
  exact kk q H1 _ ⟨hP, hD, hS1⟩
theorem r_newJ {n : Int32} {N : Nat} (E : Ev p s m args meth c cc nL own ret D cy A) (hS : Sv D A s.heap ws H locs) (hk : Cond.arrayClass .long ∈ lw_g) (hn : ¬ n < 0) (hN : n.toNatClampNeg = N) (hb : N * componentBytes .long ≤ 536870912) (h1 : cells + 1 ≤ R.cells) (h2 : slots + N ≤ R.slots) (hd : decode cc pc = .ok (.newarray .long, 2))
    (kk : ∀ (q : Nat) (H : Heap) (locs : List Loc), Sv D A s.heap (ws ++ [aJ cy q N (fun _ => 0)]) H locs → W p l e R s m args below meth c H locs (cells + 1) (slots + N) Q (F0 m (pc + 2) ls (.ref q :: rest))) : W p l e R s m args below meth c H locs cells slots Q (F0 m pc ls (.int n :: rest)) := by
  refine va_newa (atype := .long) (ty := .long) (a0 := (N, .inr (.inl (fun _ => 0)))) E.x E.b (E.ts _ hk) rfl E.K hS.1 hS.2.1 hS.2.2 E.ha (fun _ => rfl) hn hN hb h1 h2 hd (fun q cA H1 hK hP hD hS1 => ?_)
  have e : cA = cy 3 := Option.some.inj ((hK.2 6 (cA, .long) rfl).2.symm.trans (E.K.2 3 (cy 3, .long) rfl).2)
  subst e
  exact kk q H1 _ ⟨hP, hD, hS1⟩
theorem r_newF {n : Int32} {N : Nat} (E : Ev p s m args meth c cc nL own ret D cy A) (hS : Sv D A s.heap ws H locs) (hcl : Cond.classLink own idx "BellForWanted$Folk" ∈ lw_g) (hk : va_AO "BellForWanted$Folk" s) (hn : ¬ n < 0) (hN : n.toNatClampNeg = N) (hb : N * 4 ≤ 536870912) (h1 : cells + 1 ≤ R.cells) (h2 : slots + N ≤ R.slots) (hd : decode cc pc = .ok (.anewarray idx, 3))
    (kk : ∀ (q : Nat) (H : Heap) (locs : List Loc), Sv D A s.heap (ws ++ [aF cy q N (fun _ => none)]) H locs → W p l e R s m args below meth c H locs (cells + 1) (slots + N) Q (F0 m (pc + 3) ls (.ref q :: rest))) : W p l e R s m args below meth c H locs cells slots Q (F0 m pc ls (.int n :: rest)) := by
  refine va_newq E.x E.b E.ow (E.ts _ hcl) hk E.K hS.1 hS.2.1 hS.2.2 E.ha hn hN hb h1 h2 hd (fun q cA H1 hK hP hD hS1 => ?_)
  have e : cA = cy 5 := by
    obtain ⟨kA, comp, -, -, -, h4⟩ := (hK.2 6 (cA, .object "BellForWanted$Folk") rfl).2
    obtain ⟨kA', comp', -, -, -, h4'⟩ := (E.K.2 5 (cy 5, .object "BellForWanted$Folk") rfl).2
    exact Option.some.inj (h4.symm.trans h4')
  subst e
  exact kk q H1 _ ⟨hP, hD, hS1⟩
theorem r_astF {n b : Nat} {f : Nat → Option Nat} {i : Int32} {vs : List Value} (E : Ev p s m args meth c cc nL own ret D cy A) (hS : Sv D A s.heap ws H locs) (q0 qk : Nat) (he : ws[q0]? = some (a, .inl (cy 5, n, .inr (.inr (.inr (.inr f)))))) (hv : ws[qk]? = some (b, .inr (0, vs))) (hin : vp_in i n) (hw : ws.set q0 (a, .inl (cy 5, n, .inr (.inr (.inr (.inr (va_up f i.toNatClampNeg (some b))))))) = ws') (hd : decode cc pc = .ok (.aastore, 1))
    (kk : ∀ (H : Heap) (locs : List Loc), Sv D A s.heap ws' H locs → W p l e R s m args below meth c H locs cells slots Q (F0 m (pc + 1) ls rest)) : W p l e R s m args below meth c H locs cells slots Q (F0 m pc ls (.ref b :: .int i :: .ref a :: rest)) := by
  subst hw
  exact va_astq (r := (RX0, TX0, 8)) E.x E.b E.K hS.1 hS.2.1 hS.2.2 q0 5 qk 0 he rfl hv rfl hin hd (fun H1 locs1 h1 h2 h3 => kk H1 locs1 ⟨h1, h2, h3⟩)
theorem rg_map (ws : va_W) (x : Nat × va_E) : (List.range' 0 ws.length).map (fun i => (ws ++ [x])[i]?) = ws.map some := by
  apply List.ext_getElem?
  intro j
  rw [List.getElem?_map, List.getElem?_map]
  by_cases hj : j < ws.length
  · rw [List.getElem?_range' hj]
    show some ((ws ++ [x])[0 + 1 * j]?) = _
    rw [show 0 + 1 * j = j by omega, List.getElem?_append_left hj, List.getElem?_eq_getElem hj]
    rfl
  · rw [List.getElem?_eq_none (by rw [List.length_range']; omega), List.getElem?_eq_none (by omega)]
    rfl
theorem blind_Pn {wc : va_W} {av : List Value} {sz : Nat} : FrameBlind (va_Pc av (fun U => U.heap.size = sz ∧ va_P D vwCl wc U.heap ∧ va_K D vwCl (TYc cy) U ∧ va_D (fun _ => True) wc ∧ Gx g (va_A wc sz) U U.heap ∧ va_AO "BellForWanted$Folk" U)) := fun a U f mk q => by
  obtain ⟨q0, q1, qP, qK, qD, qG, qA⟩ := q
  exact ⟨q0, q1, qP, va_K.moved (u := U) (U := U.calling f mk a) (Vm.Alike.refl U.vm) qK, qD, Gx.same (u := U) (U := U.calling f mk a) rfl qG, va_AO.moved (u := U) (U := U.calling f mk a) (Vm.Alike.refl U.vm) qA⟩
theorem nw_I {C : String} {T : u_T} {N : Nat} {ty0 : Nat → FieldType} {y : MethodName} {bytes : ByteArray} {maxL' fr lo mc ms ik im : Nat} {w' : Nat → (Nat → Nat) → va_W} (E : Ev p s m args meth c cc nL own ret D cy A) (hG : Gx g A s s.heap) (hAO : va_AO "BellForWanted$Folk" s) (hS : Sv D A s.heap ws H locs) (hcl : vwCl[ci]? = some (C, T, N)) (hin : ∀ w ∈ u_ws C T N, w ∈ lw_g) (hty : ∀ k, k < N → parseFieldDescriptor (T k).2.2.1 = some (ty0 k)) (w1 : Cond.classLink own ik C ∈ lw_g) (w2 : Cond.instantiable C N ∈ lw_g) (w3 : Cond.initialized C ∈ lw_g) (hfs : ∀ j, j < N → defaultValue (ty0 j) = vp_V fs j)
    (lk : MLk own im y 0 ∧ Cond.instanceMethod y ∈ lw_g) (hy : y.name = "<init>") (hc : ∀ q, Cn l y bytes maxL' fr lo mc ms D cy g q [(q, .inr (ci, fs))] (w' q)) (d0 : decode cc pc = .ok (.new ik, 3)) (d3 : decode cc (pc + 3) = .ok (.dup, 1)) (d4 : decode cc (pc + 4) = .ok (.invokespecial im, 3))
    (hf : fr + 1 ≤ R.frames) (hlo : 8 + (maxL' + 11) + lo ≤ R.locals) (hc1 : cells + 1 + mc ≤ R.cells) (hs1 : slots + N + ms ≤ R.slots) (hsz : ls.size = nL) (hW : (rest.map fun v => v.category).sum + 1 ≤ 8)
    (kk : ∀ (q : Nat) (ν : Nat → Nat) (H : Heap) (locs : List Loc), Sv D A s.heap (ws ++ w' q ν) H locs → W p l e R s m args below meth c H locs (cells + 1 + mc) (slots + N + ms) Q (F0 m (pc + 7) ls (.ref q :: rest))) : W p l e R s m args below meth c H locs cells slots Q (F0 m pc ls rest) := by
  refine va_new (ci := ci) (fs := fs) (C := C) (T := T) (N := N) E.x E.b E.ts hin ty0 hty E.ow (E.ts _ w1) (E.ts _ w2) (E.ts _ w3) E.K hS.1 hS.2.1 hS.2.2 E.ha hcl hfs (by omega) (by omega) d0 (fun q H1 hP hD hS1 => ?_)
  refine lv_dup E.x E.b d3 rfl ?_
  obtain ⟨⟨hlk, hini, hy1, hy2, hnp⟩, hins⟩ := lk
  obtain ⟨hcode, hM⟩ := hc q
  have hC : [ws.length].map (fun i => (ws ++ [(q, (Sum.inr (ci, fs) : va_E))])[i]?) = [(q, (Sum.inr (ci, fs) : va_E))].map some := by
    show [(ws ++ [(q, (Sum.inr (ci, fs) : va_E))])[ws.length]?] = [some (q, Sum.inr (ci, fs))]
    rw [List.getElem?_append_right (Nat.le_refl _), Nat.sub_self]
    rfl
  have hPc := pick_P hP hC
  have hDc := hD.sub [ws.length] rfl hC
  have hFc : ∀ z, va_A [(q, (Sum.inr (ci, fs) : va_E))] H1.size z → A z := va_free hD hS1 E.ha [ws.length] hC
  have hp : PreS s H1 (va_Pc [.ref q] (fun U => U.heap.size = H1.size ∧ va_P D vwCl [(q, (Sum.inr (ci, fs) : va_E))] U.heap ∧ va_K D vwCl (TYc cy) U ∧ va_D (fun _ => True) [(q, (Sum.inr (ci, fs) : va_E))] ∧ Gx g (va_A [(q, (Sum.inr (ci, fs) : va_E))] H1.size) U U.heap ∧ va_AO "BellForWanted$Folk" U)) (.ref q :: []) :=
    ⟨blind_Pn, fun U hU hWm => ⟨rfl, by rw [hU], by rw [hU]; exact hPc, va_K.moved hWm.alike E.K, hDc.weaken (fun _ _ _ _ => trivial), by rw [hU]; exact hG.go hWm hS1 hFc, va_AO.moved hWm.alike hAO⟩⟩
  have hws : ∀ w ∈ (Cond.code y bytes maxL' none :: lw_g), ∀ (a' : Array Value) (U : State), s.WarmedH U.vm → w.before a' U = true := fun w hw a' U hWm => by
    rcases List.mem_cons.mp hw with rfl | hw
    · exact lw_g_warm E.ts _ hcode a' U hWm
    · exact lw_g_warm E.ts w hw a' U hWm
  have hlen : ∀ sig, parseMethodDescriptor y.desc = some sig → 0 = sig.parameters.length := fun sig h => by rw [h] at hnp; exact (Option.some.inj hnp).symm
  have hW2 : 2 * (F0 m (pc + 4) ls (.ref q :: .ref q :: rest)).monitorRoom + ((Value.ref q :: rest).map fun v => v.category).sum ≤ 8 := by
    show 2 * 0 + (1 + (rest.map fun v => v.category).sum) ≤ 8
    omega
  have hrun : va_Run p l e R s m args below meth c H1 locs (cells + 1) (slots + N) mc ms (F0 m (pc + 4) ls (.ref q :: .ref q :: rest)) (.ref q :: rest) (Qn D (w' q) (va_A [(q, (Sum.inr (ci, fs) : va_E))] H1.size) (Value.ref q :: []).toArray) (va_A [(q, (Sum.inr (ci, fs) : va_E))] H1.size) := by
    rcases hlk with h | ⟨host, h⟩
    · exact va_runI (Ts := lw_g) (As := []) ⟨E.x, E.b, E.ml, E.ow, E.ts⟩ (hM H1.size) ⟨⟨rfl, rfl, hf, hlo, hws, List.mem_cons_self, E.ts _ hcode, E.ts _ hini, ⟨hy1, hy2⟩, hlen, E.ts _ h⟩, hy, E.ts _ hins⟩ hp rfl rfl hsz rfl hW2 d4 ⟨hc1, hs1⟩
    · exact va_runIN (Ts := lw_g) (As := []) ⟨E.x, E.b, E.ml, E.ow, E.ts⟩ (hM H1.size) ⟨⟨⟨rfl, rfl, hf, hlo, hws, List.mem_cons_self⟩, E.ts _ hcode, E.ts _ hini, ⟨hy1, hy2⟩, hlen, E.ts _ h⟩, hy, E.ts _ hins⟩ hp rfl rfl hsz rfl hW2 d4 ⟨hc1, hs1⟩
  refine va_callv hrun hS1 (fun z _ h => hFc z h) hFc (fun ν t H2 locs2 ht hvm _ hB hz hk2 hS2 => ?_)
  obtain ⟨hP2, hD2⟩ := hB
  rw [ht] at hP2
  obtain ⟨hP3, hD3⟩ := va_join (wr := ws) (w1 := w' q ν) hP hD [ws.length] (List.range' 0 ws.length) hC (rg_map ws _) (va_nd_r _ _) (fun i hi => by
    have h1 := List.mem_range'_1.mp hi
    intro h2
    have h3 := List.mem_singleton.mp h2
    omega) hk2 hFc hP2 hD2
  exact kk q ν H2 locs2 ⟨hP3, hD3, hS2⟩
end CTOR
