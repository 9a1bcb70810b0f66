/-! ===== what lies outside of the class' own cells: the static USUAL, two constant texts, String's static flag ===== -/
abbrev Gt : Type := Nat × (Nat → Nat) × (Nat → Nat)
def Gx (g : Gt) (A : Nat → Prop) (U : State) (H : Heap) : Prop :=
  va_Z "BellForWanted" "USUAL" "[C" (.ref g.1) A U H ∧ va_T .char g.1 5 (fun j => .int (us_at j)) A U H ∧ va_Z "java/lang/String" "COMPACT_STRINGS" "Z" (.int 1) A U H ∧ vk_S 2 tx_len tx_byt g.2.1 g.2.2 A U H ∧ vk_R RX6 71 "<>=+-*/" (g.2.1 0) U ∧ vk_R RX6 48 "stwvubn" (g.2.1 1) U
theorem Gx.same {g : Gt} {A : Nat → Prop} {u U : State} {H : Heap} (hv : U.vm = u.vm) (h : Gx g A u H) : Gx g A U H := by
  have ha : u.vm.Alike U.vm := by rw [hv]; exact Vm.Alike.refl _
  exact ⟨h.1.moved ha, h.2.1.moved ha, h.2.2.1.moved ha, h.2.2.2.1.moved ha, vk_R.same hv h.2.2.2.2.1, vk_R.same hv h.2.2.2.2.2⟩
theorem Gx.go {g : Gt} {A B : Nat → Prop} {s U : State} {H : Heap} {locs : List Loc} (hW : s.WarmedH U.vm) (hS : va_S A s.heap H locs) (hAB : ∀ q, B q → A q) (h : Gx g A s s.heap) : Gx g B U H := by
  have ha : s.vm.Alike U.vm := hW.alike
  have hk : ∀ a : Nat, a < s.heap.size → ¬ A a → H[a]? = s.heap[a]? := fun a h1 h2 => hS.2.1 a h1 h2
  exact ⟨((h.1.kept hk).narrow hAB).moved ha, ((h.2.1.kept hk).narrow hAB).moved ha, ((h.2.2.1.kept hk).narrow hAB).moved ha, ((h.2.2.2.1.kept hk).narrow hAB).moved ha, vk_R.warm hW h.2.2.2.2.1, vk_R.warm hW h.2.2.2.2.2⟩
section OUTER
variable {p : Program} {l : Launch} {e : Env} {R : Room} {s : State} {m : MethodId} {args : Array Value} {below : List Frame} {meth : Method} {c : Code} {H : Heap} {locs : List Loc} {cells slots : Nat} {Q : State → Prop}
variable {cc : ByteArray} {nL pc : Nat} {own : String} {ret : Option FieldType} {D : va_G} {cy : Nat → ClassId} {A : Nat → Prop} {ws : va_W} {ws' : Value → va_W} {ls : Array Slot} {rest st st' : List Value} {idx : Nat}
variable {y : MethodName} {bytes : ByteArray} {maxL' fr lo b n : Nat} {ret' : Option FieldType} {As : List Value} {wc : va_W} {w1 : Value → va_W} {o : Option Value} {g : Gt}
def Cg (l : Launch) (y : MethodName) (cc : ByteArray) (maxL : Nat) (ret : Option FieldType) (fr lo : Nat) (D : va_G) (cy : Nat → ClassId) (g : Gt) (av : List Value) (w : va_W) (w' : Value → va_W) (o : Option Value) : Prop :=
  Cond.code y cc maxL ret ∈ lw_g ∧ ∀ sz : Nat, Met l y (.code y cc maxL ret :: lw_g) { frames := fr, cells := 0, slots := 0, locals := lo } (va_Pc av (fun U => U.heap.size = sz ∧ va_P D vwCl w U.heap ∧ va_K D vwCl (TYc cy) U ∧ va_D (fun _ => True) w ∧ Gx g (va_A w sz) U U.heap)) (Qc0 D o w' (va_A w sz)) 0 0 (va_A w sz)
theorem Cg.mk {y : MethodName} {maxL fr lo : Nat} {av : List Value} {w : va_W} {w' : Value → va_W} {o : Option Value} (hk : Cond.code y cc maxL ret ∈ lw_g) (hy : plainFor y = true) (ha : (lg_sl av).length ≤ maxL)
    (body : ∀ (p : Program) (e : Env) (s : State) (m : MethodId) (below : List Frame) (meth : Method) (c : Code) (A : Nat → Prop) (ls : Array Slot) (args : Array Value) (R : Room) (Q : State → Prop), R.frames = fr → R.locals = lo → Q = MQ below (Qc0 D o w' A) args s 0 0 A → Gx g A s s.heap → Ev p s m args meth c cc maxL y.cls ret D cy A → ∀ (H : Heap) (locs : List Loc), Sv D A s.heap w H locs → lv_has ls maxL (lv_args 0 av) →
      W p l e R s m args below meth c H locs 0 0 Q (F0 m 0 ls [])) : Cg l y cc maxL ret fr lo D cy g av w w' o := by
  refine ⟨hk, fun sz => ?_⟩
  refine Met_ofWF (cc := cc) (maxL := maxL) (ret := ret) hy rfl ?_
  intro p e s m args below meth c s₁ B hml hv
  obtain ⟨rfl, hsz, hP, hK, hD0, hG⟩ := hv
  have hts := atoms_spec (ws := Cond.code y cc maxL ret :: lw_g) B.pre
  subst hsz
  have hD := hD0.self (sz := s.heap.size)
  have hA : ∀ q : Nat, s.heap.size ≤ q → va_A w s.heap.size q := fun q h => Or.inr h
  have hl := lv_entry av (n := maxL) ha
  rw [lg_entry_eq]
  exact body p e s m below meth c _ _ _ _ _ rfl rfl rfl hG ⟨B.exec, B.bytes, hml, findClass_of_methodNamed B.named, fun w hw => hts w (List.mem_cons_of_mem _ hw), hK, hA, B.returns, B.notSynchronized⟩ _ _ ⟨hP, hD, va_S.rf⟩ hl
theorem blind_Pg {av : List Value} {sz : Nat} : FrameBlind (va_Pc av (fun U => U.heap.size = sz ∧ va_P D vwCl wc U.heap ∧ va_K D vwCl (TYc cy) U ∧ va_D (fun _ => True) wc ∧ Gx g (va_A wc sz) U U.heap)) := fun a U f mk q => by
  obtain ⟨q0, q1, qP, qK, qD, qG⟩ := q
  exact ⟨q0, q1, qP, va_K.moved (u := U) (U := U.calling f mk a) (Vm.Alike.refl U.vm) qK, qD, Gx.same (u := U) (U := U.calling f mk a) rfl qG⟩
theorem ct_VG (E : Ev p s m args meth c cc nL own ret D cy A) (hG : Gx g A s s.heap) (hS : Sv D A s.heap ws H locs) (lk : VL own idx y n) (hc : Cg l y bytes maxL' ret' fr lo D cy g (.ref b :: As) wc w1 o) (isC : List Nat) (hC : isC.map (fun i => ws[i]?) = wc.map some) (hnd : va_nd isC = true) (hadr : ∀ rv, (w1 rv).map (fun q => q.1) = wc.map (fun q => q.1)) (hw : ∀ rv, va_sets ws (isC.zip (w1 rv)) = ws' rv)
    (hrec : ∃ cell : Cell, H[b]? = some cell ∧ cell.vm.isStatics = false ∧ s.vm.findClass y.cls = some cell.cls) (hn : As.length = n) (hst : st = As.reverse ++ .ref b :: rest) (hW : (rest.map fun v => v.category).sum ≤ 8) (hsz : ls.size = nL) (hf : fr + 1 ≤ R.frames) (hlo : 8 + (maxL' + 11) + lo ≤ R.locals) (hcs : cells ≤ R.cells ∧ slots ≤ R.slots) (hd : decode cc pc = .ok (.invokevirtual idx, 3))
    (hst' : o.toList ++ rest = st') (kk : ∀ (H : Heap) (locs : List Loc) (rv : Value), Sv D A s.heap (ws' rv) H locs → W p l e R s m args below meth c H locs cells slots Q (F0 m (pc + 3) ls st')) : W p l e R s m args below meth c H locs cells slots Q (F0 m pc ls st) := by
  obtain ⟨⟨hlk, hini, hy1, hy2, hnp⟩, hins, hsel⟩ := lk
  obtain ⟨hcode, hM⟩ := hc
  have hPc := pick_P hS.1 hC
  have hDc := hS.2.1.sub isC hnd hC
  have hFc : ∀ q, va_A wc H.size q → A q := va_free hS.2.1 hS.2.2 E.ha isC hC
  have hp : PreV s H y.cls b (va_Pc (.ref b :: As) (fun U => U.heap.size = H.size ∧ va_P D vwCl wc U.heap ∧ va_K D vwCl (TYc cy) U ∧ va_D (fun _ => True) wc ∧ Gx g (va_A wc H.size) U U.heap)) As :=
    ⟨blind_Pg, hrec, fun U hU hWm => ⟨rfl, by rw [hU], by rw [hU]; exact hPc, va_K.moved hWm.alike E.K, hDc.weaken (fun _ _ _ _ => trivial), by rw [hU]; exact hG.go hWm hS.2.2 hFc⟩⟩
  have hws : ∀ w ∈ (Cond.code y bytes maxL' ret' :: lw_g), ∀ (a' : Array Value) (U : State), s.WarmedH U.vm → w.before a' U = true := fun w hw a' U hWm => by
    rcases List.mem_cons.mp hw with rfl | hw
    · exact lw_g_warm E.ts _ hcode a' U hWm
    · exact lw_g_warm E.ts w hw a' U hWm
  have hlen : ∀ sig, parseMethodDescriptor y.desc = some sig → n = sig.parameters.length := fun sig h => by rw [h] at hnp; exact (Option.some.inj hnp).symm
  have hW2 : 2 * (F0 m pc ls st).monitorRoom + (rest.map fun v => v.category).sum ≤ 8 := by show 2 * 0 + _ ≤ 8; omega
  refine ct_go (av := (Value.ref b :: As).toArray) (free := va_A wc H.size) (g0 := F0 m pc ls st) E hS hC hadr hw rfl ?_ hst' kk
  rcases hlk with h | ⟨host, h⟩
  · exact va_runV (Ts := lw_g) ⟨E.x, E.b, E.ml, E.ow, E.ts⟩ (hM H.size) ⟨⟨rfl, rfl, hf, hlo, hws, List.mem_cons_self, E.ts _ hcode, E.ts _ hini, ⟨hy1, hy2⟩, hlen, E.ts _ h⟩, E.ts _ hins, E.ts _ hsel⟩ hp rfl hn hsz hst hW2 hd hcs
  · exact va_runVN (Ts := lw_g) ⟨E.x, E.b, E.ml, E.ow, E.ts⟩ (hM H.size) ⟨⟨⟨rfl, rfl, hf, hlo, hws, List.mem_cons_self⟩, E.ts _ hcode, E.ts _ hini, ⟨hy1, hy2⟩, hlen, E.ts _ h⟩, E.ts _ hins, E.ts _ hsel⟩ hp rfl hn hsz hst hW2 hd hcs
theorem ct_SG (E : Ev p s m args meth c cc nL own ret D cy A) (hG : Gx g A s s.heap) (hS : Sv D A s.heap ws H locs) (lk : SL own idx y n) (hc : Cg l y bytes maxL' ret' fr lo D cy g As wc w1 o) (isC : List Nat) (hC : isC.map (fun i => ws[i]?) = wc.map some) (hnd : va_nd isC = true) (hadr : ∀ rv, (w1 rv).map (fun q => q.1) = wc.map (fun q => q.1)) (hw : ∀ rv, va_sets ws (isC.zip (w1 rv)) = ws' rv)
    (hn : As.length = n) (hst : st = As.reverse ++ rest) (hW : (rest.map fun v => v.category).sum ≤ 8) (hsz : ls.size = nL) (hf : fr + 1 ≤ R.frames) (hlo : 8 + (maxL' + 11) + lo ≤ R.locals) (hcs : cells ≤ R.cells ∧ slots ≤ R.slots) (hd : decode cc pc = .ok (.invokestatic idx, 3))
    (hst' : o.toList ++ rest = st') (kk : ∀ (H : Heap) (locs : List Loc) (rv : Value), Sv D A s.heap (ws' rv) H locs → W p l e R s m args below meth c H locs cells slots Q (F0 m (pc + 3) ls st')) : W p l e R s m args below meth c H locs cells slots Q (F0 m pc ls st) := by
  obtain ⟨⟨hlk, hini, hy1, hy2, hnp⟩, hstat⟩ := lk
  obtain ⟨hcode, hM⟩ := hc
  have hPc := pick_P hS.1 hC
  have hDc := hS.2.1.sub isC hnd hC
  have hFc : ∀ q, va_A wc H.size q → A q := va_free hS.2.1 hS.2.2 E.ha isC hC
  have hp : PreS s H (va_Pc As (fun U => U.heap.size = H.size ∧ va_P D vwCl wc U.heap ∧ va_K D vwCl (TYc cy) U ∧ va_D (fun _ => True) wc ∧ Gx g (va_A wc H.size) U U.heap)) As :=
    ⟨blind_Pg, fun U hU hWm => ⟨rfl, by rw [hU], by rw [hU]; exact hPc, va_K.moved hWm.alike E.K, hDc.weaken (fun _ _ _ _ => trivial), by rw [hU]; exact hG.go hWm hS.2.2 hFc⟩⟩
  have hws : ∀ w ∈ (Cond.code y bytes maxL' ret' :: lw_g), ∀ (a' : Array Value) (U : State), s.WarmedH U.vm → w.before a' U = true := fun w hw a' U hWm => by
    rcases List.mem_cons.mp hw with rfl | hw
    · exact lw_g_warm E.ts _ hcode a' U hWm
    · exact lw_g_warm E.ts w hw a' U hWm
  have hlen : ∀ sig, parseMethodDescriptor y.desc = some sig → n = sig.parameters.length := fun sig h => by rw [h] at hnp; exact (Option.some.inj hnp).symm
  have hW2 : 2 * (F0 m pc ls st).monitorRoom + (rest.map fun v => v.category).sum ≤ 8 := by show 2 * 0 + _ ≤ 8; omega
  refine ct_go (av := As.toArray) (free := va_A wc H.size) (g0 := F0 m pc ls st) E hS hC hadr hw rfl ?_ hst' kk
  rcases hlk with h | ⟨host, h⟩
  · exact va_runS (Ts := lw_g) ⟨E.x, E.b, E.ml, E.ow, E.ts⟩ (hM H.size) ⟨⟨rfl, rfl, hf, hlo, hws, List.mem_cons_self, E.ts _ hcode, E.ts _ hini, ⟨hy1, hy2⟩, hlen, E.ts _ h⟩, E.ts _ hstat⟩ hp rfl hn hsz hst hW2 hd hcs
  · exact va_runSN (Ts := lw_g) ⟨E.x, E.b, E.ml, E.ow, E.ts⟩ (hM H.size) ⟨⟨⟨rfl, rfl, hf, hlo, hws, List.mem_cons_self⟩, E.ts _ hcode, E.ts _ hini, ⟨hy1, hy2⟩, hlen, E.ts _ h⟩, E.ts _ hstat, trivial⟩ hp rfl hn hsz hst hW2 hd hcs
end OUTER

