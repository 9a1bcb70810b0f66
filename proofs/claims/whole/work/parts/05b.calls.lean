/-! ===== calls: the callee's cells by their places; behind it they are put back at the same places ===== -/
def va_sets (ws : va_W) : List (Nat × (Nat × va_E)) → va_W
  | [] => ws
  | x :: r => va_sets (ws.set x.1 x.2) r
theorem va_sets_get : ∀ (L : List (Nat × (Nat × va_E))) (ws : va_W) (k : Nat) (q : Nat × va_E), (va_sets ws L)[k]? = some q → (k, q) ∈ L ∨ ((∀ x ∈ L, x.1 ≠ k) ∧ ws[k]? = some q)
  | [], ws, k, q, h => Or.inr ⟨fun _ h => absurd h List.not_mem_nil, h⟩
  | x :: r, ws, k, q, h => by
    rcases va_sets_get r (ws.set x.1 x.2) k q h with h1 | ⟨h1, h2⟩
    · exact Or.inl (List.mem_cons_of_mem _ h1)
    · by_cases hk : x.1 = k
      · left
        rw [List.getElem?_set] at h2
        rw [if_pos hk] at h2
        split at h2
        · have := Option.some.inj h2
          subst hk
          rw [← this]
          exact List.mem_cons_self
        · cases h2
      · right
        rw [List.getElem?_set_ne hk] at h2
        exact ⟨fun y hy => by
          rcases List.mem_cons.mp hy with rfl | hy
          · exact hk
          · exact h1 y hy, h2⟩
theorem va_sets_fst : ∀ (L : List (Nat × (Nat × va_E))) (ws : va_W), (∀ x ∈ L, (ws.map (fun q => q.1))[x.1]? = some x.2.1) → (va_sets ws L).map (fun q => q.1) = ws.map (fun q => q.1)
  | [], _, _ => rfl
  | x :: r, ws, h => by
    have h0 := h x List.mem_cons_self
    have e : (ws.set x.1 x.2).map (fun q => q.1) = ws.map (fun q => q.1) := by
      apply List.ext_getElem?
      intro i
      rw [List.map_set, List.getElem?_set]
      split
      · rename_i hi
        subst hi
        rw [h0]
        have hlt := (List.getElem?_eq_some_iff.mp h0).1
        rw [if_pos hlt]
      · rfl
    show (va_sets (ws.set x.1 x.2) r).map (fun q => q.1) = _
    rw [va_sets_fst r (ws.set x.1 x.2) (fun y hy => by rw [e]; exact h y (List.mem_cons_of_mem _ hy)), e]
theorem va_D_fst {A : Nat → Prop} {ws ws' : va_W} (h : ws'.map (fun q => q.1) = ws.map (fun q => q.1)) (hD : va_D A ws) : va_D A ws' := by
  have at' : ∀ (i : Nat) (p : Nat × va_E), ws'[i]? = some p → ∃ e, ws[i]? = some (p.1, e) := by
    intro i p hp
    have h1 : (ws'.map (fun q => q.1))[i]? = some p.1 := by rw [List.getElem?_map, hp]; rfl
    rw [h, List.getElem?_map] at h1
    cases hi : ws[i]? with
    | none => rw [hi] at h1; cases h1
    | some z => rw [hi] at h1; exact ⟨z.2, by rw [← Option.some.inj h1]⟩
  refine ⟨fun i j p q hi hj hpq => ?_, fun k q hk => ?_⟩
  · obtain ⟨e1, h1⟩ := at' i p hi
    obtain ⟨e2, h2⟩ := at' j q hj
    exact hD.1 i j _ _ h1 h2 hpq
  · obtain ⟨e1, h1⟩ := at' k q hk
    exact hD.2 k (q.1, e1) h1
theorem pick_at {ws wc : va_W} {isC : List Nat} (hC : isC.map (fun i => ws[i]?) = wc.map some) (j : Nat) (q : Nat × va_E) (hq : wc[j]? = some q) : ∃ i, isC[j]? = some i ∧ ws[i]? = some q := by
  have h1 : (isC.map (fun i => ws[i]?))[j]? = some (some q) := by rw [hC, List.getElem?_map, hq]; rfl
  rw [List.getElem?_map] at h1
  cases hi : isC[j]? with
  | none => rw [hi] at h1; cases h1
  | some i => rw [hi] at h1; exact ⟨i, rfl, Option.some.inj h1⟩
theorem va_back {A0 : Nat → Prop} {D : va_G} {ws wc w1 : va_W} {H H1 : Heap} (isC : List Nat) (hP : va_P D vwCl ws H) (hD : va_D A0 ws) (hC : isC.map (fun i => ws[i]?) = wc.map some) (hadr : w1.map (fun q => q.1) = wc.map (fun q => q.1))
    (hk : ∀ q : Nat, q < H.size → ¬ va_A wc H.size q → H1[q]? = H[q]?) (hP1 : va_P D vwCl w1 H1) : va_P D vwCl (va_sets ws (isC.zip w1)) H1 ∧ va_D A0 (va_sets ws (isC.zip w1)) := by
  have hlen : isC.length = w1.length := by
    have h1 := congrArg List.length hC
    have h2 := congrArg List.length hadr
    simp only [List.length_map] at h1 h2
    omega
  refine ⟨fun k q hq => ?_, va_D_fst (va_sets_fst _ _ ?_) hD⟩
  · rcases va_sets_get _ _ _ _ hq with h | ⟨h1, h2⟩
    · obtain ⟨j, hj⟩ := List.getElem?_of_mem (List.of_mem_zip h).2
      exact hP1 j q hj
    · have hat := hP k q h2
      refine hat.kept (hk q.1 hat.lt ?_)
      intro hA
      rcases hA with ⟨j, e, hj⟩ | hge
      · obtain ⟨i, hi, hwi⟩ := pick_at hC j _ hj
        have hik : i = k := hD.1 i k _ _ hwi h2 rfl
        subst hik
        have hjl : j < w1.length := by
          have := (List.getElem?_eq_some_iff.mp hi).1
          omega
        have hz : (isC.zip w1)[j]? = some (i, w1[j]) := by
          rw [List.getElem?_zip_eq_some]
          exact ⟨hi, List.getElem?_eq_getElem hjl⟩
        exact h1 _ (List.mem_of_getElem? hz) rfl
      · exact absurd hat.lt (Nat.not_lt.mpr hge)
  · intro x hx
    obtain ⟨j, hj⟩ := List.getElem?_of_mem hx
    obtain ⟨hj1, hj2⟩ := List.getElem?_zip_eq_some.mp hj
    have h3 : (w1.map (fun q => q.1))[j]? = some x.2.1 := by rw [List.getElem?_map, hj2]; rfl
    rw [hadr, List.getElem?_map] at h3
    cases hw : wc[j]? with
    | none => rw [hw] at h3; cases h3
    | some z =>
      rw [hw] at h3
      obtain ⟨i, hi, hwi⟩ := pick_at hC j z hw
      have hix : i = x.1 := Option.some.inj (hi.symm.trans hj1)
      subst hix
      rw [List.getElem?_map, hwi]
      exact h3
section CALLS
variable {p : Program} {l : Launch} {e : Env} {R : Room} {s : State} {m : MethodId} {args : Array Value} {below : List Frame} {meth : Method} {c : Code} {H : Heap} {locs : List Loc} {cells slots : Nat} {Q : State → Prop}
variable {cc : ByteArray} {nL pc : Nat} {own : String} {ret : Option FieldType} {D : va_G} {cy : Nat → ClassId} {A : Nat → Prop} {ws : va_W} {ws' : Value → va_W} {ls : Array Slot} {rest st st' : List Value} {idx : Nat}
variable {y : MethodName} {bytes : ByteArray} {maxL' fr lo b n : Nat} {ret' : Option FieldType} {As : List Value} {wc : va_W} {w1 : Value → va_W} {o : Option Value}
theorem blind_Pc {av : List Value} {sz : Nat} : FrameBlind (va_Pc av (fun U => U.heap.size = sz ∧ va_P D vwCl wc U.heap ∧ va_K D vwCl (TYc cy) U ∧ va_D (fun _ => True) wc)) := fun a U g mk q => by
  obtain ⟨q0, q1, qP, qK, qD⟩ := q
  exact ⟨q0, q1, qP, va_K.moved (u := U) (U := U.calling g mk a) (Vm.Alike.refl U.vm) qK, qD⟩
theorem pick_P {isC : List Nat} (hP : va_P D vwCl ws H) (hC : isC.map (fun i => ws[i]?) = wc.map some) : va_P D vwCl wc H := fun j q hq => by
  obtain ⟨i, -, hi⟩ := pick_at hC j q hq
  exact hP i q hi
theorem ct_go {isC : List Nat} {free : Addr → Prop} {av : Array Value} {g0 : JFrame} (E : Ev p s m args meth c cc nL own ret D cy A) (hS : Sv D A s.heap ws H locs) (hC : isC.map (fun i => ws[i]?) = wc.map some) (hadr : ∀ rv, (w1 rv).map (fun q => q.1) = wc.map (fun q => q.1)) (hw : ∀ rv, va_sets ws (isC.zip (w1 rv)) = ws' rv)
    (hfree : free = va_A wc H.size) (hr : va_Run p l e R s m args below meth c H locs cells slots 0 0 (F0 m pc ls st) rest (Qc0 D o w1 (va_A wc H.size) av) free)
    (hst' : o.toList ++ rest = st') (kk : ∀ (H : Heap) (locs : List Loc) (rv : Value), Sv D A s.heap (ws' rv) H locs → W p l e R s m args below meth c H locs cells slots Q (F0 m (pc + 3) ls st')) : W p l e R s m args below meth c H locs cells slots Q (F0 m pc ls st) := by
  subst hfree
  subst hst'
  have hFc : ∀ q, va_A wc H.size q → A q := va_free hS.2.1 hS.2.2 E.ha isC hC
  intro T hT X
  obtain ⟨v, st₀, t, T', L, h0, X', hL, e1, e2, ⟨⟨hv, rv, hP1⟩, hz, hk⟩, stp⟩ := hr T hT X
  have hv : v = o := by injection hv
  subst hv
  rw [h0] at hz hk
  have hk' : ∀ q : Nat, q < H.size → ¬ va_A wc H.size q → T'.heap[q]? = H[q]? := fun q h1 h2 => by rw [e1]; exact hk q h1 h2
  obtain ⟨hP2, hD2⟩ := va_back isC hS.1 hS.2.1 hC (hadr rv) hk' (by rw [e1]; exact hP1)
  rw [hw rv] at hP2 hD2
  have hS2 : va_S A s.heap T'.heap (locs ++ L) := ⟨Nat.le_trans hS.2.2.1 (by rw [e1]; exact hz), fun q h1 h2 => by rw [hk' q (Nat.lt_of_lt_of_le h1 hS.2.2.1) (fun z => h2 (hFc q z))]; exact hS.2.2.2.1 q h1 h2, fun q hq => by
      rcases List.mem_append.mp hq with h | h
      · exact hS.2.2.2.2 q h
      · exact hFc _ (hL q h)⟩
  obtain ⟨t2, a1, b1⟩ := kk T'.heap (locs ++ L) rv ⟨hP2, hD2, hS2⟩ T' rfl X'
  exact ⟨t2, stp t2 a1, b1⟩
theorem ct_V (E : Ev p s m args meth c cc nL own ret D cy A) (hS : Sv D A s.heap ws H locs) (lk : VL own idx y n) (hc : Ct l y bytes maxL' ret' fr lo D cy (.ref b :: As) wc w1 o) (isC : List Nat) (hC : isC.map (fun i => ws[i]?) = wc.map some) (hnd : va_nd isC = true) (hadr : ∀ rv, (w1 rv).map (fun q => q.1) = wc.map (fun q => q.1)) (hw : ∀ rv, va_sets ws (isC.zip (w1 rv)) = ws' rv)
    {ci : Nat} {fs : List Value} {T0 : u_T} {N0 : Nat} (hrec : wc[0]? = some (b, .inr (ci, fs))) (hcl : vwCl[ci]? = some (y.cls, T0, N0)) (hn : As.length = n) (hst : st = As.reverse ++ .ref b :: rest) (hW : (rest.map fun v => v.category).sum ≤ 8) (hsz : ls.size = nL) (hf : fr + 1 ≤ R.frames) (hlo : 8 + (maxL' + 11) + lo ≤ R.locals) (hcs : cells ≤ R.cells ∧ slots ≤ R.slots) (hd : decode cc pc = .ok (.invokevirtual idx, 3))
    (hst' : o.toList ++ rest = st') (kk : ∀ (H : Heap) (locs : List Loc) (rv : Value), Sv D A s.heap (ws' rv) H locs → W p l e R s m args below meth c H locs cells slots Q (F0 m (pc + 3) ls st')) : W p l e R s m args below meth c H locs cells slots Q (F0 m pc ls st) := by
  obtain ⟨⟨hlk, hini, hy1, hy2, hnp⟩, hins, hsel⟩ := lk
  obtain ⟨hcode, hM⟩ := hc
  have hPc := pick_P hS.1 hC
  have hDc := hS.2.1.sub isC hnd hC
  have hp : PreV s H y.cls b (va_Pc (.ref b :: As) (fun U => U.heap.size = H.size ∧ va_P D vwCl wc U.heap ∧ va_K D vwCl (TYc cy) U ∧ va_D (fun _ => True) wc)) As :=
    ⟨blind_Pc, va_recv E.K hPc hcl hrec, fun U hU hWm => ⟨rfl, by rw [hU], by rw [hU]; exact hPc, va_K.moved hWm.alike E.K, hDc.weaken (fun _ _ _ _ => trivial)⟩⟩
  have hws : ∀ w ∈ (Cond.code y bytes maxL' ret' :: lw_g), ∀ (a' : Array Value) (U : State), s.WarmedH U.vm → w.before a' U = true := fun w hw a' U hWm => by
    rcases List.mem_cons.mp hw with rfl | hw
    · exact lw_g_warm E.ts _ hcode a' U hWm
    · exact lw_g_warm E.ts w hw a' U hWm
  have hlen : ∀ sig, parseMethodDescriptor y.desc = some sig → n = sig.parameters.length := fun sig h => by rw [h] at hnp; exact (Option.some.inj hnp).symm
  have hW2 : 2 * (F0 m pc ls st).monitorRoom + (rest.map fun v => v.category).sum ≤ 8 := by show 2 * 0 + _ ≤ 8; omega
  refine ct_go (av := (Value.ref b :: As).toArray) (free := va_A wc H.size) (g0 := F0 m pc ls st) E hS hC hadr hw rfl ?_ hst' kk
  rcases hlk with h | ⟨host, h⟩
  · exact va_runV (Ts := lw_g) ⟨E.x, E.b, E.ml, E.ow, E.ts⟩ (hM H.size) ⟨⟨rfl, rfl, hf, hlo, hws, List.mem_cons_self, E.ts _ hcode, E.ts _ hini, ⟨hy1, hy2⟩, hlen, E.ts _ h⟩, E.ts _ hins, E.ts _ hsel⟩ hp rfl hn hsz hst hW2 hd hcs
  · exact va_runVN (Ts := lw_g) ⟨E.x, E.b, E.ml, E.ow, E.ts⟩ (hM H.size) ⟨⟨⟨rfl, rfl, hf, hlo, hws, List.mem_cons_self⟩, E.ts _ hcode, E.ts _ hini, ⟨hy1, hy2⟩, hlen, E.ts _ h⟩, E.ts _ hins, E.ts _ hsel⟩ hp rfl hn hsz hst hW2 hd hcs
theorem ct_S (E : Ev p s m args meth c cc nL own ret D cy A) (hS : Sv D A s.heap ws H locs) (lk : SL own idx y n) (hc : Ct l y bytes maxL' ret' fr lo D cy As wc w1 o) (isC : List Nat) (hC : isC.map (fun i => ws[i]?) = wc.map some) (hnd : va_nd isC = true) (hadr : ∀ rv, (w1 rv).map (fun q => q.1) = wc.map (fun q => q.1)) (hw : ∀ rv, va_sets ws (isC.zip (w1 rv)) = ws' rv)
    (hn : As.length = n) (hst : st = As.reverse ++ rest) (hW : (rest.map fun v => v.category).sum ≤ 8) (hsz : ls.size = nL) (hf : fr + 1 ≤ R.frames) (hlo : 8 + (maxL' + 11) + lo ≤ R.locals) (hcs : cells ≤ R.cells ∧ slots ≤ R.slots) (hd : decode cc pc = .ok (.invokestatic idx, 3))
    (hst' : o.toList ++ rest = st') (kk : ∀ (H : Heap) (locs : List Loc) (rv : Value), Sv D A s.heap (ws' rv) H locs → W p l e R s m args below meth c H locs cells slots Q (F0 m (pc + 3) ls st')) : W p l e R s m args below meth c H locs cells slots Q (F0 m pc ls st) := by
  obtain ⟨⟨hlk, hini, hy1, hy2, hnp⟩, hstat⟩ := lk
  obtain ⟨hcode, hM⟩ := hc
  have hPc := pick_P hS.1 hC
  have hDc := hS.2.1.sub isC hnd hC
  have hp : PreS s H (va_Pc As (fun U => U.heap.size = H.size ∧ va_P D vwCl wc U.heap ∧ va_K D vwCl (TYc cy) U ∧ va_D (fun _ => True) wc)) As :=
    ⟨blind_Pc, fun U hU hWm => ⟨rfl, by rw [hU], by rw [hU]; exact hPc, va_K.moved hWm.alike E.K, hDc.weaken (fun _ _ _ _ => trivial)⟩⟩
  have hws : ∀ w ∈ (Cond.code y bytes maxL' ret' :: lw_g), ∀ (a' : Array Value) (U : State), s.WarmedH U.vm → w.before a' U = true := fun w hw a' U hWm => by
    rcases List.mem_cons.mp hw with rfl | hw
    · exact lw_g_warm E.ts _ hcode a' U hWm
    · exact lw_g_warm E.ts w hw a' U hWm
  have hlen : ∀ sig, parseMethodDescriptor y.desc = some sig → n = sig.parameters.length := fun sig h => by rw [h] at hnp; exact (Option.some.inj hnp).symm
  have hW2 : 2 * (F0 m pc ls st).monitorRoom + (rest.map fun v => v.category).sum ≤ 8 := by show 2 * 0 + _ ≤ 8; omega
  refine ct_go (av := As.toArray) (free := va_A wc H.size) (g0 := F0 m pc ls st) E hS hC hadr hw rfl ?_ hst' kk
  rcases hlk with h | ⟨host, h⟩
  · exact va_runS (Ts := lw_g) ⟨E.x, E.b, E.ml, E.ow, E.ts⟩ (hM H.size) ⟨⟨rfl, rfl, hf, hlo, hws, List.mem_cons_self, E.ts _ hcode, E.ts _ hini, ⟨hy1, hy2⟩, hlen, E.ts _ h⟩, E.ts _ hstat⟩ hp rfl hn hsz hst hW2 hd hcs
  · exact va_runSN (Ts := lw_g) ⟨E.x, E.b, E.ml, E.ow, E.ts⟩ (hM H.size) ⟨⟨⟨rfl, rfl, hf, hlo, hws, List.mem_cons_self⟩, E.ts _ hcode, E.ts _ hini, ⟨hy1, hy2⟩, hlen, E.ts _ h⟩, E.ts _ hstat, trivial⟩ hp rfl hn hsz hst hW2 hd hcs
end CALLS
