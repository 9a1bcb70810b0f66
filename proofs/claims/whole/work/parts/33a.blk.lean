/-! ===== worlds with a tail that is not looked into; worlds in another order ===== -/
theorem va_P_pm {D : va_G} {ws ws' : va_W} {H : Heap} (h : ws.Perm ws') (hP : va_P D vwCl ws H) : va_P D vwCl ws' H := by
  intro k q hk
  have hm : q ∈ ws := h.mem_iff.mpr (List.mem_of_getElem? hk)
  obtain ⟨j, hj⟩ := List.getElem?_of_mem hm
  exact hP j q hj
theorem va_D_nd {A : Nat → Prop} {ws : va_W} : va_D A ws ↔ (ws.map (fun q => q.1)).Nodup ∧ ∀ q ∈ ws, A q.1 := by
  constructor
  · rintro ⟨h1, h2⟩
    refine ⟨?_, fun q hq => ?_⟩
    · rw [List.nodup_iff_pairwise_ne, List.pairwise_iff_getElem]
      intro i j hi hj hij he
      rw [List.length_map] at hi hj
      rw [List.getElem_map, List.getElem_map] at he
      have := h1 i j _ _ (List.getElem?_eq_getElem hi) (List.getElem?_eq_getElem hj) he
      omega
    · obtain ⟨j, hj⟩ := List.getElem?_of_mem hq
      exact h2 j q hj
  · rintro ⟨h1, h2⟩
    refine ⟨fun i j p q hi hj he => ?_, fun k q hk => h2 q (List.mem_of_getElem? hk)⟩
    obtain ⟨hi1, hi2⟩ := List.getElem?_eq_some_iff.mp hi
    obtain ⟨hj1, hj2⟩ := List.getElem?_eq_some_iff.mp hj
    rw [List.nodup_iff_pairwise_ne, List.pairwise_iff_getElem] at h1
    rcases Nat.lt_trichotomy i j with h | h | h
    · exact absurd (by rw [List.getElem_map, List.getElem_map, hi2, hj2]; exact he) (h1 i j (by rw [List.length_map]; exact hi1) (by rw [List.length_map]; exact hj1) h)
    · exact h
    · exact absurd (by rw [List.getElem_map, List.getElem_map, hi2, hj2]; exact he.symm) (h1 j i (by rw [List.length_map]; exact hj1) (by rw [List.length_map]; exact hi1) h)
theorem va_D_pm {A : Nat → Prop} {ws ws' : va_W} (h : ws.Perm ws') (hD : va_D A ws) : va_D A ws' := by
  rw [va_D_nd] at hD ⊢
  exact ⟨(h.map _).nodup_iff.mp hD.1, fun q hq => hD.2 q (h.mem_iff.mpr hq)⟩
theorem va_A_pm {ws ws' : va_W} (h : ws.Perm ws') (sz : Nat) : va_A ws' sz = va_A ws sz := by
  have go : ∀ {a b : va_W}, a.Perm b → ∀ q, va_A a sz q → va_A b sz q := by
    intro a b hab q hq
    rcases hq with ⟨k, e, hk⟩ | hq
    · obtain ⟨j, hj⟩ := List.getElem?_of_mem (hab.mem_iff.mp (List.mem_of_getElem? hk))
      exact Or.inl ⟨j, e, hj⟩
    · exact Or.inr hq
  funext q
  exact propext ⟨go h.symm q, go h q⟩
theorem Sv.pm {D : va_G} {A : Nat → Prop} {H0 H : Heap} {locs : List Loc} {ws ws' : va_W} (h : ws.Perm ws') (hS : Sv D A H0 ws H locs) : Sv D A H0 ws' H locs := ⟨va_P_pm h hS.1, va_D_pm h hS.2.1, hS.2.2⟩
theorem Qc0_pm {D : va_G} {o : Option Value} {w' v' : Value → va_W} (h : ∀ rv, (w' rv).Perm (v' rv)) (A : Nat → Prop) : Qc0 D o v' A = Qc0 D o w' A := by
  funext a st oc t
  refine propext ⟨fun ⟨⟨h1, rv, h2⟩, h3⟩ => ⟨⟨h1, rv, va_P_pm (h rv).symm h2⟩, h3⟩, fun ⟨⟨h1, rv, h2⟩, h3⟩ => ⟨⟨h1, rv, va_P_pm (h rv) h2⟩, h3⟩⟩
theorem Ct.perm {l : Launch} {y : MethodName} {cc : ByteArray} {maxL fr lo : Nat} {ret : Option FieldType} {D : va_G} {cy : Nat → ClassId} {av : List Value} {w v : va_W} {w' v' : Value → va_W} {o : Option Value} (h : Ct l y cc maxL ret fr lo D cy av w w' o) (p1 : w.Perm v) (p2 : ∀ rv, (w' rv).Perm (v' rv)) : Ct l y cc maxL ret fr lo D cy av v v' o := by
  refine ⟨h.1, fun sz => ?_⟩
  have h2 := h.2 sz
  have hP : (fun U : State => U.heap.size = sz ∧ va_P D vwCl v U.heap ∧ va_K D vwCl (TYc cy) U ∧ va_D (fun _ => True) v) = (fun U : State => U.heap.size = sz ∧ va_P D vwCl w U.heap ∧ va_K D vwCl (TYc cy) U ∧ va_D (fun _ => True) w) :=
    funext fun U => propext ⟨fun ⟨q1, q2, q3, q4⟩ => ⟨q1, va_P_pm p1.symm q2, q3, va_D_pm p1.symm q4⟩, fun ⟨q1, q2, q3, q4⟩ => ⟨q1, va_P_pm p1 q2, q3, va_D_pm p1 q4⟩⟩
  rw [hP, va_A_pm p1 sz, Qc0_pm p2]
  exact h2
theorem tl_in {e ce : va_W} {isC : List Nat} (h : isC.map (fun i => e[i]?) = ce.map some) : ∀ i ∈ isC, i < e.length := by
  intro i hi
  have h1 : e[i]? ∈ isC.map (fun i => e[i]?) := List.mem_map.mpr ⟨i, hi, rfl⟩
  rw [h] at h1
  obtain ⟨q, -, hq⟩ := List.mem_map.mp h1
  exact (List.getElem?_eq_some_iff.mp hq.symm).1
theorem tl_map {e B ce : va_W} {isC : List Nat} (h : isC.map (fun i => e[i]?) = ce.map some) : (isC ++ List.range' e.length B.length).map (fun i => (e ++ B)[i]?) = (ce ++ B).map some := by
  rw [List.map_append, List.map_append]
  congr 1
  · rw [← h]
    exact List.map_congr_left (fun i hi => List.getElem?_append_left (tl_in h i hi))
  · apply List.ext_getElem?
    intro j
    rw [List.getElem?_map, List.getElem?_map]
    by_cases hj : j < B.length
    · rw [List.getElem?_range' hj]
      show some ((e ++ B)[e.length + 1 * j]?) = _
      rw [List.getElem?_append_right (by omega), show e.length + 1 * j - e.length = j by omega, List.getElem?_eq_getElem hj]
      rfl
    · rw [List.getElem?_eq_none (by rw [List.length_range']; omega), List.getElem?_eq_none (by omega)]
      rfl
theorem va_nd_r (k : Nat) : ∀ n, va_nd (List.range' n k) = true := by
  induction k with
  | zero => intro n; rfl
  | succ k ih =>
    intro n
    show (decide (n ∉ List.range' (n + 1) k) && va_nd (List.range' (n + 1) k)) = true
    rw [ih, Bool.and_true]
    apply decide_eq_true
    intro h
    have := List.mem_range'_1.mp h
    omega
theorem va_nd_a : ∀ {a b : List Nat}, va_nd a = true → va_nd b = true → (∀ i ∈ a, i ∉ b) → va_nd (a ++ b) = true
  | [], b, _, hb, _ => hb
  | x :: a, b, ha, hb, hd => by
    have ha : (decide (x ∉ a) && va_nd a) = true := ha
    rw [Bool.and_eq_true] at ha
    show (decide (x ∉ a ++ b) && va_nd (a ++ b)) = true
    rw [va_nd_a ha.2 hb (fun i hi => hd i (List.mem_cons_of_mem _ hi)), Bool.and_true]
    apply decide_eq_true
    intro h
    rcases List.mem_append.mp h with h | h
    · exact of_decide_eq_true ha.1 h
    · exact hd x List.mem_cons_self h
theorem va_sets_a : ∀ (L1 L2 : List (Nat × (Nat × va_E))) (ws : va_W), va_sets ws (L1 ++ L2) = va_sets (va_sets ws L1) L2
  | [], L2, ws => rfl
  | x :: r, L2, ws => va_sets_a r L2 (ws.set x.1 x.2)
theorem va_sets_l : ∀ (L : List (Nat × (Nat × va_E))) (ws : va_W), (va_sets ws L).length = ws.length
  | [], ws => rfl
  | x :: r, ws => by
    show (va_sets (ws.set x.1 x.2) r).length = _
    rw [va_sets_l r, List.length_set]
theorem va_sets_t : ∀ (L : List (Nat × (Nat × va_E))) (e B : va_W), (∀ x ∈ L, x.1 < e.length) → va_sets (e ++ B) L = va_sets e L ++ B
  | [], e, B, _ => rfl
  | x :: r, e, B, h => by
    show va_sets ((e ++ B).set x.1 x.2) r = va_sets (e.set x.1 x.2) r ++ B
    rw [List.set_append_left _ _ (h x List.mem_cons_self), va_sets_t r (e.set x.1 x.2) B (fun y hy => by rw [List.length_set]; exact h y (List.mem_cons_of_mem _ hy))]
theorem va_sets_b : ∀ (B B1 e : va_W), B1.length = B.length → va_sets (e ++ B) ((List.range' e.length B.length).zip B1) = e ++ B1
  | [], [], e, _ => rfl
  | b :: B, x :: B1, e, h => by
    have h : B1.length + 1 = B.length + 1 := h
    show va_sets ((e ++ b :: B).set e.length x) ((List.range' (e.length + 1) B.length).zip B1) = e ++ x :: B1
    rw [List.set_append_right _ _ (Nat.le_refl _), Nat.sub_self]
    have ih := va_sets_b B B1 (e ++ [x]) (by omega)
    rw [List.length_append, List.append_assoc, List.append_assoc] at ih
    exact ih
  | [], x :: B1, e, h => by cases h
  | b :: B, [], e, h => by cases h
theorem tl_sets {e B c1 B1 : va_W} {isC : List Nat} (hi : ∀ i ∈ isC, i < e.length) (hl : isC.length = c1.length) (hB : B1.length = B.length) : va_sets (e ++ B) ((isC ++ List.range' e.length B.length).zip (c1 ++ B1)) = va_sets e (isC.zip c1) ++ B1 := by
  rw [List.zip_append hl, va_sets_a, va_sets_t _ _ _ (fun x hx => hi x.1 (List.of_mem_zip hx).1)]
  have h2 := va_sets_b B B1 (va_sets e (isC.zip c1)) hB
  rw [va_sets_l] at h2
  exact h2
section TAILS
variable {p : Program} {l : Launch} {e : Env} {R : Room} {s : State} {m : MethodId} {args : Array Value} {below : List Frame} {meth : Method} {c : Code} {H : Heap} {locs : List Loc} {cells slots : Nat} {Q : State → Prop}
variable {cc : ByteArray} {nL pc : Nat} {own : String} {ret : Option FieldType} {D : va_G} {cy : Nat → ClassId} {A : Nat → Prop} {we B ce : va_W} {e1 B1 c1 : Value → va_W} {ls : Array Slot} {rest st st' : List Value} {idx : Nat}
variable {y : MethodName} {bytes : ByteArray} {maxL' fr lo b n : Nat} {ret' : Option FieldType} {As : List Value} {o : Option Value}
theorem ct_VT (E : Ev p s m args meth c cc nL own ret D cy A) (hS : Sv D A s.heap (we ++ B) H locs) (lk : VL own idx y n) (hc : Ct l y bytes maxL' ret' fr lo D cy (.ref b :: As) (ce ++ B) (fun rv => c1 rv ++ B1 rv) o) (isC : List Nat) (hC : isC.map (fun i => we[i]?) = ce.map some) (hnd : va_nd isC = true) (hadr : ∀ rv, (c1 rv).map (fun q => q.1) = ce.map (fun q => q.1)) (hadB : ∀ rv, (B1 rv).map (fun q => q.1) = B.map (fun q => q.1)) (hw : ∀ rv, va_sets we (isC.zip (c1 rv)) = e1 rv)
    {ci : Nat} {fs : List Value} {T0 : u_T} {N0 : Nat} (hrec : (ce ++ B)[0]? = some (b, .inr (ci, fs))) (hcl : vwCl[ci]? = some (y.cls, T0, N0)) (hn : As.length = n) (hst : st = As.reverse ++ .ref b :: rest) (hW : (rest.map fun v => v.category).sum ≤ 8) (hsz : ls.size = nL) (hf : fr + 1 ≤ R.frames) (hlo : 8 + (maxL' + 11) + lo ≤ R.locals) (hcs : cells ≤ R.cells ∧ slots ≤ R.slots) (hd : decode cc pc = .ok (.invokevirtual idx, 3))
    (hst' : o.toList ++ rest = st') (kk : ∀ (H : Heap) (locs : List Loc) (rv : Value), Sv D A s.heap (e1 rv ++ B1 rv) H locs → W p l e R s m args below meth c H locs cells slots Q (F0 m (pc + 3) ls st')) : W p l e R s m args below meth c H locs cells slots Q (F0 m pc ls st) := by
  have hi := tl_in hC
  have hlen : isC.length = ce.length := by
    have h1 := congrArg List.length hC
    rwa [List.length_map, List.length_map] at h1
  refine ct_V (ws' := fun rv => e1 rv ++ B1 rv) E hS lk hc (isC ++ List.range' we.length B.length) (tl_map hC) (va_nd_a hnd (va_nd_r _ _) (fun i h1 h2 => by
    have h3 := hi i h1
    have h4 := List.mem_range'_1.mp h2
    omega)) (fun rv => by rw [List.map_append, List.map_append, hadr, hadB]) (fun rv => ?_) hrec hcl hn hst hW hsz hf hlo hcs hd hst' kk
  have h1 := congrArg List.length (hadr rv)
  rw [List.length_map, List.length_map] at h1
  have h2 := congrArg List.length (hadB rv)
  rw [List.length_map, List.length_map] at h2
  rw [tl_sets hi (by omega) h2, hw rv]
end TAILS
