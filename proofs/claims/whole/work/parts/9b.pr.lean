/-! ===== the pure level: a rule, read whole ===== -/
theorem PDl_v {h : Nat → Nat} {o : Nat → Bool} (ho : ∀ x, o x = true → ¬ opx x = 0) {q : Nat → Bool × Nat × List Nat} (hq : ∀ j e, e ∈ (q j).2.2 → VKc e) : ∀ (m : Nat) (r : Bool × Nat × List Nat), (∀ e, e ∈ r.2.2 → VKc e) → ∀ e, e ∈ (PDl h o q m r).2.2 → VKc e
  | 0, r, hr => hr
  | m + 1, r, hr => by
    by_cases cc : r.1 = true ∧ o (h r.2.1) = true
    · have eP : PDl h o q (m + 1) r = PDl h o q m ((q (r.2.1 + 1)).1, (q (r.2.1 + 1)).2.1, r.2.2 ++ (q (r.2.1 + 1)).2.2 ++ [1999 + opx (h r.2.1)]) := if_pos cc
      rw [eP]
      refine PDl_v ho hq m _ (fun e he => ?_)
      have he : e ∈ r.2.2 ++ (q (r.2.1 + 1)).2.2 ++ [1999 + opx (h r.2.1)] := he
      rw [List.mem_append, List.mem_append] at he
      rcases he with (he | he) | he
      · exact hr e he
      · exact hq _ e he
      · have he : e = 1999 + opx (h r.2.1) := List.mem_singleton.mp he
        have h1 := ho _ cc.2
        have h2 := opx_b (h r.2.1)
        exact Or.inr (by omega)
    · have eP : PDl h o q (m + 1) r = r := if_neg cc
      rw [eP]; exact hr
theorem nmv_b {h : Nat → Nat} {i : Nat} (hd : dgx (h i) = true) : nmv h i < 1000 := by
  have h1 := of_decide_eq_true hd
  unfold nmv
  cases d1 : dgx (h (i + 1)) with
  | false => rw [if_neg (by decide)]; omega
  | true =>
    have h2 := of_decide_eq_true d1
    rw [if_pos rfl]
    cases d2 : dgx (h (i + 2)) with
    | false => rw [if_neg (by decide)]; omega
    | true =>
      have h3 := of_decide_eq_true d2
      rw [if_pos rfl]; omega
theorem PD_v (h : Nat → Nat) : ∀ (f k i p e : Nat), e ∈ (PD h f k i p).2.2 → VKc e
  | 0, k, i, p, e, he => by cases he
  | f + 1, k, i, p, e, he => by
    unfold PD at he
    by_cases k0 : k = 0
    · rw [if_pos k0] at he
      exact PDl_v (fun x hx => by rcases opC_o hx with rfl | rfl | rfl <;> decide) (fun j e => PD_v h f 1 j p e) 1 _ (PD_v h f 1 i p) e he
    · rw [if_neg k0] at he
      by_cases k1 : k = 1
      · rw [if_pos k1] at he
        exact PDl_v (fun x hx => by rcases opA_o hx with rfl | rfl <;> decide) (fun j e => PD_v h f 2 j p e) 50 _ (PD_v h f 2 i p) e he
      · rw [if_neg k1] at he
        by_cases k2 : k = 2
        · rw [if_pos k2] at he
          exact PDl_v (fun x hx => by rcases opM_o hx with rfl | rfl <;> decide) (fun j e => PD_v h f 3 j p e) 50 _ (PD_v h f 3 i p) e he
        · rw [if_neg k2] at he
          by_cases c45 : h i = 45
          · rw [if_pos c45] at he
            have he : e ∈ (PD h f 3 (i + 1) p).2.2 ++ [2007] := he
            rw [List.mem_append] at he
            rcases he with he | he
            · exact PD_v h f 3 (i + 1) p e he
            · have he : e = 2007 := List.mem_singleton.mp he
              exact Or.inr (by omega)
          · rw [if_neg c45] at he
            by_cases c40 : h i = 40 ∧ p < 4
            · rw [if_pos c40] at he
              by_cases c1 : (PD h f 0 (i + 1) (p + 1)).1 = true
              · rw [if_pos c1] at he
                by_cases c41 : h (PD h f 0 (i + 1) (p + 1)).2.1 = 41
                · rw [if_pos c41] at he
                  exact PD_v h f 0 (i + 1) (p + 1) e he
                · rw [if_neg c41] at he; cases he
              · rw [if_neg c1] at he; cases he
            · rw [if_neg c40] at he
              by_cases cd : dgx (h i) = true
              · rw [if_pos cd] at he
                have he : e = nmv h i := List.mem_singleton.mp he
                have := nmv_b cd
                exact Or.inl (by omega)
              · rw [if_neg cd] at he
                by_cases cl : ¬ lex (h i) = 0
                · rw [if_pos cl] at he
                  have he : e = 999 + lex (h i) := List.mem_singleton.mp he
                  have := lex_b (h i)
                  exact Or.inl (by omega)
                · rw [if_neg cl] at he; cases he
section RFI
variable {t : Nat} {c : Nat → Nat} {signs text : Nat → Int32}
/-- the class reads a whole rule -/
theorem L_fi (hT : TC t c signs text) (waiting code0 : Nat → Int32) : ∃ y, X6_faultIn waiting 80 signs code0 (o32 t) = some y ∧ (PD (HSx t c) 100 0 0 0).2.1 ≤ 40 ∧ (((PD (HSx t c) 100 0 0 0).1 = true ∧ (PD (HSx t c) 100 0 0 0).2.1 = t ∧ y.1 = -1 ∧ y.2.2.2.2.2.2.2.1 = o32 (PD (HSx t c) 100 0 0 0).2.2.length ∧ CdR y.2.2.2.2.2.2.2.2 (PD (HSx t c) 100 0 0 0).2.2 ∧ (PD (HSx t c) 100 0 0 0).2.2.length ≤ 40) ∨ (¬ ((PD (HSx t c) 100 0 0 0).1 = true ∧ t ≤ (PD (HSx t c) 100 0 0 0).2.1) ∧ y.1 = o32 (PD (HSx t c) 100 0 0 0).2.1)) := by
  have ht80 := hT.1
  obtain ⟨r, er⟩ : ∃ r, PD (HSx t c) 100 0 0 0 = r := ⟨_, rfl⟩
  obtain ⟨b1, b2, b3, b4, b5⟩ := L_rB hT 100 0 0 0 (by decide) (by decide) (by omega) (by decide) (by decide) 0 [] [] waiting code0 0 (by decide) (fun _ => rfl) (fun _ => rfl) (Nat.le_refl 0) ⟨fun e he => absurd he List.not_mem_nil, fun j hj => absurd hj (Nat.not_lt_zero j)⟩ (fun j hj => absurd hj (Nat.not_lt_zero j))
  rw [er] at b1 b2 b3 b4 b5 ⊢
  obtain ⟨X, eX⟩ : ∃ X, lp (fIn t signs) (1000 - 0) (o32 0, o32 ([] : List Nat).length, o32 0, o32 0, (0 : Int32), (0 : Int32), waiting, o32 ([] : List Nat).length, code0) = X := ⟨_, rfl⟩
  rw [eX] at b4 b5
  have fin : ∀ W dp m d ht a z' code, X = some (.inl (W, dp, m, d, ht, a, z', code)) → ∀ y, (if o32 t ≤ (40 : Int32) then (if ht = 0 then (some (o32 t, W, dp, m, d, ht, a, z', code)) else (if dp ≤ 0 then ((X6_settles W a z' code (1 : Int32)).bind fun y124 => some ((-1 : Int32), y124.1, dp, m, d, ht, a, y124.2.1, y124.2.2)) else (some (o32 t, W, dp, m, d, ht, a, z', code)))) else (some ((40 : Int32), W, dp, m, d, ht, a, z', code))) = some y → X6_faultIn waiting 80 signs code0 (o32 t) = some y := by
    intro W dp m d ht a z' code hX y hy
    unfold X6_faultIn
    show (lp (fIn t signs) (1000 - 0) (o32 0, o32 ([] : List Nat).length, o32 0, o32 0, (0 : Int32), (0 : Int32), waiting, o32 ([] : List Nat).length, code0)).bind _ = _
    rw [eX, hX, Option.bind_some]
    exact hy
  have fault : FaX t r.2.1 X → ∃ y, X6_faultIn waiting 80 signs code0 (o32 t) = some y ∧ y.1 = o32 r.2.1 := by
    rintro ⟨z, ez, h⟩
    rcases h with ⟨h1, h2, w, rfl⟩ | ⟨h1, W, dp, m, d, ht, a, z', code, rfl, h2⟩
    · refine ⟨(o32 r.2.1, w), ?_, rfl⟩
      unfold X6_faultIn
      show (lp (fIn t signs) (1000 - 0) (o32 0, o32 ([] : List Nat).length, o32 0, o32 0, (0 : Int32), (0 : Int32), waiting, o32 ([] : List Nat).length, code0)).bind _ = _
      rw [eX, ez, Option.bind_some]
      rfl
    · rcases Nat.lt_or_ge 40 t with c4 | c4
      · refine ⟨_, fin _ _ _ _ _ _ _ _ ez _ (by rw [show (40 : Int32) = o32 40 from rfl, i_ge c4 (by omega)]), ?_⟩
        show o32 40 = o32 r.2.1
        rw [show r.2.1 = 40 by omega]
      · refine ⟨(o32 t, W, dp, m, d, ht, a, z', code), fin _ _ _ _ _ _ _ _ ez _ ?_, ?_⟩
        · rw [show (40 : Int32) = o32 40 from rfl, i_le c4 (by decide)]
          by_cases c0 : ht = 0
          · rw [if_pos c0]
          · rw [if_neg c0, if_neg (by rcases h2 with h2 | h2; exact absurd h2 c0; exact h2)]
        · show o32 t = o32 r.2.1
          rw [show r.2.1 = t by omega]
  by_cases c1 : r.1 = true
  · obtain ⟨-, s', g', a', code', M', d', e1, e2, e3, e4, e5, e6, e7, e8, e9, e10⟩ := b4 c1
    have e5 : g' ++ s' = r.2.2 := e5
    rw [List.append_nil] at e1 e2 e9
    by_cases cj : r.2.1 < t ∧ r.2.1 < 40
    · obtain ⟨y, ey, hy⟩ := fault (by
        rw [e1]
        exact L_flt hT b3 (by decide) e6 e8 e10 (Or.inr rfl) (fun q => absurd cj q))
      exact ⟨y, ey, b3, Or.inr ⟨fun q => by omega, hy⟩⟩
    · have st : fIn t signs (o32 r.2.1, o32 s'.length, o32 0, o32 M', d', (1 : Int32), a', o32 g'.length, code') = some (.inr (.inl (o32 s'.length, o32 0, o32 M', d', (1 : Int32), a', o32 g'.length, code'))) := L_fse hT cj (by omega)
      rw [show 1000 - r.2.1 = (999 - r.2.1) + 1 by omega, lp_e _ st] at e1
      rcases Nat.lt_or_ge 40 t with c4 | c4
      · refine ⟨_, fin _ _ _ _ _ _ _ _ e1 _ (by rw [show (40 : Int32) = o32 40 from rfl, i_ge c4 (by omega)]), b3, Or.inr ⟨fun q => by omega, ?_⟩⟩
        show o32 40 = o32 r.2.1
        rw [show r.2.1 = 40 by omega]
      · obtain ⟨code2, es, hcd⟩ := L_stl (a := a') (b := 1) (by decide) (by decide) e2 e3 (by omega)
        have hl : g'.length + s'.length = r.2.2.length := by rw [← e5, List.length_append]
        have hsg : stg 1 s' = s' := by
          have := stg_ap (b := 1) (s := s') (r := []) e4
          rw [List.append_nil] at this
          rw [this]; show s' ++ [] = s'; rw [List.append_nil]
        rw [e4, hsg, e5] at es
        rw [hsg, e5] at hcd
        refine ⟨_, fin _ _ _ _ _ _ _ _ e1 _ (by rw [show (40 : Int32) = o32 40 from rfl, i_le c4 (by decide), if_neg (show ¬ (1 : Int32) = 0 by decide), if_pos (show o32 0 ≤ (0 : Int32) by decide), show (1 : Int32) = o32 1 from rfl, es, Option.bind_some]), b3, Or.inl ⟨c1, by omega, rfl, rfl, hcd, by omega⟩⟩
  · obtain ⟨y, ey, hy⟩ := fault (b5 (by cases h : r.1; rfl; exact absurd h c1))
    exact ⟨y, ey, b3, Or.inr ⟨fun q => c1 q.1, hy⟩⟩
end RFI
