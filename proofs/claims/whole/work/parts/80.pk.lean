/-! ===== the pure level: week, as a row of signs ===== -/
def wdO (x : Nat) : Nat := if x = 108 ∨ x = 110 then 1 else if x = 112 ∨ x = 115 ∨ x = 116 then 2 else 0
theorem wdO_o {x : Nat} (h : x < 256) : X9_digitsOf (o32 x) = o32 (wdO x) := by
  have h1 : ∀ x : Fin 256, X9_digitsOf (o32 x.val) = o32 (wdO x.val) := by decide +kernel
  exact h1 ⟨x, h⟩
theorem wdO_2 (x : Nat) : wdO x ≤ 2 := by unfold wdO; split; omega; split <;> omega
/-- which kind, and how many digits are wanting -/
def TaS (c : Nat → Nat) : Nat → Nat × Nat
  | 0 => (0, 0)
  | i + 1 => if (TaS c i).2 = 0 then (c i, wdO (c i)) else ((TaS c i).1, (TaS c i).2 - 1)
def TaO (t : Nat) (c : Nat → Nat) (i : Nat) : Prop := i < t ∧ i < 60 ∧ (((TaS c i).2 = 0 ∧ ¬ wdO (c i) = 0) ∨ (¬ (TaS c i).2 = 0 ∧ 48 ≤ c i ∧ c i ≤ 57 ∧ ¬ ((TaS c i).1 = 112 ∧ (TaS c i).2 = 1 ∧ c i = 48)))
theorem TaO_f (t : Nat) (c : Nat → Nat) : ∃ f, f ≤ t ∧ f ≤ 60 ∧ ¬ TaO t c f ∧ ∀ i, i < f → TaO t c i := by
  rcases least_or (P := fun i => ¬ TaO t c i) (min t 60) with ⟨f, h1, h2, h3⟩ | hno
  · exact ⟨f, by omega, by omega, h2, fun i hi => Classical.byContradiction (fun hc => h3 i hi hc)⟩
  · exfalso
    apply hno (min t 60) (Nat.le_refl _)
    rintro ⟨h1, h2, -⟩
    omega
section TAS
variable {t f : Nat} {c : Nat → Nat} {signs text : Nat → Int32}
theorem TaS_0 {i : Nat} (h : (TaS c i).2 = 0) : TaS c (i + 1) = (c i, wdO (c i)) := if_pos h
theorem TaS_1 {i : Nat} (h : ¬ (TaS c i).2 = 0) : TaS c (i + 1) = ((TaS c i).1, (TaS c i).2 - 1) := if_neg h
theorem TaS_b (hT : TC t c signs text) : ∀ (i : Nat), i ≤ 80 → (TaS c i).1 < 256 ∧ (TaS c i).2 ≤ 2
  | 0, _ => ⟨show 0 < 256 by decide, show 0 ≤ 2 by decide⟩
  | i + 1, hi => by
    obtain ⟨h1, h2⟩ := TaS_b hT i (by omega)
    by_cases h : (TaS c i).2 = 0
    · rw [TaS_0 h]; exact ⟨(hT.2 i (by omega)).1, wdO_2 _⟩
    · rw [TaS_1 h]; exact ⟨h1, by show _ - 1 ≤ 2; omega⟩
theorem L_af2 (hT : TC t c signs text) (hf : f ≤ t) (hf2 : f ≤ 60) (hb : ¬ TaO t c f) (hg : ∀ i, i < f → TaO t c i) : X9_weekFault (o32 t) signs = some (if f = t ∧ (TaS c f).2 = 0 then -1 else o32 f) := by
  have ht := hT.1
  have e60 : (60 : Int32) = o32 60 := rfl
  have e112 : (112 : Int32) = o32 112 := rfl
  have e1 : ∀ x, x ≤ 2 → ((o32 x = (1 : Int32)) = (x = 1)) := fun x hx => by
    show (o32 x = o32 1) = _
    rw [o_eq (by omega) (by decide)]
  have z0 : ∀ x, x ≤ 80 → ((o32 x = (0 : Int32)) = (x = 0)) := fun x hx => o0 (by omega)
  have k67g : ∀ i x l, i < t → 48 ≤ c i → c i ≤ 57 → ¬ l = 0 → X9_weekFault_k67 (o32 t) signs x (o32 l) (o32 i) 0 = some (.inl (x, o32 (l - 1), o32 (i + 1))) := by
    intro i x l h1 h2 h3 h4
    unfold X9_weekFault_k67
    obtain ⟨l', rfl⟩ : ∃ l', l = l' + 1 := ⟨l - 1, by omega⟩
    rw [L_dg hT h1 h2 h3, Option.bind_some, if_neg (o_nn _ (by omega)), if_pos rfl, o_s, pu_am1, pu_m1]
    rfl
  have step : ∀ i, i < f → X9_weekFault_s6 (o32 t) signs (o32 (TaS c i).1) (o32 (TaS c i).2) (o32 i) = some (.inl (o32 (TaS c (i + 1)).1, o32 (TaS c (i + 1)).2, o32 (i + 1))) := by
    intro i hi
    obtain ⟨g1, g2, hor⟩ := hg i hi
    obtain ⟨b1, b2⟩ := TaS_b hT i (by omega)
    have hc := (hT.2 i (by omega)).1
    unfold X9_weekFault_s6
    rw [i_ge g1 (by omega), e60, i_ge g2 (by decide)]
    rcases hor with ⟨h0, h1⟩ | ⟨h0, h1, h2, h3⟩
    · rw [TaS_0 h0, if_pos (by rw [h0]; rfl), L_at hT g1, Option.bind_some, wdO_o hc, if_neg (by rw [z0 _ (by have := wdO_2 (c i); omega)]; exact h1), o_s]
    · rw [TaS_1 h0, if_neg (by rw [z0 _ (by omega)]; exact h0)]
      by_cases c1 : (TaS c i).1 = 112
      · rw [if_pos (by rw [c1]; rfl)]
        by_cases c2 : (TaS c i).2 = 1
        · rw [if_pos (by rw [e1 _ b2]; exact c2), L_at hT g1, Option.bind_some, if_neg (by
            show ¬ o32 (c i) = o32 48
            rw [o_eq (by omega) (by decide)]; omega), k67g i _ _ g1 h1 h2 h0]
        · rw [if_neg (by rw [e1 _ b2]; exact c2), k67g i _ _ g1 h1 h2 h0]
      · rw [if_neg (by
          show ¬ o32 (TaS c i).1 = o32 112
          rw [o_eq (by omega) (by decide)]; exact c1), k67g i _ _ g1 h1 h2 h0]
  unfold X9_weekFault
  obtain ⟨b1, b2⟩ := TaS_b hT f (by omega)
  rcases Nat.lt_or_ge f (min t 60) with hm | hm
  · have h1 : f < t := by omega
    have h2 : f < 60 := by omega
    have hc := (hT.2 f (by omega)).1
    have fin : ∃ r, X9_weekFault_s6 (o32 t) signs (o32 (TaS c f).1) (o32 (TaS c f).2) (o32 f) = some (.inr (.inr r)) ∧ (r = .inl (o32 f) ∨ r = .inr (o32 f)) := by
      unfold X9_weekFault_s6
      rw [i_ge h1 (by omega), e60, i_ge h2 (by decide)]
      by_cases h0 : (TaS c f).2 = 0
      · rw [if_pos (by rw [h0]; rfl), L_at hT h1, Option.bind_some, wdO_o hc, if_pos (by
          rw [z0 _ (by have := wdO_2 (c f); omega)]
          apply Classical.byContradiction
          intro hne
          exact hb ⟨h1, h2, Or.inl ⟨h0, hne⟩⟩)]
        exact ⟨_, rfl, Or.inl rfl⟩
      · rw [if_neg (by rw [z0 _ (by omega)]; exact h0)]
        have k67b : ∀ j, (48 ≤ c f ∧ c f ≤ 57 → ¬ j = (0 : Int32)) → X9_weekFault_k67 (o32 t) signs (o32 (TaS c f).1) (o32 (TaS c f).2) (o32 f) j = some (.inr (.inr (.inr (o32 f)))) := by
          intro j hj
          unfold X9_weekFault_k67
          by_cases cd : 48 ≤ c f ∧ c f ≤ 57
          · rw [L_dg hT h1 cd.1 cd.2, Option.bind_some, if_neg (o_nn _ (by omega)), if_neg (hj cd)]
          · rw [L_dgn hT (by omega) (by omega), Option.bind_some, if_pos (by decide)]
        by_cases c1 : (TaS c f).1 = 112
        · rw [if_pos (by rw [c1]; rfl)]
          by_cases c2 : (TaS c f).2 = 1
          · rw [if_pos (by rw [e1 _ b2]; exact c2), L_at hT h1, Option.bind_some]
            by_cases c3 : c f = 48
            · rw [if_pos (by rw [c3]; rfl), k67b 1 (fun _ => by decide)]
              exact ⟨_, rfl, Or.inr rfl⟩
            · rw [if_neg (by
                show ¬ o32 (c f) = o32 48
                rw [o_eq (by omega) (by decide)]; exact c3), k67b 0 (fun cd _ => hb ⟨h1, h2, Or.inr ⟨h0, cd.1, cd.2, by omega⟩⟩)]
              exact ⟨_, rfl, Or.inr rfl⟩
          · rw [if_neg (by rw [e1 _ b2]; exact c2), k67b 0 (fun cd _ => hb ⟨h1, h2, Or.inr ⟨h0, cd.1, cd.2, by omega⟩⟩)]
            exact ⟨_, rfl, Or.inr rfl⟩
        · rw [if_neg (by
            show ¬ o32 (TaS c f).1 = o32 112
            rw [o_eq (by omega) (by decide)]; exact c1), k67b 0 (fun cd _ => hb ⟨h1, h2, Or.inr ⟨h0, cd.1, cd.2, by omega⟩⟩)]
          exact ⟨_, rfl, Or.inr rfl⟩
    obtain ⟨r, er, hr⟩ := fin
    have el : lp (fun x6 : Int32 × Int32 × Int32 => X9_weekFault_s6 (o32 t) signs x6.1 x6.2.1 x6.2.2) 1000 ((0 : Int32), (0 : Int32), (0 : Int32)) = some (.inr r) := lp_run (f := fun x6 : Int32 × Int32 × Int32 => X9_weekFault_s6 (o32 t) signs x6.1 x6.2.1 x6.2.2) (r := .inr r) (fun k => (o32 (TaS c k).1, o32 (TaS c k).2, o32 k)) f 0 1000 (fun k _ hk => step k (by omega)) (by rw [Nat.zero_add]; exact er) (by omega)
    rw [el, Option.bind_some, if_neg (show ¬ (f = t ∧ (TaS c f).2 = 0) by omega)]
    rcases hr with rfl | rfl <;> rfl
  · have el : lp (fun x6 : Int32 × Int32 × Int32 => X9_weekFault_s6 (o32 t) signs x6.1 x6.2.1 x6.2.2) 1000 ((0 : Int32), (0 : Int32), (0 : Int32)) = some (.inl (o32 (TaS c f).2)) := lp_run (f := fun x6 : Int32 × Int32 × Int32 => X9_weekFault_s6 (o32 t) signs x6.1 x6.2.1 x6.2.2) (r := .inl (o32 (TaS c f).2)) (fun k => (o32 (TaS c k).1, o32 (TaS c k).2, o32 k)) f 0 1000 (fun k _ hk => step k (by omega)) (by
      rw [Nat.zero_add]
      show X9_weekFault_s6 (o32 t) signs (o32 (TaS c f).1) (o32 (TaS c f).2) (o32 f) = _
      unfold X9_weekFault_s6
      rcases Nat.lt_or_ge f t with c1 | c1
      · rw [i_ge c1 (by omega), e60, i_le (by omega) (by omega)]
      · rw [i_le c1 (by omega)]) (by omega)
    rw [el, Option.bind_some]
    show (if o32 t ≤ (60 : Int32) then some (if o32 (TaS c f).2 = 0 then (-1 : Int32) else o32 t) else some 60) = _
    rw [e60]
    rcases Nat.lt_or_ge 60 t with c1 | c1
    · rw [i_ge c1 (by omega), if_neg (show ¬ (f = t ∧ (TaS c f).2 = 0) by omega), show f = 60 by omega]
    · have hft : f = t := by omega
      subst hft
      rw [i_le c1 (by decide)]
      by_cases h0 : (TaS c f).2 = 0
      · rw [if_pos (by rw [h0]; rfl), if_pos ⟨rfl, h0⟩]
      · rw [if_neg (by rw [z0 _ (by omega)]; exact h0), if_neg (by omega)]
end TAS
