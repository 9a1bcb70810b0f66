/-! ===== the pure level: wants, as a row of signs ===== -/
/-- who it is about (and one more; 0: nobody yet), whom last (and one more), how many, and whom each wants -/
def TwS (c : Nat → Nat) (a : Nat → Nat) : Nat → Nat × Nat × Nat × (Nat → Nat)
  | 0 => (0, 0, 0, a)
  | i + 1 => if (TwS c a i).1 = 0 then (c i - 48 + 1, 0, (TwS c a i).2.2.1 + 1, fun k => if k = c i - 48 then 0 else (TwS c a i).2.2.2 k)
    else if c i = 59 ∧ 0 < (TwS c a i).2.1 then (0, (TwS c a i).2.1, (TwS c a i).2.2.1, (TwS c a i).2.2.2)
    else ((TwS c a i).1, c i - 97 + 1, (TwS c a i).2.2.1, fun k => if k = (TwS c a i).1 - 1 then (TwS c a i).2.2.2 k ||| 2 ^ (c i - 97) else (TwS c a i).2.2.2 k)
def TwO (n t : Nat) (c a : Nat → Nat) (i : Nat) : Prop := i < t ∧ i < 60 ∧ (((TwS c a i).1 = 0 ∧ 48 ≤ c i ∧ c i < 48 + n) ∨ (¬ (TwS c a i).1 = 0 ∧ c i = 59 ∧ 0 < (TwS c a i).2.1) ∨ (¬ (TwS c a i).1 = 0 ∧ 97 + (TwS c a i).2.1 ≤ c i ∧ c i < 97 + n ∧ ¬ c i - 97 + 1 = (TwS c a i).1))
theorem TwO_f (n t : Nat) (c a : Nat → Nat) : ∃ f, f ≤ t ∧ f ≤ 60 ∧ ¬ TwO n t c a f ∧ ∀ i, i < f → TwO n t c a i := by
  rcases least_or (P := fun i => ¬ TwO n t c a i) (min t 60) with ⟨f, h1, h2, h3⟩ | hno
  · exact ⟨f, by omega, by omega, h2, fun i hi => Classical.byContradiction (fun hc => h3 i hi hc)⟩
  · exfalso
    apply hno (min t 60) (Nat.le_refl _)
    rintro ⟨h1, h2, -⟩
    omega
theorem ti_97 {x : Nat} (h : x < 256) : (o32 x - 97).toInt = (x : Int) - 97 := by
  have h1 : ∀ x : Fin 256, (o32 x.val - 97).toInt = (x.val : Int) - 97 := by decide +kernel
  exact h1 ⟨x, h⟩
theorem ti_1 {x : Nat} (h : x < 256) : (o32 x - 1).toInt = (x : Int) - 1 := by
  have h1 : ∀ x : Fin 256, (o32 x.val - 1).toInt = (x.val : Int) - 1 := by decide +kernel
  exact h1 ⟨x, h⟩
section WOS
variable {n t f : Nat} {c a : Nat → Nat} {signs text : Nat → Int32}
theorem TwS_d {i : Nat} (h : (TwS c a i).1 = 0) : TwS c a (i + 1) = (c i - 48 + 1, 0, (TwS c a i).2.2.1 + 1, fun k => if k = c i - 48 then 0 else (TwS c a i).2.2.2 k) := if_pos h
theorem TwS_s {i : Nat} (h : ¬ (TwS c a i).1 = 0) (h2 : c i = 59 ∧ 0 < (TwS c a i).2.1) : TwS c a (i + 1) = (0, (TwS c a i).2.1, (TwS c a i).2.2.1, (TwS c a i).2.2.2) := by
  show (if _ then _ else _) = _
  rw [if_neg h, if_pos h2]
theorem TwS_l {i : Nat} (h : ¬ (TwS c a i).1 = 0) (h2 : ¬ (c i = 59 ∧ 0 < (TwS c a i).2.1)) : TwS c a (i + 1) = ((TwS c a i).1, c i - 97 + 1, (TwS c a i).2.2.1, fun k => if k = (TwS c a i).1 - 1 then (TwS c a i).2.2.2 k ||| 2 ^ (c i - 97) else (TwS c a i).2.2.2 k) := by
  show (if _ then _ else _) = _
  rw [if_neg h, if_neg h2]
/-- what is kept -/
theorem TwS_i (hn : n ≤ 7) (ha : ∀ k, k < n → a k < 2 ^ n ∧ (a k).testBit k = false) : ∀ (i : Nat), (∀ j, j < i → TwO n t c a j) → (TwS c a i).1 ≤ n ∧ (TwS c a i).2.1 ≤ n ∧ (TwS c a i).2.2.1 ≤ i ∧ ∀ k, k < n → (TwS c a i).2.2.2 k < 2 ^ n ∧ ((TwS c a i).2.2.2 k).testBit k = false
  | 0, _ => ⟨Nat.zero_le _, Nat.zero_le _, Nat.le_refl _, ha⟩
  | i + 1, hg => by
    obtain ⟨h1, h2, h3, h4⟩ := TwS_i hn ha i (fun j hj => hg j (by omega))
    obtain ⟨-, -, hor⟩ := hg i (by omega)
    rcases hor with ⟨g0, g1, g2⟩ | ⟨g0, g1, g2⟩ | ⟨g0, g1, g2, g3⟩
    · rw [TwS_d g0]
      refine ⟨by show c i - 48 + 1 ≤ n; omega, Nat.zero_le _, by show _ + 1 ≤ i + 1; omega, fun k hk => ?_⟩
      show (if k = c i - 48 then 0 else _) < 2 ^ n ∧ (if k = c i - 48 then 0 else _).testBit k = false
      by_cases e : k = c i - 48
      · rw [if_pos e]; exact ⟨Nat.two_pow_pos n, Nat.zero_testBit k⟩
      · rw [if_neg e]; exact h4 k hk
    · rw [TwS_s g0 ⟨g1, g2⟩]
      exact ⟨Nat.zero_le _, h2, Nat.le_succ_of_le h3, h4⟩
    · rw [TwS_l g0 (by omega)]
      refine ⟨h1, by show c i - 97 + 1 ≤ n; omega, Nat.le_succ_of_le h3, fun k hk => ?_⟩
      show (if k = (TwS c a i).1 - 1 then (TwS c a i).2.2.2 k ||| 2 ^ (c i - 97) else (TwS c a i).2.2.2 k) < 2 ^ n ∧ (if k = (TwS c a i).1 - 1 then (TwS c a i).2.2.2 k ||| 2 ^ (c i - 97) else (TwS c a i).2.2.2 k).testBit k = false
      obtain ⟨h5, h6⟩ := h4 k hk
      by_cases e : k = (TwS c a i).1 - 1
      · rw [if_pos e]
        refine ⟨or_2n h5 (by omega), ?_⟩
        rw [Nat.testBit_or, tb_2, h6, Bool.false_or, decide_eq_false (by omega)]
      · rw [if_neg e]; exact ⟨h5, h6⟩
theorem L_wf (hT : TC t c signs text) (hn : n ≤ 7) (ha : ∀ k, k < n → a k < 2 ^ n ∧ (a k).testBit k = false) (hf : f ≤ t) (hf2 : f ≤ 60) (hb : ¬ TwO n t c a f) (hg : ∀ i, i < f → TwO n t c a i) : X9_wantsFault (o32 t) signs (o32 n) = some (if f = t ∧ 0 < (TwS c a f).1 ∧ 0 < (TwS c a f).2.1 then -1 else o32 f) := by
  have ht := hT.1
  have e60 : (60 : Int32) = o32 60 := rfl
  have m0 : ¬ (0 : Int32) ≤ o32 0 - 1 := by decide
  have lneg : ∀ l, l ≤ 7 → ((o32 l - 1 < (0 : Int32)) = (l = 0)) := fun l hl => by
    rw [Int32.lt_iff_toInt_lt, ti_1 (by omega), show (0 : Int32).toInt = 0 by decide]
    apply propext; omega
  have step : ∀ i, i < f → X9_wantsFault_s7 (o32 t) signs (o32 n) (o32 (TwS c a i).1 - 1) (o32 (TwS c a i).2.1 - 1) (o32 i) = some (.inl (o32 (TwS c a (i + 1)).1 - 1, o32 (TwS c a (i + 1)).2.1 - 1, o32 (i + 1))) := by
    intro i hi
    obtain ⟨h1, h2, h3, -⟩ := TwS_i hn ha i (fun j hj => hg j (by omega))
    obtain ⟨g1, g2, hor⟩ := hg i hi
    have hc := (hT.2 i (by omega)).1
    unfold X9_wantsFault_s7
    rw [i_ge g1 (by omega), e60, i_ge g2 (by decide)]
    rcases hor with ⟨g0, g1', g2'⟩ | ⟨g0, g1', g2'⟩ | ⟨g0, g1', g2', g3'⟩
    · rw [TwS_d g0, g0, if_neg m0, L_dg hT g1 g1' (by omega), Option.bind_some, if_neg (o_nn _ (by omega)), i_gt (by omega) (by omega), pu_m1, o_s]
      rfl
    · obtain ⟨o', eo⟩ : ∃ o', (TwS c a i).1 = o' + 1 := ⟨(TwS c a i).1 - 1, by omega⟩
      rw [TwS_s g0 ⟨g1', g2'⟩, eo, pu_m1, if_pos (o_ge0 _ (by omega)), L_at hT g1, Option.bind_some, g1', if_pos (by rfl), if_neg (by rw [lneg _ (by omega)]; omega), o_s]
      rfl
    · obtain ⟨o', eo⟩ : ∃ o', (TwS c a i).1 = o' + 1 := ⟨(TwS c a i).1 - 1, by omega⟩
      have e97 : o32 (c i) - 97 = o32 (c i - 97) := by
        show o32 (c i) - o32 97 = _
        rw [o_sub (by omega)]
      rw [TwS_l g0 (by omega), eo, pu_m1, if_pos (o_ge0 _ (by omega)), L_at hT g1, Option.bind_some, if_neg (by
        show ¬ o32 (c i) = o32 59
        rw [o_eq (by omega) (by decide)]; omega)]
      unfold X9_wantsFault_k68
      rw [L_at hT g1, Option.bind_some, e97, if_neg (by
        rw [Int32.le_iff_toInt_le, ti_1 (by omega), o_toInt (by omega)]; omega), i_ge (by omega) (by omega), if_neg (by
        rw [o_eq (by omega) (by omega)]; omega), o_s]
      dsimp only
      rw [pu_m1]
  unfold X9_wantsFault
  obtain ⟨hf1, hf3, -, -⟩ := TwS_i hn ha f hg
  rcases Nat.lt_or_ge f (min t 60) with hm | hm
  · have h1 : f < t := by omega
    have h2 : f < 60 := by omega
    have hc := (hT.2 f (by omega)).1
    have fin : ∃ r, X9_wantsFault_s7 (o32 t) signs (o32 n) (o32 (TwS c a f).1 - 1) (o32 (TwS c a f).2.1 - 1) (o32 f) = some (.inr (.inr r)) ∧ (r = .inl (o32 f) ∨ r = .inr (o32 f)) := by
      unfold X9_wantsFault_s7
      rw [i_ge h1 (by omega), e60, i_ge h2 (by decide)]
      by_cases g0 : (TwS c a f).1 = 0
      · rw [g0, if_neg m0]
        by_cases c1 : 48 ≤ c f ∧ c f ≤ 57
        · rw [L_dg hT h1 c1.1 c1.2, Option.bind_some, if_neg (o_nn _ (by omega)), i_lt (by
            apply Classical.byContradiction
            intro hlt
            exact hb ⟨h1, h2, Or.inl ⟨g0, by omega, by omega⟩⟩) (by omega)]
          exact ⟨_, rfl, Or.inl rfl⟩
        · rw [L_dgn hT (by omega) (by omega), Option.bind_some, if_pos (by decide)]
          exact ⟨_, rfl, Or.inl rfl⟩
      · obtain ⟨o', eo⟩ : ∃ o', (TwS c a f).1 = o' + 1 := ⟨(TwS c a f).1 - 1, by omega⟩
        have k68 : X9_wantsFault_k68 (o32 t) signs (o32 n) (o32 o') (o32 (TwS c a f).2.1 - 1) (o32 f) = some (.inr (.inr (.inr (o32 f)))) := by
          unfold X9_wantsFault_k68
          rw [L_at hT h1, Option.bind_some]
          by_cases c1 : 97 + (TwS c a f).2.1 ≤ c f
          · have e97 : o32 (c f) - 97 = o32 (c f - 97) := by
              show o32 (c f) - o32 97 = _
              rw [o_sub (by omega)]
            rw [e97, if_neg (by
              rw [Int32.le_iff_toInt_le, ti_1 (by omega), o_toInt (by omega)]; omega)]
            rcases Nat.lt_or_ge (c f - 97) n with c2 | c2
            · rw [i_ge c2 (by omega), if_pos (by
                rw [o_eq (by omega) (by omega)]
                apply Classical.byContradiction
                intro hne
                exact hb ⟨h1, h2, Or.inr (Or.inr ⟨g0, c1, by omega, by omega⟩)⟩)]
            · rw [i_le c2 (by omega)]
          · rw [if_pos (by
              rw [Int32.le_iff_toInt_le, ti_1 (by omega), ti_97 hc]; omega)]
        rw [eo, pu_m1, if_pos (o_ge0 _ (by omega)), L_at hT h1, Option.bind_some]
        by_cases c1 : c f = 59
        · rw [c1, if_pos (by rfl), if_pos (by
            rw [lneg _ (by omega)]
            apply Classical.byContradiction
            intro hne
            exact hb ⟨h1, h2, Or.inr (Or.inl ⟨g0, c1, by omega⟩)⟩)]
          exact ⟨_, k68, Or.inr rfl⟩
        · rw [if_neg (by
            show ¬ o32 (c f) = o32 59
            rw [o_eq (by omega) (by decide)]; exact c1)]
          exact ⟨_, k68, Or.inr rfl⟩
    obtain ⟨r, er, hr⟩ := fin
    have el : lp (fun x7 : Int32 × Int32 × Int32 => X9_wantsFault_s7 (o32 t) signs (o32 n) x7.1 x7.2.1 x7.2.2) 1000 ((-1 : Int32), (-1 : Int32), (0 : Int32)) = some (.inr r) := lp_run (f := fun x7 : Int32 × Int32 × Int32 => X9_wantsFault_s7 (o32 t) signs (o32 n) x7.1 x7.2.1 x7.2.2) (r := .inr r) (fun k => (o32 (TwS c a k).1 - 1, o32 (TwS c a k).2.1 - 1, o32 k)) f 0 1000 (fun k _ hk => step k (by omega)) (by rw [Nat.zero_add]; exact er) (by omega)
    rw [el, Option.bind_some, if_neg (show ¬ (f = t ∧ 0 < (TwS c a f).1 ∧ 0 < (TwS c a f).2.1) by omega)]
    rcases hr with rfl | rfl <;> rfl
  · have el : lp (fun x7 : Int32 × Int32 × Int32 => X9_wantsFault_s7 (o32 t) signs (o32 n) x7.1 x7.2.1 x7.2.2) 1000 ((-1 : Int32), (-1 : Int32), (0 : Int32)) = some (.inl (o32 (TwS c a f).1 - 1, o32 (TwS c a f).2.1 - 1)) := lp_run (f := fun x7 : Int32 × Int32 × Int32 => X9_wantsFault_s7 (o32 t) signs (o32 n) x7.1 x7.2.1 x7.2.2) (r := .inl (o32 (TwS c a f).1 - 1, o32 (TwS c a f).2.1 - 1)) (fun k => (o32 (TwS c a k).1 - 1, o32 (TwS c a k).2.1 - 1, o32 k)) f 0 1000 (fun k _ hk => step k (by omega)) (by
      rw [Nat.zero_add]
      show X9_wantsFault_s7 (o32 t) signs (o32 n) (o32 (TwS c a f).1 - 1) (o32 (TwS c a f).2.1 - 1) (o32 f) = _
      unfold X9_wantsFault_s7
      rcases Nat.lt_or_ge f t with c1 | c1
      · rw [i_ge c1 (by omega), e60, i_le (by omega) (by omega)]
      · rw [i_le c1 (by omega)]) (by omega)
    rw [el, Option.bind_some]
    show (if o32 t ≤ (60 : Int32) then some (if o32 (TwS c a f).1 - 1 < 0 then o32 t else (if o32 (TwS c a f).2.1 - 1 < 0 then o32 t else (-1 : Int32))) else some 60) = _
    rw [e60]
    rcases Nat.lt_or_ge 60 t with c1 | c1
    · rw [i_ge c1 (by omega), if_neg (by omega), show f = 60 by omega]
    · have hft : f = t := by omega
      subst hft
      rw [i_le c1 (by decide)]
      by_cases g0 : (TwS c a f).1 = 0
      · rw [if_pos (by rw [lneg _ (by omega)]; exact g0), if_neg (by omega)]
      · rw [if_neg (by rw [lneg _ (by omega)]; exact g0)]
        by_cases g1 : (TwS c a f).2.1 = 0
        · rw [if_pos (by rw [lneg _ (by omega)]; exact g1), if_neg (by omega)]
        · rw [if_neg (by rw [lneg _ (by omega)]; exact g1), if_pos ⟨rfl, by omega, by omega⟩]
end WOS
