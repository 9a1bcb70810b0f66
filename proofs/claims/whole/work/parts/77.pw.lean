/-! ===== the pure level: wants, the reference reads ===== -/
theorem in_97 {x l m : Nat} (hx : x < 256) (hl : l < 100) (hm : m < 100) : (X11_in (o32 x - 97) (o32 l) (o32 m) = 0) = (x < 97 + l ∨ 97 + m < x) := by
  rw [in_0, Int32.lt_iff_toInt_lt, Int32.lt_iff_toInt_lt, ti_97 hx, o_toInt (by omega), o_toInt (by omega)]
  apply propext; omega
theorem in_98 {l : Nat} {m : Int32} (hl : l < 100) : X11_in ((-1 : Int32) - 97) (o32 l) m = 0 := by
  rw [in_0]
  left
  rw [Int32.lt_iff_toInt_lt, o_toInt (by omega), show ((-1 : Int32) - 97).toInt = -98 by decide]
  omega
theorem pu_am {x : Nat} : o32 x - 1 + 1 = o32 x := by
  rw [Int32.sub_add_cancel]
section WRS
variable {n t f : Nat} {c a : Nat → Nat} {signs text : Nat → Int32}
theorem L_k93 (hT : TC t c signs text) {j : Nat} (hj : j < 80) (l2 l3 w : Int32) : X11_readWants_k93 (o32 t) (o32 60) 80 text l2 l3 (o32 j) w = some (.inl (l2, l3, (if j < t ∧ j < 60 ∧ ¬ c j = 59 then (1 : Int32) else 0), o32 j, w)) := by
  have ht := hT.1
  unfold X11_readWants_k93
  rw [L_he hT (by decide) hj, Option.bind_some, Option.bind_some]
  by_cases c1 : j < t ∧ j < 60
  · have hc := (hT.2 j hj).1
    rw [if_pos c1, if_neg (by
      intro e
      have h2 := congrArg Int32.toInt e
      rw [o_toInt (by omega), show (-1 : Int32).toInt = -1 by decide] at h2
      omega)]
    by_cases c2 : c j = 59
    · rw [c2, if_pos (by rfl), if_neg (by omega)]
    · rw [if_neg (by
        show ¬ o32 (c j) = o32 59
        rw [o_eq (by omega) (by decide)]; exact c2), if_pos ⟨c1.1, c1.2, c2⟩]
  · rw [if_neg c1, if_pos rfl, if_neg (by omega)]
def WRi (t f : Nat) (c a : Nat → Nat) : Prop := f = t ∧ 0 < (TwS c a f).1 ∧ 0 < (TwS c a f).2.1
theorem L_win (hT : TC t c signs text) (hn : n ≤ 7) (ha : ∀ k, k < n → a k < 2 ^ n ∧ (a k).testBit k = false) (hf : f ≤ t) (hf2 : f ≤ 60) (hb : ¬ TwO n t c a f) (hg : ∀ i, i < f → TwO n t c a i) {i : Nat} (hi : i < f) (ho : (TwS c a i).1 = 0) : ∃ z, lp (fun x18 : Int32 × Int32 × Int32 × Int32 × Int32 => X11_readWants_s18 (o32 n) (o32 t) (o32 60) 80 text (o32 (c i - 48), o32 (i + 1), (-1 : Int32)) x18.1 x18.2.1 x18.2.2.1 x18.2.2.2.1 x18.2.2.2.2) 1000 ((0 : Int32), (-1 : Int32), (1 : Int32), o32 (i + 1), (-1 : Int32)) = some z ∧ ((∃ e, i + 1 < e ∧ e ≤ f ∧ (e < f → c e = 59) ∧ (e = f → f = t ∨ f = 60) ∧ (TwS c a e).1 = c i - 48 + 1 ∧ 0 < (TwS c a e).2.1 ∧ z.1 = o32 ((TwS c a e).2.2.2 (c i - 48)) ∧ z.2.1 = o32 e ∧ z.2.2 = -1 ∧ (TwS c a e).2.2.1 = (TwS c a i).2.2.1 + 1 ∧ ∀ k, ¬ k = c i - 48 → (TwS c a e).2.2.2 k = (TwS c a i).2.2.2 k) ∨ (z.2.2 = o32 f ∧ ¬ WRi t f c a)) := by
  have ht := hT.1
  have hd : 48 ≤ c i ∧ c i < 48 + n := by
    obtain ⟨-, -, hor⟩ := hg i hi
    rcases hor with ⟨-, g1, g2⟩ | ⟨g0, -⟩ | ⟨g0, -⟩
    · exact ⟨g1, g2⟩
    · exact absurd ho g0
    · exact absurd ho g0
  obtain ⟨d, ed⟩ : ∃ d, c i - 48 = d := ⟨_, rfl⟩
  have hdn : d < n := by omega
  have hS1 := TwS_d (c := c) (a := a) ho
  rw [ed] at hS1 ⊢
  refine lp_inv (fun k x => ((i + 1 + k ≤ f ∧ (TwS c a (i + 1 + k)).1 = d + 1 ∧ x.1 = o32 ((TwS c a (i + 1 + k)).2.2.2 d) ∧ x.2.1 = o32 (TwS c a (i + 1 + k)).2.1 - 1 ∧ ((k = 0 ∧ (TwS c a (i + 1 + k)).2.1 = 0 ∧ x.2.2.1 = 1) ∨ (0 < k ∧ 0 < (TwS c a (i + 1 + k)).2.1 ∧ x.2.2.1 = if i + 1 + k < t ∧ i + 1 + k < 60 ∧ ¬ c (i + 1 + k) = 59 then (1 : Int32) else 0)) ∧ x.2.2.2.1 = o32 (i + 1 + k) ∧ x.2.2.2.2 = -1 ∧ (TwS c a (i + 1 + k)).2.2.1 = (TwS c a i).2.2.1 + 1 ∧ ∀ k', ¬ k' = d → (TwS c a (i + 1 + k)).2.2.2 k' = (TwS c a i).2.2.2 k') ∨ (k < 100 ∧ x.2.2.2.2 = o32 f ∧ ¬ WRi t f c a))) _ 100 0 1000 _ ?_ (Or.inl ?_) (by decide)
  · rintro k ⟨s, l, mo, at', w⟩ - hk hor
    rcases hor with ⟨h1, h2, h3, h4, h5, h6, h7, h8, h9⟩ | ⟨h0, h1, h2⟩
    · obtain ⟨j, ej⟩ : ∃ j, i + 1 + k = j := ⟨_, rfl⟩
      have ej1 : i + 1 + (k + 1) = j + 1 := by omega
      rw [ej1]
      rw [ej] at h1 h2 h3 h4 h5 h6 h8 h9
      have h3 : s = _ := h3
      have h4 : l = _ := h4
      have h6 : at' = _ := h6
      have h7 : w = _ := h7
      subst h3 h4 h6 h7
      obtain ⟨w1, w2, w3, w4⟩ := TwS_i hn ha j (fun q hq => hg q (by omega))
      by_cases hmo : mo = 0
      · -- it ends here
        rcases h5 with ⟨-, -, h5⟩ | ⟨k0, l0, h5⟩
        · have h5 : mo = 1 := h5
          rw [h5] at hmo; cases hmo
        · have h5 : mo = if j < t ∧ j < 60 ∧ ¬ c j = 59 then (1 : Int32) else 0 := h5
          have hne : ¬ (j < t ∧ j < 60 ∧ ¬ c j = 59) := by
            intro hc
            rw [if_pos hc] at h5
            rw [h5] at hmo; cases hmo
          left
          refine ⟨(o32 ((TwS c a j).2.2.2 d), o32 j, -1), ?_, Or.inl ⟨j, by omega, h1, fun hjf => ?_, fun hjf => ?_, h2, l0, rfl, rfl, rfl, h8, h9⟩⟩
          · show X11_readWants_s18 _ _ _ _ _ _ _ _ mo _ _ = _
            unfold X11_readWants_s18
            rw [if_pos hmo]
          · obtain ⟨g1, g2, -⟩ := hg j hjf
            apply Classical.byContradiction
            intro hc
            exact hne ⟨g1, g2, hc⟩
          · subst hjf
            apply Classical.byContradiction
            intro hc
            have hc59 : c j = 59 := by
              apply Classical.byContradiction
              intro h59
              exact hne ⟨by omega, by omega, h59⟩
            exact hb ⟨by omega, by omega, Or.inr (Or.inl ⟨by omega, hc59, l0⟩)⟩
      · -- it goes on
        right
        have hsem : ¬ (c j = 59 ∧ 0 < (TwS c a j).2.1) := by
          rintro ⟨q1, q2⟩
          rcases h5 with ⟨-, h5, -⟩ | ⟨-, -, h5⟩
          · omega
          · have h5 : mo = if j < t ∧ j < 60 ∧ ¬ c j = 59 then (1 : Int32) else 0 := h5
            rw [if_neg (by omega)] at h5
            exact hmo h5
        refine ⟨by omega, ?_⟩
        show ∃ y, X11_readWants_s18 (o32 n) (o32 t) (o32 60) 80 text (o32 d, o32 (i + 1), (-1 : Int32)) (o32 ((TwS c a j).2.2.2 d)) (o32 (TwS c a j).2.1 - 1) mo (o32 j) (-1) = some (.inl y) ∧ _
        unfold X11_readWants_s18
        rw [if_neg hmo, if_neg (by rw [fi_m]; exact id), L_he hT (by decide) (by omega), Option.bind_some, pu_am, o_p1 (by omega)]
        unfold X11_readWants_k62
        rw [ft_m]
        rcases Nat.lt_or_ge j f with hjf | hjf
        · obtain ⟨g1, g2, hor⟩ := hg j hjf
          have hc := (hT.2 j (by omega)).1
          rcases hor with ⟨g0, -⟩ | ⟨-, g3, g4⟩ | ⟨g0, g3, g4, g5⟩
          · omega
          · exact absurd ⟨g3, g4⟩ hsem
          · have e97 : o32 (c j) - 97 = o32 (c j - 97) := by
              show o32 (c j) - o32 97 = _
              rw [o_sub (by omega)]
            rw [if_pos (show j < t ∧ j < 60 from ⟨g1, g2⟩), if_neg (by rw [in_97 hc (by omega) (by omega)]; omega), if_neg (by
              rw [e97]
              show ¬ o32 (c j - 97) = o32 d
              rw [o_eq (by omega) (by omega)]; omega), e97, o_shl (by omega), o_or, o_s, L_k93 hT (by omega)]
            have hL := TwS_l (c := c) (a := a) g0 hsem
            refine ⟨_, rfl, Or.inl ⟨by omega, ?_, ?_, ?_, Or.inr ⟨by omega, ?_, rfl⟩, rfl, rfl, ?_, fun k' hk' => ?_⟩⟩
            · rw [hL]; exact h2
            · show o32 _ = o32 _
              rw [hL]
              show o32 _ = o32 (if d = (TwS c a j).1 - 1 then (TwS c a j).2.2.2 d ||| 2 ^ (c j - 97) else (TwS c a j).2.2.2 d)
              rw [if_pos (by omega)]
            · show o32 _ = o32 _ - 1
              rw [hL]
              show o32 _ = o32 (c j - 97 + 1) - 1
              rw [pu_m1]
            · rw [hL]
              show 0 < c j - 97 + 1
              omega
            · rw [hL]; exact h8
            · rw [hL]
              show (if k' = (TwS c a j).1 - 1 then _ else (TwS c a j).2.2.2 k') = _
              rw [if_neg (by omega)]; exact h9 k' hk'
        · have hjf' : j = f := by omega
          subst hjf'
          have nwr : ¬ WRi t j c a := by
            rintro ⟨q1, -, q3⟩
            rcases h5 with ⟨-, h5, -⟩ | ⟨-, -, h5⟩
            · omega
            · have h5 : mo = if j < t ∧ j < 60 ∧ ¬ c j = 59 then (1 : Int32) else 0 := h5
              rw [if_neg (by omega)] at h5
              exact hmo h5
          by_cases c1 : j < t ∧ j < 60
          · have hc := (hT.2 j (by omega)).1
            rw [if_pos c1]
            by_cases c2 : c j < 97 + (TwS c a j).2.1 ∨ 97 + (n - 1) < c j
            · rw [if_pos (by rw [in_97 hc (by omega) (by omega)]; exact c2), L_k93 hT (by omega)]
              exact ⟨_, rfl, Or.inr ⟨by omega, rfl, nwr⟩⟩
            · have e97 : o32 (c j) - 97 = o32 (c j - 97) := by
                show o32 (c j) - o32 97 = _
                rw [o_sub (by omega)]
              rw [if_neg (by rw [in_97 hc (by omega) (by omega)]; exact c2), if_pos (by
                rw [e97]
                show o32 (c j - 97) = o32 d
                rw [o_eq (by omega) (by omega)]
                apply Classical.byContradiction
                intro hne
                exact hb ⟨c1.1, c1.2, Or.inr (Or.inr ⟨by omega, by omega, by omega, by omega⟩)⟩), L_k93 hT (by omega)]
              exact ⟨_, rfl, Or.inr ⟨by omega, rfl, nwr⟩⟩
          · rw [if_neg c1, if_pos (in_98 (by omega)), L_k93 hT (by omega)]
            exact ⟨_, rfl, Or.inr ⟨by omega, rfl, nwr⟩⟩
    · left
      have h1 : w = _ := h1
      subst h1
      refine ⟨(s, at', o32 f), ?_, Or.inr ⟨rfl, h2⟩⟩
      show X11_readWants_s18 _ _ _ _ _ _ _ _ mo _ (o32 f) = _
      unfold X11_readWants_s18
      by_cases hmo : mo = 0
      · rw [if_pos hmo]
      · rw [if_neg hmo, if_pos (by rw [fi_o (by omega)]; exact True.intro)]
  · refine ⟨by omega, ?_, ?_, ?_, Or.inl ⟨rfl, ?_, rfl⟩, rfl, rfl, ?_, fun k' hk' => ?_⟩
    · rw [Nat.add_zero, hS1]
    · show (0 : Int32) = _
      rw [Nat.add_zero, hS1]
      show _ = o32 (if d = d then 0 else _)
      rw [if_pos rfl]; rfl
    · rw [Nat.add_zero, hS1]; rfl
    · rw [Nat.add_zero, hS1]
    · rw [Nat.add_zero, hS1]
    · rw [Nat.add_zero, hS1]
      show (if k' = d then 0 else _) = _
      rw [if_neg hk']
end WRS
