/-! ===== the pure level: wants, both ===== -/
section WBS
variable {n t f : Nat} {c a : Nat → Nat} {signs text : Nat → Int32}
/-- how the reference ends its reading -/
def WPo (n t f : Nat) (c a : Nat → Nat) (cnt at' w : Int32) (com : Nat → Int32) : Prop := (WRi t f c a ∧ cnt = o32 (TwS c a f).2.2.1 ∧ at' = o32 f ∧ w = -1 ∧ ∀ k, k < n → com k = o32 ((TwS c a f).2.2.2 k)) ∨ (¬ WRi t f c a ∧ X11_wasRight (o32 t) at' w = some (0, o32 f))
theorem L_wout (hT : TC t c signs text) (hn : n ≤ 7) (ha : ∀ k, k < n → a k < 2 ^ n ∧ (a k).testBit k = false) (hf : f ≤ t) (hf2 : f ≤ 60) (hb : ¬ TwO n t c a f) (hg : ∀ i, i < f → TwO n t c a i) (com : Nat → Int32) (hcom : ∀ k, k < n → com k = o32 (a k)) : ∃ z, lp (fun x55 : Int32 × Int32 × Int32 × Int32 × (Nat → Int32) => X11_wants_s55 (o32 n) (o32 t) text x55.1 x55.2.1 x55.2.2.1 x55.2.2.2.1 x55.2.2.2.2) 1000 ((0 : Int32), (1 : Int32), (0 : Int32), (-1 : Int32), com) = some z ∧ WPo n t f c a z.1 z.2.1 z.2.2.1 z.2.2.2 := by
  have ht := hT.1
  have bt : X11_beginText (o32 t) 60 = ((0 : Int32), o32 t, o32 60, (0 : Int32), (-1 : Int32)) := rfl
  have one0 : ¬ (1 : Int32) = 0 := by decide
  have PS : ∀ i, i < 80 → X11_passes (o32 t) (o32 60) (o32 i) (-1) 80 text 59 = some (if i < t ∧ i < 60 ∧ c i = 59 then (1, o32 (i + 1)) else (0, o32 i)) := fun i hi => L_ps hT (top := 60) (v := 59) (by decide) hi (by decide)
  have OF : ∀ i, i < 80 → X11_oneOf (o32 t) (o32 60) (o32 i) (-1) 80 text 48 (o32 n) = some (if i < t ∧ i < 60 ∧ 48 ≤ c i ∧ c i < 48 + n then (o32 (c i - 48), o32 (i + 1), -1) else (0, o32 i, o32 i)) := fun i hi => L_of hT (top := 60) (lo := 48) (cnt := n) (by decide) hi (by decide) (by omega)
  have W : (X11_fine (o32 f) = 0) = True := fi_o (by omega)
  refine lp_inv (fun k x => (∃ i, k ≤ i ∧ i ≤ f ∧ (TwS c a i).1 = 0 ∧ x.1 = o32 (TwS c a i).2.2.1 ∧ x.2.1 = 1 ∧ x.2.2.1 = o32 i ∧ x.2.2.2.1 = -1 ∧ ∀ k', k' < n → x.2.2.2.2 k' = o32 ((TwS c a i).2.2.2 k')) ∨ ((x.2.1 = 0 ∨ X11_fine x.2.2.2.1 = 0) ∧ WPo n t f c a x.1 x.2.2.1 x.2.2.2.1 x.2.2.2.2)) _ 100 0 1000 _ ?_ (Or.inl ⟨0, Nat.le_refl 0, Nat.zero_le f, rfl, rfl, rfl, rfl, rfl, hcom⟩) (by decide)
  rintro k ⟨q, mo, at', w, co⟩ - hk hor
  rcases hor with ⟨i, hki, hif, ho, h1, h2, h3, h4, h5⟩ | ⟨hstop, hpo⟩
  · have h1 : q = _ := h1
    have h2 : mo = _ := h2
    have h3 : at' = _ := h3
    have h4 : w = _ := h4
    subst h1 h2 h3 h4
    have h5 : ∀ k', k' < n → co k' = o32 ((TwS c a i).2.2.2 k') := h5
    right
    refine ⟨by omega, ?_⟩
    show ∃ y, X11_wants_s55 (o32 n) (o32 t) text (o32 (TwS c a i).2.2.1) 1 (o32 i) (-1) co = some (.inl y) ∧ _
    unfold X11_wants_s55 X11_readWants
    rw [if_neg one0, if_neg (by rw [fi_m]; exact id), bt]
    dsimp only
    rw [OF i (by omega), Option.bind_some]
    rcases Nat.lt_or_ge i f with hlt | hge
    · obtain ⟨g1, g2, hor⟩ := hg i hlt
      have hd : 48 ≤ c i ∧ c i < 48 + n := by
        rcases hor with ⟨-, g1, g2⟩ | ⟨g0, -⟩ | ⟨g0, -⟩
        · exact ⟨g1, g2⟩
        · exact absurd ho g0
        · exact absurd ho g0
      rw [if_pos (show i < t ∧ i < 60 ∧ 48 ≤ c i ∧ c i < 48 + n from ⟨g1, g2, hd.1, hd.2⟩)]
      obtain ⟨z, ez, hz⟩ := L_win hT hn ha hf hf2 hb hg hlt ho
      obtain ⟨z0, z1, z2⟩ := z
      dsimp only
      rw [ez, Option.bind_some]
      dsimp only [un]
      rcases hz with ⟨e, e1, e2, e3, e4, e5, e6, e7, e8, e9, e10, e11⟩ | ⟨e1, e2⟩
      · have e7 : z0 = _ := e7
        have e8 : z1 = _ := e8
        have e9 : z2 = _ := e9
        subst e7 e8 e9
        rw [if_neg (by rw [fi_m]; exact id), gi_o (by omega) (by decide), o_cl (by omega), Option.bind_some]
        dsimp only
        rw [PS e (by omega), Option.bind_some, o_s]
        have hcom' : ∀ k', k' < n → upd co (c i - 48) (o32 ((TwS c a e).2.2.2 (c i - 48))) k' = o32 ((TwS c a e).2.2.2 k') := by
          intro k' hk'
          by_cases ek : k' = c i - 48
          · subst ek; exact pk_us
          · rw [pk_un ek, h5 k' hk', e11 k' ek]
        rcases Nat.lt_or_ge e f with hef | hef
        · obtain ⟨g1', g2', -⟩ := hg e hef
          have hS := TwS_s (c := c) (a := a) (i := e) (by omega) ⟨e3 hef, e6⟩
          rw [if_pos (show e < t ∧ e < 60 ∧ c e = 59 from ⟨g1', g2', e3 hef⟩)]
          refine ⟨_, rfl, Or.inl ⟨e + 1, by omega, by omega, ?_, ?_, rfl, rfl, rfl, ?_⟩⟩
          · rw [hS]
          · show o32 _ = o32 _
            rw [hS]
            show o32 _ = o32 (TwS c a e).2.2.1
            rw [e10]
          · rw [hS]; exact hcom'
        · have hef' : e = f := by omega
          subst hef'
          rw [if_neg (show ¬ (e < t ∧ e < 60 ∧ c e = 59) by have := e4 rfl; omega)]
          refine ⟨_, rfl, Or.inr ⟨Or.inl rfl, ?_⟩⟩
          show WPo n t e c a (o32 ((TwS c a i).2.2.1 + 1)) (o32 e) (-1) (upd co (c i - 48) (o32 ((TwS c a e).2.2.2 (c i - 48))))
          by_cases et : e = t
          · exact Or.inl ⟨⟨et, by omega, e6⟩, by rw [e10], rfl, rfl, hcom'⟩
          · refine Or.inr ⟨fun hw => et hw.1, ?_⟩
            rw [L_wr1 (by omega) (by omega), if_neg (by omega)]
      · have e1 : z2 = _ := e1
        subst e1
        rw [if_pos (by rw [W]; exact True.intro), Option.bind_some]
        dsimp only
        rw [L_psw W, Option.bind_some, o_s]
        exact ⟨_, rfl, Or.inr ⟨Or.inl rfl, Or.inr ⟨e2, L_wr (by omega)⟩⟩⟩
    · have hif' : i = f := by omega
      subst hif'
      rw [if_neg (show ¬ (i < t ∧ i < 60 ∧ 48 ≤ c i ∧ c i < 48 + n) from fun e => hb ⟨e.1, e.2.1, Or.inl ⟨ho, e.2.2⟩⟩)]
      dsimp only
      have el : lp (fun x18 : Int32 × Int32 × Int32 × Int32 × Int32 => X11_readWants_s18 (o32 n) (o32 t) (o32 60) 80 text ((0 : Int32), o32 i, o32 i) x18.1 x18.2.1 x18.2.2.1 x18.2.2.2.1 x18.2.2.2.2) 1000 ((0 : Int32), (-1 : Int32), (1 : Int32), o32 i, o32 i) = some ((0 : Int32), o32 i, o32 i) := lp_e 999 (by
        show X11_readWants_s18 (o32 n) (o32 t) (o32 60) 80 text ((0 : Int32), o32 i, o32 i) 0 (-1) 1 (o32 i) (o32 i) = _
        unfold X11_readWants_s18
        rw [if_neg one0, if_pos (by rw [W]; exact True.intro)])
      rw [el, Option.bind_some]
      dsimp only [un]
      rw [if_pos (by rw [W]; exact True.intro), Option.bind_some]
      dsimp only
      rw [L_psw W, Option.bind_some, o_s]
      exact ⟨_, rfl, Or.inr ⟨Or.inl rfl, Or.inr ⟨fun hw => by have := hw.2.1; omega, L_wr (by omega)⟩⟩⟩
  · left
    refine ⟨(q, at', w, co), ?_, hpo⟩
    show X11_wants_s55 _ _ _ q mo at' w co = _
    unfold X11_wants_s55
    by_cases hmo : mo = 0
    · rw [if_pos hmo]
    · rcases hstop with hstop | hstop
      · exact absurd hstop hmo
      · have hstop : X11_fine w = 0 := hstop
        rw [if_neg hmo, if_pos hstop]
/-- the class does what it has read -/
theorem L_wdo (hT : TC t c signs text) (hn : n ≤ 7) (ha : ∀ k, k < n → a k < 2 ^ n ∧ (a k).testBit k = false) (hg : ∀ i, i < t → TwO n t c a i) (wanted : Nat → Int32) (hw : ∀ k, k < n → wanted k = o32 (a k)) : ∃ z, lp (fun x54 : Int32 × Int32 × Int32 × (Nat → Int32) => X10_wants_s54 (o32 t) signs (o32 n) x54.1 x54.2.1 x54.2.2.1 x54.2.2.2) 1000 ((0 : Int32), (-1 : Int32), (0 : Int32), wanted) = some z ∧ z.1 = o32 (TwS c a t).2.2.1 ∧ ∀ k, k < 7 → z.2 k = if k < n then o32 ((TwS c a t).2.2.2 k) else wanted k := by
  have ht := hT.1
  refine lp_ct (fun i x => x.1 = o32 (TwS c a i).2.2.1 ∧ (¬ (TwS c a i).1 = 0 → x.2.1 = o32 ((TwS c a i).1 - 1)) ∧ x.2.2.1 = o32 i ∧ ∀ k, k < 7 → x.2.2.2 k = if k < n then o32 ((TwS c a i).2.2.2 k) else wanted k) _ t _ ⟨rfl, fun h => absurd rfl h, rfl, fun k hk => ?_⟩ ?_ ?_ (by omega)
  · by_cases e : k < n
    · rw [if_pos e]; exact hw k e
    · rw [if_neg e]
  · rintro i ⟨q, one, p, x⟩ hi ⟨h1, h2, h3, h4⟩
    have h1 : q = _ := h1
    have h3 : p = _ := h3
    subst h1 h3
    have h2 : ¬ (TwS c a i).1 = 0 → one = o32 ((TwS c a i).1 - 1) := h2
    have h4 : ∀ k, k < 7 → x k = if k < n then o32 ((TwS c a i).2.2.2 k) else wanted k := h4
    obtain ⟨w1, w2, w3, w4⟩ := TwS_i hn ha i (fun j hj => hg j (by omega))
    obtain ⟨g1, g2, hor⟩ := hg i hi
    have hc := (hT.2 i (by omega)).1
    show ∃ y, X10_wants_s54 (o32 t) signs (o32 n) (o32 (TwS c a i).2.2.1) one (o32 i) x = some (.inl y) ∧ _
    unfold X10_wants_s54
    rw [i_ge hi (by omega)]
    rcases hor with ⟨g0, g3, g4⟩ | ⟨g0, g3, g4⟩ | ⟨g0, g3, g4, g5⟩
    · have hd : c i - 48 < n := by omega
      have hh : ¬ X0_has (o32 n) (o32 (c i - 48)) = 0 := by rw [L_hasn hd hn]; decide
      have eW : X0_wantsNobody (o32 n) x (o32 (c i - 48)) = some (upd x (c i - 48) 0) := by
        unfold X0_wantsNobody
        rw [if_neg hh, gi_o (by omega) (by decide), o_cl (by omega)]
      rw [L_dg hT g1 g3 (by omega), Option.bind_some, if_neg (o_nn _ (by omega)), eW, Option.bind_some, o_s, o_s]
      have hS := TwS_d (c := c) (a := a) g0
      refine ⟨_, rfl, ?_, fun _ => ?_, rfl, fun k hk => ?_⟩
      · rw [hS]
      · rw [hS]; rfl
      · rw [hS]
        show upd x (c i - 48) 0 k = if k < n then o32 (if k = c i - 48 then 0 else (TwS c a i).2.2.2 k) else wanted k
        by_cases ek : k = c i - 48
        · rw [if_pos (by omega), if_pos ek, ek]; exact pk_us
        · rw [pk_un ek, if_neg ek]; exact h4 k hk
    · rw [L_dgn hT (by omega) (by omega), Option.bind_some, if_pos (by decide), L_at hT g1, Option.bind_some, if_pos (by rw [g3]; rfl), o_s]
      have hS := TwS_s (c := c) (a := a) g0 ⟨g3, g4⟩
      refine ⟨_, rfl, ?_, fun h => ?_, rfl, ?_⟩
      · rw [hS]
      · rw [hS] at h; exact absurd rfl h
      · rw [hS]; exact h4
    · have hv : c i - 97 < n := by omega
      have e97 : o32 (c i) - 97 = o32 (c i - 97) := by
        show o32 (c i) - o32 97 = _
        rw [o_sub (by omega)]
      obtain ⟨o', eo⟩ : ∃ o', (TwS c a i).1 = o' + 1 := ⟨(TwS c a i).1 - 1, by omega⟩
      have ho' : o' < n := by omega
      have e1 : one = o32 o' := by rw [h2 g0, eo]; rfl
      have hx : x o' = o32 ((TwS c a i).2.2.2 o') := by rw [h4 o' (by omega), if_pos ho']
      have eW : X0_wantsToo (o32 n) x (o32 o') (o32 (c i - 97)) = some (upd x o' (o32 ((TwS c a i).2.2.2 o' ||| 2 ^ (c i - 97)))) := by
        have hh : ¬ X0_has (o32 n) (o32 o') = 0 := by rw [L_hasn ho' hn]; decide
        have hh2 : ¬ X0_has (o32 n) (o32 (c i - 97)) = 0 := by rw [L_hasn hv hn]; decide
        unfold X0_wantsToo
        rw [if_neg hh, if_neg hh2, gi_o (by omega) (by decide), gi_o (by omega) (by decide), o_cl (by omega), hx, o_shl (by omega), o_or]
      rw [L_dgn hT (by omega) (by omega), Option.bind_some, if_pos (by decide), L_at hT g1, Option.bind_some, if_neg (by
        show ¬ o32 (c i) = o32 59
        rw [o_eq (by omega) (by decide)]; omega), Option.bind_some, e97, e1, eW, Option.bind_some, o_s]
      have hS := TwS_l (c := c) (a := a) g0 (by omega)
      refine ⟨_, rfl, ?_, fun _ => ?_, rfl, fun k hk => ?_⟩
      · rw [hS]
      · rw [hS]
        show o32 o' = o32 ((TwS c a i).1 - 1)
        rw [eo]; rfl
      · rw [hS]
        show upd x o' _ k = if k < n then o32 (if k = (TwS c a i).1 - 1 then (TwS c a i).2.2.2 k ||| 2 ^ (c i - 97) else (TwS c a i).2.2.2 k) else wanted k
        by_cases ek : k = o'
        · subst ek
          rw [if_pos ho', if_pos (by omega)]; exact pk_us
        · rw [pk_un ek, if_neg (show ¬ k = (TwS c a i).1 - 1 by omega)]; exact h4 k hk
  · rintro ⟨q, one, p, x⟩ ⟨h1, h2, h3, h4⟩
    have h3 : p = _ := h3
    subst h3
    refine ⟨(q, x), ?_, h1, h4⟩
    show X10_wants_s54 (o32 t) signs (o32 n) q one (o32 t) x = _
    unfold X10_wants_s54
    rw [i_le (Nat.le_refl t) (by omega)]
end WBS
