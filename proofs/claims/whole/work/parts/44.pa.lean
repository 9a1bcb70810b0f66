/-! ===== the pure level: who wakes, by the class and by the reference ===== -/
def bi (b : Bool) : Int32 := if b then 1 else 0
theorem bi_0 (b : Bool) : (bi b = 0) = (b = false) := by cases b <;> decide
theorem bi_ne {b : Bool} (h : ¬ bi b = 0) : b = true := by cases b with | false => exact absurd rfl h | true => rfl
theorem L_rouses {vs : (Nat → Int32) → Int32} {n : Nat} {day unmet : Int32} {skill pills slept woken wanted a : Nat → Int32} (h : RF n day unmet skill pills slept woken wanted a) {size : Int32} {code : Nat → Int32} (hv : RV vs size code) (hc : VC vs) (stack thing : Nat → Int32) {q set : Nat} (hq : q < n) (hs : set < 128) : ∃ y, X5_rouses size code stack thing (o32 n) day skill pills slept wanted (o32 q) (o32 set) = some y ∧ y.1 = bi (decide (a (7 + q) = 0) && decide (¬ NB vs n a q set = 0)) := by
  have hn := h.nn
  have hh := L_hasn hq hn
  have hN : NB vs n a q set < 128 := bm_128 hn
  obtain ⟨y, e, ey⟩ := L_needers h hv hc stack thing hq hs
  simp (disch := omega) only [X5_rouses, hh, gi_o, o_cl, ← h.pil (show q < 7 by omega), e, ey, o0, Option.bind_some]
  rw [if_neg (by decide)]
  by_cases h1 : a (7 + q) = 0
  · rw [if_pos h1]
    by_cases h2 : NB vs n a q set = 0
    · rw [if_pos h2]; exact ⟨_, rfl, by simp [h1, h2, bi]⟩
    · rw [if_neg h2]; exact ⟨_, rfl, by simp [h1, h2, bi]⟩
  · rw [if_neg h1]; exact ⟨_, rfl, by simp [h1, bi]⟩
theorem L_wakers {vs : (Nat → Int32) → Int32} {n : Nat} {day unmet : Int32} {skill pills slept woken wanted a : Nat → Int32} (h : RF n day unmet skill pills slept woken wanted a) {size : Int32} {code : Nat → Int32} (hv : RV vs size code) (hc : VC vs) (stack thing : Nat → Int32) : ∃ y, X5_wakers size code stack thing (o32 n) day skill pills slept wanted = some y ∧ y.1 = o32 (AW vs n a) := by
  have hn := h.nn
  obtain ⟨z, e, hz⟩ := lp_ct (f := fun x4 : Int32 × Int32 × (Nat → Int32) × (Nat → Int32) => X5_wakers_s4 size code (o32 n) day skill pills slept wanted x4.1 x4.2.1 x4.2.2.1 x4.2.2.2) (fun k x => x.1 = o32 (bm (IA vs n a) k) ∧ x.2.1 = o32 k) (fun z => z.1 = o32 (AW vs n a)) n ((0 : Int32), (0 : Int32), stack, thing) ⟨rfl, rfl⟩ (by
    rintro k ⟨acc, i, stk, tg⟩ hk ⟨h1, h2⟩
    have h1 : acc = _ := h1
    have h2 : i = _ := h2
    subst h1 h2
    have hN : NB vs n a k (WB n a k) < 128 := bm_128 hn
    obtain ⟨y, e, ey⟩ := L_needers h hv hc stk tg hk (set := WB n a k) (bm_128 hn)
    simp (disch := omega) only [X5_wakers_s4, i_ge, gi_o, o_cl, o_s, ← h.pil (show k < 7 by omega), L_wby h (show k < 7 by omega), e, ey, o0, Option.bind_some]
    by_cases h1 : a (7 + k) = 0
    · rw [if_pos h1]
      by_cases h2 : NB vs n a k (WB n a k) = 0
      · rw [if_pos h2]
        exact ⟨_, rfl, bm_n (by simp [IA, h2]), rfl⟩
      · rw [if_neg h2]
        exact ⟨_, rfl, bm_y (by omega) (by simp [IA, h1, h2]), rfl⟩
    · rw [if_neg h1]
      exact ⟨_, rfl, bm_n (by simp [IA, h1]), rfl⟩) (by
    rintro ⟨acc, i, stk, tg⟩ ⟨h1, h2⟩
    have h1 : acc = _ := h1
    have h2 : i = _ := h2
    subst h1 h2
    refine ⟨(o32 (AW vs n a), stk, tg), ?_, rfl⟩
    simp (disch := omega) only [X5_wakers_s4, i_le]
    rfl) (by omega)
  refine ⟨(z.1, z.2.1, z.2.2), ?_, hz⟩
  unfold X5_wakers
  rw [e]
  rfl
/-- the rule's value, as the reference reckons it -/
def RM (vs : (Nat → Int32) → Int32) (ruleSize : Int32) (rule : Nat → Int32) : Prop :=
  (ruleSize = 0 → ∀ t, vs t = t 0 - 4 + t 2) ∧ (¬ ruleSize = 0 → ∀ asked, ∃ y, X11_expr 100 0 ruleSize 40 0 (-1) 1 40 rule asked 0 = some y ∧ y.1 = vs asked)
section RMS
variable {vs : (Nat → Int32) → Int32} {n : Nat} {a w : Nat → Int32} {ruleSize : Int32} {rule : Nat → Int32}
theorem L_needs (h : RI n a) (hw : EQ w a) (hm : RM vs ruleSize rule) (hc : VC vs) (len top at' wrong isAsked : Int32) (asked : Nat → Int32) {p q : Nat} (hp : p < n) (hq : q < n) : ∃ y, X11_needs (o32 n) len top at' wrong ruleSize isAsked rule asked 37 w (o32 p) (o32 q) = some y ∧ y.1 = bi (ND vs a p q (WB n a q)) := by
  have hn := h.1
  have hW : WB n a q < 128 := bm_128 hn
  have e0 : w q = a q := hw q (by omega)
  have e1 : w p = a p := hw p (by omega)
  have e2 : w (28 + p) = o32 (nt (a (28 + p))) := by rw [hw _ (by omega)]; exact (h.wt hp).2.1
  have e3 : w (28 + q) = o32 (nt (a (28 + q))) := by rw [hw _ (by omega)]; exact (h.wt hq).2.1
  have e4 : w (14 + q) = a (14 + q) := hw _ (by omega)
  have e5 : w 35 = a 35 := hw _ (by omega)
  by_cases hr : ruleSize = 0
  · simp (disch := omega) only [X11_needs, L_wbm h hw (show q < 7 by omega), Option.bind_some, hr, gi_o, o_cl, if_true]
    refine ⟨_, rfl, ?_⟩
    show (if w q - 4 + J6_bitCount_0f7a4 (o32 (WB n a q)) ≤ 0 then (0 : Int32) else 1) = _
    rw [bc_o hW, e0]
    unfold ND bi
    rw [hm.1 hr]
    show (if a q - 4 + o32 (pc (WB n a q)) ≤ 0 then (0 : Int32) else 1) = if decide (¬ (a q - 4 + o32 (pc (WB n a q)) ≤ 0)) = true then 1 else 0
    by_cases h1 : a q - 4 + o32 (pc (WB n a q)) ≤ 0
    · rw [if_pos h1]; simp [h1]
    · rw [if_neg h1]; simp [h1]
  · obtain ⟨y, ey, hy⟩ := hm.2 hr (upd (upd (upd (upd (upd (upd (upd asked 0 (w q)) 1 (w p)) 2 (J6_bitCount_0f7a4 (o32 (WB n a q)))) 3 (J6_bitCount_0f7a4 (w (28 + p)))) 4 (w (14 + q))) 5 (((w (28 + q)) >>> (o32 p &&& 31)) &&& (1 : Int32))) 6 (irem (w 35) (7 : Int32)))
    have et : vs (upd (upd (upd (upd (upd (upd (upd asked 0 (w q)) 1 (w p)) 2 (J6_bitCount_0f7a4 (o32 (WB n a q)))) 3 (J6_bitCount_0f7a4 (w (28 + p)))) 4 (w (14 + q))) 5 (((w (28 + q)) >>> (o32 p &&& 31)) &&& (1 : Int32))) 6 (irem (w 35) (7 : Int32))) = vs (th a p q (WB n a q)) := by
      refine hc _ _ (fun j hj => ?_)
      rcases (by omega : j = 0 ∨ j = 1 ∨ j = 2 ∨ j = 3 ∨ j = 4 ∨ j = 5 ∨ j = 6) with rfl | rfl | rfl | rfl | rfl | rfl | rfl
      · exact e0
      · exact e1
      · exact bc_o hW
      · show J6_bitCount_0f7a4 (w (28 + p)) = o32 (pc (nt (a (28 + p))))
        rw [e2, bc_o (h.wt hp).2.2.1]
      · exact e4
      · show (w (28 + q) >>> (o32 p &&& 31)) &&& 1 = if (nt (a (28 + q))).testBit p then 1 else 0
        rw [e3, bt_bit (h.wt hq).2.2.1 (by omega)]
      · show irem (w 35) 7 = irem (a 35) 7
        rw [e5]
    rw [et] at hy
    simp (disch := omega) only [X11_needs, X11_begin, L_wbm h hw (show q < 7 by omega), Option.bind_some, gi_o, gl0, gl1, gl2, gl3, gl4, gl5, gl6, gl35, gq7, tl0, tl1, tl2, tl3, tl4, tl5, tl6, tl35, o_la, o_cl]
    rw [if_neg hr, ey]
    refine ⟨_, rfl, ?_⟩
    show (if y.1 ≤ 0 then (0 : Int32) else 1) = _
    rw [hy]
    unfold ND bi
    by_cases h1 : vs (th a p q (WB n a q)) ≤ 0
    · rw [if_pos h1]; simp [h1]
    · rw [if_neg h1]; simp [h1]
theorem pu_has {m k : Nat} (hm : m < 128) (hk : k < 7) : X11_has (o32 m) (o32 k) = bi (m.testBit k) := by
  rw [hs_1, bt_bit hm hk]
  cases m.testBit k <;> decide
theorem L_neededBy (h : RI n a) (hw : EQ w a) (hm : RM vs ruleSize rule) (hc : VC vs) (len top at' wrong isAsked : Int32) (asked : Nat → Int32) {q : Nat} (hq : q < n) : ∃ y, X11_neededBy (o32 n) len top at' wrong ruleSize isAsked rule asked 37 w (o32 q) = some y ∧ y.1 = o32 (NB vs n a q (WB n a q)) := by
  have hn := h.1
  have hW : WB n a q < 128 := bm_128 hn
  obtain ⟨z, e, hz⟩ := lp_ct (f := fun x13 : Int32 × Int32 × Int32 × Int32 × Int32 × Int32 × Int32 × (Nat → Int32) => X11_neededBy_s13 (o32 n) ruleSize rule 37 w (o32 q) (o32 (WB n a q)) x13.1 x13.2.1 x13.2.2.1 x13.2.2.2.1 x13.2.2.2.2.1 x13.2.2.2.2.2.1 x13.2.2.2.2.2.2.1 x13.2.2.2.2.2.2.2) (fun k x => x.1 = o32 (bm (fun p => (WB n a q).testBit p && ND vs a p q (WB n a q)) k) ∧ x.2.1 = o32 k) (fun z => z.1 = o32 (NB vs n a q (WB n a q))) n ((0 : Int32), (0 : Int32), len, top, at', wrong, isAsked, asked) ⟨rfl, rfl⟩ (by
    rintro k ⟨acc, i, u1, u2, u3, u4, u5, u6⟩ hk ⟨h1, h2⟩
    have h1 : acc = _ := h1
    have h2 : i = _ := h2
    subst h1 h2
    obtain ⟨y, ey, hy⟩ := L_needs h hw hm hc u1 u2 u3 u4 u5 u6 hk hq
    have e8 : ∀ b : Int32, b ||| 0 = b := fun b => by apply Int32.toBitVec.inj; show b.toBitVec ||| 0#32 = _; exact BitVec.or_zero
    simp (disch := omega) only [X11_neededBy_s13, i_ge, pu_has hW (show k < 7 by omega), bi_0, ey, hy, Option.bind_some, o_s, e8]
    cases h1 : (WB n a q).testBit k with
    | false =>
      rw [if_pos rfl]
      exact ⟨_, rfl, bm_n (by simp [h1]), rfl⟩
    | true =>
      rw [if_neg (by decide)]
      cases h2 : ND vs a k q (WB n a q) with
      | false =>
        rw [if_pos rfl]
        exact ⟨_, rfl, bm_n (by simp [h1, h2]), rfl⟩
      | true =>
        rw [if_neg (by decide)]
        exact ⟨_, rfl, bm_y (by omega) (by simp [h1, h2]), rfl⟩) (by
    rintro ⟨acc, i, u1, u2, u3, u4, u5, u6⟩ ⟨h1, h2⟩
    have h1 : acc = _ := h1
    have h2 : i = _ := h2
    subst h1 h2
    refine ⟨(o32 (NB vs n a q (WB n a q)), u1, u2, u3, u4, u5, u6), ?_, rfl⟩
    simp (disch := omega) only [X11_neededBy_s13, i_le]
    rfl) (by omega)
  unfold X11_neededBy
  rw [L_wbm h hw (show q < 7 by omega), Option.bind_some, e]
  exact ⟨_, rfl, hz⟩
theorem L_isAwake (h : RI n a) (hw : EQ w a) (hm : RM vs ruleSize rule) (hc : VC vs) (len top at' wrong isAsked : Int32) (asked : Nat → Int32) {q : Nat} (hq : q < n) : ∃ y, X11_isAwake (o32 n) len top at' wrong ruleSize isAsked rule asked 37 w (o32 q) = some y ∧ y.1 = bi (IA vs n a q) := by
  have hn := h.1
  have hN : NB vs n a q (WB n a q) < 128 := bm_128 hn
  obtain ⟨y, ey, hy⟩ := L_neededBy h hw hm hc len top at' wrong isAsked asked hq
  simp (disch := omega) only [X11_isAwake, o_la, gi_o, o_cl, ey, hy, Option.bind_some, o0, hw (7 + q) (by omega)]
  by_cases h1 : a (7 + q) = 0
  · rw [if_pos h1]
    by_cases h2 : NB vs n a q (WB n a q) = 0
    · rw [if_pos h2]; exact ⟨_, rfl, by simp [IA, h1, h2, bi]⟩
    · rw [if_neg h2]; exact ⟨_, rfl, by simp [IA, h1, h2, bi]⟩
  · rw [if_neg h1]; exact ⟨_, rfl, by simp [IA, h1, bi]⟩
theorem L_awake (h : RI n a) (hw : EQ w a) (hm : RM vs ruleSize rule) (hc : VC vs) (len top at' wrong isAsked : Int32) (asked : Nat → Int32) : ∃ y, X11_awake (o32 n) len top at' wrong ruleSize isAsked rule asked 37 w = some y ∧ y.1 = o32 (AW vs n a) := by
  have hn := h.1
  obtain ⟨z, e, hz⟩ := lp_ct (f := fun x4 : Int32 × Int32 × Int32 × Int32 × Int32 × Int32 × Int32 × (Nat → Int32) => X11_awake_s4 (o32 n) ruleSize rule 37 w x4.1 x4.2.1 x4.2.2.1 x4.2.2.2.1 x4.2.2.2.2.1 x4.2.2.2.2.2.1 x4.2.2.2.2.2.2.1 x4.2.2.2.2.2.2.2) (fun k x => x.1 = o32 (bm (IA vs n a) k) ∧ x.2.1 = o32 k) (fun z => z.1 = o32 (AW vs n a)) n ((0 : Int32), (0 : Int32), len, top, at', wrong, isAsked, asked) ⟨rfl, rfl⟩ (by
    rintro k ⟨acc, i, u1, u2, u3, u4, u5, u6⟩ hk ⟨h1, h2⟩
    have h1 : acc = _ := h1
    have h2 : i = _ := h2
    subst h1 h2
    obtain ⟨y, ey, hy⟩ := L_isAwake h hw hm hc u1 u2 u3 u4 u5 u6 hk
    simp (disch := omega) only [X11_awake_s4, i_ge, ey, hy, bi_0, Option.bind_some, o_s]
    exact ⟨_, rfl, bm_o (by omega), rfl⟩) (by
    rintro ⟨acc, i, u1, u2, u3, u4, u5, u6⟩ ⟨h1, h2⟩
    have h1 : acc = _ := h1
    have h2 : i = _ := h2
    subst h1 h2
    refine ⟨(o32 (AW vs n a), u1, u2, u3, u4, u5, u6), ?_, rfl⟩
    simp (disch := omega) only [X11_awake_s4, i_le]
    rfl) (by omega)
  unfold X11_awake
  rw [e]
  exact ⟨_, rfl, hz⟩
end RMS
