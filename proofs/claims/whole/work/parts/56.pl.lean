/-! ===== the pure level: asks, saw, denies, laws, looks ===== -/
theorem pu_div {a d : Nat} (ha : a < 2147483648) (h0 : 0 < d) (hd : d < 2147483648) : o32 a / o32 d = o32 (a / d) := pk_div ha h0 hd
theorem pu_mod {a d : Nat} (ha : a < 2147483648) (h0 : 0 < d) (hd : d < 2147483648) : irem (o32 a) (o32 d) = o32 (a % d) := pk_rem ha h0 hd
theorem pu_max {a b : Nat} (ha : a < 2147483648) (hb : b < 2147483648) : J9_max_7cf53 (o32 a) (o32 b) = o32 (max a b) := by
  unfold J9_max_7cf53
  rcases Nat.lt_or_ge a b with h | h
  · rw [i_gt h hb, Nat.max_eq_right (Nat.le_of_lt h)]
  · rw [i_lt h ha, Nat.max_eq_left h]
theorem cn_split (P Q : Nat → Bool) : ∀ n, cn P n = cn (fun k => P k && Q k) n + cn (fun k => P k && !Q k) n
  | 0 => rfl
  | n + 1 => by
    show cn P n + (P n).toNat = (cn (fun k => P k && Q k) n + (P n && Q n).toNat) + (cn (fun k => P k && !Q k) n + (P n && !Q n).toNat)
    have h1 := cn_split P Q n
    have h2 : ∀ a b : Bool, a.toNat = (a && b).toNat + (a && !b).toNat := by decide
    have h3 := h2 (P n) (Q n)
    omega
/-- the first of the least, of those that count -/
def BB (b0 : Nat) (ok : Nat → Bool) (lf : Nat → Nat) : Nat → Nat × Nat
  | 0 => (0, b0)
  | k + 1 => if ok k = true ∧ lf k < (BB b0 ok lf k).2 then (k, lf k) else BB b0 ok lf k
theorem BB_le {b0 : Nat} {ok : Nat → Bool} {lf : Nat → Nat} : ∀ k, (BB b0 ok lf k).2 ≤ b0 ∧ (BB b0 ok lf k).1 ≤ k
  | 0 => ⟨Nat.le_refl _, Nat.le_refl _⟩
  | k + 1 => by
    have h := BB_le (b0 := b0) (ok := ok) (lf := lf) k
    unfold BB
    split
    · rename_i h1; exact ⟨by show lf k ≤ b0; omega, by show k ≤ k + 1; omega⟩
    · exact ⟨h.1, by omega⟩
theorem BB_n {b0 : Nat} {ok : Nat → Bool} {lf : Nat → Nat} {k : Nat} (h : ok k = false) : BB b0 ok lf (k + 1) = BB b0 ok lf k := by
  show (if ok k = true ∧ lf k < (BB b0 ok lf k).2 then (k, lf k) else BB b0 ok lf k) = _
  rw [if_neg (by rw [h]; simp)]
theorem BB_y {b0 : Nat} {ok : Nat → Bool} {lf : Nat → Nat} {k : Nat} (h : ok k = true) : BB b0 ok lf (k + 1) = if lf k < (BB b0 ok lf k).2 then (k, lf k) else BB b0 ok lf k := by
  show (if ok k = true ∧ lf k < (BB b0 ok lf k).2 then (k, lf k) else BB b0 ok lf k) = _
  simp only [h, true_and]
theorem BB_1 {b0 : Nat} {ok : Nat → Bool} {lf : Nat → Nat} (h : ok 0 = true) (hl : lf 0 < b0) : BB b0 ok lf 1 = (0, lf 0) := by
  rw [BB_y h]
  exact if_pos hl
/-- how the reference's state stands beside it -/
def BR (b0 : Nat) (ok : Nat → Bool) (lf : Nat → Nat) (k : Nat) (b l : Int32) : Prop :=
  (k = 0 ∧ b = -1 ∧ l = 1000000) ∨ (0 < k ∧ b = o32 (BB b0 ok lf k).1 ∧ l = o32 (BB b0 ok lf k).2)
theorem BR_n {b0 : Nat} {ok : Nat → Bool} {lf : Nat → Nat} {k : Nat} {b l : Int32} (h : BR b0 ok lf k b l) (h0 : ok 0 = true) (hk : ok k = false) : BR b0 ok lf (k + 1) b l := by
  rcases h with ⟨rfl, -, -⟩ | ⟨h1, h2, h3⟩
  · rw [h0] at hk; cases hk
  · exact Or.inr ⟨by omega, by rw [BB_n hk]; exact h2, by rw [BB_n hk]; exact h3⟩
theorem BR_y {b0 : Nat} {ok : Nat → Bool} {lf : Nat → Nat} {k : Nat} {b l : Int32} (h : BR b0 ok lf k b l) (hk : ok k = true) (hl : lf k < b0) (hb : b0 < 1000000) : BR b0 ok lf (k + 1) (if o32 (lf k) < l then o32 k else b) (if o32 (lf k) < l then o32 (lf k) else l) := by
  rcases h with ⟨rfl, rfl, rfl⟩ | ⟨h1, rfl, rfl⟩
  · right
    refine ⟨by omega, ?_, ?_⟩
    · rw [BB_1 hk hl]
      exact i_gt (n := lf 0) (k := 1000000) (by omega) (by decide)
    · rw [BB_1 hk hl]
      exact i_gt (n := lf 0) (k := 1000000) (by omega) (by decide)
  · right
    have hb2 := BB_le (b0 := b0) (ok := ok) (lf := lf) k
    refine ⟨by omega, ?_, ?_⟩
    · rw [BB_y hk]
      rcases Nat.lt_or_ge (lf k) (BB b0 ok lf k).2 with hlt | hlt
      · rw [i_gt hlt (by omega), if_pos hlt]
      · rw [i_lt hlt (by omega), if_neg (by omega)]
    · rw [BB_y hk]
      rcases Nat.lt_or_ge (lf k) (BB b0 ok lf k).2 with hlt | hlt
      · rw [i_gt hlt (by omega), if_pos hlt]
      · rw [i_lt hlt (by omega), if_neg (by omega)]
def OKA (k : Nat) : Bool := decide (¬ k / 10 = 1) && decide (k % 10 ≤ hiw (k / 10))
theorem OKA_r {k : Nat} (h : k < 47) : OKA k = decide (X11_in (o32 k) 10 19 = 0 ∧ X11_in (o32 k) 22 29 = 0 ∧ X11_in (o32 k) 37 39 = 0) := by
  have h1 : ∀ k : Fin 47, OKA k.val = decide (X11_in (o32 k.val) 10 19 = 0 ∧ X11_in (o32 k.val) 22 29 = 0 ∧ X11_in (o32 k.val) 37 39 = 0) := by decide +kernel
  exact h1 ⟨k, h⟩
section AS
variable {hs hm' : Int32} {what value hof hby : Nat → Int32} {vs : (Nat → Int32) → Int32} {n : Nat} {day unmet : Int32} {skill pills slept woken wanted now : Nat → Int32} {size : Int32} {code : Nat → Int32} {ruleSize : Int32} {rule : Nat → Int32} {tsz rm : Int32} {tnum row : Nat → Int64}
def YS (vs : (Nat → Int32) → Int32) (n : Nat) (a : Nat → Int32) (F : Nat → Bool) (k : Nat) : Nat := cn (fun q => F q && IS vs n a q (k / 10) (k % 10)) n
def LF (vs : (Nat → Int32) → Int32) (n : Nat) (a : Nat → Int32) (F : Nat → Bool) (k : Nat) : Nat := max (YS vs n a F k) (cn F n - YS vs n a F k)
theorem YS_le (F : Nat → Bool) (k : Nat) : YS vs n now F k ≤ cn F n := by
  have := cn_split F (fun q => IS vs n now q (k / 10) (k % 10)) n
  unfold YS
  omega
theorem LF_le (F : Nat → Bool) (k : Nat) : LF vs n now F k ≤ cn F n := by
  have := YS_le (vs := vs) (n := n) (now := now) F k
  unfold LF
  omega
theorem L_asksC (h : RF n day unmet skill pills slept woken wanted now) (F : Nat → Bool) {y8 : Int32 × (Nat → Int32) × (Nat → Int32)} (hy : y8.1 = o32 (AW vs n now)) : lp (fun x41 : Int32 × Int32 × Int32 => X10_asks_s41 (o32 n) skill slept wanted y8 (o32 (bm F n)) x41.1 x41.2.1 x41.2.2) 1000 ((0 : Int32), (8 : Int32), (0 : Int32)) = some (o32 (BB 8 OKA (LF vs n now F) 50).1, o32 (BB 8 OKA (LF vs n now F) 50).2) := by
  have hn := h.nn
  have hc7 := cn_le F n
  obtain ⟨z, e, hz⟩ := lp_ct (f := fun x41 : Int32 × Int32 × Int32 => X10_asks_s41 (o32 n) skill slept wanted y8 (o32 (bm F n)) x41.1 x41.2.1 x41.2.2) (fun k x => x = (o32 (BB 8 OKA (LF vs n now F) k).1, o32 (BB 8 OKA (LF vs n now F) k).2, o32 k)) (fun z => z = (o32 (BB 8 OKA (LF vs n now F) 50).1, o32 (BB 8 OKA (LF vs n now F) 50).2)) 50 ((0 : Int32), (8 : Int32), (0 : Int32)) rfl (by
    rintro k x hk rfl
    have e50 : (50 : Int32) = o32 50 := rfl
    have e10 : (10 : Int32) = o32 10 := rfl
    have d1 : o32 k / 10 = o32 (k / 10) := pu_div (d := 10) (by omega) (by decide) (by decide)
    have d2 : irem (o32 k) 10 = o32 (k % 10) := pu_mod (d := 10) (by omega) (by decide) (by decide)
    have hmay := pu_may (w := k / 10) (v := k % 10) (by omega) (by omega)
    have hb2 := BB_le (b0 := 8) (ok := OKA) (lf := LF vs n now F) k
    have q1 : (o32 (k / 10) = 1) = (k / 10 = 1) := o_eq (b := 1) (by omega) (by decide)
    refine ⟨(o32 (BB 8 OKA (LF vs n now F) (k + 1)).1, o32 (BB 8 OKA (LF vs n now F) (k + 1)).2, o32 (k + 1)), ?_, rfl⟩
    by_cases c1 : k / 10 = 1
    · have ho : OKA k = false := by unfold OKA; simp [c1]
      simp (disch := omega) only [X10_asks_s41, e50, i_ge, gq10, d1, c1, if_true, o_s, BB_n ho, show (o32 1 = 1) = True from eq_true rfl]
    · by_cases c2 : k % 10 ≤ hiw (k / 10)
      · have ho : OKA k = true := by unfold OKA; simp [c1, c2]
        have hS : bm (fun q => IS vs n now q (k / 10) (k % 10)) n < 128 := bm_128 hn
        have hF : bm F n < 128 := bm_128 hn
        have hFS : bm (fun q => F q && IS vs n now q (k / 10) (k % 10)) n < 128 := bm_128 hn
        have p1 : pc (bm (fun q => F q && IS vs n now q (k / 10) (k % 10)) n) = YS vs n now F k := pc_bm hn
        have p2 : pc (sd (bm F n) (bm (fun q => F q && IS vs n now q (k / 10) (k % 10)) n)) = cn F n - YS vs n now F k := by
          have e1 : sd (bm F n) (bm (fun q => F q && IS vs n now q (k / 10) (k % 10)) n) = bm (fun q => F q && !(F q && IS vs n now q (k / 10) (k % 10))) n := by
            apply Nat.eq_of_testBit_eq
            intro i
            rw [sd_tb hF, bm_tb, bm_tb, bm_tb]
            cases decide (i < n) <;> simp
          rw [e1, pc_bm hn]
          have e2 := cn_split F (fun q => IS vs n now q (k / 10) (k % 10)) n
          have e3 : cn (fun q => F q && !(F q && IS vs n now q (k / 10) (k % 10))) n = cn (fun q => F q && !IS vs n now q (k / 10) (k % 10)) n := cn_ext (fun q _ => by cases F q <;> simp)
          unfold YS
          omega
        have hY := YS_le (vs := vs) (n := n) (now := now) F k
        have c2' : decide (k % 10 ≤ hiw (k / 10)) = true := by simp [c2]
        simp (disch := omega) only [X10_asks_s41, e50, i_ge, gq10, d1, d2, q1, c1, if_false, hmay, c2', show (bi true = 0) = False from eq_false (by decide), hy, L_such h (show k / 10 ≤ 4 by omega) c2, Option.bind_some, o_and, bm_and, sd_o, bc_o (sd_lt hF), bc_o hFS, p1, p2, pu_max, o_s]
        show (if o32 (BB 8 OKA (LF vs n now F) k).2 ≤ o32 (LF vs n now F k) then _ else some (Sum.inl (o32 k, o32 (LF vs n now F k), o32 (k + 1)))) = _
        have hL := LF_le (vs := vs) (n := n) (now := now) F k
        rw [BB_y ho]
        rcases Nat.lt_or_ge (LF vs n now F k) (BB 8 OKA (LF vs n now F) k).2 with hlt | hlt
        · rw [i_ge hlt (by omega), if_pos hlt]
        · rw [i_le hlt (by omega), if_neg (by omega)]
      · have ho : OKA k = false := by unfold OKA; simp [c1, c2]
        have c2' : decide (k % 10 ≤ hiw (k / 10)) = false := by simp [c2]
        simp (disch := omega) only [X10_asks_s41, e50, i_ge, gq10, d1, d2, q1, c1, if_false, hmay, c2', show (bi false = 0) = True from eq_true rfl, if_true, o_s, BB_n ho]) (by
    rintro x rfl
    exact ⟨_, rfl, rfl⟩) (by omega)
  rw [e, hz]
theorem L_asksI (h : RI n now) (hm : RM vs ruleSize rule) (hc : VC vs) (F : Nat → Bool) {y6 : Int32 × Int32 × Int32 × Int32 × Int32 × Int32 × (Nat → Int32)} (hy : y6.1 = o32 (bm F n)) {k : Nat} (hk : k < 47) (ho : OKA k = true) (u1 u2 u3 u4 u5 : Int32) (u6 : Nat → Int32) : ∃ z, lp (fun x78 : Int32 × Int32 × Int32 × Int32 × Int32 × Int32 × Int32 × (Nat → Int32) => X11_asks_s78 (o32 n) ruleSize now rule y6 (o32 k) x78.1 x78.2.1 x78.2.2.1 x78.2.2.2.1 x78.2.2.2.2.1 x78.2.2.2.2.2.1 x78.2.2.2.2.2.2.1 x78.2.2.2.2.2.2.2) 1000 ((0 : Int32), (0 : Int32), u1, u2, u3, u4, u5, u6) = some z ∧ z.1 = o32 (YS vs n now F k) := by
  have hn := h.1
  refine lp_ct (fun i x => x.1 = o32 (cn (fun q => F q && IS vs n now q (k / 10) (k % 10)) i) ∧ x.2.1 = o32 i) _ n _ ⟨rfl, rfl⟩ ?_ ?_ (by omega)
  · rintro i ⟨x0, i', u1, u2, u3, u4, u5, u6⟩ hi ⟨h1, h2⟩
    have h1 : x0 = _ := h1
    have h2 : i' = _ := h2
    subst h1 h2
    have d1 : o32 k / 10 = o32 (k / 10) := pu_div (d := 10) (by omega) (by decide) (by decide)
    have d2 : irem (o32 k) 10 = o32 (k % 10) := pu_mod (d := 10) (by omega) (by decide) (by decide)
    have c2 : k % 10 ≤ hiw (k / 10) := by unfold OKA at ho; simp at ho; exact ho.2
    obtain ⟨y, ey, hy'⟩ := L_isSoM h hm hc u1 u2 u3 u4 u5 u6 hi (show k / 10 ≤ 4 by omega) c2
    have eF : X11_has y6.1 (o32 i) = bi (F i) := by
      rw [hy, pu_has (bm_128 hn) (by omega), bm_tb]; simp [hi]
    have es : cn (fun q => F q && IS vs n now q (k / 10) (k % 10)) (i + 1) = cn (fun q => F q && IS vs n now q (k / 10) (k % 10)) i + (F i && IS vs n now i (k / 10) (k % 10)).toNat := rfl
    have a0 : ∀ v : Nat, o32 v + 0 = o32 v := fun v => by show o32 v + o32 0 = _; rw [o_add, Nat.add_zero]
    simp (disch := omega) only [X11_asks_s78, i_ge, eF, bi_if, gq10, d1, d2, ey, hy', Option.bind_some, o_s, a0]
    cases hF : F i with
    | false => exact ⟨_, rfl, by rw [es, hF]; rfl, rfl⟩
    | true =>
      cases hI : IS vs n now i (k / 10) (k % 10) with
      | false => exact ⟨_, rfl, by rw [es, hF, hI]; rfl, rfl⟩
      | true => exact ⟨_, rfl, by rw [es, hF, hI]; rfl, rfl⟩
  · rintro ⟨x0, i', u1, u2, u3, u4, u5, u6⟩ ⟨h1, h2⟩
    have h2 : i' = _ := h2
    subst h2
    refine ⟨(x0, u1, u2, u3, u4, u5, u6), ?_, h1⟩
    simp (disch := omega) only [X11_asks_s78, i_le]
theorem L_asksM (h : RI n now) (hm : RM vs ruleSize rule) (hc : VC vs) (F : Nat → Bool) {y6 : Int32 × Int32 × Int32 × Int32 × Int32 × Int32 × (Nat → Int32)} (hy : y6.1 = o32 (bm F n)) : ∃ z, lp (fun x26 : Int32 × Int32 × Int32 × Int32 × Int32 × Int32 × Int32 × Int32 × (Nat → Int32) => X11_asks_s26 (o32 n) ruleSize now rule y6 x26.1 x26.2.1 x26.2.2.1 x26.2.2.2.1 x26.2.2.2.2.1 x26.2.2.2.2.2.1 x26.2.2.2.2.2.2.1 x26.2.2.2.2.2.2.2.1 x26.2.2.2.2.2.2.2.2) 1000 ((-1 : Int32), (1000000 : Int32), (0 : Int32), y6.2.1, y6.2.2.1, y6.2.2.2.1, y6.2.2.2.2.1, y6.2.2.2.2.2.1, y6.2.2.2.2.2.2) = some z ∧ (z.1 = o32 (BB 8 OKA (LF vs n now F) 47).1 ∧ z.2.1 = o32 (BB 8 OKA (LF vs n now F) 47).2) := by
  have hn := h.1
  have hc7 := cn_le F n
  refine lp_ct (fun k x => BR 8 OKA (LF vs n now F) k x.1 x.2.1 ∧ x.2.2.1 = o32 k) _ 47 _ ⟨Or.inl ⟨rfl, rfl, rfl⟩, rfl⟩ ?_ ?_ (by omega)
  · rintro k ⟨b, l, i, u1, u2, u3, u4, u5, u6⟩ hk ⟨h1, h2⟩
    have h2 : i = _ := h2
    subst h2
    have h1 : BR 8 OKA (LF vs n now F) k b l := h1
    have e47 : (47 : Int32) = o32 47 := rfl
    have hr := OKA_r hk
    have o0' : OKA 0 = true := by decide
    cases ho : OKA k with
    | false =>
      rw [ho] at hr
      have hr' := of_decide_eq_false hr.symm
      refine ⟨(b, l, o32 (k + 1), u1, u2, u3, u4, u5, u6), ?_, BR_n h1 o0' ho, rfl⟩
      simp (disch := omega) only [X11_asks_s26, e47, i_ge, o_s]
      by_cases a1 : X11_in (o32 k) 10 19 = 0
      · rw [if_pos a1]
        by_cases a2 : X11_in (o32 k) 22 29 = 0
        · rw [if_pos a2, if_neg (fun a3 => hr' ⟨a1, a2, a3⟩)]
        · rw [if_neg a2]
      · rw [if_neg a1]
    | true =>
      rw [ho] at hr
      obtain ⟨a1, a2, a3⟩ := of_decide_eq_true hr.symm
      obtain ⟨z, ez, hz⟩ := L_asksI h hm hc F hy hk ho u1 u2 u3 u4 u5 u6
      have hY := YS_le (vs := vs) (n := n) (now := now) F k
      have hL := LF_le (vs := vs) (n := n) (now := now) F k
      have hp : pc (bm F n) = cn F n := pc_bm hn
      have em : J9_max_7cf53 (o32 (YS vs n now F k)) (o32 (cn F n) - o32 (YS vs n now F k)) = o32 (LF vs n now F k) := by
        rw [o_sub hY, pu_max (by omega) (by omega)]; rfl
      simp (disch := omega) only [X11_asks_s26, e47, i_ge, a1, a2, a3, if_true, ez, Option.bind_some, un, hz, hy, bc_o (show bm F n < 128 from bm_128 hn), hp, em, o_s]
      have hB := BR_y h1 ho (show LF vs n now F k < 8 by omega) (by decide)
      by_cases hlt : o32 (LF vs n now F k) < l
      · rw [if_pos hlt]
        rw [if_pos hlt, if_pos hlt] at hB
        exact ⟨_, rfl, hB, rfl⟩
      · rw [if_neg hlt]
        rw [if_neg hlt, if_neg hlt] at hB
        exact ⟨_, rfl, hB, rfl⟩
  · rintro ⟨b, l, i, u1, u2, u3, u4, u5, u6⟩ ⟨h1, h2⟩
    have h2 : i = _ := h2
    subst h2
    rcases h1 with ⟨h3, -, -⟩ | ⟨-, h3, h4⟩
    · omega
    · exact ⟨(b, l, u1, u2, u3, u4, u5, u6), rfl, h3, h4⟩
theorem M_asks (h : RF n day unmet skill pills slept woken wanted now) (hv : RV vs size code) (hm : RM vs ruleSize rule) (hc : VC vs) (hh : HE hs hm' what value hof hby) (ht : TO tsz rm tnum row) (stack thing : Nat → Int32) (len top at' wrong isAsked : Int32) (asked : Nat → Int32) : ∃ y y', X10_asks tsz tnum (o32 n) day skill pills slept wanted size code stack thing hs what value = some y ∧ X11_asks (o32 n) rm len top at' wrong ruleSize isAsked hm' now row rule asked hof hby = some y' ∧ y.1 = y'.1 ∧ TO y.2.1 y'.2.1 y.2.2.1 y'.2.2.2.2.2.2.2.2.1 := by
  obtain ⟨m, hm12, rfl, rfl, hk⟩ := hh
  have hn := h.nn
  obtain ⟨y, ey, hy⟩ := L_wakers h hv hc stack thing
  obtain ⟨y', ey', hy'⟩ := L_fittingM h.ri hm hc len top at' wrong isAsked asked hm12 hk
  have hF : bm (FT vs n now hof hby m) n < 128 := bm_128 hn
  by_cases h0 : bm (FT vs n now hof hby m) n = 0
  · have e0 : (o32 0 = 0) = True := eq_true rfl
    simp only [X10_asks, X11_asks, ey, ey', hy, hy', L_fitting h hm12 hk, Option.bind_some, h0, e0, if_true]
    exact ⟨_, _, rfl, rfl, rfl, ht⟩
  · have e0 : (o32 (bm (FT vs n now hof hby m) n) = 0) = False := by rw [o0 (by omega)]; exact eq_false h0
    have eC := L_asksC h (FT vs n now hof hby m) hy
    obtain ⟨z, eM, hz1, hz2⟩ := L_asksM h.ri hm hc (FT vs n now hof hby m) hy'
    have e50 : BB 8 OKA (LF vs n now (FT vs n now hof hby m)) 50 = BB 8 OKA (LF vs n now (FT vs n now hof hby m)) 47 := by
      rw [BB_n (k := 49) (by decide), BB_n (k := 48) (by decide), BB_n (k := 47) (by decide)]
    rw [e50] at eC
    obtain ⟨t, t', et, et', ht'⟩ := TO.one tnum row ((o32 (BB 8 OKA (LF vs n now (FT vs n now hof hby m)) 47).2).toInt64)
    simp only [X10_asks, X11_asks, ey, ey', hy, hy', L_fitting h hm12 hk, Option.bind_some, e0, if_false, eC, eM, un, hz1, hz2, et, et']
    exact ⟨_, _, rfl, rfl, rfl, ht'⟩
end AS
