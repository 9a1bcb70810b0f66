/-! ===== the pure level: what was heard ===== -/
def hiw (w : Nat) : Nat := if w = 0 then 9 else if w = 1 then 99 else if w = 2 then 1 else 6
def HE (hs hm : Int32) (what value hof hby : Nat → Int32) : Prop :=
  ∃ m, m ≤ 12 ∧ hs = o32 m ∧ hm = o32 m ∧ ∀ k, k < m → ∃ w v, w ≤ 4 ∧ v ≤ hiw w ∧ what k = o32 w ∧ hof k = o32 w ∧ value k = o32 v ∧ hby k = o32 v
theorem hiw_le (w : Nat) : hiw w ≤ 99 := by
  unfold hiw
  split
  · omega
  · split
    · omega
    · split <;> omega
theorem pu_hi {w : Nat} (h : w ≤ 4) : X1_highest (o32 w) = o32 (hiw w) ∧ (if o32 w = 0 then (9 : Int32) else (if o32 w = (1 : Int32) then (99 : Int32) else (if o32 w = (2 : Int32) then (1 : Int32) else (6 : Int32)))) = o32 (hiw w) := by
  have h1 : ∀ w : Fin 5, X1_highest (o32 w.val) = o32 (hiw w.val) ∧ (if o32 w.val = 0 then (9 : Int32) else (if o32 w.val = (1 : Int32) then (99 : Int32) else (if o32 w.val = (2 : Int32) then (1 : Int32) else (6 : Int32)))) = o32 (hiw w.val) := by decide +kernel
  exact h1 ⟨w, by omega⟩
theorem pu_hn {p : Int32} (h : ¬ ∃ w, w ≤ 4 ∧ p = o32 w) : X1_highest p = -1 := by
  unfold X1_highest
  rw [if_neg (show ¬ p = 0 from fun e => h ⟨0, by omega, e⟩), if_neg (show ¬ p = 1 from fun e => h ⟨1, by omega, e⟩), if_neg (show ¬ p = 2 from fun e => h ⟨2, by omega, e⟩), if_neg (show ¬ p = 3 from fun e => h ⟨3, by omega, e⟩), if_neg (show ¬ p = 4 from fun e => h ⟨4, by omega, e⟩)]
theorem pu_may {w v : Nat} (hw : w ≤ 4) (hv : v < 1000) : X1_mayBe (o32 w) (o32 v) = bi (decide (v ≤ hiw w)) := by
  unfold X1_mayBe
  rw [(pu_hi hw).1, if_neg (o_nn v (by omega))]
  have hl := hiw_le w
  by_cases h : v ≤ hiw w
  · rw [i_lt h (by omega)]; simp [h, bi]
  · rw [i_gt (by omega) (by omega)]; simp [h, bi]
section HS
variable {hs hm' : Int32} {what value hof hby : Nat → Int32}
theorem M_heard (h : HE hs hm' what value hof hby) (p1 p2 : Int32) : ∃ y y', X10_heard hs what value p1 p2 = some y ∧ X11_heard hm' hof hby p1 p2 = some y' ∧ y.1 = y'.1 ∧ HE y.2.1 y'.2.2.1 y.2.2.1 y.2.2.2 y'.2.2.2.1 y'.2.2.2.2 := by
  obtain ⟨m, hm, rfl, rfl, hk⟩ := h
  have e12 : (12 : Int32) = o32 12 := rfl
  have no : ∀ r : Int32 × Int32 × (Nat → Int32) × (Nat → Int32), X1_takes (o32 m) what value p1 p2 = some (0, o32 m, what, value) → X11_heard (o32 m) hof hby p1 p2 = some (-1, 0, o32 m, hof, hby) → ∃ y y', X10_heard (o32 m) what value p1 p2 = some y ∧ X11_heard (o32 m) hof hby p1 p2 = some y' ∧ y.1 = y'.1 ∧ HE y.2.1 y'.2.2.1 y.2.2.1 y.2.2.2 y'.2.2.2.1 y'.2.2.2.2 := by
    intro _ h1 h2
    refine ⟨(-1, o32 m, what, value), _, ?_, h2, rfl, m, hm, rfl, rfl, hk⟩
    unfold X10_heard
    rw [h1]
    rfl
  rcases pu_in p1 (lo := 0) (hi := 4) (by decide) (by decide) with ⟨i1, i2⟩ | ⟨i1, i2, i3⟩ | ⟨w, w1, w2, rfl, i1, i2, i3⟩
  · have i1 : p1 < 0 := i1
    have i2 : X11_in p1 0 4 = 0 := i2
    have hn : X1_mayBe p1 p2 = 0 := by
      unfold X1_mayBe
      rw [pu_hn (fun ⟨w, _, e⟩ => o_nn w (by omega) (e ▸ i1))]
      by_cases h0 : p2 < 0
      · rw [if_pos h0]
      · rw [if_neg h0, if_pos]
        obtain ⟨q, hq, rfl⟩ := o_of h0
        exact Int32.lt_of_lt_of_le (by decide) (o_ge0 q hq)
    refine no (0, 0, what, value) ?_ ?_
    · unfold X1_takes; rw [hn, if_pos rfl, ite_self]
    · unfold X11_heard; rw [i2, if_pos rfl]
  · have i3 : X11_in p1 0 4 = 0 := i3
    have hn : X1_mayBe p1 p2 = 0 := by
      unfold X1_mayBe
      rw [pu_hn (fun ⟨w, hw, e⟩ => i2 (by rw [e, o_le (by omega) (by decide)]; exact hw))]
      by_cases h0 : p2 < 0
      · rw [if_pos h0]
      · rw [if_neg h0, if_pos]
        obtain ⟨q, hq, rfl⟩ := o_of h0
        exact Int32.lt_of_lt_of_le (by decide) (o_ge0 q hq)
    refine no (0, 0, what, value) ?_ ?_
    · unfold X1_takes; rw [hn, if_pos rfl, ite_self]
    · unfold X11_heard; rw [i3, if_pos rfl]
  · have i3 : X11_in (o32 w) 0 4 = 1 := i3
    have hl := hiw_le w
    rcases pu_in p2 (lo := 0) (hi := hiw w) (by omega) (by omega) with ⟨j1, j2⟩ | ⟨j1, j2, j3⟩ | ⟨v, v1, v2, rfl, j1, j2, j3⟩
    · have j1 : p2 < 0 := j1
      have j2 : X11_in p2 0 (o32 (hiw w)) = 0 := j2
      refine no (0, 0, what, value) ?_ ?_
      · simp only [X1_takes, X1_mayBe, j1, if_true, ite_self]
      · simp only [X11_heard, i3, pu_10, if_false, (pu_hi w2).2, j2, if_true]
    · have j1 : ¬ p2 < 0 := j1
      have j2 : o32 (hiw w) < p2 := Int32.not_le.mp j2
      have j3 : X11_in p2 0 (o32 (hiw w)) = 0 := j3
      refine no (0, 0, what, value) ?_ ?_
      · simp only [X1_takes, X1_mayBe, j1, if_false, (pu_hi w2).1, j2, if_true, ite_self]
      · simp only [X11_heard, i3, pu_10, if_false, (pu_hi w2).2, j3, if_true]
    · have j3 : X11_in (o32 v) 0 (o32 (hiw w)) = 1 := j3
      have hmay : X1_mayBe (o32 w) (o32 v) = 1 := by rw [pu_may w2 (by omega)]; simp [v2, bi]
      rcases Nat.lt_or_ge m 12 with h12 | h12
      · have q : (o32 m = o32 12) = False := by rw [o_eq (by omega) (by decide)]; exact eq_false (by omega)
        simp (disch := omega) only [X10_heard, X1_takes, X11_heard, e12, i_ge, hmay, i3, j3, pu_10, if_false, (pu_hi w2).2, q, gi_o, o_cl, o_s, Option.bind_some]
        refine ⟨_, _, rfl, rfl, rfl, m + 1, by omega, rfl, rfl, fun k hk' => ?_⟩
        show ∃ w' v', _ ∧ _ ∧ upd what m (o32 w) k = _ ∧ upd hof m (o32 w) k = _ ∧ upd value m (o32 v) k = _ ∧ upd hby m (o32 v) k = _
        by_cases e : k = m
        · subst e; simp only [pk_us]; exact ⟨w, v, w2, v2, rfl, rfl, rfl, rfl⟩
        · simp only [pk_un e]; exact hk k (by omega)
      · have h12 : m = 12 := by omega
        subst h12
        refine no (0, 0, what, value) ?_ ?_
        · unfold X1_takes; rw [if_pos (by decide)]
        · simp only [X11_heard, i3, j3, pu_10, if_false, (pu_hi w2).2]
          rw [if_pos (show o32 12 = 12 from rfl)]
theorem M_forget (h : HE hs hm' what value hof hby) : (X10_forget hs).1 = (X11_forget hm').1 ∧ HE (X10_forget hs).2 (X11_forget hm').2.2 what value hof hby := by
  obtain ⟨m, hm, rfl, rfl, hk⟩ := h
  exact ⟨rfl, 0, by decide, rfl, rfl, fun k hk => absurd hk (Nat.not_lt_zero k)⟩
/-- whether it is so of one -/
def IS (vs : (Nat → Int32) → Int32) (n : Nat) (a : Nat → Int32) (q w v : Nat) : Bool :=
  if w = 0 then decide (¬ a q < o32 v) else if w = 1 then decide (¬ o32 v < a (14 + q)) else if w = 2 then (IA vs n a q == decide (v = 1)) else if w = 3 then (nt (a (28 + q))).testBit v else (decide (v < n) && (nt (a (28 + v))).testBit q)
variable {vs : (Nat → Int32) → Int32} {n : Nat} {day unmet : Int32} {skill pills slept woken wanted now : Nat → Int32} {size : Int32} {code : Nat → Int32} {ruleSize : Int32} {rule : Nat → Int32} {tsz rm : Int32} {tnum row : Nat → Int64}
theorem L_isSo (h : RF n day unmet skill pills slept woken wanted now) {q w v : Nat} (hq : q < n) (hw : w ≤ 4) (hv : v ≤ hiw w) : X1_isSo (o32 n) skill slept wanted (o32 (AW vs n now)) (o32 q) (o32 w) (o32 v) = some (bi (IS vs n now q w v)) := by
  have hn := h.nn
  have hh := L_hasn hq hn
  have hA : AW vs n now < 128 := bm_128 hn
  have hri := h.ri
  rcases (by omega : w = 0 ∨ w = 1 ∨ w = 2 ∨ w = 3 ∨ w = 4) with rfl | rfl | rfl | rfl | rfl
  · have hv : v ≤ 9 := hv
    have e0 : (o32 0 = 0) = True := eq_true rfl
    simp (disch := omega) only [X1_isSo, hh, pu_10, if_false, e0, if_true, gi_o, o_cl]
    have e1 : skill q = now q := (h.ski (by omega)).symm
    rw [e1]
    unfold IS bi
    by_cases hx : now q < o32 v
    · simp [hx]
    · simp [hx]
  · have hv : v ≤ 99 := hv
    have e0 : (o32 1 = 0) = False := eq_false (by decide)
    have e1 : (o32 1 = 1) = True := eq_true rfl
    simp (disch := omega) only [X1_isSo, hh, pu_10, if_false, e0, e1, if_true, gi_o, o_cl]
    have e1 : slept q = now (14 + q) := (h.sle (by omega)).symm
    rw [e1]
    unfold IS bi
    by_cases hx : o32 v < now (14 + q)
    · simp [hx]
    · simp [hx]
  · have hv : v ≤ 1 := hv
    have e0 : (o32 2 = 0) = False := eq_false (by decide)
    have e1 : (o32 2 = 1) = False := eq_false (by decide)
    have e2 : (o32 2 = 2) = True := eq_true rfl
    simp (disch := omega) only [X1_isSo, hh, pu_10, if_false, e0, e1, e2, if_true, pu_bit]
    have eb : (AW vs n now).testBit q = IA vs n now q := by unfold AW; rw [bm_tb]; simp [hq]
    rw [eb]
    have eI : IS vs n now q 2 v = (IA vs n now q == decide (v = 1)) := rfl
    rw [eI]
    rcases (by omega : v = 0 ∨ v = 1) with rfl | rfl <;> cases IA vs n now q <;> decide
  · have hv : v ≤ 6 := hv
    have e0 : (o32 3 = 0) = False := eq_false (by decide)
    have e1 : (o32 3 = 1) = False := eq_false (by decide)
    have e2 : (o32 3 = 2) = False := eq_false (by decide)
    have e3 : (o32 3 = 3) = True := eq_true rfl
    have hwq := hri.wt hq
    have ew : wanted q = o32 (nt (now (28 + q))) := by rw [← h.wan (by omega)]; exact hwq.2.1
    simp (disch := omega) only [X1_isSo, hh, pu_10, if_false, e0, e1, e2, e3, if_true, gi_o, o_cl, ew, pu_bit, bi_if]
    have eI : IS vs n now q 3 v = (nt (now (28 + q))).testBit v := rfl
    rw [eI]
    cases (nt (now (28 + q))).testBit v <;> rfl
  · have hv : v ≤ 6 := hv
    have e0 : (o32 4 = 0) = False := eq_false (by decide)
    have e1 : (o32 4 = 1) = False := eq_false (by decide)
    have e2 : (o32 4 = 2) = False := eq_false (by decide)
    have e3 : (o32 4 = 3) = False := eq_false (by decide)
    have eI : IS vs n now q 4 v = (decide (v < n) && (nt (now (28 + v))).testBit q) := rfl
    rw [eI]
    rcases Nat.lt_or_ge v n with hvn | hvn
    · have hhv := L_hasn hvn hn
      have hwv := hri.wt hvn
      have ew : wanted v = o32 (nt (now (28 + v))) := by rw [← h.wan (by omega)]; exact hwv.2.1
      simp (disch := omega) only [X1_isSo, hh, hhv, pu_10, if_false, e0, e1, e2, e3, gi_o, o_cl, ew, pu_bit, bi_if, hvn, decide_true, Bool.true_and]
      cases (nt (now (28 + v))).testBit q <;> rfl
    · have hhv : X0_has (o32 n) (o32 v) = 0 := by
        unfold X0_has
        rw [if_neg (o_nn v (by omega)), i_le hvn (by omega)]
      have hvn' : ¬ v < n := by omega
      simp only [X1_isSo, hh, hhv, pu_10, if_false, e0, e1, e2, e3, if_true, hvn', decide_false, Bool.false_and]
      rfl
theorem L_such (h : RF n day unmet skill pills slept woken wanted now) {w v : Nat} (hw : w ≤ 4) (hv : v ≤ hiw w) : X1_such (o32 n) skill slept wanted (o32 (AW vs n now)) (o32 w) (o32 v) = some (o32 (bm (fun q => IS vs n now q w v) n)) := by
  have hn := h.nn
  obtain ⟨z, e, hz⟩ := lp_ct (f := fun x6 : Int32 × Int32 => X1_such_s6 (o32 n) skill slept wanted (o32 (AW vs n now)) (o32 w) (o32 v) x6.1 x6.2) (fun k x => x = (o32 (bm (fun q => IS vs n now q w v) k), o32 k)) (fun z => z = o32 (bm (fun q => IS vs n now q w v) n)) n ((0 : Int32), (0 : Int32)) rfl (by
    rintro k x hk rfl
    refine ⟨(o32 (bm (fun q => IS vs n now q w v) (k + 1)), o32 (k + 1)), ?_, rfl⟩
    simp (disch := omega) only [X1_such_s6, i_ge, L_isSo h hk hw hv, Option.bind_some, o_s, bi_0]
    rw [bm_o (P := fun q => IS vs n now q w v) (by omega)]) (by
    rintro x rfl
    refine ⟨o32 (bm (fun q => IS vs n now q w v) n), ?_, rfl⟩
    simp (disch := omega) only [X1_such_s6, i_le]) (by omega)
  unfold X1_such
  rw [e, hz]
  rfl
theorem L_isSoM (h : RI n now) (hm : RM vs ruleSize rule) (hc : VC vs) (len top at' wrong isAsked : Int32) (asked : Nat → Int32) {q w v : Nat} (hq : q < n) (hw : w ≤ 4) (hv : v ≤ hiw w) : ∃ y, X11_isSo (o32 n) len top at' wrong ruleSize isAsked now rule asked (o32 q) (o32 w) (o32 v) = some y ∧ y.1 = bi (IS vs n now q w v) := by
  have hn := h.1
  have hgb : ∀ (b : Bool) {α : Type} {x : Option α}, gn .boolean (bi b) x = x := fun b {α x} => gn_b (by cases b; exact Or.inl rfl; exact Or.inr rfl)
  rcases (by omega : w = 0 ∨ w = 1 ∨ w = 2 ∨ w = 3 ∨ w = 4) with rfl | rfl | rfl | rfl | rfl
  · have hv : v ≤ 9 := hv
    have e0 : (o32 0 = 0) = True := eq_true rfl
    simp (disch := omega) only [X11_isSo, e0, if_true, gi_o, o_cl]
    refine ⟨_, rfl, ?_⟩
    show (if now q < o32 v then (0 : Int32) else 1) = bi (decide (¬ now q < o32 v))
    by_cases hx : now q < o32 v
    · simp [hx, bi]
    · simp [hx, bi]
  · have hv : v ≤ 99 := hv
    have e0 : (o32 1 = 0) = False := eq_false (by decide)
    have e1 : (o32 1 = 1) = True := eq_true rfl
    simp (disch := omega) only [X11_isSo, if_false, e0, e1, if_true, o_la, gi_o, o_cl]
    refine ⟨_, rfl, ?_⟩
    show (if o32 v < now (14 + q) then (0 : Int32) else 1) = bi (decide (¬ o32 v < now (14 + q)))
    by_cases hx : o32 v < now (14 + q)
    · simp [hx, bi]
    · simp [hx, bi]
  · have hv : v ≤ 1 := hv
    have e0 : (o32 2 = 0) = False := eq_false (by decide)
    have e1 : (o32 2 = 1) = False := eq_false (by decide)
    have e2 : (o32 2 = 2) = True := eq_true rfl
    obtain ⟨y, ey, hy⟩ := L_isAwake h EQ.rf hm hc len top at' wrong isAsked asked hq
    simp only [X11_isSo, if_false, e0, e1, e2, if_true, ey, hy, Option.bind_some]
    refine ⟨_, rfl, ?_⟩
    show (if bi (IA vs n now q) = (if o32 v = 1 then (1 : Int32) else 0) then (1 : Int32) else 0) = bi (IA vs n now q == decide (v = 1))
    rcases (by omega : v = 0 ∨ v = 1) with rfl | rfl <;> cases IA vs n now q <;> decide
  · have hv : v ≤ 6 := hv
    have e0 : (o32 3 = 0) = False := eq_false (by decide)
    have e1 : (o32 3 = 1) = False := eq_false (by decide)
    have e2 : (o32 3 = 2) = False := eq_false (by decide)
    have e3 : (o32 3 = 3) = True := eq_true rfl
    have hwq := h.wt hq
    have eh : X11_has (now (28 + q)) (o32 v) = bi ((nt (now (28 + q))).testBit v) := by
      rw [hwq.2.1, pu_has hwq.2.2.1 (by omega), nt_o (by omega)]
    simp (disch := omega) only [X11_isSo, if_false, e0, e1, e2, e3, if_true, o_la, gi_o, o_cl, eh, hgb]
    exact ⟨_, rfl, rfl⟩
  · have hv : v ≤ 6 := hv
    have e0 : (o32 4 = 0) = False := eq_false (by decide)
    have e1 : (o32 4 = 1) = False := eq_false (by decide)
    have e2 : (o32 4 = 2) = False := eq_false (by decide)
    have e3 : (o32 4 = 3) = False := eq_false (by decide)
    have hW : WB n now q < 128 := bm_128 hn
    simp (disch := omega) only [X11_isSo, if_false, e0, e1, e2, e3, L_wbm h EQ.rf (show q < 7 by omega), Option.bind_some, pu_has, hgb]
    refine ⟨_, rfl, ?_⟩
    show bi ((WB n now q).testBit v) = bi (decide (v < n) && (nt (now (28 + v))).testBit q)
    unfold WB
    rw [bm_tb]
def al (P : Nat → Bool) : Nat → Bool
  | 0 => true
  | k + 1 => al P k && P k
/-- who fits all that was heard -/
def FT (vs : (Nat → Int32) → Int32) (n : Nat) (a : Nat → Int32) (hof hby : Nat → Int32) (m q : Nat) : Bool := al (fun k => IS vs n a q (nt (hof k)) (nt (hby k))) m
theorem bm_and (P Q : Nat → Bool) (n : Nat) : bm P n &&& bm Q n = bm (fun q => P q && Q q) n := by
  apply Nat.eq_of_testBit_eq
  intro i
  rw [Nat.testBit_and, bm_tb, bm_tb, bm_tb]
  cases decide (i < n) <;> simp
theorem bm_all (n : Nat) : bm (fun _ => true) n = 2 ^ n - 1 := by
  apply Nat.eq_of_testBit_eq
  intro i
  rw [bm_tb, Nat.testBit_two_pow_sub_one]
  simp
theorem L_fitting (h : RF n day unmet skill pills slept woken wanted now) {m : Nat} (hm12 : m ≤ 12) (hk : ∀ k, k < m → ∃ w v, w ≤ 4 ∧ v ≤ hiw w ∧ what k = o32 w ∧ hof k = o32 w ∧ value k = o32 v ∧ hby k = o32 v) : X1_fitting (o32 m) what value (o32 n) skill slept wanted (o32 (AW vs n now)) = some (o32 (bm (FT vs n now hof hby m) n)) := by
  have hn := h.nn
  obtain ⟨z, e, hz⟩ := lp_ct (f := fun x8 : Int32 × Int32 => X1_fitting_s8 (o32 m) what value (o32 n) skill slept wanted (o32 (AW vs n now)) x8.1 x8.2) (fun k x => x = (o32 (bm (FT vs n now hof hby k) n), o32 k)) (fun z => z = o32 (bm (FT vs n now hof hby m) n)) m (X0_everybody (o32 n), (0 : Int32)) (by
      show _ = (o32 (bm (fun _ => true) n), o32 0)
      rw [bm_all, ev_o hn]
      rfl) (by
    rintro k x hk' rfl
    obtain ⟨w, v, g1, g2, g3, g4, g5, g6⟩ := hk k hk'
    have hl := hiw_le w
    have e12 : (12 : Int32) = o32 12 := rfl
    refine ⟨(o32 (bm (FT vs n now hof hby (k + 1)) n), o32 (k + 1)), ?_, rfl⟩
    simp (disch := omega) only [X1_fitting_s8, e12, i_ge, gi_o, o_cl, o_s, g3, g5, L_such h g1 g2, Option.bind_some, o_and, bm_and]
    show _ = some (Sum.inl (o32 (bm (fun q => FT vs n now hof hby k q && IS vs n now q (nt (hof k)) (nt (hby k))) n), _))
    rw [g4, g6, nt_o (by omega), nt_o (by omega)]) (by
    rintro x rfl
    refine ⟨o32 (bm (FT vs n now hof hby m) n), ?_, rfl⟩
    simp (disch := omega) only [X1_fitting_s8, i_le]) (by omega)
  unfold X1_fitting
  rw [e, hz]
  rfl
theorem L_fittingM (h : RI n now) (hm : RM vs ruleSize rule) (hc : VC vs) (len top at' wrong isAsked : Int32) (asked : Nat → Int32) {m : Nat} (hm12 : m ≤ 12) (hk : ∀ k, k < m → ∃ w v, w ≤ 4 ∧ v ≤ hiw w ∧ what k = o32 w ∧ hof k = o32 w ∧ value k = o32 v ∧ hby k = o32 v) : ∃ y, X11_fitting (o32 n) len top at' wrong ruleSize isAsked (o32 m) now rule asked hof hby = some y ∧ y.1 = o32 (bm (FT vs n now hof hby m) n) := by
  have hn := h.1
  have inner : ∀ q, q < n → ∀ (u1 u2 u3 u4 u5 : Int32) (u6 : Nat → Int32), ∃ z, lp (fun x17 : Int32 × Int32 × Int32 × Int32 × Int32 × Int32 × Int32 × (Nat → Int32) => X11_fitting_s17 (o32 n) ruleSize (o32 m) now rule hof hby (o32 q) x17.1 x17.2.1 x17.2.2.1 x17.2.2.2.1 x17.2.2.2.2.1 x17.2.2.2.2.2.1 x17.2.2.2.2.2.2.1 x17.2.2.2.2.2.2.2) 1000 ((1 : Int32), (0 : Int32), u1, u2, u3, u4, u5, u6) = some z ∧ z.1 = bi (FT vs n now hof hby m q) := by
    intro q hq u1 u2 u3 u4 u5 u6
    refine lp_ct (fun k x => x.1 = bi (FT vs n now hof hby k q) ∧ x.2.1 = o32 k) _ m _ ⟨rfl, rfl⟩ ?_ ?_ (by omega)
    · rintro k ⟨x0, i, u1, u2, u3, u4, u5, u6⟩ hk' ⟨h1, h2⟩
      have h1 : x0 = _ := h1
      have h2 : i = _ := h2
      subst h1 h2
      obtain ⟨w, v, g1, g2, g3, g4, g5, g6⟩ := hk k hk'
      have hl := hiw_le w
      have es : FT vs n now hof hby (k + 1) q = (FT vs n now hof hby k q && IS vs n now q w v) := by
        show (FT vs n now hof hby k q && IS vs n now q (nt (hof k)) (nt (hby k))) = _
        rw [g4, g6, nt_o (by omega), nt_o (by omega)]
      obtain ⟨y, ey, hy⟩ := L_isSoM h hm hc u1 u2 u3 u4 u5 u6 hq g1 g2
      cases hF : FT vs n now hof hby k q with
      | false =>
        refine ⟨(0, o32 (k + 1), u1, u2, u3, u4, u5, u6), ?_, ?_, rfl⟩
        · have eb : (bi false = 0) = True := eq_true rfl
          simp (disch := omega) only [X11_fitting_s17, i_ge, eb, if_true, o_s]
        · rw [es, hF]; rfl
      | true =>
        have eb : (bi true = 0) = False := eq_false (by decide)
        simp (disch := omega) only [X11_fitting_s17, i_ge, eb, if_false, gi_o, o_cl, g4, g6, ey, hy, Option.bind_some, o_s, bi_if]
        cases hI : IS vs n now q w v with
        | false => exact ⟨_, rfl, by rw [es, hF, hI]; rfl, rfl⟩
        | true => exact ⟨_, rfl, by rw [es, hF, hI]; rfl, rfl⟩
    · rintro ⟨x0, i, u1, u2, u3, u4, u5, u6⟩ ⟨h1, h2⟩
      have h2 : i = _ := h2
      subst h2
      refine ⟨(x0, u1, u2, u3, u4, u5, u6), ?_, h1⟩
      simp (disch := omega) only [X11_fitting_s17, i_le]
  obtain ⟨z, e, hz⟩ := lp_ct (f := fun x4 : Int32 × Int32 × Int32 × Int32 × Int32 × Int32 × Int32 × (Nat → Int32) => X11_fitting_s4 (o32 n) ruleSize (o32 m) now rule hof hby x4.1 x4.2.1 x4.2.2.1 x4.2.2.2.1 x4.2.2.2.2.1 x4.2.2.2.2.2.1 x4.2.2.2.2.2.2.1 x4.2.2.2.2.2.2.2) (fun k x => x.1 = o32 (bm (FT vs n now hof hby m) k) ∧ x.2.1 = o32 k) (fun z => z.1 = o32 (bm (FT vs n now hof hby m) n)) n ((0 : Int32), (0 : Int32), len, top, at', wrong, isAsked, asked) ⟨rfl, rfl⟩ (by
    rintro k ⟨x0, i, u1, u2, u3, u4, u5, u6⟩ hk' ⟨h1, h2⟩
    have h1 : x0 = _ := h1
    have h2 : i = _ := h2
    subst h1 h2
    obtain ⟨g, eg, hg⟩ := inner k hk' u1 u2 u3 u4 u5 u6
    simp (disch := omega) only [X11_fitting_s4, i_ge, eg, Option.bind_some, un, o_s, hg, bi_0]
    exact ⟨_, rfl, bm_o (by omega), rfl⟩) (by
    rintro ⟨x0, i, u1, u2, u3, u4, u5, u6⟩ ⟨h1, h2⟩
    have h2 : i = _ := h2
    subst h2
    refine ⟨(x0, u1, u2, u3, u4, u5, u6), ?_, h1⟩
    simp (disch := omega) only [X11_fitting_s4, i_le]) (by omega)
  unfold X11_fitting
  rw [e]
  exact ⟨_, rfl, hz⟩
theorem M_fits (h : RF n day unmet skill pills slept woken wanted now) (hv : RV vs size code) (hm : RM vs ruleSize rule) (hc : VC vs) (hh : HE hs hm' what value hof hby) (stack thing : Nat → Int32) (len top at' wrong isAsked : Int32) (asked : Nat → Int32) : ∃ y y', X10_fits tnum (o32 n) day skill pills slept wanted size code stack thing hs what value = some y ∧ X11_fits (o32 n) len top at' wrong ruleSize isAsked hm' now row rule asked hof hby = some y' ∧ y.1 = y'.1 ∧ TO y.2.1 y'.2.1 y.2.2.1 y'.2.2.2.2.2.2.2.2.1 := by
  obtain ⟨m, hm12, rfl, rfl, hk⟩ := hh
  obtain ⟨y, ey, hy⟩ := L_wakers h hv hc stack thing
  obtain ⟨y', ey', hy'⟩ := L_fittingM h.ri hm hc len top at' wrong isAsked asked hm12 hk
  obtain ⟨t, t', et, et', ht⟩ := TO.one tnum row ((J6_bitCount_0f7a4 (o32 (bm (FT vs n now hof hby m) n))).toInt64)
  simp only [X10_fits, X11_fits, ey, ey', hy, hy', L_fitting h hm12 hk, et, et', Option.bind_some]
  exact ⟨_, _, rfl, rfl, rfl, ht⟩
end HS
