/-! ===== the pure level: the acts: a want turned, pills, skill, one leaves ===== -/
theorem pu_neg1 : ¬ ((0 : Int32) ≤ -1) := by decide
theorem pu_neg2 : ¬ ((0 : Int32) ≤ -2) := by decide
section AC
variable {n : Nat} {day unmet : Int32} {skill pills slept woken wanted now : Nat → Int32}
theorem L_turn (h : RF n day unmet skill pills slept woken wanted now) (p1 p2 : Int32) : (X0_turns (o32 n) wanted p1 p2 = some (-1, wanted) ∧ X11_areTwo (o32 n) p1 p2 = some 0) ∨ ∃ p q x, p < n ∧ q < n ∧ ¬ p = q ∧ p1 = o32 p ∧ p2 = o32 q ∧ x < 2 ^ n ∧ x.testBit p = false ∧ wanted p ^^^ ((1 : Int32) <<< (o32 q &&& 31)) = o32 x ∧ now (28 + p) ^^^ ((1 : Int32) <<< (o32 q &&& 31)) = o32 x ∧ X0_turns (o32 n) wanted p1 p2 = some (o32 x, upd wanted p (o32 x)) ∧ X11_areTwo (o32 n) p1 p2 = some 1 ∧ RF n day unmet skill pills slept woken (upd wanted p (o32 x)) (upd now (28 + p) (o32 x)) := by
  have hn := h.nn
  rcases L_one hn p1 with ⟨p, hp, rfl, ho, ho'⟩ | ⟨ho, ho'⟩
  · rcases L_one hn p2 with ⟨q, hq, rfl, hr, hr'⟩ | ⟨hr, hr'⟩
    · by_cases e : p = q
      · left
        subst e
        simp only [X0_turns, X11_areTwo, ho, ho', pu_10, if_false, Option.bind_some, if_true]
        exact ⟨True.intro, True.intro⟩
      · right
        have e' : (o32 p = o32 q) = False := by rw [o_eq (by omega) (by omega)]; exact eq_false e
        have hw := h.ri.wt hp
        have e1 : now (28 + p) = o32 (nt (now (28 + p))) := hw.2.1
        have e2 : wanted p = o32 (nt (now (28 + p))) := by rw [← h.wan (by omega)]; exact e1
        have hx : nt (now (28 + p)) ^^^ 2 ^ q < 2 ^ n := Nat.xor_lt_two_pow hw.1 (Nat.pow_lt_pow_right (by decide) hq)
        have ht : (nt (now (28 + p)) ^^^ 2 ^ q).testBit p = false := by
          rw [Nat.testBit_xor, hw.2.2.2, tb_2]
          simp
          omega
        have h128 := Nat.lt_of_lt_of_le hx (p2_7 hn)
        have ex : ∀ v : Int32, v = o32 (nt (now (28 + p))) → v ^^^ ((1 : Int32) <<< (o32 q &&& 31)) = o32 (nt (now (28 + p)) ^^^ 2 ^ q) := by
          intro v hv
          rw [hv, o_shl (by omega), o_xor]
        refine ⟨p, q, nt (now (28 + p)) ^^^ 2 ^ q, hp, hq, e, rfl, rfl, hx, ht, ex _ e2, ex _ e1, ?_, ?_, ?_⟩
        · simp (disch := omega) only [X0_turns, ho, hr, pu_10, e', if_false, gi_o, o_cl, ex _ e2]
          rw [pk_us]
        · simp only [X11_areTwo, ho', hr', pu_10, e', if_false, Option.bind_some]
        · refine h.s_wan (by omega) (fun _ => ⟨⟨_, hx, rfl⟩, ?_⟩)
          rw [bt_o h128 (by omega), ht]
          decide
    · left
      simp only [X0_turns, X11_areTwo, ho, ho', hr, hr', pu_10, if_false, Option.bind_some, if_true]
      exact ⟨True.intro, True.intro⟩
  · left
    simp only [X0_turns, X11_areTwo, ho, ho', Option.bind_some, if_true]
    exact ⟨True.intro, True.intro⟩
theorem L_pil (h : RF n day unmet skill pills slept woken wanted now) (p1 p2 : Int32) : (∃ r, (r = -1 ∨ r = -2) ∧ X0_takesPills (o32 n) pills p1 p2 = some (r, pills) ∧ X11_refusesPills (o32 n) now p1 p2 = some r) ∨ ∃ q m x, q < n ∧ p1 = o32 q ∧ p2 = o32 m ∧ x < 10 ∧ now (7 + q) + o32 m = o32 x ∧ X0_takesPills (o32 n) pills p1 p2 = some (o32 x, upd pills q (o32 x)) ∧ X11_refusesPills (o32 n) now p1 p2 = some 0 ∧ RF n day unmet skill (upd pills q (o32 x)) slept woken wanted (upd now (7 + q) (o32 x)) := by
  have hn := h.nn
  rcases L_one hn p1 with ⟨q, hq, rfl, ho, ho'⟩ | ⟨ho, ho'⟩
  · rcases pu_in p2 (lo := 1) (hi := 9) (by decide) (by decide) with ⟨i1, i2⟩ | ⟨i1, i2, i3⟩ | ⟨m, m1, m2, rfl, i1, i2, i3⟩
    · have i1 : p2 < 1 := i1
      have i2 : X11_in p2 1 9 = 0 := i2
      left
      refine ⟨-1, Or.inl rfl, ?_, ?_⟩
      · simp only [X0_takesPills, ho, pu_10, i1, if_false, if_true]
      · simp only [X11_refusesPills, ho', pu_10, i2, if_false, if_true, Option.bind_some]
    · have i1 : ¬ p2 < 1 := i1
      have i2 : ¬ p2 ≤ 9 := i2
      have i3 : X11_in p2 1 9 = 0 := i3
      left
      refine ⟨-1, Or.inl rfl, ?_, ?_⟩
      · simp only [X0_takesPills, ho, pu_10, i1, i2, if_false]
      · simp only [X11_refusesPills, ho', pu_10, i3, if_false, if_true, Option.bind_some]
    · have i1 : ¬ o32 m < 1 := i1
      have i2 : o32 m ≤ 9 := i2
      have i3 : X11_in (o32 m) 1 9 = 1 := i3
      obtain ⟨x, hx, ex⟩ := h.bpi hq
      have en : now (7 + q) = o32 x := by rw [h.pil (by omega)]; exact ex
      have e9 : ∀ v : Int32, v = o32 x → v + o32 m = o32 (x + m) := by intro v hv; rw [hv, o_add]
      by_cases hs : x + m ≤ 9
      · right
        have h9 : (o32 (x + m) ≤ 9) = True := by
          show (o32 (x + m) ≤ o32 9) = True
          rw [o_le (by omega) (by decide)]; exact eq_true hs
        refine ⟨q, m, x + m, hq, rfl, rfl, by omega, e9 _ en, ?_, ?_, ?_⟩
        · simp (disch := omega) only [X0_takesPills, ho, pu_10, i1, i2, if_false, if_true, gi_o, o_cl, e9 _ ex, h9]
          rw [pk_us]
        · simp (disch := omega) only [X11_refusesPills, ho', pu_10, i3, if_false, if_true, Option.bind_some, gi_o, o_la, o_cl, e9 _ en, h9]
        · exact h.s_pil (by omega) (fun _ => ⟨x + m, by omega, rfl⟩)
      · left
        have h9 : (o32 (x + m) ≤ 9) = False := by
          show (o32 (x + m) ≤ o32 9) = False
          rw [o_le (by omega) (by decide)]; exact eq_false hs
        refine ⟨-2, Or.inr rfl, ?_, ?_⟩
        · simp (disch := omega) only [X0_takesPills, ho, pu_10, i1, i2, if_false, if_true, gi_o, o_cl, e9 _ ex, h9]
        · simp (disch := omega) only [X11_refusesPills, ho', pu_10, i3, if_false, Option.bind_some, gi_o, o_la, o_cl, e9 _ en, h9]
  · left
    refine ⟨-1, Or.inl rfl, ?_, ?_⟩
    · simp only [X0_takesPills, ho, if_true]
    · simp only [X11_refusesPills, ho', if_true, Option.bind_some]
theorem L_ski (h : RF n day unmet skill pills slept woken wanted now) (p1 p2 : Int32) : (∃ r skill', (r = -1 ∨ r = -2) ∧ X0_becomesSkilled (o32 n) skill p1 p2 = some (r, skill') ∧ X11_refusesSkill (o32 n) now p1 p2 = some r ∧ RF n day unmet skill' pills slept woken wanted now) ∨ ∃ q m x, q < n ∧ p1 = o32 q ∧ p2 = o32 m ∧ x < 10 ∧ m < 10 ∧ now q = o32 x ∧ X0_becomesSkilled (o32 n) skill p1 p2 = some (o32 (10 + x), upd skill q (o32 m)) ∧ X11_refusesSkill (o32 n) now p1 p2 = some 0 ∧ RF n day unmet (upd skill q (o32 m)) pills slept woken wanted (upd now q (o32 m)) := by
  have hn := h.nn
  rcases L_one hn p1 with ⟨q, hq, rfl, ho, ho'⟩ | ⟨ho, ho'⟩
  · rcases pu_in p2 (lo := 0) (hi := 9) (by decide) (by decide) with ⟨i1, i2⟩ | ⟨i1, i2, i3⟩ | ⟨m, m1, m2, rfl, i1, i2, i3⟩
    · have i1 : p2 < 0 := i1
      have i2 : X11_in p2 0 9 = 0 := i2
      left
      refine ⟨-1, skill, Or.inl rfl, ?_, ?_, h⟩
      · simp only [X0_becomesSkilled, ho, pu_10, i1, if_false, if_true]
      · simp only [X11_refusesSkill, ho', pu_10, i2, if_false, if_true, Option.bind_some]
    · have i1 : ¬ p2 < 0 := i1
      have i2 : ¬ p2 ≤ 9 := i2
      have i3 : X11_in p2 0 9 = 0 := i3
      left
      refine ⟨-1, skill, Or.inl rfl, ?_, ?_, h⟩
      · simp only [X0_becomesSkilled, ho, pu_10, i1, i2, if_false]
      · simp only [X11_refusesSkill, ho', pu_10, i3, if_false, if_true, Option.bind_some]
    · have i1 : ¬ o32 m < 0 := i1
      have i2 : o32 m ≤ 9 := i2
      have i3 : X11_in (o32 m) 0 9 = 1 := i3
      obtain ⟨x, hx, ex⟩ := h.bsk hq
      have en : now q = o32 x := by rw [h.ski (by omega)]; exact ex
      by_cases hs : x = m
      · left
        subst hs
        refine ⟨-2, upd skill q (o32 x), Or.inr rfl, ?_, ?_, ?_⟩
        · simp (disch := omega) only [X0_becomesSkilled, ho, pu_10, i1, i2, if_false, if_true, gi_o, o_cl, ex]
        · simp (disch := omega) only [X11_refusesSkill, ho', pu_10, i3, if_false, if_true, Option.bind_some, gi_o, o_cl, en]
        · refine h.cg (fun j hj => ⟨?_, rfl, rfl, rfl, rfl⟩) (fun _ _ => rfl)
          by_cases e : j = q
          · subst e; rw [pk_us, ex]
          · rw [pk_un e]
      · right
        have hs' : (o32 x = o32 m) = False := by rw [o_eq (by omega) (by omega)]; exact eq_false hs
        refine ⟨q, m, x, hq, rfl, rfl, hx, by omega, en, ?_, ?_, ?_⟩
        · simp (disch := omega) only [X0_becomesSkilled, ho, pu_10, i1, i2, if_false, if_true, gi_o, o_cl, ex, hs', o_la]
        · simp (disch := omega) only [X11_refusesSkill, ho', pu_10, i3, if_false, Option.bind_some, gi_o, o_cl, en, hs']
        · exact h.s_ski (by omega) (fun _ => ⟨m, by omega, rfl⟩)
  · left
    refine ⟨-1, skill, Or.inl rfl, ?_, ?_, h⟩
    · simp only [X0_becomesSkilled, ho, if_true]
    · simp only [X11_refusesSkill, ho', if_true, Option.bind_some]
/-! one leaves -/
def su (f : Nat → Nat) : Nat → Nat
  | 0 => 0
  | k + 1 => su f k + f k
theorem su_ext {f g : Nat → Nat} : ∀ {n : Nat}, (∀ k, k < n → f k = g k) → su f n = su g n
  | 0, _ => rfl
  | n + 1, h => by
    show su f n + f n = su g n + g n
    rw [su_ext (fun k hk => h k (by omega)), h n (by omega)]
theorem su_add (f g : Nat → Nat) : ∀ n, su (fun k => f k + g k) n = su f n + su g n
  | 0 => rfl
  | n + 1 => by
    show su (fun k => f k + g k) n + (f n + g n) = su f n + f n + (su g n + g n)
    rw [su_add f g n]
    omega
theorem su_one {q v : Nat} : ∀ {n : Nat}, su (fun k => if k = q then v else 0) n = if q < n then v else 0
  | 0 => rfl
  | n + 1 => by
    show su (fun k => if k = q then v else 0) n + (if n = q then v else 0) = _
    rw [su_one (n := n)]
    by_cases h1 : q < n
    · rw [if_pos h1, if_neg (by omega), if_pos (by omega), Nat.add_zero]
    · by_cases h2 : n = q
      · rw [if_neg h1, if_pos h2, if_pos (by omega)]; omega
      · rw [if_neg h1, if_neg h2, if_neg (by omega)]
theorem su_cn (P : Nat → Bool) : ∀ n, su (fun k => (P k).toNat) n = cn P n
  | 0 => rfl
  | n + 1 => by
    show su (fun k => (P k).toNat) n + _ = cn P n + _
    rw [su_cn P n]
theorem su_le {f : Nat → Nat} {b : Nat} (h : ∀ k, f k ≤ b) : ∀ n, su f n ≤ b * n
  | 0 => Nat.le_refl _
  | n + 1 => by
    have h1 := su_le h n
    have h2 := h n
    show su f n + f n ≤ b * (n + 1)
    rw [Nat.mul_succ]
    omega
theorem pc_sd {w q : Nat} (hw : w < 128) (hq : q < 7) : pc w = pc (sd w (2 ^ q)) + (w.testBit q).toNat := by
  have h1 : ∀ w : Fin 128, ∀ q : Fin 7, pc w.val = pc (sd w.val (2 ^ q.val)) + (w.val.testBit q.val).toNat := by decide +kernel
  exact h1 ⟨w, hw⟩ ⟨q, hq⟩
theorem pc_bm {P : Nat → Bool} {n : Nat} (hn : n ≤ 7) : pc (bm P n) = cn P n := by
  unfold pc
  rw [cn_tail (n := n) hn (fun k h1 h2 => by
    rw [bm_tb]
    have h3 : ¬ k < n := by omega
    simp [h3])]
  exact cn_ext (fun k hk => by rw [bm_tb]; simp [hk])
/-- the row without one's wants and the wants for him -/
def GA (n : Nat) (a : Nat → Int32) (q : Nat) : Nat → Int32 := fun j => if 28 ≤ j ∧ j < 28 + n then (if j = 28 + q then 0 else o32 (sd (nt (a j)) (2 ^ q))) else a j
theorem GA_in {a : Nat → Int32} {k q : Nat} (h : k < n) : GA n a q (28 + k) = if k = q then 0 else o32 (sd (nt (a (28 + k))) (2 ^ q)) := by
  unfold GA
  rw [if_pos (by omega)]
  by_cases e : k = q
  · rw [if_pos e, if_pos (by omega)]
  · rw [if_neg e, if_neg (by omega)]
theorem GA_out {a : Nat → Int32} {j q : Nat} (h : ¬ (28 ≤ j ∧ j < 28 + n)) : GA n a q j = a j := by
  unfold GA
  rw [if_neg h]
/-- wants of all -/
def WA (n : Nat) (a : Nat → Int32) : Nat := su (fun k => pc (nt (a (28 + k)))) n
theorem GA_ri {a : Nat → Int32} (h : RI n a) {q : Nat} (hq : q < n) : RI n (GA n a q) := by
  have hn := h.1
  refine ⟨hn, fun k hk => ⟨?_, ?_, ?_⟩⟩
  · rw [GA_out (by omega)]; exact (h.2 k hk).1
  · rw [GA_out (by omega)]; exact (h.2 k hk).2.1
  · rw [GA_in hk]
    have hw := h.wt hk
    by_cases e : k = q
    · rw [if_pos e]
      exact ⟨0, Nat.two_pow_pos n, rfl, Nat.zero_testBit k⟩
    · rw [if_neg e]
      refine ⟨_, Nat.lt_of_le_of_lt Nat.and_le_left hw.1, rfl, ?_⟩
      rw [show nt (a (28 + k)) &&& (127 ^^^ 2 ^ q) = sd (nt (a (28 + k))) (2 ^ q) from rfl, sd_tb hw.2.2.1, hw.2.2.2]
      rfl
theorem WA_ga {a : Nat → Int32} (h : RI n a) {q : Nat} (hq : q < n) : WA n a = WA n (GA n a q) + (pc (nt (a (28 + q))) + pc (WB n a q)) := by
  have hn := h.1
  unfold WA WB
  rw [pc_bm hn, ← su_cn, ← Nat.add_assoc]
  have e1 : pc (nt (a (28 + q))) = su (fun k => if k = q then pc (nt (a (28 + q))) else 0) n := by rw [su_one, if_pos hq]
  rw [e1, ← su_add, ← su_add]
  refine su_ext (fun k hk => ?_)
  have hw := h.wt hk
  show pc (nt (a (28 + k))) = pc (nt (GA n a q (28 + k))) + (if k = q then pc (nt (a (28 + q))) else 0) + ((nt (a (28 + k))).testBit q).toNat
  rw [GA_in hk]
  by_cases e : k = q
  · subst e
    rw [if_pos rfl, if_pos rfl, hw.2.2.2]
    show _ = pc 0 + _ + 0
    rw [show pc 0 = 0 by decide]
    omega
  · rw [if_neg e, if_neg e, nt_o (Nat.lt_of_lt_of_le (sd_lt hw.2.2.1) (by decide)), pc_sd hw.2.2.1 (show q < 7 by omega)]
    omega
theorem WA_le (a : Nat → Int32) (hn : n ≤ 7) : WA n a ≤ 49 := by
  have := su_le (f := fun k => pc (nt (a (28 + k)))) (b := 7) (fun k => pc_le _) n
  unfold WA
  omega
theorem L_wa (h : RF n day unmet skill pills slept woken wanted now) : X0_wantsOfAll (o32 n) wanted = some (o32 (WA n now)) := by
  have hn := h.nn
  obtain ⟨z, e, hz⟩ := lp_ct (f := fun x4 : Int32 × Int32 => X0_wantsOfAll_s4 (o32 n) wanted x4.1 x4.2) (fun k x => x = (o32 (su (fun k => pc (nt (now (28 + k)))) k), o32 k)) (fun z => z = o32 (WA n now)) n ((0 : Int32), (0 : Int32)) rfl (by
    rintro k x hk rfl
    have hw := h.ri.wt hk
    have e1 : wanted k = o32 (nt (now (28 + k))) := by rw [← h.wan (by omega)]; exact hw.2.1
    refine ⟨(o32 (su (fun k => pc (nt (now (28 + k)))) (k + 1)), o32 (k + 1)), ?_, rfl⟩
    simp (disch := omega) only [X0_wantsOfAll_s4, i_ge, gi_o, o_cl, o_s, e1, bc_o hw.2.2.1, o_add]
    rfl) (by
    rintro x rfl
    refine ⟨o32 (WA n now), ?_, rfl⟩
    simp (disch := omega) only [X0_wantsOfAll_s4, i_le]
    rfl) (by omega)
  unfold X0_wantsOfAll
  rw [e, hz]
  rfl
/-- the class lets one leave -/
theorem L_rid (h : RF n day unmet skill pills slept woken wanted now) {q : Nat} (hq : q < n) : ∃ w', X0_isRidOf (o32 n) wanted (o32 q) = some (if pc (nt (now (28 + q))) + pc (WB n now q) = 0 then -2 else o32 (pc (nt (now (28 + q))) + pc (WB n now q)), w') ∧ RF n day unmet skill pills slept woken w' (GA n now q) := by
  have hn := h.nn
  have hri := h.ri
  obtain ⟨z, e, hz1⟩ := lp_ct (f := fun x24 : Int32 × (Nat → Int32) => X0_isRidOf_s24 (o32 n) (o32 q) x24.1 x24.2) (fun k x => x.1 = o32 k ∧ ∀ j, j < 7 → x.2 j = if j < k then GA n now q (28 + j) else if j = q then 0 else now (28 + j)) (fun z => ∀ j, j < 7 → z j = GA n now q (28 + j)) n ((0 : Int32), upd wanted q 0) ⟨rfl, fun j hj => by
      show upd wanted q 0 j = _
      rw [if_neg (by omega)]
      by_cases e : j = q
      · subst e; rw [pk_us, if_pos rfl]
      · rw [pk_un e, if_neg e]; exact (h.wan hj).symm⟩ (by
    rintro k ⟨i, x⟩ hk ⟨h1, h2⟩
    have h1 : i = _ := h1
    subst h1
    have h2 : ∀ j, j < 7 → x j = if j < k then GA n now q (28 + j) else if j = q then 0 else now (28 + j) := h2
    have hw := hri.wt hk
    have h2q : 2 ^ q < 128 := Nat.lt_of_lt_of_le (Nat.pow_lt_pow_right (by decide) hq) (p2_7 hn)
    have ek : x k &&& (((1 : Int32) <<< (o32 q &&& 31)) ^^^ (-1 : Int32)) = GA n now q (28 + k) := by
      rw [h2 k (by omega), if_neg (by omega), GA_in hk, o_shl (by omega)]
      by_cases e : k = q
      · rw [if_pos e, if_pos e]
        show o32 0 &&& _ = o32 0
        rw [sd_o (by decide) h2q]
        unfold sd
        rw [Nat.zero_and]
      · rw [if_neg e, if_neg e, hw.2.1, sd_o hw.2.2.1 h2q, ← hw.2.1]
    refine ⟨(o32 (k + 1), upd x k (GA n now q (28 + k))), ?_, rfl, fun j hj => ?_⟩
    · simp (disch := omega) only [X0_isRidOf_s24, i_ge, gi_o, o_cl, o_s, ek]
    · show upd x k _ j = _
      by_cases e : j = k
      · subst e; rw [pk_us, if_pos (by omega)]
      · rw [pk_un e, h2 j hj]
        by_cases hlt : j < k
        · rw [if_pos hlt, if_pos (by omega)]
        · rw [if_neg hlt, if_neg (show ¬ j < k + 1 by omega)]) (by
    rintro ⟨i, x⟩ ⟨h1, h2⟩
    have h1 : i = _ := h1
    subst h1
    refine ⟨x, ?_, fun j hj => ?_⟩
    · simp (disch := omega) only [X0_isRidOf_s24, i_le]
    · refine (h2 j hj).trans ?_
      by_cases hlt : j < n
      · rw [if_pos hlt]
      · rw [if_neg hlt, if_neg (by omega), GA_out (by omega)]) (by omega)
  have hR : RF n day unmet skill pills slept woken z (GA n now q) := by
    have hg := GA_ri hri hq
    refine ⟨hn, ?_, ?_, fun k hk => ⟨?_, ?_, ?_, ?_, (hz1 k hk).symm⟩, fun k hk => ⟨h.bsk hk, h.bpi hk, ?_, ?_⟩⟩
    · rw [GA_out (by omega)]; exact h.dy
    · rw [GA_out (by omega)]; exact h.unm
    · rw [GA_out (by omega)]; exact h.ski hk
    · rw [GA_out (by omega)]; exact h.pil hk
    · rw [GA_out (by omega)]; exact h.sle hk
    · rw [GA_out (by omega)]; exact h.wok hk
    · rw [hz1 k (by omega)]
      obtain ⟨w, h1, h2, h3⟩ := (hg.2 k hk).2.2
      exact ⟨w, h1, h2⟩
    · rw [hz1 k (by omega)]
      obtain ⟨w, h1, h2, h3⟩ := (hg.2 k hk).2.2
      rw [h2, bt_o (Nat.lt_of_lt_of_le h1 (p2_7 hn)) (by omega), h3]
      decide
  refine ⟨z, ?_, hR⟩
  have hh := L_hasn hq hn
  have hd := WA_ga hri hq
  have hl := WA_le now hn
  simp (disch := omega) only [X0_isRidOf, hh, pu_10, if_false, L_wa h, L_wa hR, Option.bind_some, gi_o, o_cl, e, o_sub]
  have hd2 : WA n now - WA n (GA n now q) = pc (nt (now (28 + q))) + pc (WB n now q) := by omega
  rw [hd2]
  simp (disch := omega) only [o0]
/-- the reference's row, one of whom has left -/
theorem L_away {w : Nat → Int32} (h : RI n now) (hw : EQ w now) {q : Nat} (hq : q < n) : ∃ z, X11_goAway (o32 n) 37 w (o32 q) = some z ∧ EQ z (GA n now q) := by
  have hn := h.1
  obtain ⟨z, e, hz1⟩ := lp_ct (f := fun x9 : Int32 × (Nat → Int32) => X11_goAway_s9 (o32 n) 37 (o32 q) x9.1 x9.2) (fun k x => x.1 = o32 k ∧ ∀ j, j < 37 → x.2 j = if j < 28 + k then GA n now q j else if j = 28 + q then 0 else now j) (fun z => EQ z (GA n now q)) n ((0 : Int32), upd w (28 + q) 0) ⟨rfl, fun j hj => by
      show upd w (28 + q) 0 j = _
      by_cases e : j = 28 + q
      · subst e; rw [pk_us, if_neg (by omega), if_pos rfl]
      · rw [pk_un e, hw j hj]
        by_cases hlt : j < 28 + 0
        · rw [if_pos hlt, GA_out (by omega)]
        · rw [if_neg hlt, if_neg e]⟩ (by
    rintro k ⟨i, x⟩ hk ⟨h1, h2⟩
    have h1 : i = _ := h1
    subst h1
    have h2 : ∀ j, j < 37 → x j = if j < 28 + k then GA n now q j else if j = 28 + q then 0 else now j := h2
    have hw' := h.wt hk
    have h2q : 2 ^ q < 128 := Nat.lt_of_lt_of_le (Nat.pow_lt_pow_right (by decide) hq) (p2_7 hn)
    have ek : x (28 + k) &&& (((1 : Int32) <<< (o32 q &&& 31)) ^^^ (-1 : Int32)) = GA n now q (28 + k) := by
      rw [h2 (28 + k) (by omega), if_neg (by omega), GA_in hk, o_shl (by omega)]
      by_cases e : k = q
      · rw [if_pos (by omega), if_pos e]
        show o32 0 &&& _ = o32 0
        rw [sd_o (by decide) h2q]
        unfold sd
        rw [Nat.zero_and]
      · rw [if_neg (by omega), if_neg e, hw'.2.1, sd_o hw'.2.2.1 h2q, ← hw'.2.1]
    refine ⟨(o32 (k + 1), upd x (28 + k) (GA n now q (28 + k))), ?_, rfl, fun j hj => ?_⟩
    · simp (disch := omega) only [X11_goAway_s9, i_ge, o_la, gi_o, o_cl, o_s, ek]
    · show upd x (28 + k) _ j = _
      by_cases e : j = 28 + k
      · subst e; rw [pk_us, if_pos (by omega)]
      · rw [pk_un e, h2 j hj]
        by_cases hlt : j < 28 + k
        · rw [if_pos hlt, if_pos (by omega)]
        · rw [if_neg hlt, if_neg (show ¬ j < 28 + (k + 1) by omega)]) (by
    rintro ⟨i, x⟩ ⟨h1, h2⟩
    have h1 : i = _ := h1
    subst h1
    refine ⟨x, ?_, fun j hj => ?_⟩
    · simp (disch := omega) only [X11_goAway_s9, i_le]
    · refine (h2 j hj).trans ?_
      by_cases hlt : j < 28 + n
      · rw [if_pos hlt]
      · rw [if_neg hlt, if_neg (by omega), GA_out (by omega)]) (by omega)
  refine ⟨z, ?_, hz1⟩
  simp (disch := omega) only [X11_goAway, o_la, gi_o, o_cl, e, Option.bind_some]
theorem L_wof {w : Nat → Int32} (h : RI n now) (hw : EQ w now) {q : Nat} (hq : q < n) : X11_wantsOf (o32 n) 37 w (o32 q) = some (o32 (pc (nt (now (28 + q))) + pc (WB n now q))) := by
  have hn := h.1
  have hw' := h.wt hq
  have e1 : w (28 + q) = o32 (nt (now (28 + q))) := by rw [hw _ (by omega)]; exact hw'.2.1
  simp (disch := omega) only [X11_wantsOf, o_la, gi_o, o_cl, L_wbm h hw (show q < 7 by omega), Option.bind_some, e1, bc_o hw'.2.2.1, bc_o (show WB n now q < 128 from bm_128 hn), o_add]
end AC
