/-! ===== the pure level: odds ===== -/
theorem su_shift (f : Nat → Nat) : ∀ m, su f (m + 1) = f 0 + su (fun k => f (k + 1)) m
  | 0 => by show 0 + f 0 = f 0 + 0; omega
  | m + 1 => by
    show su f (m + 1) + f (m + 1) = f 0 + (su (fun k => f (k + 1)) m + f (m + 1))
    rw [su_shift f m]
    omega
theorem su_rev (f : Nat → Nat) : ∀ m, su (fun d => f (m - d)) (m + 1) = su f (m + 1)
  | 0 => rfl
  | m + 1 => by
    show su (fun d => f (m + 1 - d)) (m + 1) + f (m + 1 - (m + 1)) = _
    rw [su_shift f (m + 1), Nat.sub_self]
    have h1 : su (fun d => f (m + 1 - d)) (m + 1) = su (fun d => (fun k => f (k + 1)) (m - d)) (m + 1) := su_ext (fun k hk => by
      show f (m + 1 - k) = f (m - k + 1)
      rw [show m + 1 - k = m - k + 1 by omega])
    rw [h1, su_rev (fun k => f (k + 1)) m]
    omega
theorem su_tail {f : Nat → Nat} {n : Nat} : ∀ {m : Nat}, n ≤ m → (∀ k, n ≤ k → k < m → f k = 0) → su f m = su f n
  | 0, h, _ => by
    have : n = 0 := by omega
    rw [this]
  | m + 1, h, hf => by
    rcases Nat.lt_or_ge n (m + 1) with h1 | h1
    · show su f m + f m = su f n
      rw [hf m (by omega) (by omega), su_tail (by omega) (fun k h2 h3 => hf k h2 (by omega))]
      rfl
    · have : n = m + 1 := by omega
      rw [this]
theorem sub_all {b d : Nat} (hb : b < 128) (hd : d ≤ b) : (sd d b = 0 ↔ sd (b - d) b = 0) ∧ (sd d b = 0 → sd b d = b - d ∧ pc b = pc d + pc (b - d)) := by
  have h1 : ∀ b : Fin 128, ∀ d : Fin 128, d.val ≤ b.val → (sd d.val b.val = 0 ↔ sd (b.val - d.val) b.val = 0) ∧ (sd d.val b.val = 0 → sd b.val d.val = b.val - d.val ∧ pc b.val = pc d.val + pc (b.val - d.val)) := by decide +kernel
  exact h1 ⟨b, hb⟩ ⟨d, by omega⟩ hd
theorem L_pow (b t : Nat) (ht : t < 1000) : X10_power (o32 b) (o32 t) = some (o32 (b ^ t)) := by
  obtain ⟨z, e, hz⟩ := lp_ct (f := fun x4 : Int32 × Int32 => X10_power_s4 (o32 b) (o32 t) x4.1 x4.2) (fun k x => x = (o32 (b ^ k), o32 k)) (fun z => z = o32 (b ^ t)) t ((1 : Int32), (0 : Int32)) rfl (by
    rintro k x hk rfl
    refine ⟨(o32 (b ^ (k + 1)), o32 (k + 1)), ?_, rfl⟩
    simp (disch := omega) only [X10_power_s4, i_ge, o_mul, o_s]
    rfl) (by
    rintro x rfl
    refine ⟨o32 (b ^ t), ?_, rfl⟩
    simp (disch := omega) only [X10_power_s4, i_le]) ht
  unfold X10_power
  rw [e, hz]
  rfl
theorem half_mod {a b : Nat} (h0 : 0 < b) (h : b ≤ a) : 2 * (a % b) < a := by
  have h1 := Nat.mod_lt a h0
  rcases Nat.lt_or_ge (2 * b) (a + 1) with h2 | h2
  · omega
  · have h3 : a % b = a - b := by rw [Nat.mod_eq_sub_mod h, Nat.mod_eq_of_lt (by omega)]
    omega
theorem prod_half {a b : Nat} (h0 : 0 < b) (h : b ≤ a) : 2 * (b * (a % b)) < b * a := by
  have h1 := half_mod h0 h
  have h2 : b * (2 * (a % b)) < b * a := Nat.mul_lt_mul_of_pos_left h1 h0
  have h3 : b * (2 * (a % b)) = 2 * (b * (a % b)) := by rw [Nat.mul_left_comm]
  omega
/-- the class's greatest common divisor -/
theorem L_gcdC {lo up : Nat} (hl : 0 < lo) (hl2 : lo < 16777216) (hu : up < 2147483648) : lp (fun x8 : Int32 × Int32 × Int32 => X10_tellsFraction_s8 x8.1 x8.2.1 x8.2.2) 1000 (o32 lo, o32 up, (0 : Int32)) = some (o32 (Nat.gcd lo up)) := by
  obtain ⟨z, e, hz⟩ := lp_inv (f := fun x8 : Int32 × Int32 × Int32 => X10_tellsFraction_s8 x8.1 x8.2.1 x8.2.2) (fun k x => ∃ a b, x = (o32 a, o32 b, o32 k) ∧ a < 2147483648 ∧ b < 2147483648 ∧ Nat.gcd a b = Nat.gcd lo up ∧ (k = 0 ∧ a = lo ∧ b = up ∨ 0 < k ∧ b < a ∧ a * b * 2 ^ (k - 1) < 2 ^ 55)) (fun z => z = o32 (Nat.gcd lo up)) 58 0 1000 (o32 lo, o32 up, (0 : Int32)) (by
    rintro k x - hk ⟨a, b, rfl, ha, hb, hg, hI⟩
    have e64 : (64 : Int32) = o32 64 := rfl
    by_cases h0 : b = 0
    · left
      subst h0
      refine ⟨o32 a, ?_, ?_⟩
      · have e0 : (o32 0 = 0) = True := eq_true rfl
        simp (disch := omega) only [X10_tellsFraction_s8, e64, i_ge, e0, if_true]
      · rw [Nat.gcd_zero_right] at hg
        rw [hg]
    · right
      have hm := Nat.mod_lt a (show 0 < b by omega)
      have e0 : (o32 b = 0) = False := by rw [o0 hb]; exact eq_false h0
      have nz : ¬ o32 b = 0 := by rw [e0]; exact id
      refine ⟨?_, (o32 b, o32 (a % b), o32 (k + 1)), ?_, b, a % b, rfl, hb, by omega, ?_, Or.inr ⟨by omega, hm, ?_⟩⟩
      · rcases hI with ⟨rfl, -, -⟩ | ⟨h1, h2, h3⟩
        · omega
        · apply Classical.byContradiction
          intro hc
          have hk58 : k = 58 := by omega
          subst hk58
          have h4 : 1 ≤ a * b := Nat.mul_pos (by omega) (by omega)
          have h5 : 1 * 2 ^ (58 - 1) ≤ a * b * 2 ^ (58 - 1) := Nat.mul_le_mul_right _ h4
          have h6 : (2 : Nat) ^ 55 < 1 * 2 ^ (58 - 1) := by decide
          omega
      · have hk58 : k < 64 := by omega
        simp (disch := omega) only [X10_tellsFraction_s8, e64, i_ge, e0, if_false, gz, pu_mod, o_s]
      · rw [← hg, Nat.gcd_comm a b, Nat.gcd_rec b a, Nat.gcd_comm]
      · show b * (a % b) * 2 ^ (k + 1 - 1) < 2 ^ 55
        rcases hI with ⟨rfl, rfl, rfl⟩ | ⟨h1, h2, h3⟩
        · show b * (a % b) * 1 < 2 ^ 55
          have h4 : a % b ≤ a := Nat.mod_le a b
          have h5 : b * (a % b) ≤ 2147483647 * 16777215 := Nat.mul_le_mul (by omega) (by omega)
          have h6 : 2147483647 * 16777215 < 2 ^ 55 := by decide
          omega
        · obtain ⟨j, rfl⟩ : ∃ j, k = j + 1 := ⟨k - 1, by omega⟩
          have h4 := prod_half (a := a) (b := b) (by omega) (by omega)
          rw [Nat.mul_comm b a] at h4
          show b * (a % b) * 2 ^ (j + 1) < 2 ^ 55
          have h5 : b * (a % b) * 2 ^ (j + 1) = 2 * (b * (a % b)) * 2 ^ j := by
            rw [Nat.pow_succ]
            generalize b * (a % b) = X
            generalize 2 ^ j = Y
            rw [Nat.mul_comm Y 2, ← Nat.mul_assoc, Nat.mul_comm X 2]
          rw [h5]
          have h6 : 2 * (b * (a % b)) * 2 ^ j ≤ a * b * 2 ^ j := Nat.mul_le_mul_right _ (by omega)
          have h7 : a * b * 2 ^ j < 2 ^ 55 := h3
          omega) ⟨lo, up, rfl, by omega, hu, rfl, Or.inl ⟨rfl, rfl, rfl⟩⟩ (by omega)
  rw [e, hz]
theorem L_gcdM : ∀ (f a b : Nat), b < a → a * b < 2 ^ f → a < 2 ^ 62 → X11_gcd (f + 1) (lN a) (lN b) = some (lN (Nat.gcd a b))
  | 0, a, b, h1, h2, h3 => by
    have hb : b = 0 := by
      apply Classical.byContradiction
      intro h
      have : 1 ≤ a * b := Nat.mul_pos (by omega) (by omega)
      have : (2 : Nat) ^ 0 = 1 := rfl
      omega
    subst hb
    show X11_gcd_b0 (X11_gcd 0) (lN a) (lN 0) = _
    unfold X11_gcd_b0
    rw [if_pos (show lg_cmp (lN 0) 0 = 0 by decide), Nat.gcd_zero_right]
  | f + 1, a, b, h1, h2, h3 => by
    show X11_gcd_b0 (X11_gcd (f + 1)) (lN a) (lN b) = _
    unfold X11_gcd_b0
    by_cases h0 : b = 0
    · subst h0
      rw [if_pos (show lg_cmp (lN 0) 0 = 0 by decide), Nat.gcd_zero_right]
    · have nz : ¬ lN b = 0 := by
        rw [show (0 : Int64) = lN 0 from rfl, pk_lEQ (by omega) (by decide)]
        exact h0
      have hm := Nat.mod_lt a (show 0 < b by omega)
      rw [if_neg (by rw [lg_cmp_eq]; exact nz)]
      unfold gzl
      rw [if_neg nz, show lrem (lN a) (lN b) = lN (a % b) from pk_lRem (by omega) (by omega) (by omega)]
      have h4 := prod_half (a := a) (b := b) (by omega) (by omega)
      rw [Nat.mul_comm b a] at h4
      have h5 : (2 : Nat) ^ (f + 1) = 2 * 2 ^ f := by rw [Nat.pow_succ, Nat.mul_comm]
      rw [L_gcdM f b (a % b) hm (by omega) (by omega), Option.bind_some, Nat.gcd_comm b (a % b), ← Nat.gcd_rec b a, Nat.gcd_comm b a]
section OD
variable {vs : (Nat → Int32) → Int32} {n : Nat} {day unmet : Int32} {skill pills slept woken wanted now : Nat → Int32} {size : Int32} {code : Nat → Int32} {ruleSize : Int32} {rule : Nat → Int32} {tsz rm : Int32} {tnum row : Nat → Int64}
/-- how likely just a set does -/
def TM (vs : (Nat → Int32) → Int32) (n : Nat) (a : Nat → Int32) (q p s : Nat) : Nat :=
  if sd s (WB n a q) = 0 then (if (decide (a (7 + q) = 0) && decide (¬ NB vs n a q s = 0)) = true then p ^ pc s * (10 - p) ^ (pc (WB n a q) - pc s) else 0) else 0
theorem pow_b {p a b : Nat} (hp : p ≤ 10) (h : a + b ≤ 7) : p ^ a * (10 - p) ^ b ≤ 10 ^ 7 := by
  have h1 : p ^ a ≤ 10 ^ a := Nat.pow_le_pow_left hp a
  have h2 : (10 - p) ^ b ≤ 10 ^ b := Nat.pow_le_pow_left (by omega) b
  have h3 : p ^ a * (10 - p) ^ b ≤ 10 ^ a * 10 ^ b := Nat.mul_le_mul h1 h2
  rw [← Nat.pow_add] at h3
  exact Nat.le_trans h3 (Nat.pow_le_pow_right (by decide) h)
theorem TM_le {q p : Nat} (hp : p ≤ 10) (s : Nat) : TM vs n now q p s ≤ 10 ^ 7 := by
  have h1 := pc_le (WB n now q)
  unfold TM
  split
  · split
    · by_cases h : pc s ≤ pc (WB n now q)
      · exact pow_b hp (by omega)
      · have h2 := pc_le s
        rw [show pc (WB n now q) - pc s = 0 by omega]
        exact pow_b hp (by omega)
    · exact Nat.zero_le _
  · exact Nat.zero_le _
theorem L_oddsC (h : RF n day unmet skill pills slept woken wanted now) (hv : RV vs size code) (hc : VC vs) (stack thing : Nat → Int32) {q p : Nat} (hq : q < n) (hp : p ≤ 10) : ∃ z, lp (fun x44 : Int32 × Int32 × (Nat → Int32) × (Nat → Int32) => X10_odds_s44 (o32 n) day skill pills slept wanted size code (o32 q) (o32 p) (o32 (WB n now q)) x44.1 x44.2.1 x44.2.2.1 x44.2.2.2) 1000 ((0 : Int32), (0 : Int32), stack, thing) = some z ∧ z.1 = o32 (su (TM vs n now q p) 128) := by
  have hn := h.nn
  have hW : WB n now q < 128 := bm_128 hn
  refine lp_ct (fun k x => x.1 = o32 (su (TM vs n now q p) k) ∧ x.2.1 = o32 k) _ 128 _ ⟨rfl, rfl⟩ ?_ ?_ (by decide)
  · rintro k ⟨x0, i, u1, u2⟩ hk ⟨h1, h2⟩
    have h1 : x0 = _ := h1
    have h2 : i = _ := h2
    subst h1 h2
    have e128 : (128 : Int32) = o32 128 := rfl
    have e10 : (10 : Int32) = o32 10 := rfl
    have hsd : sd k (WB n now q) < 128 := sd_lt hk
    have p1 := pc_le k
    have p2 := pc_le (WB n now q)
    obtain ⟨g, eg, hg⟩ := L_rouses h hv hc u1 u2 hq hk
    have es : su (TM vs n now q p) (k + 1) = su (TM vs n now q p) k + TM vs n now q p k := rfl
    by_cases c1 : sd k (WB n now q) = 0
    · have hle := sd_sub hk c1
      have hpc : pc k ≤ pc (WB n now q) := by
        have := ((sub_all hW hle).2 c1).2
        omega
      cases hb : (decide (now (7 + q) = 0) && decide (¬ NB vs n now q k = 0)) with
      | false =>
        rw [hb] at hg
        refine ⟨(o32 (su (TM vs n now q p) k), o32 (k + 1), g.2.1, g.2.2), ?_, ?_, rfl⟩
        · have ebf : (bi false = 0) = True := eq_true rfl
          simp (disch := omega) only [X10_odds_s44, e128, i_ge, sd_o hk hW, o0, c1, if_true, eg, hg, ebf, Option.bind_some, o_s]
        · show o32 _ = o32 _
          rw [es, show TM vs n now q p k = 0 by unfold TM; rw [if_pos c1, hb]; rfl, Nat.add_zero]
      | true =>
        rw [hb] at hg
        refine ⟨(o32 (su (TM vs n now q p) (k + 1)), o32 (k + 1), g.2.1, g.2.2), ?_, rfl, rfl⟩
        have ebt : (bi true = 0) = False := eq_false (by decide)
        have et : TM vs n now q p k = p ^ pc k * (10 - p) ^ (pc (WB n now q) - pc k) := by unfold TM; rw [if_pos c1, hb, if_pos rfl]
        rw [es, et]
        simp (disch := omega) only [X10_odds_s44, e128, i_ge, sd_o hk hW, o0, c1, if_true, eg, hg, ebt, if_false, Option.bind_some, o_s, bc_o hk, bc_o hW, L_pow, e10, o_sub, o_mul, o_add]
    · refine ⟨(o32 (su (TM vs n now q p) k), o32 (k + 1), u1, u2), ?_, ?_, rfl⟩
      · simp (disch := omega) only [X10_odds_s44, e128, i_ge, sd_o hk hW, o0, c1, if_false, o_s]
      · show o32 _ = o32 _
        rw [es, show TM vs n now q p k = 0 by unfold TM; rw [if_neg c1], Nat.add_zero]
  · rintro ⟨x0, i, u1, u2⟩ ⟨h1, h2⟩
    have h2 : i = _ := h2
    subst h2
    exact ⟨(x0, u1, u2), rfl, h1⟩
theorem L_prod {q p s : Nat} (hn : n ≤ 7) (hp : p ≤ 10) (hs : s < 128) : lp (fun x116 : Int64 × Int32 => X11_odds_s116 (o32 n) (o32 p) (o32 (WB n now q)) (o32 s) x116.1 x116.2) 1000 ((1 : Int64), (0 : Int32)) = some (lN (p ^ cn (fun k => (WB n now q).testBit k && !s.testBit k) n * (10 - p) ^ cn (fun k => (WB n now q).testBit k && s.testBit k) n)) := by
  have hW : WB n now q < 128 := bm_128 hn
  obtain ⟨z, e, hz⟩ := lp_ct (f := fun x116 : Int64 × Int32 => X11_odds_s116 (o32 n) (o32 p) (o32 (WB n now q)) (o32 s) x116.1 x116.2) (fun i x => x = (lN (p ^ cn (fun k => (WB n now q).testBit k && !s.testBit k) i * (10 - p) ^ cn (fun k => (WB n now q).testBit k && s.testBit k) i), o32 i)) (fun z => z = lN (p ^ cn (fun k => (WB n now q).testBit k && !s.testBit k) n * (10 - p) ^ cn (fun k => (WB n now q).testBit k && s.testBit k) n)) n ((1 : Int64), (0 : Int32)) rfl (by
    rintro k x hk rfl
    refine ⟨(lN (p ^ cn (fun k => (WB n now q).testBit k && !s.testBit k) (k + 1) * (10 - p) ^ cn (fun k => (WB n now q).testBit k && s.testBit k) (k + 1)), o32 (k + 1)), ?_, rfl⟩
    have e10 : (10 : Int32) = o32 10 := rfl
    have t1 : (o32 p).toInt64 = lN p := nI_l (by omega)
    have t2 : (o32 (10 - p)).toInt64 = lN (10 - p) := nI_l (by omega)
    simp (disch := omega) only [X11_odds_s116, i_ge, pu_has hW (show k < 7 by omega), pu_has hs (show k < 7 by omega), bi_if, e10, o_sub, t1, t2, o_s]
    show _ = some (Sum.inl (lN (p ^ (cn (fun k => (WB n now q).testBit k && !s.testBit k) k + ((WB n now q).testBit k && !s.testBit k).toNat) * (10 - p) ^ (cn (fun k => (WB n now q).testBit k && s.testBit k) k + ((WB n now q).testBit k && s.testBit k).toNat)), _))
    cases (WB n now q).testBit k with
    | false => rfl
    | true =>
      cases s.testBit k with
      | false =>
        show some (Sum.inl (lN _ * lN p, _)) = some (Sum.inl (lN (p ^ (_ + 1) * (10 - p) ^ (_ + 0)), _))
        rw [lN_mul, Nat.pow_succ, Nat.mul_right_comm]
        rfl
      | true =>
        show some (Sum.inl (lN _ * lN (10 - p), _)) = some (Sum.inl (lN (p ^ (_ + 0) * (10 - p) ^ (_ + 1)), _))
        rw [lN_mul, Nat.pow_succ, Nat.mul_assoc]
        rfl) (by
    rintro x rfl
    refine ⟨lN (p ^ cn (fun k => (WB n now q).testBit k && !s.testBit k) n * (10 - p) ^ cn (fun k => (WB n now q).testBit k && s.testBit k) n), ?_, rfl⟩
    simp (disch := omega) only [X11_odds_s116, i_le]) (by omega)
  rw [e, hz]
theorem pc_cn {m : Nat} (hn : n ≤ 7) (hm : m < 2 ^ n) : pc m = cn m.testBit n := cn_tail hn (fun k h1 _ => tb_hi hm h1)
theorem L_oddsM (h : RI n now) (hm : RM vs ruleSize rule) (hc : VC vs) (len top at' wrong isAsked : Int32) (asked thn : Nat → Int32) {q p : Nat} (hq : q < n) (hp : p ≤ 10) : ∃ z, lp (fun x70 : Int64 × Int32 × Int32 × Int32 × Int32 × Int32 × Int32 × (Nat → Int32) × (Nat → Int32) => X11_odds_s70 (o32 n) ruleSize now rule (o32 q) (o32 p) (o32 (WB n now q)) x70.1 x70.2.1 x70.2.2.1 x70.2.2.2.1 x70.2.2.2.2.1 x70.2.2.2.2.2.1 x70.2.2.2.2.2.2.1 x70.2.2.2.2.2.2.2.1 x70.2.2.2.2.2.2.2.2) 1000 ((0 : Int64), (0 : Int32), len, top, at', wrong, isAsked, asked, thn) = some z ∧ z.1 = lN (su (fun d => TM vs n now q p (WB n now q - d)) (WB n now q + 1)) := by
  have hn := h.1
  have hW : WB n now q < 128 := bm_128 hn
  have hWn : WB n now q < 2 ^ n := bm_lt _ n
  refine lp_ct (fun k x => x.1 = lN (su (fun d => TM vs n now q p (WB n now q - d)) k) ∧ x.2.1 = o32 k) _ (WB n now q + 1) _ ⟨rfl, rfl⟩ ?_ ?_ (by omega)
  · rintro k ⟨x0, i, v1, v2, v3, v4, v5, v6, x⟩ hk ⟨h1, h2⟩
    have h1 : x0 = _ := h1
    have h2 : i = _ := h2
    subst h1 h2
    have hk7 : k < 128 := by omega
    have hsd : sd k (WB n now q) < 128 := sd_lt hk7
    have hA := sub_all hW (show k ≤ WB n now q by omega)
    have es : su (fun d => TM vs n now q p (WB n now q - d)) (k + 1) = su (fun d => TM vs n now q p (WB n now q - d)) k + TM vs n now q p (WB n now q - k) := rfl
    by_cases c1 : sd k (WB n now q) = 0
    · have hA2 := hA.2 c1
      have c2 : sd (WB n now q - k) (WB n now q) = 0 := hA.1.mp c1
      obtain ⟨r, er, hr⟩ := L_drop h x hk7 hq
      obtain ⟨g, eg, hg⟩ := L_isAwake (vs := vs) (DR_ri h) hr hm hc v1 v2 v3 v4 v5 v6 hq
      rw [DR_ia h hq, hA2.1] at hg
      cases hb : (decide (now (7 + q) = 0) && decide (¬ NB vs n now q (WB n now q - k) = 0)) with
      | false =>
        rw [hb] at hg
        refine ⟨(lN (su (fun d => TM vs n now q p (WB n now q - d)) k), o32 (k + 1), g.2.1, g.2.2.1, g.2.2.2.1, g.2.2.2.2.1, g.2.2.2.2.2.1, g.2.2.2.2.2.2, r), ?_, ?_, rfl⟩
        · have ebf : (bi false = 0) = True := eq_true rfl
          simp (disch := omega) only [X11_odds_s70, i_lt, sd_o hk7 hW, o0, c1, if_true, er, eg, hg, ebf, Option.bind_some, o_s]
        · show lN _ = lN _
          rw [es, show TM vs n now q p (WB n now q - k) = 0 by unfold TM; rw [if_pos c2, hb]; rfl, Nat.add_zero]
      | true =>
        rw [hb] at hg
        have ebt : (bi true = 0) = False := eq_false (by decide)
        have et : TM vs n now q p (WB n now q - k) = p ^ cn (fun i => (WB n now q).testBit i && !k.testBit i) n * (10 - p) ^ cn (fun i => (WB n now q).testBit i && k.testBit i) n := by
          unfold TM
          rw [if_pos c2, hb, if_pos rfl]
          have e1 : pc (WB n now q - k) = cn (fun i => (WB n now q).testBit i && !k.testBit i) n := by
            rw [pc_cn hn (show WB n now q - k < 2 ^ n by omega), ← hA2.1]
            exact cn_ext (fun i _ => sd_tb hW k i)
          have e2 : pc k = cn (fun i => (WB n now q).testBit i && k.testBit i) n := by
            rw [pc_cn hn (show k < 2 ^ n by omega)]
            refine cn_ext (fun i _ => ?_)
            have h3 := sd_tb hk7 (WB n now q) i
            rw [c1, Nat.zero_testBit] at h3
            have h4 : ∀ a b : Bool, false = (a && !b) → a = (b && a) := by decide
            exact h4 _ _ h3
          rw [← e1, ← e2, show pc (WB n now q) - pc (WB n now q - k) = pc k by omega]
        refine ⟨(lN (su (fun d => TM vs n now q p (WB n now q - d)) (k + 1)), o32 (k + 1), g.2.1, g.2.2.1, g.2.2.2.1, g.2.2.2.2.1, g.2.2.2.2.2.1, g.2.2.2.2.2.2, r), ?_, rfl, rfl⟩
        rw [es, et]
        simp (disch := omega) only [X11_odds_s70, i_lt, sd_o hk7 hW, o0, c1, if_true, er, eg, hg, ebt, if_false, Option.bind_some, L_prod hn hp hk7, lN_add, o_s]
    · refine ⟨(lN (su (fun d => TM vs n now q p (WB n now q - d)) k), o32 (k + 1), v1, v2, v3, v4, v5, v6, x), ?_, ?_, rfl⟩
      · simp (disch := omega) only [X11_odds_s70, i_lt, sd_o hk7 hW, o0, c1, if_false, o_s]
      · show lN _ = lN _
        rw [es, show TM vs n now q p (WB n now q - k) = 0 by unfold TM; rw [if_neg (fun e => c1 (hA.1.mpr e))], Nat.add_zero]
  · rintro ⟨x0, i, v1, v2, v3, v4, v5, v6, x⟩ ⟨h1, h2⟩
    have h2 : i = _ := h2
    subst h2
    refine ⟨(x0, v1, v2, v3, v4, v5, v6, x), ?_, h1⟩
    simp (disch := omega) only [X11_odds_s70, i_gt]
theorem L_low {t : Nat} (b : Nat) (hb : b < 128) (ht : pc b = t) : lp (fun x44 : Int64 × Int32 => X11_odds_s44 (o32 b) x44.1 x44.2) 1000 ((1 : Int64), (0 : Int32)) = some (lN (10 ^ t)) := by
  have := pc_le b
  obtain ⟨z, e, hz⟩ := lp_ct (f := fun x44 : Int64 × Int32 => X11_odds_s44 (o32 b) x44.1 x44.2) (fun k x => x = (lN (10 ^ k), o32 k)) (fun z => z = lN (10 ^ t)) t ((1 : Int64), (0 : Int32)) rfl (by
    rintro k x hk rfl
    refine ⟨(lN (10 ^ (k + 1)), o32 (k + 1)), ?_, rfl⟩
    simp (disch := omega) only [X11_odds_s44, bc_o hb, ht, i_ge, o_s]
    rw [show lN (10 ^ k) * (10 : Int64) = lN (10 ^ (k + 1)) by rw [Nat.pow_succ, ← lN_mul]; rfl]) (by
    rintro x rfl
    refine ⟨lN (10 ^ t), ?_, rfl⟩
    simp (disch := omega) only [X11_odds_s44, bc_o hb, ht, i_le]) (by omega)
  rw [e, hz]
theorem M_odds (h : RF n day unmet skill pills slept woken wanted now) (hv : RV vs size code) (hm : RM vs ruleSize rule) (hc : VC vs) (ht : TO tsz rm tnum row) (stack thing : Nat → Int32) (len top at' wrong isAsked : Int32) (asked thn : Nat → Int32) (p1 p2 : Int32) : ∃ y y', X10_odds tsz tnum (o32 n) day skill pills slept wanted size code stack thing p1 p2 = some y ∧ X11_odds (o32 n) rm len top at' wrong ruleSize isAsked now row rule asked thn p1 p2 = some y' ∧ y.1 = y'.1 ∧ TO y.2.1 y'.2.1 y.2.2.1 y'.2.2.2.2.2.2.2.2.1 := by
  have hn := h.nn
  have hri := h.ri
  rcases L_one hn p1 with ⟨q, hq, rfl, ho, ho'⟩ | ⟨ho, ho'⟩
  · have hb : ¬ X0_has (o32 n) (o32 q) = 0 := by rw [ho]; decide
    rcases pu_in p2 (lo := 0) (hi := 10) (by decide) (by decide) with ⟨i1, i2⟩ | ⟨i1, i2, i3⟩ | ⟨p, m1, m2, rfl, i1, i2, i3⟩
    · have i1 : p2 < 0 := i1
      have i2 : X11_in p2 0 10 = 0 := i2
      simp only [X10_odds, X11_odds, hb, ho', i1, i2, pu_10, Option.bind_some, if_true, if_false]
      exact ⟨_, _, rfl, rfl, rfl, ht⟩
    · have i1 : ¬ p2 < 0 := i1
      have i2 : ¬ p2 ≤ 10 := i2
      have i3 : X11_in p2 0 10 = 0 := i3
      simp only [X10_odds, X11_odds, hb, ho', i1, i2, i3, pu_10, Option.bind_some, if_true, if_false]
      exact ⟨_, _, rfl, rfl, rfl, ht⟩
    · have i1 : ¬ o32 p < 0 := i1
      have i2 : o32 p ≤ 10 := i2
      have i3 : X11_in (o32 p) 0 10 = 1 := i3
      have hW : WB n now q < 128 := bm_128 hn
      have hpc := pc_le (WB n now q)
      obtain ⟨z, ez, hz⟩ := L_oddsC h hv hc stack thing hq m2
      obtain ⟨z', ez', hz'⟩ := L_oddsM (vs := vs) hri hm hc len top at' wrong isAsked asked thn hq m2
      have esum : su (fun d => TM vs n now q p (WB n now q - d)) (WB n now q + 1) = su (TM vs n now q p) 128 := by
        rw [su_rev (TM vs n now q p) (WB n now q)]
        exact (su_tail (by omega) (fun k h1 h2 => by
          unfold TM
          rw [if_neg (fun e => by have := sd_sub h2 e; omega)])).symm
      rw [esum] at hz'
      have hU : su (TM vs n now q p) 128 ≤ 10 ^ 7 * 128 := su_le (TM_le m2) 128
      have hU2 : su (TM vs n now q p) 128 < 2147483648 := Nat.lt_of_le_of_lt hU (by decide)
      generalize su (TM vs n now q p) 128 = U at hz hz' hU2
      have e10 : (10 : Int32) = o32 10 := rfl
      have hL : 0 < 10 ^ pc (WB n now q) := Nat.pow_pos (by decide)
      have hL2 : 10 ^ pc (WB n now q) < 16777216 := Nat.lt_of_le_of_lt (Nat.pow_le_pow_right (by decide) hpc) (by decide)
      have eP : X10_power 10 (o32 (pc (WB n now q))) = some (o32 (10 ^ pc (WB n now q))) := L_pow 10 _ (by omega)
      have eL := L_low (WB n now q) hW rfl
      generalize 10 ^ pc (WB n now q) = L at hL hL2 eP eL
      have eG := L_gcdC hL hL2 hU2
      have hg0 : 0 < Nat.gcd L U := Nat.gcd_pos_of_pos_left U hL
      have hgl : Nat.gcd L U ≤ L := Nat.gcd_le_left U hL
      have eGM : X11_gcd 100 (lN U) (lN L) = some (lN (Nat.gcd L U)) := by
        show X11_gcd_b0 (X11_gcd 99) (lN U) (lN L) = _
        unfold X11_gcd_b0
        have nz : ¬ lN L = 0 := by
          rw [show (0 : Int64) = lN 0 from rfl, pk_lEQ (by omega) (by decide)]
          omega
        have hm := Nat.mod_lt U hL
        rw [if_neg (by rw [lg_cmp_eq]; exact nz)]
        unfold gzl
        rw [if_neg nz, show lrem (lN U) (lN L) = lN (U % L) from pk_lRem (by omega) (by omega) (by omega)]
        have h5 : L * (U % L) ≤ 16777215 * 16777215 := Nat.mul_le_mul (by omega) (by omega)
        have h6 : 16777215 * 16777215 < 2 ^ 98 := by decide
        rw [L_gcdM 98 L (U % L) hm (by omega) (by omega), Option.bind_some, Nat.gcd_comm L (U % L), ← Nat.gcd_rec L U]
      have gz0 : (o32 (Nat.gcd L U) = 0) = False := by rw [o0 (by omega)]; exact eq_false (by omega)
      have gzn : ¬ o32 (Nat.gcd L U) = 0 := by rw [gz0]; exact id
      have gzl0 : ¬ lN (Nat.gcd L U) = 0 := by
        rw [show (0 : Int64) = lN 0 from rfl, pk_lEQ (by omega) (by decide)]
        omega
      have q1 : o32 U / o32 (Nat.gcd L U) = o32 (U / Nat.gcd L U) := pu_div hU2 hg0 (by omega)
      have q2 : o32 L / o32 (Nat.gcd L U) = o32 (L / Nat.gcd L U) := pu_div (by omega) hg0 (by omega)
      have q3 : lN U / lN (Nat.gcd L U) = lN (U / Nat.gcd L U) := pk_lDiv (by omega) hg0 (by omega)
      have q4 : lN L / lN (Nat.gcd L U) = lN (L / Nat.gcd L U) := pk_lDiv (by omega) hg0 (by omega)
      have d1 : U / Nat.gcd L U ≤ U := Nat.div_le_self _ _
      have d2 : L / Nat.gcd L U ≤ L := Nat.div_le_self _ _
      have t1 : (o32 (U / Nat.gcd L U)).toInt64 = lN (U / Nat.gcd L U) := nI_l (by omega)
      have t2 : (o32 (L / Nat.gcd L U)).toInt64 = lN (L / Nat.gcd L U) := nI_l (by omega)
      obtain ⟨t, t', t'', et, et', et'', ht'⟩ := TO.both tnum row (lN (U / Nat.gcd L U)) (lN (L / Nat.gcd L U))
      simp only [X10_odds, X10_tellsFraction, X11_odds, hb, ho', i1, i2, i3, pu_10, if_true, if_false, Option.bind_some, L_wby h (show q < 7 by omega), L_wbm hri EQ.rf (show q < 7 by omega), ez, ez', un, hz, hz', bc_o hW, eP, eL, eG, eGM, gz0, gz, if_neg gzn, gzl, if_neg gzl0, q1, q2, q3, q4, t1, t2, et, et', et'']
      exact ⟨_, _, rfl, rfl, rfl, ht'⟩
  · simp only [X10_odds, X11_odds, ho, ho', Option.bind_some, if_true]
    exact ⟨_, _, rfl, rfl, rfl, ht⟩
end OD
