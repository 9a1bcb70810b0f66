/-! ===== the pure level: keep, again; THE TEXT: sign, end ===== -/
def KP (K n : Nat) (came : Int32) (valid kN kD kU : Nat → Int32) (kK kP kL kW kT : Nat → Nat → Int32) (kept isKept keptCame : Nat → Int32) : Prop :=
  ∃ c, c ≤ K ∧ came = o32 c ∧ ∀ i, i < 2 → ∃ c', c' ≤ c ∧ keptCame i = o32 c' ∧ ((valid i = 1 ∧ isKept i = 1 ∧ c' = c ∧ kN i = o32 n ∧ RF n (kD i) (kU i) (kK i) (kP i) (kL i) (kW i) (kT i) (fun j => kept (37 * i + j))) ∨ (valid i = 0 ∧ (isKept i = 0 ∨ c' < c)))
theorem KP.mo {K K' n : Nat} {came : Int32} {valid kN kD kU : Nat → Int32} {kK kP kL kW kT : Nat → Nat → Int32} {kept isKept keptCame : Nat → Int32} (h : KP K n came valid kN kD kU kK kP kL kW kT kept isKept keptCame) (hK : K ≤ K') : KP K' n came valid kN kD kU kK kP kL kW kT kept isKept keptCame := by
  obtain ⟨c, h1, h2⟩ := h
  exact ⟨c, by omega, h2⟩
theorem pu_nb1 : vp_nar .boolean 1 = 1 := by decide
theorem pu_nb0 : vp_nar .boolean 0 = 0 := by decide
section KS
variable {K n : Nat} {day unmet : Int32} {skill pills slept woken wanted now : Nat → Int32} {came : Int32} {valid kN kD kU : Nat → Int32} {kK kP kL kW kT : Nat → Nat → Int32} {kept isKept keptCame : Nat → Int32}
/-- people or wants told came: nothing that was kept comes back -/
theorem L_forgets {n' : Nat} (hk : KP K n came valid kN kD kU kK kP kL kW kT kept isKept keptCame) (hK : K < 100000) : ∃ z, X3_forgetsAll valid = some z ∧ z.1 = 0 ∧ KP (K + 1) n' (came + 1) z.2 kN kD kU kK kP kL kW kT kept isKept keptCame := by
  obtain ⟨z, e, hz⟩ := lp_ct (f := fun x7 : Int32 × (Nat → Int32) => X3_forgetsAll_s7 x7.1 x7.2) (fun k x => x.1 = o32 k ∧ ∀ j, j < k → x.2 j = 0) (fun z => ∀ j, j < 2 → z j = 0) 2 ((0 : Int32), valid) ⟨rfl, fun j hj => absurd hj (Nat.not_lt_zero j)⟩ (by
    rintro k ⟨i, x⟩ hk ⟨h1, h2⟩
    have h1 : i = _ := h1
    subst h1
    have e2 : (2 : Int32) = o32 2 := rfl
    refine ⟨(o32 (k + 1), upd x k 0), ?_, rfl, fun j hj => ?_⟩
    · simp (disch := omega) only [X3_forgetsAll_s7, e2, i_ge, gi_o, o_cl, o_s, pu_nb0]
    · show upd x k 0 j = 0
      by_cases e : j = k
      · subst e; exact pk_us
      · rw [pk_un e]; exact h2 j (by omega)) (by
    rintro ⟨i, x⟩ ⟨h1, h2⟩
    have h1 : i = _ := h1
    subst h1
    exact ⟨x, rfl, h2⟩) (by omega)
  refine ⟨(0, z), ?_, rfl, ?_⟩
  · unfold X3_forgetsAll
    rw [e]
    rfl
  · obtain ⟨c, h1, rfl, h2⟩ := hk
    refine ⟨c + 1, by omega, o_s c, fun i hi => ?_⟩
    obtain ⟨c', g1, g2, g3⟩ := h2 i hi
    exact ⟨c', by omega, g2, Or.inr ⟨hz i hi, Or.inr (by omega)⟩⟩
theorem M_keep (h : RF n day unmet skill pills slept woken wanted now) (hk : KP K n came valid kN kD kU kK kP kL kW kT kept isKept keptCame) (hK : K < 100000) (p1 : Int32) : ∃ y y', X10_keep (o32 n) day unmet skill pills slept woken wanted kN kD kU kK kP kL kW kT valid p1 = some y ∧ X11_keep came now kept isKept keptCame p1 = some y' ∧ y.1 = y'.1 ∧ KP K n came y.2.2.2.2.2.2.2.2.2 y.2.1 y.2.2.1 y.2.2.2.1 y.2.2.2.2.1 y.2.2.2.2.2.1 y.2.2.2.2.2.2.1 y.2.2.2.2.2.2.2.1 y.2.2.2.2.2.2.2.2.1 y'.2.2.1 y'.2.2.2.1 y'.2.2.2.2 := by
  have hb0 : ∀ {α : Type} {x : Option α}, gn .boolean 0 x = x := gn_b (Or.inl rfl)
  have hb1 : ∀ {α : Type} {x : Option α}, gn .boolean 1 x = x := gn_b (Or.inr rfl)
  rcases pu_in p1 (lo := 0) (hi := 1) (by decide) (by decide) with ⟨i1, i2⟩ | ⟨i1, i2, i3⟩ | ⟨m, m1, m2, rfl, i1, i2, i3⟩
  · have i1 : p1 < 0 := i1
    have i2 : X11_in p1 0 1 = 0 := i2
    simp only [X10_keep, X3_keeps, X11_keep, i1, i2, if_true, Option.bind_some, hb0]
    exact ⟨_, _, rfl, rfl, rfl, hk⟩
  · have i1 : ¬ p1 < 0 := i1
    have i2 : ¬ p1 < 2 := by
      intro hlt
      apply i2
      obtain ⟨q, hq, rfl⟩ := o_of i1
      have hlt : o32 q < o32 2 := hlt
      rw [o_lt hq (by decide)] at hlt
      rw [o_le hq (by decide)]
      omega
    have i3 : X11_in p1 0 1 = 0 := i3
    simp only [X10_keep, X3_keeps, X11_keep, i1, i2, i3, if_true, if_false, Option.bind_some, hb0]
    exact ⟨_, _, rfl, rfl, rfl, hk⟩
  · have i1 : ¬ o32 m < 0 := i1
    have i2 : o32 m < 2 := by
      show o32 m < o32 2
      rw [o_lt (by omega) (by decide)]; omega
    have i3 : X11_in (o32 m) 0 1 = 1 := i3
    obtain ⟨y, ey, e1, hy⟩ := L_trial h (kK m) (kP m) (kL m) (kW m) (kT m)
    obtain ⟨t, et, ht1, ht2⟩ := L_layAt (w := now) (t := kept) (N := 74) (B := 37 * m) (by omega) (by omega)
    have e37 : (37 : Int32) = o32 37 := rfl
    simp (disch := omega) only [X10_keep, X3_keeps, X11_keep, i1, i2, i3, pu_10, if_true, if_false, Option.bind_some, gi_o, o_cl, ey, hb1, e37, o_mul, et, pu_nb1]
    refine ⟨_, _, rfl, rfl, rfl, ?_⟩
    obtain ⟨c, h1, rfl, h2⟩ := hk
    refine ⟨c, h1, rfl, fun i hi => ?_⟩
    by_cases e : i = m
    · subst e
      simp only [fu_s, pk_us]
      exact ⟨c, Nat.le_refl c, rfl, Or.inl ⟨True.intro, True.intro, rfl, e1, hy.eq (fun j hj => ht1 j hj)⟩⟩
    · obtain ⟨c', g1, g2, g3⟩ := h2 i hi
      simp only [fu_n e, pk_un e]
      refine ⟨c', g1, g2, ?_⟩
      rcases g3 with ⟨a1, a2, a3, a4, a5⟩ | g3
      · refine Or.inl ⟨a1, a2, a3, a4, a5.eq (fun j hj => ?_)⟩
        exact ht2 _ (by omega)
      · exact Or.inr g3
theorem M_again {next size um : Int32} {sN sD sU : Nat → Int32} {sK sP sL sW sT : Nat → Nat → Int32} {undos : Nat → Int32} (h : RF n day unmet skill pills slept woken wanted now) (hp : PA n next size um sN sD sU sK sP sL sW sT undos) (hk : KP K n came valid kN kD kU kK kP kL kW kT kept isKept keptCame) (hK : K < 100000) (p1 : Int32) : ∃ y y', X10_again (o32 n) day unmet skill pills slept woken wanted size kN kD kU kK kP kL kW kT valid p1 = some y ∧ X11_again um came now kept isKept keptCame p1 = some y' ∧ y.1 = y'.1 ∧ y.2.1 = o32 n ∧ RF n y.2.2.1 y.2.2.2.1 y.2.2.2.2.1 y.2.2.2.2.2.1 y.2.2.2.2.2.2.1 y.2.2.2.2.2.2.2.1 y.2.2.2.2.2.2.2.2.1 y'.2.2.2 ∧ PA n next y.2.2.2.2.2.2.2.2.2 y'.2.2.1 sN sD sU sK sP sL sW sT undos := by
  have hb0 : ∀ {α : Type} {x : Option α}, gn .boolean 0 x = x := gn_b (Or.inl rfl)
  have hb1 : ∀ {α : Type} {x : Option α}, gn .boolean 1 x = x := gn_b (Or.inr rfl)
  rcases pu_in p1 (lo := 0) (hi := 1) (by decide) (by decide) with ⟨i1, i2⟩ | ⟨i1, i2, i3⟩ | ⟨m, m1, m2, rfl, i1, i2, i3⟩
  · have i1 : p1 < 0 := i1
    have i2 : X11_in p1 0 1 = 0 := i2
    simp only [X10_again, X3_bringsKept, X11_again, i1, i2, if_true, Option.bind_some, hb0]
    exact ⟨_, _, rfl, rfl, rfl, rfl, h, hp⟩
  · have i1 : ¬ p1 < 0 := i1
    have i2 : (2 : Int32) ≤ p1 := by
      obtain ⟨q, hq, rfl⟩ := o_of i1
      show o32 2 ≤ o32 q
      rw [o_le hq (by decide)] at i2
      rw [o_le (by decide) hq]
      omega
    have i3 : X11_in p1 0 1 = 0 := i3
    simp only [X10_again, X3_bringsKept, X11_again, i1, i2, i3, if_true, if_false, Option.bind_some, hb0]
    exact ⟨_, _, rfl, rfl, rfl, rfl, h, hp⟩
  · have i1 : ¬ o32 m < 0 := i1
    have i2 : ¬ (2 : Int32) ≤ o32 m := by
      show ¬ o32 2 ≤ o32 m
      rw [o_le (by decide) (by omega)]; omega
    have i3 : X11_in (o32 m) 0 1 = 1 := i3
    obtain ⟨c, h1, rfl, h2⟩ := hk
    obtain ⟨c', g1, g2, g3⟩ := h2 m (by omega)
    rcases g3 with ⟨a1, a2, rfl, a4, a5⟩ | ⟨a1, a2⟩
    · obtain ⟨y, ey, e1, hy⟩ := L_trial a5 skill pills slept woken wanted
      obtain ⟨z, ez, hz⟩ := lp_ct (f := fun x40 : Int32 × (Nat → Int32) => X11_again_s40 kept (o32 m) x40.1 x40.2) (fun k x => x.1 = o32 k ∧ ∀ j, j < k → x.2 j = kept (37 * m + j)) (fun z => EQ z (fun j => kept (37 * m + j))) 37 ((0 : Int32), now) ⟨rfl, fun j hj => absurd hj (Nat.not_lt_zero j)⟩ (by
        rintro k ⟨i, x⟩ hk ⟨h1, h2⟩
        have h1 : i = _ := h1
        subst h1
        have e37 : (37 : Int32) = o32 37 := rfl
        refine ⟨(o32 (k + 1), upd x k (kept (37 * m + k))), ?_, rfl, fun j hj => ?_⟩
        · simp (disch := omega) only [X11_again_s40, e37, i_ge, o_mul, o_add, gi_o, o_cl, o_s]
        · show upd x k _ j = _
          by_cases e : j = k
          · subst e; exact pk_us
          · rw [pk_un e]; exact h2 j (by omega)) (by
        rintro ⟨i, x⟩ ⟨h1, h2⟩
        have h1 : i = _ := h1
        subst h1
        exact ⟨x, rfl, h2⟩) (by omega)
      simp (disch := omega) only [X10_again, X3_bringsKept, X11_again, i1, i2, i3, pu_10, if_true, if_false, Option.bind_some, gi_o, o_cl, a1, a2, g2, a4, ey, ez, hb1]
      refine ⟨_, _, rfl, rfl, rfl, e1, hy.eq hz, ?_⟩
      obtain ⟨nx, sz, hnx, hsz, e2, -, -, -⟩ := hp
      exact ⟨nx, 0, hnx, by omega, e2, rfl, rfl, fun i hi => absurd hi (Nat.not_lt_zero i)⟩
    · have e0 : ((0 : Int32) = 0) = True := eq_true rfl
      rcases a2 with a2 | a2
      · simp (disch := omega) only [X10_again, X3_bringsKept, X11_again, i1, i2, i3, pu_10, if_true, if_false, Option.bind_some, gi_o, o_cl, a1, a2, hb0]
        exact ⟨_, _, rfl, rfl, rfl, rfl, h, hp⟩
      · have e2 : (o32 c' = o32 c) = False := by rw [o_eq (by omega) (by omega)]; exact eq_false (by omega)
        simp (disch := omega) only [X10_again, X3_bringsKept, X11_again, i1, i2, i3, pu_10, if_true, if_false, Option.bind_some, gi_o, o_cl, a1, g2, e2, hb0, ite_self]
        exact ⟨_, _, rfl, rfl, rfl, rfl, h, hp⟩
end KS
/-! THE TEXT -/
def TX (size typed : Int32) (signs text : Nat → Int32) : Prop :=
  ∃ t, t ≤ 80 ∧ size = o32 t ∧ typed = o32 t ∧ ∀ k, k < 80 → ∃ b, b < 256 ∧ signs k = o32 b ∧ text k = (o32 b).toInt8.toInt32
theorem pu_byte (v : Int32) {s k : Nat} (hs : s = 8 * k) (hk : k < 4) : ∃ b, b < 256 ∧ vp_nar .char ((((iushr v (o32 s)) &&& (255 : Int32)).toUInt32 % 65536).toInt32) = o32 b ∧ vp_nar .byte ((v >>> (((8 : Int32) * o32 k) &&& 31)).toInt8.toInt32) = (o32 b).toInt8.toInt32 := by
  have e1 : iushr v (o32 s) &&& 255 = o32 ((iushr v (o32 s)).toBitVec.toNat % 256) := pk_and _ 8 (by decide)
  have hb : (iushr v (o32 s)).toBitVec.toNat % 256 < 256 := Nat.mod_lt _ (by decide)
  refine ⟨_, hb, ?_, ?_⟩
  · rw [pk_vc, e1, pk_char]
    show nI _ = nI _
    rw [show o32 ((iushr v (o32 s)).toBitVec.toNat % 256) = nI ((iushr v (o32 s)).toBitVec.toNat % 256) from rfl, pk_tn (by omega), Nat.mod_eq_of_lt (by omega)]
  · rw [pk_vb]
    have h8 : (v >>> (((8 : Int32) * o32 k) &&& 31)).toInt8 = (o32 ((iushr v (o32 s)).toBitVec.toNat % 256)).toInt8 := by
      apply Int8.toInt_inj.mp
      rw [Int32.toInt_toInt8, Int32.toInt_toInt8, o_toInt (by omega)]
      have hu : v.toInt = if 2 * v.toBitVec.toNat < 2 ^ 32 then (v.toBitVec.toNat : Int) else (v.toBitVec.toNat : Int) - (2 ^ 32 : Nat) := BitVec.toInt_eq_toNat_cond v.toBitVec
      have hlt : v.toBitVec.toNat < 2 ^ 32 := v.toBitVec.isLt
      have key : ∀ j : Nat, j = 8 * k → (v >>> (((8 : Int32) * o32 k) &&& 31)).toInt = v.toInt >>> j → (iushr v (o32 s)).toBitVec.toNat = v.toBitVec.toNat / 2 ^ j → (v >>> (((8 : Int32) * o32 k) &&& 31)).toInt.bmod (2 ^ 8) = (((iushr v (o32 s)).toBitVec.toNat % 256 : Nat) : Int).bmod (2 ^ 8) := by
        intro j hj h1 h2
        rw [h1, h2, Int.shiftRight_eq_div_pow]
        have hm : (v.toInt / ((2 ^ j : Nat) : Int)) % 256 = ((v.toBitVec.toNat / 2 ^ j % 256 : Nat) : Int) % 256 := by
          rcases (by omega : k = 0 ∨ k = 1 ∨ k = 2 ∨ k = 3) with rfl | rfl | rfl | rfl <;> subst hj <;> split at hu <;> simp only [hu] <;> omega
        unfold Int.bmod
        simp only [show ((2 ^ 8 : Nat) : Int) = 256 from rfl, hm]
      refine key (8 * k) rfl (pk_shr _ _ _ ?_) (pk_ushr _ _ _ ?_)
      · rcases (by omega : k = 0 ∨ k = 1 ∨ k = 2 ∨ k = 3) with rfl | rfl | rfl | rfl <;> decide
      · subst hs
        rcases (by omega : k = 0 ∨ k = 1 ∨ k = 2 ∨ k = 3) with rfl | rfl | rfl | rfl <;> decide
    rw [h8]
theorem M_sign {size typed : Int32} {signs text : Nat → Int32} (h : TX size typed signs text) (p1 : Int32) : ∃ y y', X10_sign size signs p1 = some y ∧ X11_sign typed text p1 = some y' ∧ y.1 = y'.1 ∧ TX y.2.1 y'.2.1 y.2.2 y'.2.2.2 := by
  obtain ⟨t, ht, rfl, rfl, hb⟩ := h
  have e4 : (4 : Int32) = o32 4 := rfl
  have e80 : (80 : Int32) = o32 80 := rfl
  rcases Nat.lt_or_ge 76 t with h76 | h76
  · have q : (o32 (t + 4) ≤ o32 80) = False := by rw [o_le (by omega) (by decide)]; exact eq_false (by omega)
    simp only [X10_sign, X9_takes, X11_sign, e4, e80, o_add, q, if_false, Option.bind_some, if_true]
    exact ⟨_, _, rfl, rfl, rfl, t, ht, rfl, rfl, hb⟩
  · have q : (o32 (t + 4) ≤ o32 80) = True := by rw [o_le (by omega) (by decide)]; exact eq_true (by omega)
    obtain ⟨z, z', e, e', hz1, hz2, hz3⟩ := lp_ct2 (f := fun x16 : Int32 × Int32 × (Nat → Int32) => X9_takes_s16 p1 x16.1 x16.2.1 x16.2.2) (f' := fun x20 : Int32 × Int32 × (Nat → Int32) => X11_sign_s20 p1 x20.1 x20.2.1 x20.2.2)
      (fun k x x' => x.1 = o32 (8 * (4 - k)) - 8 ∧ x'.1 = o32 (4 - k) - 1 ∧ x.2.1 = o32 (t + k) ∧ x'.2.1 = o32 (t + k) ∧ ∀ k, k < 80 → ∃ b, b < 256 ∧ x.2.2 k = o32 b ∧ x'.2.2 k = (o32 b).toInt8.toInt32)
      (fun z z' => z.1 = o32 (t + 4) ∧ z'.1 = o32 (t + 4) ∧ ∀ k, k < 80 → ∃ b, b < 256 ∧ z.2 k = o32 b ∧ z'.2 k = (o32 b).toInt8.toInt32) 4 ((24 : Int32), o32 t, signs) ((3 : Int32), o32 t, text) ⟨rfl, rfl, rfl, rfl, hb⟩ (by
      rintro k ⟨s, i, x⟩ ⟨s', i', x'⟩ hk ⟨h1, h2, h3, h4, h5⟩
      have h1 : s = _ := h1
      have h2 : s' = _ := h2
      have h3 : i = _ := h3
      have h4 : i' = _ := h4
      have es : s = o32 (8 * (3 - k)) := by
        rw [h1, show (8 : Int32) = o32 8 from rfl, o_sub (by omega), show 8 * (4 - k) - 8 = 8 * (3 - k) by omega]
      have es' : s' = o32 (3 - k) := by
        rw [h2, o_p1 (by omega), show 4 - k - 1 = 3 - k by omega]
      clear h1 h2
      subst es es' h3 h4
      have h5 : ∀ k, k < 80 → ∃ b, b < 256 ∧ x k = o32 b ∧ x' k = (o32 b).toInt8.toInt32 := h5
      obtain ⟨b, hb1, hb2, hb3⟩ := pu_byte p1 (s := 8 * (3 - k)) (k := 3 - k) rfl (by omega)
      have n1 : (o32 (8 * (3 - k)) < 0) = False := eq_false (o_nn _ (by omega))
      have n2 : (o32 (3 - k) < 0) = False := eq_false (o_nn _ (by omega))
      simp (disch := omega) only [X9_takes_s16, X11_sign_s20, n1, n2, if_false, gi_o, o_cl, hb2, hb3]
      refine ⟨_, _, rfl, rfl, ?_, ?_, o_s _, o_s _, fun j hj => ?_⟩
      · show o32 (8 * (3 - k)) + (-8) = o32 (8 * (4 - (k + 1))) - 8
        rw [show 4 - (k + 1) = 3 - k by omega]
        exact (Int32.sub_eq_add_neg _ _).symm
      · show o32 (3 - k) + (-1) = o32 (4 - (k + 1)) - 1
        rw [show 4 - (k + 1) = 3 - k by omega]
        exact (Int32.sub_eq_add_neg _ _).symm
      · show ∃ b', b' < 256 ∧ upd x (t + k) (o32 b) j = o32 b' ∧ upd x' (t + k) _ j = _
        by_cases e : j = t + k
        · subst e; rw [pk_us, pk_us]; exact ⟨b, hb1, rfl, rfl⟩
        · rw [pk_un e, pk_un e]; exact h5 j hj) (by
      rintro ⟨s, i, x⟩ ⟨s', i', x'⟩ ⟨h1, h2, h3, h4, h5⟩
      have h1 : s = -8 := h1
      have h2 : s' = -1 := h2
      subst h1 h2
      exact ⟨(i, x), (i', x'), rfl, rfl, h3, h4, h5⟩) (by omega)
    simp only [X10_sign, X9_takes, X11_sign, e4, e80, o_add, q, if_true, e, e', Option.bind_some, un, pu_10, if_false]
    refine ⟨_, _, rfl, rfl, hz1.trans hz2.symm, t + 4, by omega, hz1, hz2, hz3⟩
theorem M_end {size typed : Int32} {signs text : Nat → Int32} (h : TX size typed signs text) (p1 : Int32) : ∃ y, X10_end size p1 = some y ∧ y.1 = (X11_end typed p1).1 ∧ TX y.2 (X11_end typed p1).2.1 signs text := by
  obtain ⟨t, ht, rfl, rfl, hb⟩ := h
  have hb0 : ∀ {α : Type} {x : Option α}, gn .boolean 0 x = x := gn_b (Or.inl rfl)
  have hb1 : ∀ {α : Type} {x : Option α}, gn .boolean 1 x = x := gn_b (Or.inr rfl)
  rcases pu_in p1 (lo := 0) (hi := t) (by omega) (by omega) with ⟨i1, i2⟩ | ⟨i1, i2, i3⟩ | ⟨m, m1, m2, rfl, i1, i2, i3⟩
  · have i1 : p1 < 0 := i1
    have i2 : X11_in p1 0 (o32 t) = 0 := i2
    simp only [X10_end, X9_cutsTo, X11_end, i1, i2, if_true, hb0]
    exact ⟨_, rfl, rfl, t, ht, rfl, rfl, hb⟩
  · have i1 : ¬ p1 < 0 := i1
    have i3 : X11_in p1 0 (o32 t) = 0 := i3
    simp only [X10_end, X9_cutsTo, X11_end, i1, i2, i3, if_true, if_false, hb0]
    exact ⟨_, rfl, rfl, t, ht, rfl, rfl, hb⟩
  · have i1 : ¬ o32 m < 0 := i1
    have i3 : X11_in (o32 m) 0 (o32 t) = 1 := i3
    simp only [X10_end, X9_cutsTo, X11_end, i1, i2, i3, pu_10, if_true, if_false, hb1]
    exact ⟨_, rfl, rfl, m, by omega, rfl, rfl, hb⟩
