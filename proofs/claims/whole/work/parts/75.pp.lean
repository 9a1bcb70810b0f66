/-! ===== the pure level: people, both ===== -/
section PEB
variable {K n : Nat} {day unmet : Int32} {skill pills slept woken wanted now signs text : Nat → Int32} {size typed : Int32} {came : Int32} {valid kN kD kU : Nat → Int32} {kK kP kL kW kT : Nat → Nat → Int32} {kept isKept keptCame : Nat → Int32} {next psz um : Int32} {sN sD sU : Nat → Int32} {sK sP sL sW sT : Nat → Nat → Int32} {undos : Nat → Int32}
theorem RF.gr (h : RF n day unmet skill pills slept woken wanted now) (hn : n < 7) (h1 : ∃ a, a < 10 ∧ skill n = o32 a) (h2 : ∃ a, a < 10 ∧ pills n = o32 a) (h3 : wanted n = 0) : RF (n + 1) day unmet skill pills slept woken wanted now := by
  refine ⟨by omega, h.2.1, h.2.2.1, h.2.2.2.1, fun k hk => ?_⟩
  by_cases e : k = n
  · subst e
    refine ⟨h1, h2, ?_, ?_⟩
    · rw [h3]; exact bs_0 _
    · rw [h3]
      show ¬ bt (o32 0) (o32 k)
      rw [bt_o (by decide) hn, Nat.zero_testBit]
      decide
  · have hkn : k < n := by omega
    exact ⟨h.bsk hkn, h.bpi hkn, bs_mono (h.bwa hkn) (by omega), h.bse hkn⟩
theorem RF.co (h : RF n day unmet skill pills slept woken wanted now) (hn : n < 7) {a b : Nat} (ha : a < 10) (hb : b < 10) : RF (n + 1) day unmet (upd skill n (o32 a)) (upd pills n (o32 b)) (upd slept n 0) (upd woken n 0) (upd wanted n 0) (upd (upd (upd (upd (upd now n (o32 a)) (7 + n) (o32 b)) (14 + n) 0) (21 + n) 0) (28 + n) 0) := by
  have h1 := h.s_ski (v := o32 a) hn (fun c => absurd c (Nat.lt_irrefl n))
  have h2 := h1.s_pil (v := o32 b) hn (fun c => absurd c (Nat.lt_irrefl n))
  have h3 := h2.s_sle (v := 0) hn
  have h4 := h3.s_wok (v := 0) hn
  have h5 := h4.s_wan (v := 0) hn (fun c => absurd c (Nat.lt_irrefl n))
  exact h5.gr hn ⟨a, ha, pk_us⟩ ⟨b, hb, pk_us⟩ pk_us
theorem PA.nil (hp : PA n next psz um sN sD sU sK sP sL sW sT undos) (n' : Nat) : PA n' next 0 0 sN sD sU sK sP sL sW sT undos := by
  obtain ⟨nx, sz, h1, h2, h3, -⟩ := hp
  exact ⟨nx, 0, h1, by decide, h3, rfl, rfl, fun i hi => absurd hi (Nat.not_lt_zero i)⟩
theorem M_people (h : RF n day unmet skill pills slept woken wanted now) (hx : TX size typed signs text) (hp : PA n next psz um sN sD sU sK sP sL sW sT undos) (hk : KP K n came valid kN kD kU kK kP kL kW kT kept isKept keptCame) (hK : K < 100000) (comes : Nat → Int32) : ∃ y y' n', X10_people size signs (o32 n) skill pills slept woken wanted psz valid = some y ∧ X11_people (o32 n) typed um came now text comes = some y' ∧ y.1 = y'.1 ∧ y.2.2.1 = o32 n' ∧ y'.2.1 = o32 n' ∧ TX y.2.1 y'.2.2.1 signs text ∧ RF n' day unmet y.2.2.2.1 y.2.2.2.2.1 y.2.2.2.2.2.1 y.2.2.2.2.2.2.1 y.2.2.2.2.2.2.2.1 y'.2.2.2.2.2.2.2.2.2.2.1 ∧ PA n' next y.2.2.2.2.2.2.2.2.1 y'.2.2.2.2.2.2.2.2.1 sN sD sU sK sP sL sW sT undos ∧ KP (K + 1) n' y'.2.2.2.2.2.2.2.2.2.1 y.2.2.2.2.2.2.2.2.2 kN kD kU kK kP kL kW kT kept isKept keptCame := by
  have hn := h.nn
  have hemp := hx.emp
  obtain ⟨t, c, rfl, rfl, hT⟩ := hx.tc
  have ht := hT.1
  have bt : X11_beginText (o32 t) 20 = ((0 : Int32), o32 t, (20 : Int32), (0 : Int32), (-1 : Int32)) := rfl
  by_cases t0 : t = 0
  · subst t0
    have el : lp (fun x58 : Int32 × Int32 × (Nat → Int32) × (Nat → Int32) × (Nat → Int32) × (Nat → Int32) × (Nat → Int32) => X10_people_s58 (o32 0) signs x58.1 x58.2.1 x58.2.2.1 x58.2.2.2.1 x58.2.2.2.2.1 x58.2.2.2.2.2.1 x58.2.2.2.2.2.2) 1000 ((0 : Int32), o32 n, skill, pills, slept, woken, wanted) = some (o32 n, skill, pills, slept, woken, wanted) := lp_e 999 (by
      show X10_people_s58 (o32 0) signs 0 (o32 n) skill pills slept woken wanted = _
      unfold X10_people_s58
      rw [if_pos (by decide)])
    refine ⟨((0 : Int32), X9_empties, o32 n, skill, pills, slept, woken, wanted, psz, valid), ((0 : Int32), o32 n, (0 : Int32), (0 : Int32), o32 0, (20 : Int32), (0 : Int32), (-1 : Int32), um, came, now, comes), n, ?_, ?_, rfl, rfl, rfl, hemp, h, hp, hk.mo (by omega)⟩
    · unfold X10_people X10_people_k33 X10_people_k112
      rw [if_pos (by rfl), if_pos (by decide), gq3, el, Option.bind_some]
      dsimp only [un]
      rw [if_pos (by decide)]
      rfl
    · unfold X11_people
      rw [bt]
      dsimp only
      rw [if_pos (by rfl)]
  · have hz : ¬ o32 t = 0 := by
      show ¬ o32 t = o32 0
      rw [o_eq (by omega) (by decide)]; exact t0
    obtain ⟨f, hf, hf2, hb, hg⟩ := PE_f n t c
    have eF := L_pf hT hn hf hf2 hb hg
    obtain ⟨z, ez, hz1, hz2⟩ := L_pr hT hn hf hf2 hb hg comes
    obtain ⟨z0, z1, z2, z3⟩ := z
    have hz1 : z0 = _ := hz1
    by_cases good : f = t ∧ t % 3 = 2
    · obtain ⟨g1, g2⟩ := good
      subst g1
      rw [if_pos ⟨rfl, g2⟩] at eF
      rcases hz2 with ⟨-, q1, q2, q3, q4⟩ | ⟨q1, -⟩
      · have q1 : z1 = _ := q1
        have q2 : z2 = _ := q2
        subst hz1 q1 q2
        have q3 : CP c (f / 3 + 1) z3 := q3
        have hwr : X11_wasRight (o32 f) (o32 f) (-1) = some (1, -1) := by
          rw [L_wr1 (by omega) (by omega), if_pos (Nat.le_refl f)]
        have ecnt : (o32 f + 1) / 3 = o32 (f / 3 + 1) := by
          show (o32 f + 1) / o32 3 = _
          rw [o_s, pu_div (by omega) (by decide) (by decide), show (f + 1) / 3 = f / 3 + 1 by omega]
        obtain ⟨w, w', ew, ew', w1, w2, w3⟩ := lp_ct2 (f := fun x58 : Int32 × Int32 × (Nat → Int32) × (Nat → Int32) × (Nat → Int32) × (Nat → Int32) × (Nat → Int32) => X10_people_s58 (o32 f) signs x58.1 x58.2.1 x58.2.2.1 x58.2.2.2.1 x58.2.2.2.2.1 x58.2.2.2.2.2.1 x58.2.2.2.2.2.2) (f' := fun x120 : Int32 × Int32 × (Nat → Int32) => X11_people_s120 (o32 (f / 3 + 1)) z3 x120.1 x120.2.1 x120.2.2)
          (fun k x x' => x.1 = o32 k ∧ x'.1 = o32 k ∧ x.2.1 = o32 (n + k) ∧ x'.2.1 = o32 (n + k) ∧ RF (n + k) day unmet x.2.2.1 x.2.2.2.1 x.2.2.2.2.1 x.2.2.2.2.2.1 x.2.2.2.2.2.2 x'.2.2)
          (fun w w' => w.1 = o32 (n + (f / 3 + 1)) ∧ w'.1 = o32 (n + (f / 3 + 1)) ∧ RF (n + (f / 3 + 1)) day unmet w.2.1 w.2.2.1 w.2.2.2.1 w.2.2.2.2.1 w.2.2.2.2.2 w'.2) (f / 3 + 1)
          ((0 : Int32), o32 n, skill, pills, slept, woken, wanted) ((0 : Int32), o32 n, now) ⟨rfl, rfl, rfl, rfl, h⟩ (by
            rintro k ⟨i, m, a1, a2, a3, a4, a5⟩ ⟨i', m', a⟩ hk ⟨h1, h2, h3, h4, h5⟩
            have h1 : i = _ := h1
            have h2 : i' = _ := h2
            have h3 : m = _ := h3
            have h4 : m' = _ := h4
            subst h1 h2 h3 h4
            have h5 : RF (n + k) day unmet a1 a2 a3 a4 a5 a := h5
            obtain ⟨b1, b2, b3⟩ := hg (3 * k) (by omega)
            obtain ⟨d1, d2, d3⟩ := hg (3 * k + 1) (by omega)
            rcases b3 with ⟨b3, -⟩ | ⟨-, b4, b5, -⟩
            · omega
            rcases d3 with ⟨d3, -⟩ | ⟨-, d4, d5, -⟩
            · omega
            obtain ⟨p1, p2⟩ := q3 k (by omega)
            refine ⟨(o32 (k + 1), o32 (n + k + 1), upd a1 (n + k) (o32 (c (3 * k) - 48)), upd a2 (n + k) (o32 (c (3 * k + 1) - 48)), upd a3 (n + k) 0, upd a4 (n + k) 0, upd a5 (n + k) 0), (o32 (k + 1), o32 (n + k + 1), upd (upd (upd (upd (upd a (n + k) (o32 (c (3 * k) - 48))) (7 + (n + k)) (o32 (c (3 * k + 1) - 48))) (14 + (n + k)) 0) (21 + (n + k)) 0) (28 + (n + k)) 0), ?_, ?_, rfl, rfl, rfl, rfl, h5.co (by omega) (by omega) (by omega)⟩
            · show X10_people_s58 (o32 f) signs (o32 k) (o32 (n + k)) a1 a2 a3 a4 a5 = _
              unfold X10_people_s58 X0_comes
              rw [ecnt, i_ge hk (by omega), show (3 : Int32) * o32 k = o32 (3 * k) from o_mul 3 k, L_dg hT b1 b4 b5, Option.bind_some, o_s, L_dg hT d1 d4 d5, Option.bind_some, show (7 : Int32) = o32 7 from rfl, i_ge (show n + k < 7 by omega) (by decide)]
              simp (disch := omega) only [gi_o, o_cl, Option.bind_some, o_s]
            · show X11_people_s120 (o32 (f / 3 + 1)) z3 (o32 k) (o32 (n + k)) a = _
              unfold X11_people_s120
              rw [i_ge hk (by omega), show (2 : Int32) * o32 k = o32 (2 * k) from o_mul 2 k]
              simp (disch := omega) only [gi_o, o_cl, o_s, o_la, p1, p2]) (by
            rintro ⟨i, m, a1, a2, a3, a4, a5⟩ ⟨i', m', a⟩ ⟨h1, h2, h3, h4, h5⟩
            have h1 : i = _ := h1
            have h2 : i' = _ := h2
            subst h1 h2
            refine ⟨(m, a1, a2, a3, a4, a5), (m', a), ?_, ?_, h3, h4, h5⟩
            · show X10_people_s58 (o32 f) signs (o32 (f / 3 + 1)) m a1 a2 a3 a4 a5 = _
              unfold X10_people_s58
              rw [ecnt, i_le (Nat.le_refl _) (by omega)]
            · show X11_people_s120 (o32 (f / 3 + 1)) z3 (o32 (f / 3 + 1)) m' a = _
              unfold X11_people_s120
              rw [i_le (Nat.le_refl _) (by omega)]) (by omega)
        obtain ⟨w0, v1, v2, v3, v4, v5⟩ := w
        obtain ⟨w0', v'⟩ := w'
        have w1 : w0 = _ := w1
        have w2 : w0' = _ := w2
        subst w1 w2
        obtain ⟨fz, efz, hfz, hkp⟩ := L_forgets (n' := n + (f / 3 + 1)) hk hK
        refine ⟨(o32 (f / 3 + 1), X9_empties, o32 (n + (f / 3 + 1)), v1, v2, v3, v4, v5, fz.1, fz.2), (o32 (f / 3 + 1), o32 (n + (f / 3 + 1)), (0 : Int32), (0 : Int32), o32 f, (20 : Int32), o32 f, (-1 : Int32), (X11_told came).1, (X11_told came).2, v', z3), n + (f / 3 + 1), ?_, ?_, rfl, rfl, rfl, hemp, w3, ?_, hkp⟩
        · unfold X10_people X10_people_k33 X10_people_k112
          rw [if_neg hz, eF, Option.bind_some, if_pos (by decide), gq3, ew, Option.bind_some]
          dsimp only [un]
          rw [ecnt, if_neg (by
            show ¬ o32 (f / 3 + 1) ≤ o32 0
            rw [o_le (by omega) (by decide)]; omega), efz, Option.bind_some]
        · unfold X11_people
          rw [bt]
          dsimp only
          rw [if_neg hz, ez, Option.bind_some]
          dsimp only [un]
          rw [hwr, Option.bind_some]
          dsimp only
          rw [if_neg (by decide), ew', Option.bind_some]
          rfl
        · show PA (n + (f / 3 + 1)) next fz.1 (X11_told came).1 sN sD sU sK sP sL sW sT undos
          rw [hfz]
          exact hp.nil _
      · exact absurd g2 q1
    · rw [if_neg good] at eF
      have hwr : X11_wasRight (o32 t) z1 z2 = some (0, o32 f) := by
        rcases hz2 with ⟨r, q1, q2, -, -⟩ | ⟨r, q1⟩
        · have q1 : z1 = _ := q1
          have q2 : z2 = _ := q2
          rw [q1, q2, L_wr1 (by omega) (by omega), if_neg (by omega)]
        · have q1 : z2 = _ := q1
          rw [q1, L_wr (by omega)]
      refine ⟨((-1 : Int32) - o32 f, X9_empties, o32 n, skill, pills, slept, woken, wanted, psz, valid), ((-1 : Int32) - o32 f, o32 n, (0 : Int32), (0 : Int32), o32 t, (20 : Int32), z1, o32 f, um, came, now, z3), n, ?_, ?_, rfl, rfl, rfl, hemp, h, hp, hk.mo (by omega)⟩
      · unfold X10_people X10_people_k33
        rw [if_neg hz, eF, Option.bind_some, if_neg (o_nn f (by omega))]
      · unfold X11_people
        rw [bt]
        dsimp only
        rw [if_neg hz, ez, Option.bind_some]
        dsimp only [un]
        rw [hwr, Option.bind_some]
        dsimp only
        rw [if_pos rfl]
end PEB
