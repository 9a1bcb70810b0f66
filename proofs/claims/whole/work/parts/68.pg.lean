/-! ===== the pure level: follows ===== -/
theorem pc_or {m k : Nat} (hm : m < 128) (hk : k < 7) (h : m.testBit k = false) : pc (m ||| 2 ^ k) = pc m + 1 := by
  have h1 : ∀ m : Fin 128, ∀ k : Fin 7, m.val.testBit k.val = false → pc (m.val ||| 2 ^ k.val) = pc m.val + 1 := by decide +kernel
  exact h1 ⟨m, hm⟩ ⟨k, hk⟩ h
section FL
variable {n : Nat} {day unmet : Int32} {skill pills slept woken wanted now : Nat → Int32} {tsz rm : Int32} {tnum row : Nat → Int64}
theorem pc_n {m : Nat} (hn : n ≤ 7) (h : m < 2 ^ n) : pc m ≤ n := by
  rw [pc_cn hn h]; exact cn_le _ n
theorem L_lay1 (path longest : Nat → Int32) (one : Int32) {d : Nat} (hd : d < 7) : ∃ z, lp (fun x60 : Int32 × (Nat → Int32) => X4_goesOn_s60 path one (o32 d) x60.1 x60.2) 1000 ((0 : Int32), longest) = some z ∧ ∀ k, k ≤ d → z k = upd path d one k := by
  obtain ⟨z, e, hz⟩ := lp_ct (f := fun x60 : Int32 × (Nat → Int32) => X4_goesOn_s60 path one (o32 d) x60.1 x60.2) (fun k x => x.1 = o32 k ∧ ∀ j, j < k → x.2 j = upd path d one j) (fun z => ∀ k, k ≤ d → z k = upd path d one k) (d + 1) ((0 : Int32), longest) ⟨rfl, fun j hj => absurd hj (Nat.not_lt_zero j)⟩ (by
    rintro k ⟨i, x⟩ hk ⟨h1, h2⟩
    have h1 : i = _ := h1
    subst h1
    refine ⟨(o32 (k + 1), upd x k (upd path d one k)), ?_, rfl, fun j hj => ?_⟩
    · simp (disch := omega) only [X4_goesOn_s60, i_lt, gi_o, o_cl, o_s]
    · show upd x k _ j = _
      by_cases e : j = k
      · subst e; exact pk_us
      · rw [pk_un e]; exact h2 j (by omega)) (by
    rintro ⟨i, x⟩ ⟨h1, h2⟩
    have h1 : i = _ := h1
    subst h1
    refine ⟨x, ?_, fun k hk => h2 k (by omega)⟩
    simp (disch := omega) only [X4_goesOn_s60, i_gt]) (by omega)
  exact ⟨z, e, hz⟩
theorem L_layB (line best : Nat → Int32) {m : Nat} (hm : m ≤ 7) : ∃ z, X11_layBest line best (o32 m) = some (o32 m, z) ∧ ∀ k, k < m → z k = line k := by
  obtain ⟨z, e, hz⟩ := lp_ct (f := fun x7 : Int32 × (Nat → Int32) => X11_layBest_s7 line (o32 m) x7.1 x7.2) (fun k x => x.1 = o32 k ∧ ∀ j, j < k → x.2 j = line j) (fun z => ∀ k, k < m → z k = line k) m ((0 : Int32), best) ⟨rfl, fun j hj => absurd hj (Nat.not_lt_zero j)⟩ (by
    rintro k ⟨i, x⟩ hk ⟨h1, h2⟩
    have h1 : i = _ := h1
    subst h1
    refine ⟨(o32 (k + 1), upd x k (line k)), ?_, rfl, fun j hj => ?_⟩
    · simp (disch := omega) only [X11_layBest_s7, i_ge, gi_o, o_cl, o_s]
    · show upd x k _ j = _
      by_cases e : j = k
      · subst e; exact pk_us
      · rw [pk_un e]; exact h2 j (by omega)) (by
    rintro ⟨i, x⟩ ⟨h1, h2⟩
    have h1 : i = _ := h1
    subst h1
    refine ⟨x, ?_, h2⟩
    simp (disch := omega) only [X11_layBest_s7, i_le]) (by omega)
  refine ⟨z, ?_, hz⟩
  unfold X11_layBest
  rw [e]
  rfl
/-- what both know where they go on from one -/
def AT (n : Nat) (d one used : Nat) : Prop := used < 2 ^ n ∧ pc used = d ∧ one < n ∧ used.testBit one = false
theorem AT.up {d one used : Nat} (hn : n ≤ 7) (h : AT n d one used) : used ||| 2 ^ one < 2 ^ n ∧ pc (used ||| 2 ^ one) = d + 1 ∧ d + 1 ≤ n := by
  obtain ⟨h1, h2, h3, h4⟩ := h
  have h7 := p2_7 hn
  have h5 := or_2n h1 h3
  have h6 := pc_or (by omega) (by omega) h4
  have h8 := pc_n hn h5
  exact ⟨h5, by omega, by omega⟩
/-- the reference alone, where nothing longer can come -/
theorem L_rowF (h : RI n now) : ∀ (m g d one used : Nat) (line best : Nat → Int32), n - d = m → AT n d one used → line d = o32 one → ∃ line', X11_rowr (g + m) (o32 n) (o32 n) now line best (o32 (d + 1)) (o32 (used ||| 2 ^ one)) = some (o32 n, line', best) ∧ ∀ k, k ≤ d → line' k = line k
  | 0, g, d, one, used, line, best, hm, hA, hl => by
    have := (hA.up h.1).2.2
    omega
  | m + 1, g, d, one, used, line, best, hm, hA, hl => by
    have hn := h.1
    have h7 := p2_7 hn
    obtain ⟨u1, u2, u3⟩ := hA.up hn
    have hw := h.wt hA.2.2.1
    show ∃ line', X11_rowr_b0 (X11_rowr (g + m)) (o32 n) (o32 n) now line best (o32 (d + 1)) (o32 (used ||| 2 ^ one)) = some (o32 n, line', best) ∧ _
    obtain ⟨z, e, hz1, hz2, hz3⟩ := lp_ct (f := fun x15 : Int32 × Int32 × (Nat → Int32) × (Nat → Int32) => X11_goRow_s15 (X11_rowr (g + m)) (o32 n) now (o32 (d + 1)) (o32 (used ||| 2 ^ one)) x15.1 x15.2.1 x15.2.2.1 x15.2.2.2) (fun k x => x.1 = o32 k ∧ x.2.1 = o32 n ∧ x.2.2.2 = best ∧ ∀ j, j ≤ d → x.2.2.1 j = line j) (fun z => z.1 = o32 n ∧ z.2.2 = best ∧ ∀ j, j ≤ d → z.2.1 j = line j) n ((0 : Int32), o32 n, line, best) ⟨rfl, rfl, rfl, fun _ _ => rfl⟩ (by
      rintro k ⟨i, l, x, b⟩ hk ⟨h1, h2, h3, h4⟩
      have h1 : i = _ := h1
      have h2 : l = _ := h2
      have h3 : b = _ := h3
      subst h1 h2 h3
      have h4 : ∀ j, j ≤ d → x j = line j := h4
      have hx : x d = o32 one := by rw [h4 d (Nat.le_refl d)]; exact hl
      have hU : used ||| 2 ^ one < 128 := by omega
      have hhas : X11_has (now (28 + one)) (o32 k) = bi ((nt (now (28 + one))).testBit k) := by
        rw [show now (28 + one) = o32 (nt (now (28 + one))) from hw.2.1, pu_has hw.2.2.1 (by omega), ← hw.2.1]
      have ed : o32 (d + 1) - 1 = o32 d := pu_m1
      cases hs : (used ||| 2 ^ one).testBit k with
      | true =>
        refine ⟨(o32 (k + 1), o32 n, x, b), ?_, rfl, rfl, rfl, h4⟩
        have ebt : (bi true = 0) = False := eq_false (by decide)
        simp (disch := omega) only [X11_goRow_s15, i_ge, pu_has hU (show k < 7 by omega), hs, ebt, if_false, o_s]
      | false =>
        have ebf : (bi false = 0) = True := eq_true rfl
        cases hwt : (nt (now (28 + one))).testBit k with
        | false =>
          refine ⟨(o32 (k + 1), o32 n, x, b), ?_, rfl, rfl, rfl, h4⟩
          have hone := hA.2.2.1
          simp (disch := omega) only [X11_goRow_s15, i_ge, pu_has hU (show k < 7 by omega), hs, ebf, if_true, ed, gi_o, o_cl, hx, o_la, hhas, hwt, o_s]
        | true =>
          have hA' : AT n (d + 1) k (used ||| 2 ^ one) := ⟨u1, u2, hk, hs⟩
          have u3' := (hA'.up hn).2.2
          obtain ⟨l', el, hl'⟩ := L_rowF h m g (d + 1) k (used ||| 2 ^ one) (upd x (d + 1) (o32 k)) b (by omega) hA' pk_us
          have hone := hA.2.2.1
          have ebt : (bi true = 0) = False := eq_false (by decide)
          refine ⟨(o32 (k + 1), o32 n, l', b), ?_, rfl, rfl, rfl, fun j hj => ?_⟩
          · simp (disch := omega) only [X11_goRow_s15, i_ge, pu_has hU (show k < 7 by omega), hs, ebf, if_true, ed, gi_o, o_cl, hx, o_la, hhas, hwt, ebt, if_false, o_s, o_shl, o_or, el, Option.bind_some]
          · show l' j = _
            rw [hl' j (by omega), pk_un (by omega)]; exact h4 j hj) (by
      rintro ⟨i, l, x, b⟩ ⟨h1, h2, h3, h4⟩
      have h1 : i = _ := h1
      subst h1
      refine ⟨(l, x, b), ?_, h2, h3, h4⟩
      simp (disch := omega) only [X11_goRow_s15, i_le]) (by omega)
    obtain ⟨z0, z1, z2⟩ := z
    have hz1 : z0 = _ := hz1
    have hz2 : z2 = _ := hz2
    subst hz1 hz2
    refine ⟨z1, ?_, hz3⟩
    unfold X11_rowr_b0 X11_goRow_k13
    rw [i_le u3 (by omega), e]
    rfl
theorem L_goRow (h : RF n day unmet skill pills slept woken wanted now) : ∀ (m gC gM d one used L : Nat) (path longest line best : Nat → Int32), n - d = m → AT n d one used → L ≤ n → (∀ k, k < L → longest k = best k) → (∀ k, k < d → path k = line k) → line d = o32 one → ∃ L' path' longest' line' best', X4_goes (gC + m) (o32 L) path longest (o32 n) wanted (o32 one) (o32 used) (o32 d) = some (o32 L', path', longest') ∧ X11_rowr (gM + m) (o32 n) (o32 L) now line best (o32 (d + 1)) (o32 (used ||| 2 ^ one)) = some (o32 L', line', best') ∧ L' ≤ n ∧ d + 1 ≤ L' ∧ (∀ k, k < L' → longest' k = best' k) ∧ (∀ k, k < d → path' k = path k) ∧ ∀ k, k ≤ d → line' k = line k
  | 0, gC, gM, d, one, used, L, path, longest, line, best, hm, hA, hL, hb, hp, hl => by
    have := (hA.up h.nn).2.2
    omega
  | m + 1, gC, gM, d, one, used, L, path, longest, line, best, hm, hA, hL, hb, hp, hl => by
    have hn := h.nn
    have hri := h.ri
    have h7 := p2_7 hn
    obtain ⟨u1, u2, u3⟩ := hA.up hn
    have hone := hA.2.2.1
    have hw := hri.wt hone
    have e7 : (7 : Int32) = o32 7 := rfl
    have nd : (o32 d < 0) = False := eq_false (o_nn d (by omega))
    have hh := L_hasn hone hn
    rcases Nat.lt_or_ge L n with hLn | hLn
    · -- the loops, from the same length
      have loops : ∀ (L1 : Nat) (lg bs : Nat → Int32), L1 ≤ n → d + 1 ≤ L1 → (∀ k, k < L1 → lg k = bs k) → ∃ L' p' lg' ln' bs', X4_goesOn_k87 (X4_goes (gC + m)) path (o32 n) wanted (o32 one) (o32 used) (o32 d) (o32 L1) lg = some (o32 L', p', lg') ∧ X11_goRow_k13 (X11_rowr (gM + m)) (o32 n) now line (o32 (d + 1)) (o32 (used ||| 2 ^ one)) (o32 L1) bs = some (o32 L', ln', bs') ∧ L' ≤ n ∧ d + 1 ≤ L' ∧ (∀ k, k < L' → lg' k = bs' k) ∧ (∀ k, k < d → p' k = path k) ∧ ∀ k, k ≤ d → ln' k = line k := by
        intro L1 lg bs hL1 hd1 hlb
        obtain ⟨z, z', ez, ez', L', z1, z2, z3, z4, z5, z6, z7⟩ := lp_ct2 (f := fun x110 : Int32 × Int32 × (Nat → Int32) × (Nat → Int32) => X4_goesOn_s110 (X4_goes (gC + m)) (o32 n) wanted (o32 one) (o32 used) (o32 d) x110.1 x110.2.1 x110.2.2.1 x110.2.2.2) (f' := fun x15 : Int32 × Int32 × (Nat → Int32) × (Nat → Int32) => X11_goRow_s15 (X11_rowr (gM + m)) (o32 n) now (o32 (d + 1)) (o32 (used ||| 2 ^ one)) x15.1 x15.2.1 x15.2.2.1 x15.2.2.2)
          (fun k x x' => x.1 = o32 k ∧ x'.1 = o32 k ∧ ∃ L', x.2.1 = o32 L' ∧ x'.2.1 = o32 L' ∧ L' ≤ n ∧ d + 1 ≤ L' ∧ (∀ j, j < L' → x.2.2.2 j = x'.2.2.2 j) ∧ (∀ j, j ≤ d → x.2.2.1 j = upd path d (o32 one) j) ∧ ∀ j, j ≤ d → x'.2.2.1 j = line j)
          (fun z z' => ∃ L', z.1 = o32 L' ∧ z'.1 = o32 L' ∧ L' ≤ n ∧ d + 1 ≤ L' ∧ (∀ j, j < L' → z.2.2 j = z'.2.2 j) ∧ (∀ j, j ≤ d → z.2.1 j = upd path d (o32 one) j) ∧ ∀ j, j ≤ d → z'.2.1 j = line j) n
          ((0 : Int32), o32 L1, upd path d (o32 one), lg) ((0 : Int32), o32 L1, line, bs) ⟨rfl, rfl, L1, rfl, rfl, hL1, hd1, hlb, fun _ _ => rfl, fun _ _ => rfl⟩ (by
            rintro k ⟨i, l, p, g⟩ ⟨i', l', x, b⟩ hk ⟨h1, h2, L', h3, h4, h5, h6, h8, h9, h10⟩
            have h1 : i = _ := h1
            have h2 : i' = _ := h2
            have h3 : l = _ := h3
            have h4 : l' = _ := h4
            subst h1 h2 h3 h4
            have h8 : ∀ j, j < L' → g j = b j := h8
            have h9 : ∀ j, j ≤ d → p j = upd path d (o32 one) j := h9
            have h10 : ∀ j, j ≤ d → x j = line j := h10
            have hx : x d = o32 one := by rw [h10 d (Nat.le_refl d)]; exact hl
            have hU : used ||| 2 ^ one < 128 := by omega
            have hhas : X11_has (now (28 + one)) (o32 k) = bi ((nt (now (28 + one))).testBit k) := by
              rw [show now (28 + one) = o32 (nt (now (28 + one))) from hw.2.1, pu_has hw.2.2.1 (by omega), ← hw.2.1]
            have ed : o32 (d + 1) - 1 = o32 d := pu_m1
            have ew : wanted one = o32 (nt (now (28 + one))) := by rw [← h.wan (by omega)]; exact hw.2.1
            have hsd : sd (nt (now (28 + one))) (used ||| 2 ^ one) < 128 := sd_lt hw.2.2.1
            have enx : (((o32 (nt (now (28 + one))) &&& ((o32 (used ||| 2 ^ one)) ^^^ (-1 : Int32))) >>> (o32 k &&& 31)) &&& (1 : Int32)) = bi ((nt (now (28 + one))).testBit k && !(used ||| 2 ^ one).testBit k) := by
              rw [sd_o hw.2.2.1 hU, pu_bit hsd (by omega), sd_tb hw.2.2.1]
            have ebf : (bi false = 0) = True := eq_true rfl
            have ebt : (bi true = 0) = False := eq_false (by decide)
            cases hs : (used ||| 2 ^ one).testBit k with
            | true =>
              rw [hs, Bool.not_true, Bool.and_false] at enx
              refine ⟨(o32 (k + 1), o32 L', p, g), (o32 (k + 1), o32 L', x, b), ?_, ?_, rfl, rfl, L', rfl, rfl, h5, h6, h8, h9, h10⟩
              · simp (disch := omega) only [X4_goesOn_s110, i_ge, o_cl, ew, o_shl, o_or, enx, ebf, if_true, o_s]
              · simp (disch := omega) only [X11_goRow_s15, i_ge, pu_has hU (show k < 7 by omega), hs, ebt, if_false, o_s]
            | false =>
              rw [hs, Bool.not_false, Bool.and_true] at enx
              cases hwt : (nt (now (28 + one))).testBit k with
              | false =>
                rw [hwt] at enx
                refine ⟨(o32 (k + 1), o32 L', p, g), (o32 (k + 1), o32 L', x, b), ?_, ?_, rfl, rfl, L', rfl, rfl, h5, h6, h8, h9, h10⟩
                · simp (disch := omega) only [X4_goesOn_s110, i_ge, o_cl, ew, o_shl, o_or, enx, ebf, if_true, o_s]
                · simp (disch := omega) only [X11_goRow_s15, i_ge, pu_has hU (show k < 7 by omega), hs, ebf, if_true, ed, gi_o, o_cl, hx, o_la, hhas, hwt, o_s]
              | true =>
                rw [hwt] at enx
                have hA' : AT n (d + 1) k (used ||| 2 ^ one) := ⟨u1, u2, hk, hs⟩
                have u3' := (hA'.up hn).2.2
                obtain ⟨L2, p2, g2, x2, b2, eC, eM, r1, r2, r3, r4, r5⟩ := L_goRow h m gC gM (d + 1) k (used ||| 2 ^ one) L' p g (upd x (d + 1) (o32 k)) b (by omega) hA' h5 h8 (fun j hj => by
                  rw [pk_un (by omega), h9 j (by omega), h10 j (by omega)]
                  by_cases ej : j = d
                  · subst ej; rw [pk_us, hl]
                  · rw [pk_un ej]; exact hp j (by omega)) pk_us
                refine ⟨(o32 (k + 1), o32 L2, p2, g2), (o32 (k + 1), o32 L2, x2, b2), ?_, ?_, rfl, rfl, L2, rfl, rfl, r1, by omega, r3, fun j hj => ?_, fun j hj => ?_⟩
                · simp (disch := omega) only [X4_goesOn_s110, i_ge, o_cl, ew, o_shl, o_or, enx, ebt, if_false, o_s, eC, Option.bind_some]
                · simp (disch := omega) only [X11_goRow_s15, i_ge, pu_has hU (show k < 7 by omega), hs, ebf, if_true, ed, gi_o, o_cl, hx, o_la, hhas, hwt, ebt, if_false, o_s, o_shl, o_or, eM, Option.bind_some]
                · show p2 j = _
                  rw [r4 j (by omega)]; exact h9 j hj
                · show x2 j = _
                  rw [r5 j (by omega), pk_un (by omega)]; exact h10 j hj) (by
            rintro ⟨i, l, p, g⟩ ⟨i', l', x, b⟩ ⟨h1, h2, h3⟩
            have h1 : i = _ := h1
            have h2 : i' = _ := h2
            subst h1 h2
            refine ⟨(l, p, g), (l', x, b), ?_, ?_, h3⟩
            · simp (disch := omega) only [X4_goesOn_s110, i_le]
            · simp (disch := omega) only [X11_goRow_s15, i_le]) (by omega)
        obtain ⟨a0, a1, a2⟩ := z
        obtain ⟨b0, b1, b2⟩ := z'
        have z1 : a0 = _ := z1
        have z2 : b0 = _ := z2
        subst z1 z2
        refine ⟨L', a1, a2, b1, b2, ?_, ?_, z3, z4, z5, fun k hk => ?_, z7⟩
        · unfold X4_goesOn_k87
          rw [gi_o (by omega) (by decide), o_cl (by omega), ez]
          rfl
        · unfold X11_goRow_k13
          rw [ez']
          rfl
        · show a1 k = _
          have z6 : ∀ j, j ≤ d → a1 j = upd path d (o32 one) j := z6
          rw [z6 k (by omega), pk_un (by omega)]
      show ∃ L' path' longest' line' best', X4_goes_b0 (X4_goes (gC + m)) (o32 L) path longest (o32 n) wanted (o32 one) (o32 used) (o32 d) = some (o32 L', path', longest') ∧ X11_rowr_b0 (X11_rowr (gM + m)) (o32 n) (o32 L) now line best (o32 (d + 1)) (o32 (used ||| 2 ^ one)) = some (o32 L', line', best') ∧ _
      rcases Nat.lt_or_ge d L with hdL | hdL
      · obtain ⟨L', p', lg', ln', bs', eC, eM, rest⟩ := loops L longest best hL hdL hb
        refine ⟨L', p', lg', ln', bs', ?_, ?_, rest⟩
        · unfold X4_goes_b0
          rw [if_neg (by rw [nd]; exact id), e7, i_ge (by omega) (by decide), i_ge hLn (by omega), hh, if_neg (by decide), gi_o (by omega) (by decide), i_gt hdL (by omega), eC]
        · unfold X11_rowr_b0
          rw [i_le (show d + 1 ≤ L by omega) (by omega), eM]
      · obtain ⟨lg, elg, hlg⟩ := L_lay1 path longest (o32 one) (show d < 7 by omega)
        obtain ⟨bs, ebs, hbs⟩ := L_layB line best (show d + 1 ≤ 7 by omega)
        obtain ⟨L', p', lg', ln', bs', eC, eM, rest⟩ := loops (d + 1) lg bs u3 (Nat.le_refl _) (fun k hk => by
          rw [hlg k (by omega), hbs k hk]
          by_cases ek : k = d
          · subst ek; rw [pk_us, hl]
          · rw [pk_un ek]; exact hp k (by omega))
        refine ⟨L', p', lg', ln', bs', ?_, ?_, rest⟩
        · unfold X4_goes_b0
          rw [if_neg (by rw [nd]; exact id), e7, i_ge (by omega) (by decide), i_ge hLn (by omega), hh, if_neg (by decide), gi_o (by omega) (by decide), i_lt hdL (by omega), elg, Option.bind_some, o_s, eC]
        · unfold X11_rowr_b0
          rw [i_ge (show L < d + 1 by omega) (by omega), ebs, Option.bind_some]
          exact eM
    · have hLn : L = n := by omega
      subst hLn
      obtain ⟨ln, eln, hln⟩ := L_rowF hri (m + 1) gM d one used line best hm hA hl
      refine ⟨L, path, longest, ln, best, ?_, eln, Nat.le_refl _, u3, hb, fun _ _ => rfl, hln⟩
      show X4_goes_b0 (X4_goes (gC + m)) (o32 L) path longest (o32 L) wanted (o32 one) (o32 used) (o32 d) = _
      unfold X4_goes_b0
      rw [if_neg (by rw [nd]; exact id), e7, i_ge (by omega) (by decide), i_le (Nat.le_refl _) (by omega)]
theorem M_follows (h : RF n day unmet skill pills slept woken wanted now) (ht : TO tsz rm tnum row) (pl bm' : Int32) (path longest line best : Nat → Int32) (p1 : Int32) : ∃ y y', X10_follows tsz tnum (o32 n) wanted pl path longest p1 = some y ∧ X11_follows (o32 n) rm bm' now row line best p1 = some y' ∧ y.1 = y'.1 ∧ TO y.2.1 y'.2.1 y.2.2.1 y'.2.2.2.2.1 := by
  have hn := h.nn
  rcases L_one hn p1 with ⟨q, hq, rfl, ho, ho'⟩ | ⟨ho, ho'⟩
  · have hb : ¬ X0_has (o32 n) (o32 q) = 0 := by rw [ho]; decide
    obtain ⟨L, p', lg, ln, bs, eC, eM, r1, r2, r3, -, -⟩ := L_goRow h n (100 - n) (100 - n) 0 q 0 0 path longest (upd line 0 (o32 q)) best rfl ⟨Nat.two_pow_pos n, by decide, hq, Nat.zero_testBit q⟩ (Nat.zero_le _) (fun k hk => absurd hk (Nat.not_lt_zero k)) (fun k hk => absurd hk (Nat.not_lt_zero k)) pk_us
    rw [show 100 - n + n = 100 by omega] at eC eM
    have eC : X4_goes 100 0 path longest (o32 n) wanted (o32 q) 0 0 = some (o32 L, p', lg) := eC
    have eM : X11_rowr 100 (o32 n) 0 now (upd line 0 (o32 q)) best 1 (o32 (2 ^ q)) = some (o32 L, ln, bs) := by
      rw [Nat.zero_or] at eM; exact eM
    obtain ⟨z, z', ez, ez', hz1, hz2, hz3⟩ := lp_ct2 (f := fun x20 : Int32 × Int32 × (Nat → Int64) => X4_tellsLongest_s20 (o32 L, p', lg) x20.1 x20.2.1 x20.2.2) (f' := fun x7 : Int32 × Int32 × (Nat → Int64) => X11_tellBest_s7 (o32 L) bs x7.1 x7.2.1 x7.2.2) (fun k x x' => x.1 = o32 k ∧ x'.1 = o32 k ∧ x.2.1 = o32 k ∧ x'.2.1 = o32 k ∧ ∀ j, j < k → x.2.2 j = x'.2.2 j) (fun z z' => z.1 = o32 L ∧ z'.1 = o32 L ∧ ∀ j, j < L → z.2 j = z'.2 j) L ((0 : Int32), X2_clears, tnum) ((0 : Int32), (0 : Int32), row) ⟨rfl, rfl, rfl, rfl, fun j hj => absurd hj (Nat.not_lt_zero j)⟩ (by
      rintro k ⟨i, s, f⟩ ⟨i', s', f'⟩ hk ⟨h1, h2, h3, h4, h5⟩
      have h1 : i = _ := h1
      have h2 : i' = _ := h2
      have h3 : s = _ := h3
      have h4 : s' = _ := h4
      subst h1 h2 h3 h4
      have h5 : ∀ j, j < k → f j = f' j := h5
      have e7 : (7 : Int32) = o32 7 := rfl
      obtain ⟨t, t', et, et', s1, s2, s3⟩ := TO.ad h5 (show k < 16 by omega) ((lg k).toInt64)
      have et'2 : X11_tell (o32 k) f' ((bs k).toInt64) = some t' := by rw [← r3 k hk]; exact et'
      simp (disch := omega) only [X4_tellsLongest_s20, X11_tellBest_s7, e7, i_ge, gi_o, o_cl, et, et'2, Option.bind_some, o_s]
      exact ⟨_, _, rfl, rfl, rfl, rfl, s1, s2, s3⟩) (by
      rintro ⟨i, s, f⟩ ⟨i', s', f'⟩ ⟨h1, h2, h3, h4, h5⟩
      have h1 : i = _ := h1
      have h2 : i' = _ := h2
      subst h1 h2
      refine ⟨(s, f), (s', f'), ?_, ?_, h3, h4, h5⟩
      · simp (disch := omega) only [X4_tellsLongest_s20, i_le]
      · simp (disch := omega) only [X11_tellBest_s7, i_le]) (by omega)
    simp (disch := omega) only [X10_follows, X4_tellsLongest, X11_follows, X11_tellBest, hb, ho', pu_10, if_false, Option.bind_some, gl0, tl0, o_shl, eC, eM, ez, ez', un]
    exact ⟨_, _, rfl, rfl, rfl, L, by omega, hz1, hz2, hz3⟩
  · simp only [X10_follows, X11_follows, ho, ho', Option.bind_some, if_true]
    exact ⟨_, _, rfl, rfl, rfl, ht⟩
end FL
