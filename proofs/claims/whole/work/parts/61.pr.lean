/-! ===== the pure level: rests, years, vigil ===== -/
section RS
variable {tsz rm : Int32} {tnum row : Nat → Int64}
def IB (x y v : Int32) : Bool := al (fun k => decide (X11_gets (o32 k) y v ≤ X11_gets x y v)) 10
theorem L_ib (x y v : Int32) : X11_isBest x y v = some (bi (IB x y v)) ∧ X10_isContent x y v = some (bi (IB x y v)) := by
  have e9 : (9 : Int32) = o32 9 := rfl
  have eM : lp (fun x2 => X11_isBest_s2 x y v x2) 1000 (0 : Int32) = some (if IB x y v = true then .inl () else .inr ()) := lp_al (fun k => decide (X11_gets (o32 k) y v ≤ X11_gets x y v)) 10 (fun k hk => by
    simp (disch := omega) only [X11_isBest_s2, e9, i_lt, o_s, decide_eq_true_eq]) rfl (by decide)
  have eC : lp (fun x10 => X10_isContent_s10 x y v x10) 1000 (0 : Int32) = some (if IB x y v = true then .inl () else .inr ()) := eM
  constructor
  · unfold X11_isBest
    rw [eM]
    cases IB x y v <;> rfl
  · unfold X10_isContent
    rw [eC]
    cases IB x y v <;> rfl
def RT (c : Nat) (p p' tsz rm : Int32) (tnum row : Nat → Int64) : Prop := p = o32 c ∧ p' = o32 c ∧ TO tsz rm tnum row ∧ (c = 0 → rm = 0)
theorem L_restI (v : Int32) {x : Nat} (hx : x < 10) {c0 : Nat} (hc0 : c0 < 500) {p p' : Int32} (h : RT c0 p p' tsz rm tnum row) : ∃ z z', lp (fun x32 : Int32 × Int32 × Int32 × (Nat → Int64) => X10_rests_s32 v (o32 x) x32.1 x32.2.1 x32.2.2.1 x32.2.2.2) 1000 (p, (0 : Int32), tsz, tnum) = some z ∧ lp (fun x35 : Int32 × Int32 × Int32 × (Nat → Int64) => X11_rests_s35 v (o32 x) x35.1 x35.2.1 x35.2.2.1 x35.2.2.2) 1000 (p', (0 : Int32), rm, row) = some z' ∧ ∃ c, c ≤ c0 + 10 ∧ RT c z.1 z'.1 z.2.1 z'.2.1 z.2.2 z'.2.2 := by
  refine lp_ct2 (fun k x x' => x.2.1 = o32 k ∧ x'.2.1 = o32 k ∧ ∃ c, c ≤ c0 + k ∧ RT c x.1 x'.1 x.2.2.1 x'.2.2.1 x.2.2.2 x'.2.2.2) _ 10 _ _ ⟨rfl, rfl, c0, by omega, h⟩ ?_ ?_ (by decide)
  · rintro k ⟨q, i, u, f⟩ ⟨q', i', u', f'⟩ hk ⟨h1, h2, c, hc, h3, h4, h5, h6⟩
    have h1 : i = _ := h1
    have h2 : i' = _ := h2
    have h3 : q = _ := h3
    have h4 : q' = _ := h4
    subst h1 h2 h3 h4
    have h5 : TO u u' f f' := h5
    have h6 : c = 0 → u' = 0 := h6
    have e9 : (9 : Int32) = o32 9 := rfl
    have hR : RT c (o32 c) (o32 c) u u' f f' := ⟨rfl, rfl, h5, h6⟩
    simp (disch := omega) only [X10_rests_s32, X11_rests_s35, e9, i_lt, (L_ib _ _ _).1, (L_ib _ _ _).2, Option.bind_some, bi_if, o_s, o0]
    cases IB (o32 x) (o32 k) v with
    | false => exact ⟨_, _, rfl, rfl, rfl, rfl, c, by omega, hR⟩
    | true =>
      cases IB (o32 k) (o32 x) v with
      | false => exact ⟨_, _, rfl, rfl, rfl, rfl, c, by omega, hR⟩
      | true =>
        by_cases hc0' : c = 0
        · have h7 := h6 hc0'
          subst hc0' h7
          obtain ⟨t, t', t'', et, et', et'', ht'⟩ := TO.both f f' ((o32 x).toInt64) ((o32 k).toInt64)
          simp only [if_true, et, et', et'', Option.bind_some]
          exact ⟨_, _, rfl, rfl, rfl, rfl, 1, by omega, rfl, rfl, ht', fun e => absurd e (by decide)⟩
        · simp only [if_true, hc0', if_false]
          exact ⟨_, _, rfl, rfl, rfl, rfl, c + 1, by omega, rfl, rfl, h5, fun e => absurd e (by omega)⟩
  · rintro ⟨q, i, u, f⟩ ⟨q', i', u', f'⟩ ⟨h1, h2, c, hc, h3⟩
    have h1 : i = _ := h1
    have h2 : i' = _ := h2
    subst h1 h2
    exact ⟨(q, u, f), (q', u', f'), rfl, rfl, c, hc, h3⟩
theorem M_rests (ht : TO tsz rm tnum row) (p1 : Int32) : ∃ y y', X10_rests tsz tnum p1 = some y ∧ X11_rests rm row p1 = some y' ∧ y.1 = y'.1 ∧ TO y.2.1 y'.2.1 y.2.2 y'.2.2.2 := by
  rcases pu_in p1 (lo := 0) (hi := 20) (by decide) (by decide) with ⟨i1, i2⟩ | ⟨i1, i2, i3⟩ | ⟨m, m1, m2, rfl, i1, i2, i3⟩
  · have i1 : p1 < 0 := i1
    have i2 : X11_in p1 0 20 = 0 := i2
    simp only [X10_rests, X11_rests, i1, i2, if_true]
    exact ⟨_, _, rfl, rfl, rfl, ht⟩
  · have i1 : ¬ p1 < 0 := i1
    have i2 : ¬ p1 ≤ 20 := i2
    have i3 : X11_in p1 0 20 = 0 := i3
    simp only [X10_rests, X11_rests, i1, i2, i3, if_true, if_false]
    exact ⟨_, _, rfl, rfl, rfl, ht⟩
  · have i1 : ¬ o32 m < 0 := i1
    have i2 : o32 m ≤ 20 := i2
    have i3 : X11_in (o32 m) 0 20 = 1 := i3
    obtain ⟨z, z', e, e', c, hc, hz1, hz2, hz3, -⟩ := lp_ct2 (f := fun x23 : Int32 × Int32 × Int32 × (Nat → Int64) => X10_rests_s23 (o32 m) x23.1 x23.2.1 x23.2.2.1 x23.2.2.2) (f' := fun x26 : Int32 × Int32 × Int32 × (Nat → Int64) => X11_rests_s26 (o32 m) x26.1 x26.2.1 x26.2.2.1 x26.2.2.2) (fun k x x' => x.2.1 = o32 k ∧ x'.2.1 = o32 k ∧ ∃ c, c ≤ 10 * k ∧ RT c x.1 x'.1 x.2.2.1 x'.2.2.1 x.2.2.2 x'.2.2.2) (fun z z' => ∃ c, c ≤ 100 ∧ RT c z.1 z'.1 z.2.1 z'.2.1 z.2.2 z'.2.2) 10 ((0 : Int32), (0 : Int32), X2_clears, tnum) ((0 : Int32), (0 : Int32), (0 : Int32), row) ⟨rfl, rfl, 0, by omega, rfl, rfl, TO.nil _ _, fun _ => rfl⟩ (by
      rintro k ⟨q, i, u, f⟩ ⟨q', i', u', f'⟩ hk ⟨h1, h2, c, hc, h3⟩
      have h1 : i = _ := h1
      have h2 : i' = _ := h2
      subst h1 h2
      obtain ⟨g, g', eg, eg', c', hc', hg⟩ := L_restI (o32 m) hk (show c < 500 by omega) h3
      have e9 : (9 : Int32) = o32 9 := rfl
      simp (disch := omega) only [X10_rests_s23, X11_rests_s26, e9, i_lt, eg, eg', Option.bind_some, un, o_s]
      exact ⟨_, _, rfl, rfl, rfl, rfl, c', by omega, hg⟩) (by
      rintro ⟨q, i, u, f⟩ ⟨q', i', u', f'⟩ ⟨h1, h2, c, hc, h3⟩
      have h1 : i = _ := h1
      have h2 : i' = _ := h2
      subst h1 h2
      exact ⟨(q, u, f), (q', u', f'), rfl, rfl, c, by omega, h3⟩) (by decide)
    simp only [X10_rests, X11_rests, i1, i2, i3, pu_10, if_true, if_false, e, e', Option.bind_some, un]
    exact ⟨_, _, rfl, rfl, hz1.trans hz2.symm, hz3⟩
end RS
/-! a vigil -/
def VT : List Nat := [0, 1, 2, 0, 1, 0, 1, 4, 8, 0, 1, 8, 0, 1, 0, 1, 16, 0, 1, 16, 0, 1, 0, 1, 0, 1, 0, 1, 16, 0, 1, 0, 1, 0, 1, 32, 0, 1, 0, 1, 0, 1, 0, 1, 32, 0, 1, 0, 1, 32, 0, 1, 32, 0, 1, 0, 1, 0, 1, 0, 1]
def vt (k : Nat) : Nat := VT.getD k 0
def gr (k : Nat) : Nat := if k < 2 then 1 else if k < 4 then 2 else if k < 8 then 4 else if k < 16 then 8 else if k < 32 then 16 else 32
theorem vt_le {k : Nat} (h : k < 61) : vt k ≤ 32 := by
  have h1 : ∀ k : Fin 61, vt k.val ≤ 32 := by decide +kernel
  exact h1 ⟨k, h⟩
theorem vt_s {k : Nat} (h : k < 61) (h0 : 0 < k) : vt k = if vt (k - 1) = 0 then 1 else if vt (k - gr k) = 0 then gr k else 0 := by
  have h1 : ∀ k : Fin 61, 0 < k.val → vt k.val = if vt (k.val - 1) = 0 then 1 else if vt (k.val - gr k.val) = 0 then gr k.val else 0 := by decide +kernel
  exact h1 ⟨k, h⟩ h0
theorem gr_le {k : Nat} (h0 : 0 < k) : gr k ≤ k ∧ 0 < gr k ∧ gr k ≤ 32 := by
  unfold gr
  repeat' (split; omega)
  omega
theorem L_gr {k : Nat} (h : k < 61) : X11_greatest (o32 k) = some (o32 (gr k)) := by
  have h1 : ∀ k : Fin 61, X11_greatest (o32 k.val) = some (o32 (gr k.val)) := by decide +kernel
  exact h1 ⟨k, h⟩
theorem L_vigC {k : Nat} (h : k < 61) : ((lp (fun x17 : Int64 × Int32 => X10_vigil_s17 (o32 k) x17.1 x17.2) 1000 ((0 : Int64), (1 : Int32))).bind fun w => X10_leastTurn w (o32 k)) = some (o32 (vt k)) := by
  have h1 : ∀ k : Fin 61, ((lp (fun x17 : Int64 × Int32 => X10_vigil_s17 (o32 k.val) x17.1 x17.2) 1000 ((0 : Int64), (1 : Int32))).bind fun w => X10_leastTurn w (o32 k.val)) = some (o32 (vt k.val)) := by decide +kernel
  exact h1 ⟨k, h⟩
theorem L_sits {w : Nat → Int32} {k : Nat} (hk : k < 61) (hw : ∀ j, j < k → w j = bi (decide (0 < vt j))) : X11_sitsBy w (o32 k) = some (o32 (vt k)) := by
  unfold X11_sitsBy
  rcases Nat.eq_zero_or_pos k with rfl | h0
  · rw [if_pos (show o32 0 = 0 from rfl)]; rfl
  · have hg := gr_le h0
    have n0 : ¬ o32 k = 0 := by rw [o0 (by omega)]; omega
    rw [if_neg n0, o_p1 h0, gi_o (by omega) (by decide), o_cl (by omega), hw (k - 1) (by omega), L_gr hk, vt_s hk h0]
    by_cases c1 : vt (k - 1) = 0
    · rw [if_pos c1, if_pos (by rw [c1]; rfl)]
      rfl
    · rw [if_neg c1, if_neg (by rw [bi_0]; simp; omega), Option.bind_some, o_sub hg.1, gi_o (by omega) (by decide), o_cl (by omega), hw (k - gr k) (by omega), Option.bind_some]
      by_cases c2 : vt (k - gr k) = 0
      · rw [if_pos c2, if_pos (by rw [c2]; rfl)]
      · rw [if_neg c2, if_neg (by rw [bi_0]; simp; omega)]
        rfl
theorem M_vigil {tsz rm : Int32} {tnum row : Nat → Int64} (ht : TO tsz rm tnum row) (wins : Nat → Int32) (p1 : Int32) : ∃ y y', X10_vigil tsz tnum p1 = some y ∧ X11_vigil rm row wins p1 = some y' ∧ y.1 = y'.1 ∧ TO y.2.1 y'.2.1 y.2.2 y'.2.2.2.1 := by
  rcases pu_in p1 (lo := 0) (hi := 60) (by decide) (by decide) with ⟨i1, i2⟩ | ⟨i1, i2, i3⟩ | ⟨m, m1, m2, rfl, i1, i2, i3⟩
  · have i1 : p1 < 0 := i1
    have i2 : X11_in p1 0 60 = 0 := i2
    simp only [X10_vigil, X11_vigil, i1, i2, if_true]
    exact ⟨_, _, rfl, rfl, rfl, ht⟩
  · have i1 : ¬ p1 < 0 := i1
    have i2 : ¬ p1 ≤ 60 := i2
    have i3 : X11_in p1 0 60 = 0 := i3
    simp only [X10_vigil, X11_vigil, i1, i2, i3, if_true, if_false]
    exact ⟨_, _, rfl, rfl, rfl, ht⟩
  · have i1 : ¬ o32 m < 0 := i1
    have i2 : o32 m ≤ 60 := i2
    have i3 : X11_in (o32 m) 0 60 = 1 := i3
    obtain ⟨w, ew, ew2⟩ : ∃ w, lp (fun x17 : Int64 × Int32 => X10_vigil_s17 (o32 m) x17.1 x17.2) 1000 ((0 : Int64), (1 : Int32)) = some w ∧ X10_leastTurn w (o32 m) = some (o32 (vt m)) := bd_some (L_vigC (show m < 61 by omega))
    obtain ⟨z, ez, hz⟩ := lp_ct (f := fun x19 : Int32 × (Nat → Int32) => X11_vigil_s19 (o32 m) x19.1 x19.2) (fun k x => x.1 = o32 k ∧ ∀ j, j < k → x.2 j = bi (decide (0 < vt j))) (fun z => ∀ j, j < m + 1 → z j = bi (decide (0 < vt j))) (m + 1) ((0 : Int32), wins) ⟨rfl, fun j hj => absurd hj (Nat.not_lt_zero j)⟩ (by
      rintro k ⟨i, x⟩ hk ⟨h1, h2⟩
      have h1 : i = _ := h1
      subst h1
      have h2 : ∀ j, j < k → x j = bi (decide (0 < vt j)) := h2
      have hv := vt_le (show k < 61 by omega)
      have eb : vp_nar .boolean (if o32 (vt k) ≤ 0 then (0 : Int32) else 1) = bi (decide (0 < vt k)) := by
        have q : (o32 (vt k) ≤ 0) = (vt k ≤ 0) := o_le (b := 0) (by omega) (by decide)
        simp only [q]
        by_cases c : 0 < vt k
        · rw [if_neg (by omega)]; simp [c]; rfl
        · rw [if_pos (by omega)]; simp [c]; rfl
      refine ⟨(o32 (k + 1), upd x k (bi (decide (0 < vt k)))), ?_, rfl, fun j hj => ?_⟩
      · simp (disch := omega) only [X11_vigil_s19, i_lt, L_sits (show k < 61 by omega) h2, Option.bind_some, gi_o, o_cl, o_s, eb]
      · show upd x k _ j = _
        by_cases e : j = k
        · subst e; exact pk_us
        · rw [pk_un e]; exact h2 j (by omega)) (by
      rintro ⟨i, x⟩ ⟨h1, h2⟩
      have h1 : i = _ := h1
      subst h1
      refine ⟨x, ?_, h2⟩
      simp (disch := omega) only [X11_vigil_s19, i_gt]) (by omega)
    have hs := L_sits (w := z) (show m < 61 by omega) (fun j hj => hz j (by omega))
    have hzm := hz m (by omega)
    have hv := vt_le (show m < 61 by omega)
    have q : (o32 (vt m) ≤ 0) = (vt m ≤ 0) := o_le (b := 0) (by omega) (by decide)
    by_cases c : 0 < vt m
    · have q2 : (vt m ≤ 0) = False := eq_false (by omega)
      have q3 : (bi (decide (0 < vt m)) = 0) = False := by rw [bi_0]; simp [c]
      obtain ⟨t, t', et, et', ht'⟩ := TO.one tnum row ((o32 (vt m)).toInt64)
      have et : X2_adds X2_clears tnum ((o32 (vt m)).toInt64) = some t := by
        unfold X2_tellsOne at et
        obtain ⟨t2, e1, e2⟩ := bd_some et
        rw [e1]; exact e2
      simp (disch := omega) only [X10_vigil, X10_vigil_k78, X11_vigil, i1, i2, i3, pu_10, if_true, if_false, ew, ew2, ez, Option.bind_some, gi_o, o_cl, hzm, q, q2, q3, hs, et, et']
      exact ⟨_, _, rfl, rfl, rfl, ht'⟩
    · have q2 : (vt m ≤ 0) = True := eq_true (by omega)
      have q3 : (bi (decide (0 < vt m)) = 0) = True := by rw [bi_0]; simp [c]
      simp (disch := omega) only [X10_vigil, X10_vigil_k78, X11_vigil, i1, i2, i3, pu_10, if_true, if_false, ew, ew2, ez, Option.bind_some, gi_o, o_cl, hzm, q, q2, q3]
      exact ⟨_, _, rfl, rfl, rfl, TO.nil _ _⟩
