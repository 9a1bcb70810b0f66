/-! ===== the pure level: what can be undone ===== -/
def PA (n : Nat) (next size undoMany : Int32) (sN sD sU : Nat → Int32) (sK sP sL sW sT : Nat → Nat → Int32) (undos : Nat → Int32) : Prop :=
  ∃ nx sz, nx < 13 ∧ sz ≤ 12 ∧ next = o32 nx ∧ size = o32 sz ∧ undoMany = o32 sz ∧ ∀ i, i < sz → sN ((nx + 13 - sz + i) % 13) = o32 n ∧ RF n (sD ((nx + 13 - sz + i) % 13)) (sU ((nx + 13 - sz + i) % 13)) (sK ((nx + 13 - sz + i) % 13)) (sP ((nx + 13 - sz + i) % 13)) (sL ((nx + 13 - sz + i) % 13)) (sW ((nx + 13 - sz + i) % 13)) (sT ((nx + 13 - sz + i) % 13)) (fun j => undos (37 * i + j))
/-- with a mark laid for a row -/
def PM (n : Nat) (next size undoMany : Int32) (sN sD sU : Nat → Int32) (sK sP sL sW sT : Nat → Nat → Int32) (undos a : Nat → Int32) : Prop :=
  PA n next size undoMany sN sD sU sK sP sL sW sT undos ∧ ∃ nx, nx < 13 ∧ next = o32 nx ∧ sN nx = o32 n ∧ RF n (sD nx) (sU nx) (sK nx) (sP nx) (sL nx) (sW nx) (sT nx) a
theorem fu_s {α : Type} {f : Nat → α} {k : Nat} {x : α} : fu f k x k = x := if_pos rfl
theorem fu_n {α : Type} {f : Nat → α} {k j : Nat} {x : α} (h : ¬ j = k) : fu f k x j = f j := if_neg h
section PS
variable {n : Nat} {day unmet : Int32} {skill pills slept woken wanted now : Nat → Int32} {next size um : Int32} {sN sD sU : Nat → Int32} {sK sP sL sW sT : Nat → Nat → Int32} {undos : Nat → Int32}
theorem L_marks (h : RF n day unmet skill pills slept woken wanted now) (hp : PA n next size um sN sD sU sK sP sL sW sT undos) : ∃ y, X3_marks next sN sD sU sK sP sL sW sT (o32 n) day unmet skill pills slept woken wanted = some y ∧ PM n next size um y.1 y.2.1 y.2.2.1 y.2.2.2.1 y.2.2.2.2.1 y.2.2.2.2.2.1 y.2.2.2.2.2.2.1 y.2.2.2.2.2.2.2 undos now := by
  obtain ⟨nx, sz, hnx, hsz, rfl, rfl, rfl, hi⟩ := hp
  obtain ⟨y, ey, e1, hy⟩ := L_trial h (sK nx) (sP nx) (sL nx) (sW nx) (sT nx)
  have e13 : (13 : Int32) = o32 13 := rfl
  have nn : (o32 nx < 0) = False := eq_false (o_nn nx (by omega))
  simp (disch := omega) only [X3_marks, nn, if_false, e13, i_ge, gi_o, o_cl, ey, Option.bind_some]
  refine ⟨_, rfl, ⟨nx, sz, hnx, hsz, rfl, rfl, rfl, fun i hlt => ?_⟩, nx, hnx, rfl, ?_, ?_⟩
  · have hne : ¬ (nx + 13 - sz + i) % 13 = nx := by omega
    simp only [fu_n hne]
    exact hi i hlt
  · simp only [fu_s]; exact e1
  · simp only [fu_s]; exact hy
theorem L_layAt {w t : Nat → Int32} {N B : Nat} (hB : B + 37 ≤ N) (hN : N < 100000) : ∃ t', X11_lay 37 w N t (o32 B) = some t' ∧ (∀ j, j < 37 → t' (B + j) = w j) ∧ ∀ j, j < B ∨ B + 37 ≤ j → t' j = t j := by
  obtain ⟨z, e, hz1, hz2⟩ := lp_ct (f := fun x2 : Int32 × (Nat → Int32) => X11_lay_s2 37 w N (o32 B) x2.1 x2.2) (fun k x => x.1 = o32 k ∧ (∀ j, j < k → x.2 (B + j) = w j) ∧ ∀ j, j < B ∨ B + 37 ≤ j → x.2 j = t j) (fun z => (∀ j, j < 37 → z (B + j) = w j) ∧ ∀ j, j < B ∨ B + 37 ≤ j → z j = t j) 37 ((0 : Int32), t) ⟨rfl, fun j hj => absurd hj (Nat.not_lt_zero j), fun _ _ => rfl⟩ (by
    rintro k ⟨i, x⟩ hk ⟨h1, h2, h3⟩
    have h1 : i = _ := h1
    subst h1
    have e37 : (37 : Int32) = o32 37 := rfl
    refine ⟨(o32 (k + 1), upd x (B + k) (w k)), ?_, rfl, fun j hj => ?_, fun j hj => ?_⟩
    · simp (disch := omega) only [X11_lay_s2, e37, i_ge, gi_o, o_add, o_cl, o_s]
    · show upd x (B + k) (w k) (B + j) = w j
      by_cases e : j = k
      · subst e; exact pk_us
      · rw [pk_un (by omega)]; exact h2 j (by omega)
    · show upd x (B + k) (w k) j = t j
      rw [pk_un (by omega)]; exact h3 j hj) (by
    rintro ⟨i, x⟩ ⟨h1, h2, h3⟩
    have h1 : i = _ := h1
    subst h1
    exact ⟨x, rfl, h2, h3⟩) (by omega)
  refine ⟨z, ?_, hz1, hz2⟩
  unfold X11_lay
  rw [e]
  rfl
theorem L_shift (u : Nat → Int32) : ∃ z, lp (fun x11 : Int32 × (Nat → Int32) => X11_remember_s11 x11.1 x11.2) 1000 ((0 : Int32), u) = some z ∧ ∀ j, j < 407 → z j = u (j + 37) := by
  refine (lp_ct (fun k x => x.1 = o32 k ∧ (∀ j, j < k → x.2 j = u (j + 37)) ∧ ∀ j, k ≤ j → x.2 j = u j) _ 407 _ ⟨rfl, fun j hj => absurd hj (Nat.not_lt_zero j), fun _ _ => rfl⟩ ?_ ?_ (by omega))
  · rintro k ⟨i, x⟩ hk ⟨h1, h2, h3⟩
    have h1 : i = _ := h1
    subst h1
    have h3 : ∀ j, k ≤ j → x j = u j := h3
    have e407 : (407 : Int32) = o32 407 := rfl
    have e37 : (37 : Int32) = o32 37 := rfl
    refine ⟨(o32 (k + 1), upd x k (x (k + 37))), ?_, rfl, fun j hj => ?_, fun j hj => ?_⟩
    · simp (disch := omega) only [X11_remember_s11, e407, e37, i_ge, gi_o, o_add, o_cl, o_s]
    · show upd x k _ j = _
      by_cases e : j = k
      · subst e; rw [pk_us, h3 _ (by omega)]
      · rw [pk_un (by omega)]; exact h2 j (by omega)
    · show upd x k _ j = _
      rw [pk_un (by omega)]; exact h3 j (by omega)
  · rintro ⟨i, x⟩ ⟨h1, h2, h3⟩
    have h1 : i = _ := h1
    subst h1
    exact ⟨x, rfl, h2⟩
theorem pu_rem {a : Nat} (h : a < 40) : irem (o32 a) 13 = o32 (a % 13) := by
  have h1 : ∀ a : Fin 40, irem (o32 a.val) 13 = o32 (a.val % 13) := by decide +kernel
  exact h1 ⟨a, h⟩
theorem pu_m12 {a : Nat} (h : a < 14) : J9_min_7cf53 12 (o32 a) = o32 (min 12 a) := by
  have h1 : ∀ a : Fin 14, J9_min_7cf53 12 (o32 a.val) = o32 (min 12 a.val) := by decide +kernel
  exact h1 ⟨a, h⟩
/-- a mark is kept on both sides -/
theorem L_kept {a w : Nat → Int32} (hp : PM n next size um sN sD sU sK sP sL sW sT undos a) (hw : EQ w a) : ∃ k r, X3_keepsMark next size = some k ∧ X11_remember um undos 37 w = some r ∧ PA n k.1 k.2 r.1 sN sD sU sK sP sL sW sT r.2 := by
  obtain ⟨⟨nx, sz, hnx, hsz, rfl, rfl, rfl, hi⟩, nx', hnx', enx, hN, hR⟩ := hp
  have : nx' = nx := by
    rw [o_eq (by omega) (by omega)] at enx
    exact enx.symm
  subst this
  have ek : X3_keepsMark (o32 nx') (o32 sz) = some (o32 ((nx' + 1) % 13), o32 (min 12 (sz + 1))) := by
    simp (disch := omega) only [X3_keepsMark, o_s, pu_rem, pu_m12, gz, if_neg (show ¬ (13 : Int32) = 0 by decide)]
  rcases Nat.lt_or_ge sz 12 with h12 | h12
  · obtain ⟨t, et, ht1, ht2⟩ := L_layAt (w := w) (t := undos) (N := 444) (B := 37 * sz) (by omega) (by omega)
    have e12 : (o32 sz = 12) = False := by
      show (o32 sz = o32 12) = False
      rw [o_eq (by omega) (by decide)]; exact eq_false (by omega)
    have e37 : (37 : Int32) = o32 37 := rfl
    refine ⟨_, (o32 (sz + 1), t), ek, ?_, (nx' + 1) % 13, sz + 1, by omega, by omega, rfl, ?_, rfl, fun i hlt => ?_⟩
    · simp (disch := omega) only [X11_remember, X11_remember_k49, e12, if_false, e37, o_mul, et, Option.bind_some, o_s]
    · show o32 (min 12 (sz + 1)) = _
      rw [Nat.min_eq_right (by omega)]
    · show sN (((nx' + 1) % 13 + 13 - (sz + 1) + i) % 13) = o32 n ∧ _
      have em : ((nx' + 1) % 13 + 13 - (sz + 1) + i) % 13 = (nx' + 13 - sz + i) % 13 := by omega
      rw [em]
      rcases Nat.lt_or_ge i sz with h1 | h1
      · obtain ⟨q1, q2⟩ := hi i h1
        refine ⟨q1, q2.eq (fun j hj => ?_)⟩
        exact ht2 _ (Or.inl (by omega))
      · have h1 : i = sz := by omega
        subst h1
        have em2 : (nx' + 13 - i + i) % 13 = nx' := by omega
        rw [em2]
        refine ⟨hN, hR.eq (fun j hj => ?_)⟩
        show t (37 * i + j) = a j
        rw [ht1 j hj, hw j hj]
  · have h12 : sz = 12 := by omega
    subst h12
    obtain ⟨u, eu, hu⟩ := L_shift undos
    obtain ⟨t, et, ht1, ht2⟩ := L_layAt (w := w) (t := u) (N := 444) (B := 37 * 11) (by omega) (by omega)
    have e12 : (o32 12 = 12) = True := eq_true rfl
    have e37 : (37 : Int32) = o32 37 := rfl
    refine ⟨_, (o32 12, t), ek, ?_, (nx' + 1) % 13, 12, by omega, by omega, rfl, rfl, rfl, fun i hlt => ?_⟩
    · simp (disch := omega) only [X11_remember, X11_remember_k49, e12, if_true, eu, Option.bind_some, o_p1, e37, o_mul]
      rw [et]
      rfl
    · show sN (((nx' + 1) % 13 + 13 - 12 + i) % 13) = o32 n ∧ _
      rcases Nat.lt_or_ge i 11 with h1 | h1
      · have em : ((nx' + 1) % 13 + 13 - 12 + i) % 13 = (nx' + 13 - 12 + (i + 1)) % 13 := by omega
        rw [em]
        obtain ⟨q1, q2⟩ := hi (i + 1) (by omega)
        refine ⟨q1, q2.eq (fun j hj => ?_)⟩
        show t (37 * i + j) = undos (37 * (i + 1) + j)
        rw [ht2 _ (Or.inl (by omega)), hu _ (by omega), show 37 * i + j + 37 = 37 * (i + 1) + j by omega]
      · have h1 : i = 11 := by omega
        subst h1
        have em2 : ((nx' + 1) % 13 + 13 - 12 + 11) % 13 = nx' := by omega
        rw [em2]
        refine ⟨hN, hR.eq (fun j hj => ?_)⟩
        show t (37 * 11 + j) = a j
        rw [ht1 j hj, hw j hj]
theorem M_undo (h : RF n day unmet skill pills slept woken wanted now) (hp : PA n next size um sN sD sU sK sP sL sW sT undos) : ∃ y y', X10_undo (o32 n) day unmet skill pills slept woken wanted next size sN sD sU sK sP sL sW sT = some y ∧ X11_undo um now undos = some y' ∧ y.1 = y'.1 ∧ y.2.1 = o32 n ∧ RF n y.2.2.1 y.2.2.2.1 y.2.2.2.2.1 y.2.2.2.2.2.1 y.2.2.2.2.2.2.1 y.2.2.2.2.2.2.2.1 y.2.2.2.2.2.2.2.2.1 y'.2.2.2 ∧ PA n y.2.2.2.2.2.2.2.2.2.1 y.2.2.2.2.2.2.2.2.2.2 y'.2.2.1 sN sD sU sK sP sL sW sT undos := by
  obtain ⟨nx, sz, hnx, hsz, rfl, rfl, rfl, hi⟩ := hp
  have hd : (o32 sz = 0) = (sz = 0) := o0 (by omega)
  by_cases h0 : sz = 0
  · subst h0
    have e0 : (o32 0 = 0) = True := eq_true rfl
    simp only [X10_undo, X3_comesBack, X11_undo, e0, if_true, Option.bind_some]
    exact ⟨_, _, rfl, rfl, rfl, rfl, h, nx, 0, hnx, by omega, rfl, rfl, rfl, hi⟩
  · have e0 : (o32 sz = 0) = False := by rw [hd]; exact eq_false h0
    obtain ⟨q1, q2⟩ := hi (sz - 1) (by omega)
    have em : (nx + 13 - sz + (sz - 1)) % 13 = (nx + 12) % 13 := by omega
    rw [em] at q1 q2
    obtain ⟨y, ey, e1, hy⟩ := L_trial q2 skill pills slept woken wanted
    obtain ⟨z, ez, hz⟩ := lp_ct (f := fun x26 : Int32 × (Nat → Int32) => X11_undo_s26 (o32 sz) undos x26.1 x26.2) (fun k x => x.1 = o32 k ∧ ∀ j, j < k → x.2 j = undos (37 * (sz - 1) + j)) (fun z => EQ z (fun j => undos (37 * (sz - 1) + j))) 37 ((0 : Int32), now) ⟨rfl, fun j hj => absurd hj (Nat.not_lt_zero j)⟩ (by
      rintro k ⟨i, x⟩ hk ⟨h1, h2⟩
      have h1 : i = _ := h1
      subst h1
      have e37 : (37 : Int32) = o32 37 := rfl
      refine ⟨(o32 (k + 1), upd x k (undos (37 * (sz - 1) + k))), ?_, rfl, fun j hj => ?_⟩
      · simp (disch := omega) only [X11_undo_s26, e37, i_ge, o_p1, o_mul, o_add, gi_o, o_cl, o_s]
      · show upd x k _ j = _
        by_cases e : j = k
        · subst e; exact pk_us
        · rw [pk_un e]; exact h2 j (by omega)) (by
      rintro ⟨i, x⟩ ⟨h1, h2⟩
      have h1 : i = _ := h1
      subst h1
      exact ⟨x, rfl, h2⟩) (by omega)
    have ei : irem (o32 nx + 13 - 1) 13 = o32 ((nx + 12) % 13) := by
      have e13 : (13 : Int32) = o32 13 := rfl
      rw [show o32 nx + 13 - 1 = o32 (nx + 12) by rw [e13, o_add, o_p1 (by omega), show nx + 13 - 1 = nx + 12 by omega]]
      exact pu_rem (by omega)
    have nn : (o32 ((nx + 12) % 13) < 0) = False := eq_false (o_nn _ (by omega))
    simp (disch := omega) only [X10_undo, X3_comesBack, X11_undo, e0, if_false, gz, if_neg (show ¬ (13 : Int32) = 0 by decide), ei, nn, gi_o, o_cl, q1, ey, Option.bind_some, ez, o_p1, pu_10]
    refine ⟨_, _, rfl, rfl, rfl, e1, hy.eq hz, (nx + 12) % 13, sz - 1, by omega, by omega, rfl, rfl, rfl, fun i hlt => ?_⟩
    have em3 : ((nx + 12) % 13 + 13 - (sz - 1) + i) % 13 = (nx + 13 - sz + i) % 13 := by omega
    rw [em3]
    exact hi i (by omega)
theorem M_wishes (h : RF n day unmet skill pills slept woken wanted now) (hp : PA n next size um sN sD sU sK sP sL sW sT undos) (p1 p2 : Int32) : ∃ y y', X10_wishes (o32 n) day unmet skill pills slept woken wanted next size sN sD sU sK sP sL sW sT p1 p2 = some y ∧ X11_wishes (o32 n) um now undos p1 p2 = some y' ∧ y.1 = y'.1 ∧ RF n day unmet skill pills slept woken y.2.1 y'.2.2.2.1 ∧ PA n y.2.2.1 y.2.2.2.1 y'.2.2.1 y.2.2.2.2.1 y.2.2.2.2.2.1 y.2.2.2.2.2.2.1 y.2.2.2.2.2.2.2.1 y.2.2.2.2.2.2.2.2.1 y.2.2.2.2.2.2.2.2.2.1 y.2.2.2.2.2.2.2.2.2.2.1 y.2.2.2.2.2.2.2.2.2.2.2 y'.2.2.2.2 := by
  obtain ⟨m, em, hm⟩ := L_marks h hp
  rcases L_turn h p1 p2 with ⟨e1, e2⟩ | ⟨p, q, x, hp1, hq, hne, rfl, rfl, hx, -, ex1, ex2, e1, e2, hR⟩
  · simp only [X10_wishes, X11_wishes, X10_done, em, e1, e2, Option.bind_some, if_true, if_pos (show (-1 : Int32) < 0 by decide)]
    exact ⟨_, _, rfl, rfl, rfl, h, hm.1⟩
  · have hn := h.nn
    have h128 := Nat.lt_of_lt_of_le hx (p2_7 hn)
    obtain ⟨k, r, ek, er, hk⟩ := L_kept hm (EQ.rf (a := now))
    have nn : (o32 x < 0) = False := eq_false (o_nn x (by omega))
    simp (disch := omega) only [X10_wishes, X11_wishes, X10_done, em, e1, e2, Option.bind_some, nn, if_false, pu_10, ek, er, o_la, gi_o, o_cl, ex2]
    refine ⟨_, _, rfl, rfl, ?_, hR, hk⟩
    show o32 x = upd now (28 + p) (o32 x) (28 + p)
    rw [pk_us]
theorem M_pills (h : RF n day unmet skill pills slept woken wanted now) (hp : PA n next size um sN sD sU sK sP sL sW sT undos) (p1 p2 : Int32) : ∃ y y', X10_pills (o32 n) day unmet skill pills slept woken wanted next size sN sD sU sK sP sL sW sT p1 p2 = some y ∧ X11_pills (o32 n) um now undos p1 p2 = some y' ∧ y.1 = y'.1 ∧ RF n day unmet skill y.2.1 slept woken wanted y'.2.2.2.1 ∧ PA n y.2.2.1 y.2.2.2.1 y'.2.2.1 y.2.2.2.2.1 y.2.2.2.2.2.1 y.2.2.2.2.2.2.1 y.2.2.2.2.2.2.2.1 y.2.2.2.2.2.2.2.2.1 y.2.2.2.2.2.2.2.2.2.1 y.2.2.2.2.2.2.2.2.2.2.1 y.2.2.2.2.2.2.2.2.2.2.2 y'.2.2.2.2 := by
  obtain ⟨m, em, hm⟩ := L_marks h hp
  rcases L_pil h p1 p2 with ⟨r, hr, e1, e2⟩ | ⟨q, m', x, hq, rfl, rfl, hx, ex, e1, e2, hR⟩
  · have n1 : (r < 0) = True := by rcases hr with rfl | rfl <;> decide
    have n2 : ((0 : Int32) ≤ r) = False := by rcases hr with rfl | rfl <;> decide
    simp only [X10_pills, X11_pills, X10_done, em, e1, e2, Option.bind_some, if_true, if_false, n1, n2]
    exact ⟨_, _, rfl, rfl, rfl, h, hm.1⟩
  · have hn := h.nn
    obtain ⟨k, r, ek, er, hk⟩ := L_kept hm (EQ.rf (a := now))
    have nn : (o32 x < 0) = False := eq_false (o_nn x (by omega))
    have n2 : ((0 : Int32) ≤ 0) = True := by decide
    simp (disch := omega) only [X10_pills, X11_pills, X10_done, em, e1, e2, Option.bind_some, nn, n2, if_false, if_true, ek, er, o_la, gi_o, o_cl, ex]
    refine ⟨_, _, rfl, rfl, ?_, hR, hk⟩
    show o32 x = upd now (7 + q) (o32 x) (7 + q)
    rw [pk_us]
theorem M_learns (h : RF n day unmet skill pills slept woken wanted now) (hp : PA n next size um sN sD sU sK sP sL sW sT undos) (p1 p2 : Int32) : ∃ y y', X10_learns (o32 n) day unmet skill pills slept woken wanted next size sN sD sU sK sP sL sW sT p1 p2 = some y ∧ X11_learns (o32 n) um now undos p1 p2 = some y' ∧ y.1 = y'.1 ∧ RF n day unmet y.2.1 pills slept woken wanted y'.2.2.2.1 ∧ PA n y.2.2.1 y.2.2.2.1 y'.2.2.1 y.2.2.2.2.1 y.2.2.2.2.2.1 y.2.2.2.2.2.2.1 y.2.2.2.2.2.2.2.1 y.2.2.2.2.2.2.2.2.1 y.2.2.2.2.2.2.2.2.2.1 y.2.2.2.2.2.2.2.2.2.2.1 y.2.2.2.2.2.2.2.2.2.2.2 y'.2.2.2.2 := by
  obtain ⟨m, em, hm⟩ := L_marks h hp
  rcases L_ski h p1 p2 with ⟨r, s', hr, e1, e2, hR⟩ | ⟨q, m', x, hq, rfl, rfl, hx, hm', ex, e1, e2, hR⟩
  · have n1 : (r < 0) = True := by rcases hr with rfl | rfl <;> decide
    have n2 : ((0 : Int32) ≤ r) = False := by rcases hr with rfl | rfl <;> decide
    simp only [X10_learns, X11_learns, X10_done, em, e1, e2, Option.bind_some, if_true, if_false, n1, n2]
    exact ⟨_, _, rfl, rfl, rfl, hR, hm.1⟩
  · have hn := h.nn
    obtain ⟨k, r, ek, er, hk⟩ := L_kept hm (EQ.rf (a := now))
    have nn : (o32 (10 + x) < 0) = False := eq_false (o_nn (10 + x) (by omega))
    have n2 : ((0 : Int32) ≤ 0) = True := by decide
    simp (disch := omega) only [X10_learns, X11_learns, X10_done, em, e1, e2, Option.bind_some, nn, n2, if_false, if_true, ek, er, gi_o, o_cl, ex, o_la]
    exact ⟨_, _, rfl, rfl, rfl, hR, hk⟩
theorem L_lea (h : RF n day unmet skill pills slept woken wanted now) (p1 : Int32) : (∃ r w', (r = -1 ∨ r = -2) ∧ X0_isRidOf (o32 n) wanted p1 = some (r, w') ∧ X11_refusesLeave (o32 n) now p1 = some r ∧ RF n day unmet skill pills slept woken w' now) ∨ ∃ q x w', q < n ∧ p1 = o32 q ∧ 0 < x ∧ x < 100 ∧ X0_isRidOf (o32 n) wanted p1 = some (o32 x, w') ∧ X11_refusesLeave (o32 n) now p1 = some 0 ∧ X11_wantsOf (o32 n) 37 now p1 = some (o32 x) ∧ (∃ z, X11_goAway (o32 n) 37 now p1 = some z ∧ EQ z (GA n now q)) ∧ RF n day unmet skill pills slept woken w' (GA n now q) := by
  have hn := h.nn
  have hri := h.ri
  rcases L_one hn p1 with ⟨q, hq, rfl, ho, ho'⟩ | ⟨ho, ho'⟩
  · obtain ⟨w', e, hR⟩ := L_rid h hq
    have hw := L_wof hri (EQ.rf (a := now)) hq
    have hl1 := pc_le (nt (now (28 + q)))
    have hl2 := pc_le (WB n now q)
    by_cases h0 : pc (nt (now (28 + q))) + pc (WB n now q) = 0
    · left
      rw [if_pos h0] at e
      refine ⟨-2, w', Or.inr rfl, e, ?_, hR.eq ?_⟩
      · simp only [X11_refusesLeave, ho', pu_10, if_false, hw, h0, Option.bind_some]
        rfl
      · -- nothing was there to lose
        intro j hj
        by_cases hj2 : 28 ≤ j ∧ j < 28 + n
        · obtain ⟨k, rfl⟩ : ∃ k, j = 28 + k := ⟨j - 28, by omega⟩
          have hk : k < n := by omega
          have hwk := hri.wt hk
          rw [GA_in hk]
          have pz : ∀ m, m < 128 → pc m = 0 → m = 0 := by
            have h1 : ∀ m : Fin 128, pc m.val = 0 → m.val = 0 := by decide +kernel
            exact fun m hm e => h1 ⟨m, hm⟩ e
          by_cases ek : k = q
          · subst ek
            rw [if_pos rfl, hwk.2.1, pz _ hwk.2.2.1 (by omega)]
            rfl
          · rw [if_neg ek]
            have hW0 : WB n now q = 0 := pz _ (bm_128 hn) (by omega)
            have hb : (WB n now q).testBit k = false := by rw [hW0]; exact Nat.zero_testBit k
            unfold WB at hb
            rw [bm_tb] at hb
            simp only [hk, decide_true, Bool.true_and] at hb
            have e2 : sd (nt (now (28 + k))) (2 ^ q) = nt (now (28 + k)) := by
              apply Nat.eq_of_testBit_eq
              intro i
              rw [sd_tb hwk.2.2.1, tb_2]
              by_cases ei : q = i
              · subst ei; rw [hb]; rfl
              · simp [ei]
            rw [e2]; exact hwk.2.1
        · rw [GA_out hj2]
    · right
      rw [if_neg h0] at e
      refine ⟨q, pc (nt (now (28 + q))) + pc (WB n now q), w', hq, rfl, by omega, by omega, e, ?_, hw, L_away hri EQ.rf hq, hR⟩
      have n0 : (o32 (pc (nt (now (28 + q))) + pc (WB n now q)) = 0) = False := by rw [o0 (by omega)]; exact eq_false h0
      simp only [X11_refusesLeave, ho', pu_10, if_false, hw, Option.bind_some, n0]
  · left
    refine ⟨-1, wanted, Or.inl rfl, ?_, ?_, h⟩
    · simp only [X0_isRidOf, ho, if_true]
    · simp only [X11_refusesLeave, ho', if_true, Option.bind_some]
theorem M_leaves (h : RF n day unmet skill pills slept woken wanted now) (hp : PA n next size um sN sD sU sK sP sL sW sT undos) (p1 : Int32) : ∃ y y', X10_leaves (o32 n) day unmet skill pills slept woken wanted next size sN sD sU sK sP sL sW sT p1 = some y ∧ X11_leaves (o32 n) um now undos p1 = some y' ∧ y.1 = y'.1 ∧ RF n day unmet skill pills slept woken y.2.1 y'.2.2.2.1 ∧ PA n y.2.2.1 y.2.2.2.1 y'.2.2.1 y.2.2.2.2.1 y.2.2.2.2.2.1 y.2.2.2.2.2.2.1 y.2.2.2.2.2.2.2.1 y.2.2.2.2.2.2.2.2.1 y.2.2.2.2.2.2.2.2.2.1 y.2.2.2.2.2.2.2.2.2.2.1 y.2.2.2.2.2.2.2.2.2.2.2 y'.2.2.2.2 := by
  obtain ⟨m, em, hm⟩ := L_marks h hp
  rcases L_lea h p1 with ⟨r, s', hr, e1, e2, hR⟩ | ⟨q, x, w', hq, rfl, hx0, hx, e1, e2, e3, ⟨z, e4, hz⟩, hR⟩
  · have n1 : (r < 0) = True := by rcases hr with rfl | rfl <;> decide
    have n2 : ((0 : Int32) ≤ r) = False := by rcases hr with rfl | rfl <;> decide
    simp only [X10_leaves, X11_leaves, X10_done, em, e1, e2, Option.bind_some, if_true, if_false, n1, n2]
    exact ⟨_, _, rfl, rfl, rfl, hR, hm.1⟩
  · obtain ⟨k, r, ek, er, hk⟩ := L_kept hm (EQ.rf (a := now))
    have nn : (o32 x < 0) = False := eq_false (o_nn x (by omega))
    have n2 : ((0 : Int32) ≤ 0) = True := by decide
    simp only [X10_leaves, X11_leaves, X10_done, em, e1, e2, e3, e4, Option.bind_some, nn, n2, if_false, if_true, ek, er]
    exact ⟨_, _, rfl, rfl, rfl, hR.eq hz, hk⟩
end PS
