/-! ===== the pure level: way ===== -/
section WY
variable {n am to : Nat} {day unmet : Int32} {skill pills slept woken wanted now : Nat → Int32} {tsz rm : Int32} {tnum row : Nat → Int64}
theorem fv_eq {i v : Nat} (hn : n ≤ 7) (hv : v < 90) : (fv (BF n now am to (n - 1) i) = o32 v) = (BF n now am to (n - 1) i = v) := by
  rcases BF_le (n := n) (now := now) (am := am) (to := to) (n - 1) i with h1 | h1
  · rw [fv_lt (by omega)]; exact o_eq (by omega) (by omega)
  · rw [h1, fv_99]
    apply propext
    constructor
    · intro h
      have h2 := congrArg Int32.toInt h
      rw [o_toInt (by omega), show (-1 : Int32).toInt = -1 by decide] at h2
      omega
    · intro h; omega
/-- whom one wants and who is so far -/
def NR (n : Nat) (a : Nat → Int32) (am to p v i : Nat) : Bool := (nt (a (28 + p))).testBit i && decide (BF n a am to (n - 1) i = v)
theorem L_near (h : RF n day unmet skill pills slept woken wanted now) {far : Nat → Int32} (hf : ∀ j, j < n → far j = fv (BF n now am to (n - 1) j)) {p v : Nat} (hp : p < n) (hv : v < 90) : (∃ i, i < n ∧ NR n now am to p v i = true ∧ (∀ j, j < i → NR n now am to p v j = false) ∧ X4_nearer far (o32 n) wanted (o32 p) (o32 v) = some (o32 i)) ∨ ((∀ j, j < n → NR n now am to p v j = false) ∧ X4_nearer far (o32 n) wanted (o32 p) (o32 v) = some (-1)) := by
  have hn := h.nn
  have hh := L_hasn hp hn
  have hw := h.ri.wt hp
  have ew : wanted p = o32 (nt (now (28 + p))) := by rw [← h.wan (by omega)]; exact hw.2.1
  have step : ∀ k, k < n → X4_nearer_s13 far (o32 n) wanted (o32 p) (o32 v) (o32 k) = if NR n now am to p v k = true then some (.inr (.inr (o32 k))) else some (.inl (o32 (k + 1))) := by
    intro k hk
    simp (disch := omega) only [X4_nearer_s13, i_ge, gi_o, o_cl, ew, pu_bit hw.2.2.1 (show k < 7 by omega), bi_if, hf k hk, fv_eq hn hv, o_s]
    unfold NR
    cases (nt (now (28 + p))).testBit k with
    | false => rfl
    | true =>
      by_cases hx : BF n now am to (n - 1) k = v
      · simp [hx]
      · simp [hx]
  rcases least_or (P := fun k => NR n now am to p v k = true) (n - 1) with ⟨i, hi, h1, h2⟩ | hno
  · left
    have hin : i < n := by omega
    refine ⟨i, hin, h1, fun j hj => by simpa using h2 j hj, ?_⟩
    unfold X4_nearer
    rw [hh, if_neg (by decide), show (0 : Int32) = o32 0 from rfl, lp_run (f := fun x13 => X4_nearer_s13 far (o32 n) wanted (o32 p) (o32 v) x13) (r := .inr (o32 i)) (fun k => o32 k) i 0 1000 (fun k _ hk => by
      rw [step k (by omega), if_neg (h2 k (by omega))]) (by rw [Nat.zero_add, step i hin, if_pos h1]) (by omega)]
    rfl
  · right
    refine ⟨fun j hj => by simpa using hno j (by omega), ?_⟩
    unfold X4_nearer
    rw [hh, if_neg (by decide), show (0 : Int32) = o32 0 from rfl, lp_run (f := fun x13 => X4_nearer_s13 far (o32 n) wanted (o32 p) (o32 v) x13) (r := .inl ()) (fun k => o32 k) n 0 1000 (fun k _ hk => by
      rw [step k (by omega), if_neg (hno k (by omega))]) (by
      rw [Nat.zero_add]
      simp (disch := omega) only [X4_nearer_s13, i_le]) (by omega)]
    rfl
/-- the reference's number for it -/
def DD (n : Nat) (a : Nat → Int32) (am to i : Nat) : Nat := if BF n a am to (n - 1) i < 99 then BF n a am to (n - 1) i else 1000000
theorem DD_le {i : Nat} : DD n now am to i ≤ 1000000 := by unfold DD; split <;> omega
theorem DD_st {i j : Nat} (hn : n ≤ 7) (hi : i < n) (hj : j < n) (ha : am.testBit i = true) (hw : (nt (now (28 + i))).testBit j = true) : DD n now am to i ≤ DD n now am to j + 1 := by
  by_cases c : BF n now am to (n - 1) j < 99
  · have h1 := BF_st hn hi hj ha hw c
    have hl : BF n now am to (n - 1) j ≤ n - 1 := by rcases BF_le (n := n) (now := now) (am := am) (to := to) (n - 1) j with h1 | h1 <;> omega
    unfold DD
    rw [if_pos c]
    split
    · exact h1
    · omega
  · have := DD_le (n := n) (now := now) (am := am) (to := to) (i := i)
    have e : DD n now am to j = 1000000 := by unfold DD; rw [if_neg c]
    omega
def OKr (n : Nat) (a : Nat → Int32) (am to r i v : Nat) : Prop := DD n a am to i ≤ v ∧ v ≤ 1000000 ∧ (BF n a am to (n - 1) i ≤ r → v = BF n a am to (n - 1) i)
theorem OKr.mo {r i v : Nat} (h : OKr n now am to (r + 1) i v) : OKr n now am to r i v := ⟨h.1, h.2.1, fun e => h.2.2 (by omega)⟩
theorem pu_mn {a b : Nat} (ha : a < 2147483648) (hb : b < 2147483648) : J9_min_7cf53 (o32 a) (o32 b) = o32 (min a b) := by
  unfold J9_min_7cf53
  rcases Nat.lt_or_ge b a with h | h
  · rw [i_gt h ha, Nat.min_eq_right (Nat.le_of_lt h)]
  · rw [i_lt h hb, Nat.min_eq_left h]
theorem L_relI (h : RI n now) (hall : ∀ i, i < n → am.testBit i = true) {r i : Nat} (hr : r < n) (hi : i < n) {x : Nat → Int32} {v : Nat → Nat} (hx : ∀ j, j < n → x j = o32 (v j)) (hv : ∀ j, j < n → OKr n now am to r j (v j)) : ∃ z, lp (fun x82 : Int32 × (Nat → Int32) => X11_way_s82 (o32 n) now (o32 i) x82.1 x82.2) 1000 ((0 : Int32), x) = some z ∧ ∃ u, (∀ j, j < n → ¬ j = i → z j = x j) ∧ z i = o32 u ∧ OKr n now am to (r + 1) i u := by
  have hn := h.1
  have hw := h.wt hi
  obtain ⟨z, e, u, h1, h2, h3, h4⟩ := lp_ct (f := fun x82 : Int32 × (Nat → Int32) => X11_way_s82 (o32 n) now (o32 i) x82.1 x82.2) (fun k y => y.1 = o32 k ∧ ∃ u, (∀ j, j < n → ¬ j = i → y.2 j = x j) ∧ y.2 i = o32 u ∧ OKr n now am to r i u ∧ ∀ k', k' < k → (nt (now (28 + i))).testBit k' = true → BF n now am to (n - 1) k' ≤ r → u ≤ BF n now am to (n - 1) k' + 1) (fun z => ∃ u, (∀ j, j < n → ¬ j = i → z j = x j) ∧ z i = o32 u ∧ OKr n now am to r i u ∧ ∀ k', k' < n → (nt (now (28 + i))).testBit k' = true → BF n now am to (n - 1) k' ≤ r → u ≤ BF n now am to (n - 1) k' + 1) n ((0 : Int32), x) ⟨rfl, v i, fun _ _ _ => rfl, hx i hi, hv i hi, fun k' hk' => absurd hk' (Nat.not_lt_zero k')⟩ (by
    rintro k ⟨c, y⟩ hk ⟨h1, u, h2, h3, h4, h5⟩
    have h1 : c = _ := h1
    subst h1
    have h2 : ∀ j, j < n → ¬ j = i → y j = x j := h2
    have h3 : y i = o32 u := h3
    have hhas : X11_has (now (28 + i)) (o32 k) = bi ((nt (now (28 + i))).testBit k) := by
      rw [show now (28 + i) = o32 (nt (now (28 + i))) from hw.2.1, pu_has hw.2.2.1 (by omega), ← hw.2.1]
    cases hb : (nt (now (28 + i))).testBit k with
    | false =>
      refine ⟨(o32 (k + 1), y), ?_, rfl, u, h2, h3, h4, fun k' hk' hw' hd => ?_⟩
      · simp (disch := omega) only [X11_way_s82, i_ge, o_la, gi_o, o_cl, hhas, hb, bi_0, if_true, o_s]
      · by_cases ek : k' = k
        · subst ek; rw [hb] at hw'; cases hw'
        · exact h5 k' (by omega) hw' hd
    | true =>
      have hki : ¬ k = i := by
        intro e; subst e; rw [hw.2.2.2] at hb; cases hb
      have hyk : y k = o32 (v k) := by rw [h2 k hk hki, hx k hk]
      have hvk := hv k hk
      have hst := DD_st (now := now) (to := to) hn hi hk (hall i hi) hb
      have ebt : (bi true = 0) = False := eq_false (by decide)
      have hu := h4.2.1
      have hvk2 := hvk.2.1
      refine ⟨(o32 (k + 1), upd y i (o32 (min u (v k + 1)))), ?_, rfl, min u (v k + 1), fun j hj hji => ?_, pk_us, ⟨?_, ?_, fun hd => ?_⟩, fun k' hk' hw' hd => ?_⟩
      · simp (disch := omega) only [X11_way_s82, i_ge, o_la, gi_o, o_cl, hhas, hb, ebt, if_false, h3, hyk, o_s, pu_mn]
      · show upd y i _ j = _
        rw [pk_un hji]; exact h2 j hj hji
      · have := h4.1; have := hvk.1; omega
      · omega
      · have := h4.2.2 hd
        have e1 : DD n now am to i = BF n now am to (n - 1) i := by unfold DD; rw [if_pos (by omega)]
        have := hvk.1
        omega
      · by_cases ek : k' = k
        · subst ek
          have := hvk.2.2 hd
          omega
        · have := h5 k' (by omega) hw' hd
          omega) (by
    rintro ⟨c, y⟩ ⟨h1, h2⟩
    have h1 : c = _ := h1
    subst h1
    refine ⟨y, ?_, h2⟩
    simp (disch := omega) only [X11_way_s82, i_le]) (by omega)
  refine ⟨z, e, u, h1, h2, h3.1, h3.2.1, fun hd => ?_⟩
  rcases Nat.lt_or_ge (BF n now am to (n - 1) i) (r + 1) with c | c
  · exact h3.2.2 (by omega)
  · have e1 : BF n now am to (n - 1) i = r + 1 := by omega
    obtain ⟨-, j, hj, hw', hd'⟩ := BF_pr (by omega) e1
    have h5 := h4 j hj hw' (by omega)
    have e2 : DD n now am to i = BF n now am to (n - 1) i := by unfold DD; rw [if_pos (by omega)]
    have := h3.1
    omega
theorem L_bell (h : RI n now) (hall : ∀ i, i < n → am.testBit i = true) (hto : to < n) (far : Nat → Int32) : ∃ x z, lp (fun x25 : Int32 × (Nat → Int32) => X11_way_s25 (o32 n) (o32 to) x25.1 x25.2) 1000 ((0 : Int32), far) = some x ∧ lp (fun x59 : Int32 × (Nat → Int32) => X11_way_s59 (o32 n) now x59.1 x59.2) 1000 ((0 : Int32), x) = some z ∧ ∀ j, j < n → z j = o32 (DD n now am to j) := by
  have hn := h.1
  obtain ⟨x, ex, hx⟩ := lp_ct (f := fun x25 : Int32 × (Nat → Int32) => X11_way_s25 (o32 n) (o32 to) x25.1 x25.2) (fun k x => x.1 = o32 k ∧ ∀ j, j < k → x.2 j = o32 (if j = to then 0 else 1000000)) (fun z => ∀ j, j < n → z j = o32 (if j = to then 0 else 1000000)) n ((0 : Int32), far) ⟨rfl, fun j hj => absurd hj (Nat.not_lt_zero j)⟩ (by
    rintro k ⟨i, x⟩ hk ⟨h1, h2⟩
    have h1 : i = _ := h1
    subst h1
    have q : (o32 k = o32 to) = (k = to) := o_eq (by omega) (by omega)
    have ef : (if k = to then (0 : Int32) else 1000000) = o32 (if k = to then 0 else 1000000) := by split <;> rfl
    refine ⟨(o32 (k + 1), upd x k (o32 (if k = to then 0 else 1000000))), ?_, rfl, fun j hj => ?_⟩
    · simp (disch := omega) only [X11_way_s25, i_ge, gi_o, o_cl, o_s, q, ef]
    · show upd x k _ j = _
      by_cases e : j = k
      · subst e; exact pk_us
      · rw [pk_un e]; exact h2 j (by omega)) (by
    rintro ⟨i, x⟩ ⟨h1, h2⟩
    have h1 : i = _ := h1
    subst h1
    refine ⟨x, ?_, h2⟩
    simp (disch := omega) only [X11_way_s25, i_le]) (by omega)
  have mid : ∀ (r : Nat) (y : Nat → Int32) (v : Nat → Nat), r < n → (∀ j, j < n → y j = o32 (v j)) → (∀ j, j < n → OKr n now am to r j (v j)) → ∃ z, lp (fun x70 : Int32 × (Nat → Int32) => X11_way_s70 (o32 n) now x70.1 x70.2) 1000 ((0 : Int32), y) = some z ∧ ∃ v' : Nat → Nat, (∀ j, j < n → z j = o32 (v' j)) ∧ ∀ j, j < n → OKr n now am to (r + 1) j (v' j) := by
    intro r y v hr hy hv
    refine lp_ct (fun i x => x.1 = o32 i ∧ ∃ v' : Nat → Nat, (∀ j, j < n → x.2 j = o32 (v' j)) ∧ (∀ j, j < n → OKr n now am to r j (v' j)) ∧ ∀ j, j < i → OKr n now am to (r + 1) j (v' j)) _ n _ ⟨rfl, v, hy, hv, fun j hj => absurd hj (Nat.not_lt_zero j)⟩ ?_ ?_ (by omega)
    · rintro i ⟨c, x⟩ hi ⟨h1, v', h2, h3, h4⟩
      have h1 : c = _ := h1
      subst h1
      have h2 : ∀ j, j < n → x j = o32 (v' j) := h2
      obtain ⟨g, eg, u, g1, g2, g3⟩ := L_relI h hall hr hi h2 h3
      refine ⟨(o32 (i + 1), g), ?_, rfl, fun j => if j = i then u else v' j, fun j hj => ?_, fun j hj => ?_, fun j hj => ?_⟩
      · simp (disch := omega) only [X11_way_s70, i_ge, eg, Option.bind_some, o_s]
      · show g j = o32 (if j = i then u else v' j)
        by_cases e : j = i
        · subst e; rw [if_pos rfl]; exact g2
        · rw [if_neg e, g1 j hj e]; exact h2 j hj
      · show OKr n now am to r j (if j = i then u else v' j)
        by_cases e : j = i
        · subst e; rw [if_pos rfl]; exact g3.mo
        · rw [if_neg e]; exact h3 j hj
      · show OKr n now am to (r + 1) j (if j = i then u else v' j)
        by_cases e : j = i
        · subst e; rw [if_pos rfl]; exact g3
        · rw [if_neg e]; exact h4 j (by omega)
    · rintro ⟨c, x⟩ ⟨h1, v', h2, h3, h4⟩
      have h1 : c = _ := h1
      subst h1
      refine ⟨x, ?_, v', h2, h4⟩
      simp (disch := omega) only [X11_way_s70, i_le]
  obtain ⟨z, ez, v', hz1, hz2⟩ := lp_ct (f := fun x59 : Int32 × (Nat → Int32) => X11_way_s59 (o32 n) now x59.1 x59.2) (fun r x => x.1 = o32 r ∧ ∃ v' : Nat → Nat, (∀ j, j < n → x.2 j = o32 (v' j)) ∧ ∀ j, j < n → OKr n now am to r j (v' j)) (fun z => ∃ v' : Nat → Nat, (∀ j, j < n → z j = o32 (v' j)) ∧ ∀ j, j < n → OKr n now am to n j (v' j)) n ((0 : Int32), x) ⟨rfl, fun j => if j = to then 0 else 1000000, hx, fun j hj => by
      refine ⟨?_, ?_, fun hd => ?_⟩
      · show DD n now am to j ≤ if j = to then 0 else 1000000
        by_cases e : j = to
        · rw [if_pos e]
          have h0 : BF n now am to (n - 1) j = 0 := BF_0.mpr e
          unfold DD
          rw [h0]
          decide
        · rw [if_neg e]; exact DD_le
      · show (if j = to then 0 else 1000000) ≤ 1000000
        split <;> omega
      · have h0 : BF n now am to (n - 1) j = 0 := by omega
        show (if j = to then 0 else 1000000) = _
        rw [if_pos (BF_0.mp h0), h0]⟩ (by
    rintro r ⟨c, x⟩ hr ⟨h1, v', h2, h3⟩
    have h1 : c = _ := h1
    subst h1
    obtain ⟨g, eg, hg⟩ := mid r x v' hr h2 h3
    refine ⟨(o32 (r + 1), g), ?_, rfl, hg⟩
    simp (disch := omega) only [X11_way_s59, i_ge, eg, Option.bind_some, o_s]) (by
    rintro ⟨c, x⟩ ⟨h1, h2⟩
    have h1 : c = _ := h1
    subst h1
    refine ⟨x, ?_, h2⟩
    simp (disch := omega) only [X11_way_s59, i_le]) (by omega)
  refine ⟨x, z, ex, ez, fun j hj => ?_⟩
  rw [hz1 j hj]
  obtain ⟨a1, a2, a3⟩ := hz2 j hj
  rcases BF_le (n := n) (now := now) (am := am) (to := to) (n - 1) j with c | c
  · rw [a3 (by omega)]
    unfold DD
    rw [if_pos (by omega)]
  · have e : DD n now am to j = 1000000 := by unfold DD; rw [if_neg (by omega)]
    rw [e] at a1 ⊢
    rw [show v' j = 1000000 by omega]
theorem M_way (h : RF n day unmet skill pills slept woken wanted now) (ht : TO tsz rm tnum row) (far far' : Nat → Int32) (p1 p2 : Int32) : ∃ y y', X10_way tsz tnum (o32 n) wanted far p1 p2 = some y ∧ X11_way (o32 n) rm now row far' p1 p2 = some y' ∧ y.1 = y'.1 ∧ TO y.2.1 y'.2.1 y.2.2.1 y'.2.2.2.1 := by
  have hn := h.nn
  have hri := h.ri
  have h7 := p2_7 hn
  have hp2 : 0 < 2 ^ n := Nat.two_pow_pos n
  rcases L_one hn p1 with ⟨p, hp, rfl, ho, ho'⟩ | ⟨ho, ho'⟩
  · have hb : ¬ X0_has (o32 n) (o32 p) = 0 := by rw [ho]; decide
    rcases L_one hn p2 with ⟨q, hq, rfl, hr, hr'⟩ | ⟨hr, hr'⟩
    · have hb2 : ¬ X0_has (o32 n) (o32 q) = 0 := by rw [hr]; decide
      have hall : ∀ i, i < n → (2 ^ n - 1).testBit i = true := fun i hi => by rw [Nat.testBit_two_pow_sub_one]; simp [hi]
      obtain ⟨z, ez, hz⟩ := L_meas (am := 2 ^ n - 1) h far (by omega) hq
      obtain ⟨x', z', ex', ez', hz'⟩ := L_bell hri hall hq far'
      have hl := BF_le (n := n) (now := now) (am := 2 ^ n - 1) (to := q) (n - 1) p
      have eF : X4_farOf z (o32 p) = some (fv (BF n now (2 ^ n - 1) q (n - 1) p)) := by
        have e7 : (7 : Int32) = o32 7 := rfl
        have nn : (o32 p < 0) = False := eq_false (o_nn p (by omega))
        simp (disch := omega) only [X4_farOf, nn, if_false, e7, i_ge, gi_o, o_cl, hz p hp]
      have hfn := fv_neg (n := n) (now := now) (am := 2 ^ n - 1) (to := q) (k := n - 1) (i := p) (by omega)
      by_cases c : BF n now (2 ^ n - 1) q (n - 1) p < 99
      · have eD : DD n now (2 ^ n - 1) q p = BF n now (2 ^ n - 1) q (n - 1) p := by unfold DD; rw [if_pos c]
        have hzp : z' p = o32 (BF n now (2 ^ n - 1) q (n - 1) p) := by rw [hz' p hp, eD]
        have cl : (o32 (BF n now (2 ^ n - 1) q (n - 1) p) < (1000000 : Int32)) = True := by
          show (o32 _ < o32 1000000) = True
          rw [o_lt (by omega) (by decide)]; exact eq_true (by omega)
        obtain ⟨m, em⟩ : ∃ m, BF n now (2 ^ n - 1) q (n - 1) p = m := ⟨_, rfl⟩
        have hm7 : m ≤ 6 := by omega
        obtain ⟨t, t', et, et', r1, r1', r2⟩ : ∃ t t', X2_tellsOne tnum ((o32 p).toInt64) = some t ∧ X11_tell 0 row ((o32 p).toInt64) = some t' ∧ t.1 = o32 1 ∧ t'.1 = o32 1 ∧ ∀ k, k < 1 → t.2 k = t'.2 k := by
          obtain ⟨y, y', e, e', h1, h1', h2⟩ := TO.ad (m := 0) (num := tnum) (row := row) (fun k hk => absurd hk (Nat.not_lt_zero k)) (by decide) ((o32 p).toInt64)
          refine ⟨y, y', ?_, e', h1, h1', h2⟩
          unfold X2_tellsOne
          show (X2_adds (o32 0) tnum _).bind _ = _
          rw [e]
          rfl
        obtain ⟨w, w', ewl, ewl', hw1, hw2, hw3⟩ := lp_ct2 (f := fun x41 : Int32 × Int32 × Int32 × (Nat → Int64) => X4_tellsWay_s41 (o32 n) wanted z x41.1 x41.2.1 x41.2.2.1 x41.2.2.2) (f' := fun x181 : Int32 × Int32 × (Nat → Int64) => X11_way_s181 now (o32 q) z' x181.1 x181.2.1 x181.2.2)
          (fun k x x' => (∃ i, i < n ∧ BF n now (2 ^ n - 1) q (n - 1) i = m - k ∧ x.1 = o32 i ∧ x'.1 = o32 i) ∧ x.2.1 = o32 (m - k) - 1 ∧ x.2.2.1 = o32 (k + 1) ∧ x'.2.1 = o32 (k + 1) ∧ ∀ j, j < k + 1 → x.2.2.2 j = x'.2.2 j)
          (fun w w' => w.1 = o32 (m + 1) ∧ w'.1 = o32 (m + 1) ∧ ∀ j, j < m + 1 → w.2 j = w'.2 j) m
          (o32 p, o32 m - 1, t.1, t.2) (o32 p, t'.1, t'.2) ⟨⟨p, hp, by rw [em, Nat.sub_zero], rfl, rfl⟩, rfl, r1, r1', r2⟩ (by
            rintro k ⟨a, l, s, f⟩ ⟨a', s', f'⟩ hk ⟨⟨i, hi, hd, g1, g2⟩, g3', g4, g5, g6⟩
            obtain ⟨v, hv⟩ : ∃ v, m - k = v + 1 := ⟨m - k - 1, by omega⟩
            have g3 : l = o32 v := by
              have h3 : l = o32 (m - k) - 1 := g3'
              rw [h3, hv, pu_m1]
            clear g3'
            rw [hv] at hd
            have g1 : a = _ := g1
            have g2 : a' = _ := g2
            have g4 : s = _ := g4
            have g5 : s' = _ := g5
            subst g1 g2 g3 g4 g5
            have g6 : ∀ j, j < k + 1 → f j = f' j := g6
            obtain ⟨-, j0, hj0, hw0, hd0⟩ := BF_pr (by omega) hd
            rcases L_near h hz hi (show v < 90 by omega) with ⟨i2, hi2, b1, b2, b3⟩ | ⟨hno, -⟩
            · have b1' := b1
              unfold NR at b1'
              rw [Bool.and_eq_true] at b1'
              have hd2 := of_decide_eq_true b1'.2
              obtain ⟨u, u', eu, eu', s1, s2, s3⟩ := TO.ad g6 (show k + 1 < 16 by omega) ((o32 i2).toInt64)
              have hwi := hri.wt hi
              have zi : z' i = o32 (v + 1) := by rw [hz' i hi]; unfold DD; rw [hd, if_pos (by omega)]
              have hne : ¬ i = q := fun e => by
                have := (BF_0 (n := n) (now := now) (am := 2 ^ n - 1) (to := q) (m := n - 1) (i := i)).mpr e
                omega
              have neq : (o32 i = o32 q) = False := by rw [o_eq (by omega) (by omega)]; exact eq_false hne
              have step : ∀ k, k < n → X11_way_s189 now z' (o32 i) (o32 k) = if NR n now (2 ^ n - 1) q i v k = true then some (.inr (o32 k)) else some (.inl (o32 (k + 1))) := by
                intro k hk
                have hhas : X11_has (now (28 + i)) (o32 k) = bi ((nt (now (28 + i))).testBit k) := by
                  rw [show now (28 + i) = o32 (nt (now (28 + i))) from hwi.2.1, pu_has hwi.2.2.1 (by omega), ← hwi.2.1]
                have qe : (o32 (DD n now (2 ^ n - 1) q k) = o32 v) = (BF n now (2 ^ n - 1) q (n - 1) k = v) := by
                  have := DD_le (n := n) (now := now) (am := 2 ^ n - 1) (to := q) (i := k)
                  rw [o_eq (by omega) (by omega)]
                  apply propext
                  rcases BF_le (n := n) (now := now) (am := 2 ^ n - 1) (to := q) (n - 1) k with c1 | c1
                  · unfold DD; rw [if_pos (by omega)]
                  · unfold DD; rw [if_neg (by omega)]; omega
                simp (disch := omega) only [X11_way_s189, o_la, gi_o, o_cl, hhas, bi_if, hz' k hk, zi, pu_m1, qe, o_s]
                unfold NR
                cases (nt (now (28 + i))).testBit k with
                | false => rfl
                | true =>
                  by_cases hx : BF n now (2 ^ n - 1) q (n - 1) k = v
                  · simp [hx]
                  · simp [hx]
              have eL : lp (fun x189 => X11_way_s189 now z' (o32 i) x189) 1000 (0 : Int32) = some (o32 i2) := lp_run (f := fun x189 => X11_way_s189 now z' (o32 i) x189) (r := o32 i2) (fun k => o32 k) i2 0 1000 (fun k _ hk => by
                rw [step k (by omega), if_neg (by rw [b2 k (by omega)]; decide)]) (by rw [Nat.zero_add, step i2 hi2, if_pos b1]) (by omega)
              have nn : (o32 v < 0) = False := eq_false (o_nn v (by omega))
              have hv2 : m - (k + 1) = v := by omega
              refine ⟨(o32 i2, o32 v - 1, u.1, u.2), (o32 i2, u'.1, u'.2), ?_, ?_, ⟨i2, hi2, by rw [hv2]; exact hd2, rfl, rfl⟩, by rw [hv2], s1, s2, s3⟩
              · simp only [X4_tellsWay_s41, nn, if_false, b3, eu, Option.bind_some, pu_am1]
              · simp only [X11_way_s181, neq, if_false, eL, eu', Option.bind_some]
            · have hbad := hno j0 hj0
              unfold NR at hbad
              rw [hw0, hd0] at hbad
              simp at hbad) (by
            rintro ⟨a, l, s, f⟩ ⟨a', s', f'⟩ ⟨⟨i, hi, hd, g1, g2⟩, g3', g4, g5, g6⟩
            have g3 : l = -1 := by
              have h3 : l = o32 (m - m) - 1 := g3'
              rw [h3, Nat.sub_self]
              rfl
            clear g3'
            have g2 : a' = _ := g2
            rw [Nat.sub_self] at hd
            have e := BF_0.mp hd
            subst e g2 g3
            refine ⟨(s, f), (s', f'), rfl, ?_, g4, g5, g6⟩
            simp only [X11_way_s181, if_true]) (by omega)
        have hfv : fv (BF n now (2 ^ n - 1) q (n - 1) p) = o32 m := by rw [em, fv_lt (by omega)]
        have ge : ((0 : Int32) ≤ o32 m) = True := eq_true (o_ge0 m (by omega))
        rw [hfv] at eF
        rw [em] at hzp cl
        simp (disch := omega) only [X10_way, X4_tellsWay, X11_way, hb, hb2, ho', hr', pu_10, if_false, Option.bind_some, ev_o hn, ez, eF, ge, if_true, et, et', ewl, ewl', un, ex', ez', gi_o, o_cl, hzp, cl]
        exact ⟨_, _, rfl, rfl, rfl, m + 1, by omega, hw1, hw2, hw3⟩
      · have c99 : BF n now (2 ^ n - 1) q (n - 1) p = 99 := by omega
        have hzp : z' p = 1000000 := by
          rw [hz' p hp]; unfold DD; rw [if_neg c]; rfl
        have hge : ((0 : Int32) ≤ fv (BF n now (2 ^ n - 1) q (n - 1) p)) = False := by rw [hfn]; exact eq_false c
        have cl : ((1000000 : Int32) < 1000000) = False := eq_false (by decide)
        simp (disch := omega) only [X10_way, X4_tellsWay, X11_way, hb, hb2, ho', hr', pu_10, if_false, Option.bind_some, ev_o hn, ez, eF, hge, ex', ez', gi_o, o_cl, hzp, cl]
        exact ⟨_, _, rfl, rfl, rfl, ht⟩
    · simp only [X10_way, X11_way, hb, ho', hr, hr', pu_10, if_false, Option.bind_some, if_true]
      exact ⟨_, _, rfl, rfl, rfl, ht⟩
  · simp only [X10_way, X11_way, ho, ho', Option.bind_some, if_true]
    exact ⟨_, _, rfl, rfl, rfl, ht⟩
end WY
