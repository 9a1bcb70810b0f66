/-! ===== the pure level: how far it is ===== -/
def BF (n : Nat) (a : Nat → Int32) (am to : Nat) : Nat → Nat → Nat
  | 0, i => if i = to then 0 else 99
  | k + 1, i => if BF n a am to k i < 99 then BF n a am to k i else if am.testBit i = true ∧ ¬ nt (a (28 + i)) &&& bm (fun j => decide (BF n a am to k j = k)) n = 0 then k + 1 else 99
/-- those who are just so far -/
def LV (n : Nat) (a : Nat → Int32) (am to k : Nat) : Nat := bm (fun j => decide (BF n a am to k j = k)) n
def fv (v : Nat) : Int32 := if v < 99 then o32 v else -1
section BF
variable {n am to : Nat} {day unmet : Int32} {skill pills slept woken wanted now : Nat → Int32}
theorem BF_s (k i : Nat) : BF n now am to (k + 1) i = if BF n now am to k i < 99 then BF n now am to k i else if am.testBit i = true ∧ ¬ nt (now (28 + i)) &&& LV n now am to k = 0 then k + 1 else 99 := rfl
theorem BF_le : ∀ (k i : Nat), BF n now am to k i ≤ k ∨ BF n now am to k i = 99
  | 0, i => by
    show (if i = to then 0 else 99) ≤ 0 ∨ (if i = to then 0 else 99) = 99
    split
    · exact Or.inl (Nat.le_refl 0)
    · exact Or.inr rfl
  | k + 1, i => by
    rw [BF_s]
    rcases BF_le k i with h | h
    · split
      · exact Or.inl (by omega)
      · split
        · exact Or.inl (Nat.le_refl _)
        · exact Or.inr rfl
    · rw [h, if_neg (by decide)]
      split
      · exact Or.inl (Nat.le_refl _)
      · exact Or.inr rfl
theorem BF_mo {k i : Nat} (h : BF n now am to k i < 99) : ∀ {m : Nat}, k ≤ m → BF n now am to m i = BF n now am to k i
  | 0, hm => by
    have : k = 0 := by omega
    rw [this]
  | m + 1, hm => by
    rcases Nat.lt_or_ge k (m + 1) with h1 | h1
    · have ih := BF_mo h (m := m) (by omega)
      rw [BF_s, ih, if_pos h]
    · have : k = m + 1 := by omega
      rw [this]
/-- a number is found in its own round -/
theorem BF_at {i v : Nat} (hv : v < 99) : ∀ {m : Nat}, BF n now am to m i = v → BF n now am to v i = v
  | 0, h => by
    rcases BF_le (n := n) (now := now) (am := am) (to := to) 0 i with h1 | h1
    · have : v = 0 := by omega
      subst this; exact h
    · omega
  | m + 1, h => by
    by_cases h1 : BF n now am to m i < 99
    · rw [BF_s, if_pos h1] at h
      exact BF_at hv h
    · have h2 := h
      rw [BF_s, if_neg h1] at h2
      split at h2
      · subst h2; exact h
      · omega
theorem BF_0 {m i : Nat} : BF n now am to m i = 0 ↔ i = to := by
  constructor
  · intro h
    have h1 := BF_at (by decide) h
    have h1 : (if i = to then 0 else 99) = 0 := h1
    split at h1
    · assumption
    · omega
  · intro h
    have h1 : BF n now am to 0 i = 0 := if_pos h
    rw [BF_mo (by omega) (Nat.zero_le m), h1]
theorem LV_tb {k j : Nat} (hj : j < n) : (LV n now am to k).testBit j = decide (BF n now am to k j = k) := by
  unfold LV
  rw [bm_tb]
  simp [hj]
theorem and_ne {x y i : Nat} (h1 : x.testBit i = true) (h2 : y.testBit i = true) : ¬ x &&& y = 0 := by
  intro h
  have h3 : (x &&& y).testBit i = true := by rw [Nat.testBit_and, h1, h2]; rfl
  rw [h, Nat.zero_testBit] at h3
  cases h3
theorem and_ex {x y : Nat} (h : ¬ x &&& y = 0) : ∃ i, x.testBit i = true ∧ y.testBit i = true := by
  apply Classical.byContradiction
  intro hc
  apply h
  apply Nat.eq_of_testBit_eq
  intro i
  rw [Nat.zero_testBit, Nat.testBit_and]
  cases h1 : x.testBit i with
  | false => rfl
  | true =>
    cases h2 : y.testBit i with
    | false => rfl
    | true => exact absurd ⟨i, h1, h2⟩ hc
/-- one nearer -/
theorem BF_pr {m i v : Nat} (hv : v + 1 < 99) (h : BF n now am to m i = v + 1) : am.testBit i = true ∧ ∃ j, j < n ∧ (nt (now (28 + i))).testBit j = true ∧ BF n now am to m j = v := by
  have h1 := BF_at hv h
  rw [BF_s] at h1
  have hvm : v + 1 ≤ m := by rcases BF_le (n := n) (now := now) (am := am) (to := to) m i with h2 | h2 <;> omega
  by_cases h2 : BF n now am to v i < 99
  · rw [if_pos h2] at h1
    rcases BF_le (n := n) (now := now) (am := am) (to := to) v i with h3 | h3 <;> omega
  · rw [if_neg h2] at h1
    split at h1
    · rename_i h3
      refine ⟨h3.1, ?_⟩
      obtain ⟨j, h4, h5⟩ := and_ex h3.2
      have hj : j < n := by
        apply Classical.byContradiction
        intro hc
        unfold LV at h5
        rw [bm_tb] at h5
        simp [hc] at h5
      rw [LV_tb hj] at h5
      have h5 := of_decide_eq_true h5
      refine ⟨j, hj, h4, ?_⟩
      rw [BF_mo (by omega) (show v ≤ m by omega), h5]
    · omega
theorem BF_up {m i j v : Nat} (hj : j < n) (hv : v < 90) (ha : am.testBit i = true) (hw : (nt (now (28 + i))).testBit j = true) (h : BF n now am to m j = v) (hm : v + 1 ≤ m) : BF n now am to m i ≤ v + 1 := by
  have h1 := BF_at (by omega) h
  have h2 : BF n now am to (v + 1) i ≤ v + 1 := by
    rcases BF_le (n := n) (now := now) (am := am) (to := to) (v + 1) i with h3 | h3
    · exact h3
    · rw [BF_s] at h3
      split at h3
      · omega
      · rw [if_pos ⟨ha, and_ne hw (by rw [LV_tb hj]; simp [h1])⟩] at h3
        omega
  rw [BF_mo (by omega) hm]
  exact h2
/-- how many have been found -/
theorem BF_ct : ∀ (k : Nat), k < 99 → (∃ i, i < n ∧ BF n now am to k i = k) → k + 1 ≤ cn (fun i => decide (BF n now am to k i < 99)) n
  | 0, _, ⟨i, hi, h⟩ => cn_pos (P := fun i => decide (BF n now am to 0 i < 99)) (L := i) (by simp [h]) hi
  | k + 1, hk, ⟨i, hi, h⟩ => by
    obtain ⟨-, j, hj, -, h2⟩ := BF_pr (by omega) h
    have h3 := BF_at (by omega) h2
    have ih := BF_ct k (by omega) ⟨j, hj, h3⟩
    have hnew : ¬ BF n now am to k i < 99 := by
      intro hc
      have h9 : BF n now am to (k + 1) i = BF n now am to k i := BF_mo hc (Nat.le_succ k)
      rcases BF_le (n := n) (now := now) (am := am) (to := to) k i with h4 | h4 <;> omega
    have hlt : cn (fun i => decide (BF n now am to k i < 99)) n < cn (fun i => decide (BF n now am to (k + 1) i < 99)) n := by
      have e1 := cn_split (fun i => decide (BF n now am to (k + 1) i < 99)) (fun i => decide (BF n now am to k i < 99)) n
      have e2 : cn (fun i => decide (BF n now am to (k + 1) i < 99) && decide (BF n now am to k i < 99)) n = cn (fun i => decide (BF n now am to k i < 99)) n := cn_ext (fun q _ => by
        by_cases hq : BF n now am to k q < 99
        · have := BF_mo hq (Nat.le_succ k)
          simp [hq, this]
        · simp [hq])
      have e3 : 0 < cn (fun i => decide (BF n now am to (k + 1) i < 99) && !decide (BF n now am to k i < 99)) n := cn_pos (P := fun i => decide (BF n now am to (k + 1) i < 99) && !decide (BF n now am to k i < 99)) (L := i) (by simp [h, hnew]; omega) hi
      omega
    omega
theorem cn_full {P : Nat → Bool} : ∀ {n : Nat}, n ≤ cn P n → ∀ i, i < n → P i = true
  | 0, _, i, hi => absurd hi (Nat.not_lt_zero i)
  | n + 1, h, i, hi => by
    have h1 := cn_le P n
    have h2 : cn P (n + 1) = cn P n + (P n).toNat := rfl
    rw [h2] at h
    have h3 : (P n).toNat ≤ 1 := by cases P n <;> decide
    rcases Nat.lt_or_ge i n with h4 | h4
    · exact cn_full (by omega) i h4
    · have : i = n := by omega
      subst this
      cases hp : P i with
      | true => rfl
      | false => rw [hp] at h; simp at h; omega
/-- a step takes one at most one nearer -/
theorem BF_st {i j : Nat} (hn : n ≤ 7) (hi : i < n) (hj : j < n) (ha : am.testBit i = true) (hw : (nt (now (28 + i))).testBit j = true) (h : BF n now am to (n - 1) j < 99) : BF n now am to (n - 1) i ≤ BF n now am to (n - 1) j + 1 := by
  have hl : BF n now am to (n - 1) j ≤ n - 1 := by rcases BF_le (n := n) (now := now) (am := am) (to := to) (n - 1) j with h1 | h1 <;> omega
  rcases Nat.lt_or_ge (BF n now am to (n - 1) j) (n - 1) with h1 | h1
  · exact BF_up hj (by omega) ha hw rfl (by omega)
  · have e : BF n now am to (n - 1) j = n - 1 := by omega
    have hc := BF_ct (n := n) (now := now) (am := am) (to := to) (n - 1) (by omega) ⟨j, hj, e⟩
    have hf := cn_full (P := fun i => decide (BF n now am to (n - 1) i < 99)) (n := n) (by omega) i hi
    have hf := of_decide_eq_true hf
    rcases BF_le (n := n) (now := now) (am := am) (to := to) (n - 1) i with h2 | h2 <;> omega
theorem fv_lt {v : Nat} (h : v < 99) : fv v = o32 v := if_pos h
theorem fv_99 : fv 99 = -1 := rfl
theorem fv_neg {k i : Nat} (hk : k < 90) : ((0 : Int32) ≤ fv (BF n now am to k i)) = (BF n now am to k i < 99) := by
  rcases BF_le (n := n) (now := now) (am := am) (to := to) k i with h1 | h1
  · rw [fv_lt (by omega)]
    apply propext
    exact ⟨fun _ => by omega, fun _ => o_ge0 _ (by omega)⟩
  · rw [h1, fv_99]
    apply propext
    constructor
    · intro h; exact absurd h (by decide)
    · intro h; omega
/-- the class measures -/
theorem L_meas (h : RF n day unmet skill pills slept woken wanted now) (far : Nat → Int32) (ham : am < 128) (hto : to < n) : ∃ z, X4_measures far (o32 n) wanted (o32 to) (o32 am) = some z ∧ (∀ j, j < n → z j = fv (BF n now am to (n - 1) j)) := by
  have hn := h.nn
  have hri := h.ri
  obtain ⟨x, ex, hx⟩ := lp_ct (f := fun x3 : Int32 × (Nat → Int32) => X4_measures_s3 (o32 to) x3.1 x3.2) (fun k x => x.1 = o32 k ∧ ∀ j, j < k → x.2 j = fv (BF n now am to 0 j)) (fun z => ∀ j, j < 7 → z j = fv (BF n now am to 0 j)) 7 ((0 : Int32), far) ⟨rfl, fun j hj => absurd hj (Nat.not_lt_zero j)⟩ (by
    rintro k ⟨i, x⟩ hk ⟨h1, h2⟩
    have h1 : i = _ := h1
    subst h1
    have e7 : (7 : Int32) = o32 7 := rfl
    have q : (o32 k = o32 to) = (k = to) := o_eq (by omega) (by omega)
    have ef : (if k = to then (0 : Int32) else -1) = fv (BF n now am to 0 k) := by
      show _ = fv (if k = to then 0 else 99)
      by_cases e : k = to
      · rw [if_pos e, if_pos e]; rfl
      · rw [if_neg e, if_neg e]; rfl
    refine ⟨(o32 (k + 1), upd x k (fv (BF n now am to 0 k))), ?_, rfl, fun j hj => ?_⟩
    · simp (disch := omega) only [X4_measures_s3, e7, i_ge, gi_o, o_cl, o_s, q, ef]
    · show upd x k _ j = _
      by_cases e : j = k
      · subst e; exact pk_us
      · rw [pk_un e]; exact h2 j (by omega)) (by
    rintro ⟨i, x⟩ ⟨h1, h2⟩
    have h1 : i = _ := h1
    subst h1
    exact ⟨x, rfl, h2⟩) (by decide)
  have inner : ∀ (k : Nat) (f : Nat → Int32), k < n → (∀ j, j < n → f j = fv (BF n now am to k j)) → ∃ z, lp (fun x57 : Int32 × Int32 × (Nat → Int32) => X4_measures_s57 (o32 n) wanted (o32 am) (o32 (LV n now am to k)) (o32 (k + 1)) x57.1 x57.2.1 x57.2.2) 1000 ((0 : Int32), (0 : Int32), f) = some z ∧ (z.1 = o32 (LV n now am to (k + 1)) ∧ ∀ j, j < n → z.2 j = fv (BF n now am to (k + 1) j)) := by
    intro k f hkn hf
    refine lp_ct (fun i x => x.1 = o32 (bm (fun j => decide (BF n now am to (k + 1) j = k + 1)) i) ∧ x.2.1 = o32 i ∧ ∀ j, j < n → x.2.2 j = if j < i then fv (BF n now am to (k + 1) j) else fv (BF n now am to k j)) _ n _ ⟨rfl, rfl, fun j hj => by rw [if_neg (by omega)]; exact hf j hj⟩ ?_ ?_ (by omega)
    · rintro i ⟨b, i', x⟩ hi ⟨h1, h2, h3⟩
      have h1 : b = _ := h1
      have h2 : i' = _ := h2
      subst h1 h2
      have h3 : ∀ j, j < n → x j = if j < i then fv (BF n now am to (k + 1) j) else fv (BF n now am to k j) := h3
      have hxi : x i = fv (BF n now am to k i) := by rw [h3 i hi, if_neg (by omega)]
      have hw := hri.wt hi
      have ew : wanted i = o32 (nt (now (28 + i))) := by rw [← h.wan (by omega)]; exact hw.2.1
      have hfn := fv_neg (n := n) (now := now) (am := am) (to := to) (k := k) (i := i) (by omega)
      have same : ¬ BF n now am to (k + 1) i = k + 1 → ∀ (y : Nat → Int32), (∀ j, j < n → y j = if j < i then fv (BF n now am to (k + 1) j) else fv (BF n now am to k j)) → BF n now am to (k + 1) i = BF n now am to k i → ∀ j, j < n → y j = if j < i + 1 then fv (BF n now am to (k + 1) j) else fv (BF n now am to k j) := by
        intro _ y hy he j hj
        rw [hy j hj]
        by_cases e : j = i
        · subst e; rw [if_neg (by omega), if_pos (by omega), he]
        · by_cases hlt : j < i
          · rw [if_pos hlt, if_pos (by omega)]
          · rw [if_neg hlt, if_neg (by omega)]
      by_cases c1 : BF n now am to k i < 99
      · have e1 : BF n now am to (k + 1) i = BF n now am to k i := BF_mo c1 (Nat.le_succ k)
        have e2 : ¬ BF n now am to (k + 1) i = k + 1 := by
          rcases BF_le (n := n) (now := now) (am := am) (to := to) k i with h4 | h4 <;> omega
        refine ⟨(o32 (bm (fun j => decide (BF n now am to (k + 1) j = k + 1)) i), o32 (i + 1), x), ?_, bm_n (by simp [e2]), rfl, same e2 x h3 e1⟩
        simp (disch := omega) only [X4_measures_s57, i_ge, gi_o, o_cl, hxi, hfn, c1, if_true, o_s]
      · have eS := BF_s (n := n) (now := now) (am := am) (to := to) k i
        rw [if_neg c1] at eS
        have c99 : BF n now am to k i = 99 := by rcases BF_le (n := n) (now := now) (am := am) (to := to) k i with h4 | h4 <;> omega
        cases ca : am.testBit i with
        | false =>
          rw [if_neg (by rw [ca]; simp)] at eS
          have e2 : ¬ BF n now am to (k + 1) i = k + 1 := by omega
          refine ⟨(o32 (bm (fun j => decide (BF n now am to (k + 1) j = k + 1)) i), o32 (i + 1), x), ?_, bm_n (by simp [e2]), rfl, same e2 x h3 (by omega)⟩
          simp (disch := omega) only [X4_measures_s57, i_ge, gi_o, o_cl, hxi, hfn, c1, if_false, pu_bit ham (show i < 7 by omega), ca, bi_0, if_true, o_s]
        | true =>
          have ebt : (bi true = 0) = False := eq_false (by decide)
          by_cases cw : nt (now (28 + i)) &&& LV n now am to k = 0
          · rw [if_neg (by rintro ⟨-, e⟩; exact e cw)] at eS
            have e2 : ¬ BF n now am to (k + 1) i = k + 1 := by omega
            refine ⟨(o32 (bm (fun j => decide (BF n now am to (k + 1) j = k + 1)) i), o32 (i + 1), x), ?_, bm_n (by simp [e2]), rfl, same e2 x h3 (by omega)⟩
            simp (disch := omega) only [X4_measures_s57, i_ge, gi_o, o_cl, hxi, hfn, c1, if_false, pu_bit ham (show i < 7 by omega), ca, ebt, ew, pu_a0 hw.2.2.1, cw, if_true, o_s]
          · rw [if_pos ⟨ca, cw⟩] at eS
            refine ⟨(o32 (bm (fun j => decide (BF n now am to (k + 1) j = k + 1)) (i + 1)), o32 (i + 1), upd x i (o32 (k + 1))), ?_, rfl, rfl, fun j hj => ?_⟩
            · rw [← bm_y (P := fun j => decide (BF n now am to (k + 1) j = k + 1)) (by omega) (by simp [eS])]
              simp (disch := omega) only [X4_measures_s57, i_ge, gi_o, o_cl, hxi, hfn, c1, if_false, pu_bit ham (show i < 7 by omega), ca, ebt, ew, pu_a0 hw.2.2.1, cw, o_s]
            · show upd x i _ j = _
              by_cases e : j = i
              · subst e; rw [pk_us, if_pos (by omega), eS, fv_lt (by omega)]
              · rw [pk_un e, h3 j hj]
                by_cases hlt : j < i
                · rw [if_pos hlt, if_pos (by omega)]
                · rw [if_neg hlt, if_neg (by omega)]
    · rintro ⟨b, i', x⟩ ⟨h1, h2, h3⟩
      have h2 : i' = _ := h2
      subst h2
      refine ⟨(b, x), ?_, h1, fun j hj => ?_⟩
      · simp (disch := omega) only [X4_measures_s57, i_le]
      · have := h3 j hj
        rw [if_pos hj] at this
        exact this
  have hLV0 : LV n now am to 0 = 2 ^ to := by
    apply Nat.eq_of_testBit_eq
    intro i
    rw [tb_2]
    by_cases hi : i < n
    · rw [LV_tb hi]
      have : BF n now am to 0 i = 0 ↔ i = to := BF_0
      by_cases e : i = to
      · rw [this.mpr e, e]
        simp
      · have h9 : ¬ BF n now am to 0 i = 0 := fun h9 => e (this.mp h9)
        simp [h9]
        omega
    · unfold LV
      rw [bm_tb]
      simp [hi]
      omega
  obtain ⟨z, ez, hz⟩ := lp_ct (f := fun x42 : Int32 × Int32 × (Nat → Int32) => X4_measures_s42 (o32 n) wanted (o32 am) x42.1 x42.2.1 x42.2.2) (fun k x => x.1 = o32 (LV n now am to k) ∧ x.2.1 = o32 (k + 1) ∧ ∀ j, j < n → x.2.2 j = fv (BF n now am to k j)) (fun z => ∀ j, j < n → z j = fv (BF n now am to (n - 1) j)) (n - 1) (o32 (2 ^ to), (1 : Int32), x) ⟨by rw [hLV0], rfl, fun j hj => hx j (by omega)⟩ (by
    rintro k ⟨l, w, f⟩ hk ⟨h1, h2, h3⟩
    have h1 : l = _ := h1
    have h2 : w = _ := h2
    subst h1 h2
    obtain ⟨g, eg, hg1, hg2⟩ := inner k f (by omega) h3
    refine ⟨(g.1, o32 (k + 2), g.2), ?_, hg1, rfl, hg2⟩
    simp (disch := omega) only [X4_measures_s42, i_ge, eg, Option.bind_some, un, o_s]) (by
    rintro ⟨l, w, f⟩ ⟨h1, h2, h3⟩
    have h2 : w = _ := h2
    subst h2
    refine ⟨f, ?_, h3⟩
    simp (disch := omega) only [X4_measures_s42, i_le]) (by omega)
  refine ⟨z, ?_, hz⟩
  simp (disch := omega) only [X4_measures, ex, Option.bind_some, o_shl, ez]
end BF
