/-! ===== the pure level: what a rule's code says ===== -/
def JOv (p : Nat) (x y : Int32) : Int32 := if p = 0 then (if y ≤ x then 0 else 1) else if p = 1 then (if x ≤ y then 0 else 1) else if p = 2 then (if x = y then 1 else 0) else if p = 3 then x + y else if p = 4 then x - y else if p = 5 then x * y else if y = 0 then 0 else x / y
theorem L_jo {p : Nat} (hp : p ≤ 6) (x y : Int32) : X5_joined (o32 p) x y = some (JOv p x y) := by
  rcases (show p = 0 ∨ p = 1 ∨ p = 2 ∨ p = 3 ∨ p = 4 ∨ p = 5 ∨ p = 6 by omega) with rfl | rfl | rfl | rfl | rfl | rfl | rfl
  · rfl
  · rfl
  · rfl
  · rfl
  · rfl
  · rfl
  · show (if y = 0 then some (0 : Int32) else gz y (some (x / y))) = some (if y = 0 then 0 else x / y)
    by_cases h : y = 0
    · rw [if_pos h, if_pos h]
    · rw [if_neg h, if_neg h]
      exact if_neg h
/-- one word of the code -/
def evw (t : Nat → Int32) (e : Nat) (s : List Int32) : List Int32 :=
  if e = 2007 then (match s with | [] => [] | x :: r => (-x) :: r)
  else if e < 1000 then o32 e :: s
  else if e < 2000 then t (e - 1000) :: s
  else (match s with | y :: x :: r => JOv (e - 2000) x y :: r | r => r)
def EVc (t : Nat → Int32) (g : Nat → Nat) : Nat → List Int32
  | 0 => []
  | k + 1 => evw t (g k) (EVc t g k)
def VKc (e : Nat) : Prop := e < 1007 ∨ (2000 ≤ e ∧ e ≤ 2007)
/-- the stack as a list, its top first -/
def StR (a : Nat → Int32) (s : List Int32) : Prop := ∀ j, j < s.length → a (s.length - 1 - j) = s.getD j 0
theorem StR.nil (a : Nat → Int32) : StR a [] := fun j hj => absurd hj (Nat.not_lt_zero j)
theorem StR.push {a : Nat → Int32} {s : List Int32} (h : StR a s) (v : Int32) : StR (upd a s.length v) (v :: s) := by
  intro j hj
  have hj : j < s.length + 1 := hj
  show upd a s.length v (s.length + 1 - 1 - j) = _
  cases j with
  | zero =>
    rw [show s.length + 1 - 1 - 0 = s.length by omega]
    exact pk_us
  | succ j =>
    rw [show s.length + 1 - 1 - (j + 1) = s.length - 1 - j by omega, pk_un (by omega)]
    exact h j (by omega)
theorem StR.tl {a : Nat → Int32} {x : Int32} {s : List Int32} (h : StR a (x :: s)) : StR a s := by
  intro j hj
  have h1 := h (j + 1) (by show j + 1 < s.length + 1; omega)
  have h1 : a (s.length + 1 - 1 - (j + 1)) = s.getD j 0 := h1
  rw [show s.length + 1 - 1 - (j + 1) = s.length - 1 - j by omega] at h1
  exact h1
theorem StR.hd {a : Nat → Int32} {x : Int32} {s : List Int32} (h : StR a (x :: s)) : a s.length = x := by
  have h1 := h 0 (by show 0 < s.length + 1; omega)
  have h1 : a (s.length + 1 - 1 - 0) = x := h1
  rw [show s.length + 1 - 1 - 0 = s.length by omega] at h1
  exact h1
theorem EVc_le (t : Nat → Int32) (g : Nat → Nat) : ∀ k, (EVc t g k).length ≤ k
  | 0 => Nat.le_refl 0
  | k + 1 => by
    have ih := EVc_le t g k
    show (evw t (g k) (EVc t g k)).length ≤ k + 1
    unfold evw
    split
    · split
      · exact Nat.zero_le _
      · rename_i x r e
        rw [e] at ih
        exact Nat.le_succ_of_le ih
    · split
      · show (EVc t g k).length + 1 ≤ k + 1; omega
      · split
        · show (EVc t g k).length + 1 ≤ k + 1; omega
        · split
          · rename_i y x r e
            rw [e] at ih
            have ih : r.length + 1 + 1 ≤ k := ih
            show r.length + 1 ≤ k + 1
            omega
          · omega
theorem EVc_c {t t' : Nat → Int32} (h : ∀ j, j < 7 → t j = t' j) {g : Nat → Nat} : ∀ {k : Nat}, (∀ j, j < k → VKc (g j)) → EVc t g k = EVc t' g k
  | 0, _ => rfl
  | k + 1, hg => by
    have ih := EVc_c h (g := g) (k := k) (fun j hj => hg j (by omega))
    show evw t (g k) (EVc t g k) = evw t' (g k) (EVc t' g k)
    rw [ih]
    unfold evw
    by_cases c1 : g k = 2007
    · rw [if_pos c1, if_pos c1]
    · rw [if_neg c1, if_neg c1]
      by_cases c2 : g k < 1000
      · rw [if_pos c2, if_pos c2]
      · rw [if_neg c2, if_neg c2]
        by_cases c3 : g k < 2000
        · rw [if_pos c3, if_pos c3, h (g k - 1000) (by have := hg k (Nat.lt_succ_self k); unfold VKc at this; omega)]
        · rw [if_neg c3, if_neg c3]
/-- the value: what lies deepest -/
def VLc (g : Nat → Nat) (z : Nat) (t : Nat → Int32) : Int32 := (EVc t g z).getLastD 0
theorem VLc_v {g : Nat → Nat} {z : Nat} (hg : ∀ j, j < z → VKc (g j)) : VC (VLc g z) := by
  intro t t' h
  unfold VLc
  rw [EVc_c h hg]
theorem StR_b : ∀ {a : Nat → Int32} {s : List Int32}, StR a s → ¬ s = [] → a 0 = s.getLastD 0
  | a, [], _, h => absurd rfl h
  | a, [x], h, _ => h.hd
  | a, x :: y :: r, h, _ => by
    have := StR_b (s := y :: r) h.tl (by intro e; cases e)
    exact this
theorem L_val {g : Nat → Nat} {z : Nat} {code : Nat → Int32} (hz : z ≤ 40) (hg : ∀ j, j < z → VKc (g j)) (hc : ∀ j, j < z → code j = o32 (g j)) : RV (VLc g z) (o32 z) code := by
  intro stack thing
  have e40 : (40 : Int32) = o32 40 := rfl
  have e7 : (7 : Int32) = o32 7 := rfl
  have e2000 : (2000 : Int32) = o32 2000 := rfl
  have e1000 : (1000 : Int32) = o32 1000 := rfl
  have e1 : (1 : Int32) = o32 1 := rfl
  obtain ⟨w, ew, hw1, hw2⟩ := lp_ct (f := fun x4 : Int32 × Int32 × (Nat → Int32) => X5_value_s4 (o32 z) code thing x4.1 x4.2.1 x4.2.2) (fun k x => x.1 = o32 (EVc thing g k).length ∧ x.2.1 = o32 k ∧ StR x.2.2 (EVc thing g k)) (fun w => w.1 = o32 (EVc thing g z).length ∧ StR w.2 (EVc thing g z)) z ((0 : Int32), (0 : Int32), stack) ⟨rfl, rfl, StR.nil _⟩ (by
    rintro k ⟨sp, i, a⟩ hk ⟨h1, h2, h3⟩
    have h1 : sp = _ := h1
    have h2 : i = _ := h2
    subst h1 h2
    have h3 : StR a (EVc thing g k) := h3
    have hl := EVc_le thing g k
    have hv := hg k hk
    have hck := hc k hk
    show ∃ y, X5_value_s4 (o32 z) code thing (o32 (EVc thing g k).length) (o32 k) a = some (.inl y) ∧ _
    unfold X5_value_s4
    rw [i_ge hk (by omega), gi_o (by omega) (by decide), o_cl (by omega), hck]
    show ∃ y : Int32 × Int32 × (Nat → Int32), _ ∧ (y.1 = o32 (evw thing (g k) (EVc thing g k)).length ∧ y.2.1 = o32 (k + 1) ∧ StR y.2.2 (evw thing (g k) (EVc thing g k)))
    unfold evw
    obtain ⟨s, es⟩ : ∃ s, EVc thing g k = s := ⟨_, rfl⟩
    rw [es] at h3 hl ⊢
    unfold VKc at hv
    by_cases c1 : g k = 2007
    · rw [if_pos (by rw [c1]; rfl), if_pos c1]
      cases s with
      | nil =>
        rw [if_pos (by decide), o_s]
        exact ⟨_, rfl, rfl, rfl, h3⟩
      | cons x r =>
        have hl : r.length + 1 ≤ k := hl
        rw [if_neg (by
          show ¬ o32 (r.length + 1) ≤ o32 0
          rw [o_le (by omega) (by decide)]; omega), show o32 (x :: r).length = o32 (r.length + 1) from rfl, pu_m1, gi_o (by omega) (by decide), gi_o (by omega) (by decide), o_cl (by omega), h3.hd, o_s]
        exact ⟨_, rfl, rfl, rfl, h3.tl.push (-x)⟩
    · rw [if_neg (by
        show ¬ o32 (g k) = o32 2007
        rw [o_eq (by omega) (by decide)]; exact c1), if_neg c1]
      by_cases c3 : g k < 2000
      · rw [e2000, i_gt c3 (by decide), e40, i_ge (by omega) (by decide)]
        by_cases c2 : g k < 1000
        · rw [if_neg (by
            rw [e1000]
            intro hle
            have h9 : (o32 (g k) - o32 1000).toInt = (g k : Int) - 1000 := by
              have hx : ∀ x : Fin 1000, (o32 x.val - o32 1000).toInt = (x.val : Int) - 1000 := by decide +kernel
              exact hx ⟨g k, c2⟩
            rw [Int32.le_iff_toInt_le, h9, show (0 : Int32).toInt = 0 by decide] at hle
            omega), if_pos c2, gi_o (by omega) (by decide), o_cl (by omega), o_s, o_s]
          exact ⟨_, rfl, rfl, rfl, h3.push _⟩
        · have e9 : o32 (g k) - 1000 = o32 (g k - 1000) := by rw [e1000, o_sub (by omega)]
          rw [e9, if_pos (o_ge0 _ (by omega)), e7, i_ge (by omega) (by decide), gi_o (by omega) (by decide), gi_o (by omega) (by decide), o_cl (by omega), o_cl (by omega), o_s, o_s, if_neg c2, if_pos c3]
          exact ⟨_, rfl, rfl, rfl, h3.push _⟩
      · rw [e2000, i_lt (by omega) (by omega), if_neg (show ¬ g k < 1000 by omega), if_neg c3]
        match s, h3, hl with
        | [], h3, hl =>
          rw [if_pos (by decide), o_s]
          exact ⟨_, rfl, rfl, rfl, h3⟩
        | [x], h3, hl =>
          rw [if_pos (by show o32 1 ≤ o32 1; decide), o_s]
          exact ⟨_, rfl, rfl, rfl, h3⟩
        | y :: x :: r, h3, hl =>
          have hl : r.length + 1 + 1 ≤ k := hl
          have e9 : o32 (g k) - o32 2000 = o32 (g k - 2000) := by rw [o_sub (by omega)]
          rw [if_neg (by
            show ¬ o32 (r.length + 1 + 1) ≤ o32 1
            rw [o_le (by omega) (by decide)]; omega), show o32 (y :: x :: r).length = o32 (r.length + 1 + 1) from rfl, pu_am1, pu_m1, pu_m1, gi_o (by omega) (by decide), gi_o (by omega) (by decide), o_cl (by omega), o_cl (by omega), e9, L_jo (by omega), Option.bind_some, gi_o (by omega) (by decide), o_s, show a (r.length + 1) = y from h3.hd, show a r.length = x from h3.tl.hd]
          exact ⟨_, rfl, rfl, rfl, h3.tl.tl.push _⟩) (by
    rintro ⟨sp, i, a⟩ ⟨h1, h2, h3⟩
    have h2 : i = _ := h2
    subst h2
    refine ⟨(sp, a), ?_, h1, h3⟩
    show X5_value_s4 (o32 z) code thing sp (o32 z) a = _
    unfold X5_value_s4
    rw [i_le (Nat.le_refl z) (by omega)]) (by omega)
  obtain ⟨w0, w1⟩ := w
  have hw1 : w0 = _ := hw1
  subst hw1
  have hw2 : StR w1 (EVc thing g z) := hw2
  have hl := EVc_le thing g z
  refine ⟨w1, ?_⟩
  unfold X5_value VLc
  rw [ew, Option.bind_some]
  dsimp only [un]
  by_cases e : EVc thing g z = []
  · rw [e, if_pos (by decide)]
    rfl
  · have hp : 0 < (EVc thing g z).length := by
      rcases Nat.eq_zero_or_pos (EVc thing g z).length with h | h
      · exact absurd (List.eq_nil_of_length_eq_zero h) e
      · exact h
    rw [if_neg (by
      show ¬ o32 (EVc thing g z).length ≤ o32 0
      rw [o_le (by omega) (by decide)]; omega), gi_l (k := 0) (by decide) (by decide), tl0, StR_b hw2 e]
