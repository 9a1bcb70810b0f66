/-! ===== the pure level: serves ===== -/
def BS (f : Nat → Nat) (P : Nat → Bool) (b0 : Nat) : Nat → Nat
  | 0 => b0
  | k + 1 => if P k = true then max (BS f P b0 k) (1 + f k) else BS f P b0 k
theorem BS_tail {f : Nat → Nat} {P : Nat → Bool} {b0 n : Nat} : ∀ {m : Nat}, n ≤ m → (∀ k, n ≤ k → k < m → P k = false) → BS f P b0 m = BS f P b0 n
  | 0, h, _ => by
    have : n = 0 := by omega
    rw [this]
  | m + 1, h, hf => by
    rcases Nat.lt_or_ge n (m + 1) with h1 | h1
    · show (if P m = true then _ else BS f P b0 m) = BS f P b0 n
      rw [if_neg (by rw [hf m (by omega) (by omega)]; decide), BS_tail (by omega) (fun k h2 h3 => hf k h2 (by omega))]
    · have : n = m + 1 := by omega
      rw [this]
theorem BS_le {f : Nat → Nat} {P : Nat → Bool} {b0 c : Nat} (h0 : b0 ≤ c) (hf : ∀ k, 1 + f k ≤ c) : ∀ m, BS f P b0 m ≤ c
  | 0 => h0
  | m + 1 => by
    have h1 := BS_le (P := P) h0 hf m
    have h2 := hf m
    show (if P m = true then max (BS f P b0 m) (1 + f m) else BS f P b0 m) ≤ c
    split
    · omega
    · exact h1
theorem BS_at {f : Nat → Nat} {P : Nat → Bool} {b0 : Nat} : ∀ m, BS f P b0 m = b0 ∨ ∃ i, i < m ∧ P i = true ∧ 1 + f i = BS f P b0 m
  | 0 => Or.inl rfl
  | m + 1 => by
    have h1 := BS_at (f := f) (P := P) (b0 := b0) m
    have e : BS f P b0 (m + 1) = if P m = true then max (BS f P b0 m) (1 + f m) else BS f P b0 m := rfl
    rw [e]
    by_cases hp : P m = true
    · rw [if_pos hp]
      rcases Nat.lt_or_ge (BS f P b0 m) (1 + f m) with h2 | h2
      · exact Or.inr ⟨m, by omega, hp, by omega⟩
      · rw [Nat.max_eq_left h2]
        rcases h1 with h3 | ⟨i, h3, h4, h5⟩
        · exact Or.inl h3
        · exact Or.inr ⟨i, by omega, h4, h5⟩
    · rw [if_neg hp]
      rcases h1 with h3 | ⟨i, h3, h4, h5⟩
      · exact Or.inl h3
      · exact Or.inr ⟨i, by omega, h4, h5⟩
/-- by whom one may be served -/
def BY (a : Nat → Int32) (up q used : Nat) : Nat := sd (nt (a (28 + q)) &&& up) used
/-- the most of the last ones who can be served -/
def SV (n : Nat) (a : Nat → Int32) (up : Nat) : Nat → Nat → Nat
  | 0, _ => 0
  | d + 1, used => BS (fun i => SV n a up d (used ||| 2 ^ i)) (fun i => (BY a up (n - (d + 1)) used).testBit i) (SV n a up d used) 7
theorem SV_le (n : Nat) (a : Nat → Int32) (up : Nat) : ∀ d used, SV n a up d used ≤ d
  | 0, _ => Nat.le_refl 0
  | d + 1, used => BS_le (Nat.le_succ_of_le (SV_le n a up d used)) (fun k => by have := SV_le n a up d (used ||| 2 ^ k); omega) 7
theorem ix_o {q s : Nat} (hq : q ≤ 7) (hs : s < 128) : ((o32 q) <<< ((7 : Int32) &&& 31)) ||| o32 s = o32 (q * 128 + s) := by
  have h1 : ∀ q : Fin 8, ∀ s : Fin 128, ((o32 q.val) <<< ((7 : Int32) &&& 31)) ||| o32 s.val = o32 (q.val * 128 + s.val) := by decide +kernel
  exact h1 ⟨q, by omega⟩ ⟨s, hs⟩
theorem ix_i {q s i : Nat} (hq : q ≤ 7) (hs : s < 128) (hi : i < 7) : o32 (q * 128 + s) ||| o32 (2 ^ i) = o32 (q * 128 + (s ||| 2 ^ i)) := by
  have h1 : ∀ q : Fin 8, ∀ s : Fin 128, ∀ i : Fin 7, (q.val * 128 + s.val) ||| 2 ^ i.val = q.val * 128 + (s.val ||| 2 ^ i.val) := by decide +kernel
  rw [o_or, h1 ⟨q, by omega⟩ ⟨s, hs⟩ ⟨i, hi⟩]
section SE
variable {vs : (Nat → Int32) → Int32} {n : Nat} {day unmet : Int32} {skill pills slept woken wanted now : Nat → Int32} {size : Int32} {code : Nat → Int32} {ruleSize : Int32} {rule : Nat → Int32} {tsz rm : Int32} {tnum row : Nat → Int64}
/-- a table that holds them from a row on -/
def TB (n : Nat) (a : Nat → Int32) (up lvl : Nat) (most : Nat → Int32) : Prop := ∀ one, lvl ≤ one → one ≤ n → ∀ used, used < 2 ^ n → most (one * 128 + used) = o32 (SV n a up (n - one) used)
theorem L_mf {most : Nat → Int32} {one used : Nat} (ho : one ≤ 7) (hu : used < 128) : X7_mostFrom most (o32 one) (o32 used) = some (most (one * 128 + used)) := by
  have e128 : (128 : Int32) = o32 128 := rfl
  have e1024 : (1024 : Int32) = o32 1024 := rfl
  have nn : (o32 (one * 128 + used) < 0) = False := eq_false (o_nn _ (by omega))
  simp (disch := omega) only [X7_mostFrom, e128, e1024, o_mul, o_add, nn, if_false, i_ge, gi_o, o_cl]
theorem BY_lt (h : RI n now) {q : Nat} (hq : q < n) (up used : Nat) : BY now up q used < 2 ^ n := by
  have hw := h.wt hq
  exact Nat.lt_of_le_of_lt Nat.and_le_left (Nat.lt_of_le_of_lt Nat.and_le_left hw.1)
theorem BY_i (h : RI n now) {q i : Nat} (hq : q < n) {up used : Nat} (hb : (BY now up q used).testBit i = true) : i < n := by
  apply Classical.byContradiction
  intro hc
  rw [tb_hi (BY_lt h hq up used) (by omega)] at hb
  cases hb
theorem or_2n {used i : Nat} (hu : used < 2 ^ n) (hi : i < n) : used ||| 2 ^ i < 2 ^ n := Nat.or_lt_two_pow hu (Nat.pow_lt_pow_right (by decide) hi)
theorem SV_s {q : Nat} (hq : q < n) (up used : Nat) : SV n now up (n - q) used = BS (fun i => SV n now up (n - (q + 1)) (used ||| 2 ^ i)) (fun i => (BY now up q used).testBit i) (SV n now up (n - (q + 1)) used) 7 := by
  obtain ⟨d, hd⟩ : ∃ d, n - q = d + 1 := ⟨n - (q + 1), by omega⟩
  have hd2 : n - (q + 1) = d := by omega
  rw [hd, hd2]
  show BS _ (fun i => (BY now up (n - (d + 1)) used).testBit i) _ 7 = _
  rw [show n - (d + 1) = q by omega]
theorem L_best (h : RI n now) {up q used : Nat} {most : Nat → Int32} (hT : TB n now up (q + 1) most) (hq : q < n) (hu : used < 2 ^ n) : X7_best most (o32 q) (o32 (BY now up q used)) (o32 used) = some (o32 (SV n now up (n - q) used)) := by
  have hn := h.1
  have h7 := p2_7 hn
  have hB : BY now up q used < 128 := Nat.lt_of_lt_of_le (BY_lt h hq up used) h7
  obtain ⟨z, e, hz⟩ := lp_ct (f := fun x13 : Int32 × Int32 => X7_best_s13 most (o32 q) (o32 (BY now up q used)) (o32 used) x13.1 x13.2) (fun k x => x = (o32 (BS (fun i => SV n now up (n - (q + 1)) (used ||| 2 ^ i)) (fun i => (BY now up q used).testBit i) (SV n now up (n - (q + 1)) used) k), o32 k)) (fun z => z = o32 (SV n now up (n - q) used)) 7 (o32 (SV n now up (n - (q + 1)) used), (0 : Int32)) rfl (by
    rintro k x hk rfl
    have e7 : (7 : Int32) = o32 7 := rfl
    refine ⟨(o32 (BS (fun i => SV n now up (n - (q + 1)) (used ||| 2 ^ i)) (fun i => (BY now up q used).testBit i) (SV n now up (n - (q + 1)) used) (k + 1)), o32 (k + 1)), ?_, rfl⟩
    have eB : BS (fun i => SV n now up (n - (q + 1)) (used ||| 2 ^ i)) (fun i => (BY now up q used).testBit i) (SV n now up (n - (q + 1)) used) (k + 1) = if (BY now up q used).testBit k = true then max (BS (fun i => SV n now up (n - (q + 1)) (used ||| 2 ^ i)) (fun i => (BY now up q used).testBit i) (SV n now up (n - (q + 1)) used) k) (1 + SV n now up (n - (q + 1)) (used ||| 2 ^ k)) else BS (fun i => SV n now up (n - (q + 1)) (used ||| 2 ^ i)) (fun i => (BY now up q used).testBit i) (SV n now up (n - (q + 1)) used) k := rfl
    cases hb : (BY now up q used).testBit k with
    | false =>
      rw [hb, if_neg (by decide)] at eB
      rw [eB]
      simp (disch := omega) only [X7_best_s13, e7, i_ge, pu_bit hB hk, hb, bi_0, if_true, o_s]
    | true =>
      have hi := BY_i h hq hb
      have hor := or_2n hu hi
      rw [hb, if_pos rfl] at eB
      rw [eB]
      have hle := SV_le n now up (n - (q + 1)) (used ||| 2 ^ k)
      have hle2 : BS (fun i => SV n now up (n - (q + 1)) (used ||| 2 ^ i)) (fun i => (BY now up q used).testBit i) (SV n now up (n - (q + 1)) used) k ≤ n := BS_le (by have := SV_le n now up (n - (q + 1)) used; omega) (fun j => by have := SV_le n now up (n - (q + 1)) (used ||| 2 ^ j); omega) k
      have eT := hT (q + 1) (Nat.le_refl _) (by omega) (used ||| 2 ^ k) hor
      have ebt : (bi true = 0) = False := eq_false (by decide)
      simp (disch := omega) only [X7_best_s13, e7, i_ge, pu_bit hB hk, hb, ebt, if_false, o_s, o_shl, o_or, L_mf, eT, Option.bind_some, o_la, pu_max]) (by
    rintro x rfl
    refine ⟨o32 (SV n now up (n - q) used), ?_, rfl⟩
    rw [SV_s hq]
    rfl) (by decide)
  have eT := hT (q + 1) (Nat.le_refl _) (by omega) used hu
  simp (disch := omega) only [X7_best, o_s, L_mf, eT, Option.bind_some, e, hz]
theorem L_rowC (h : RF n day unmet skill pills slept woken wanted now) {up q : Nat} (hup : up < 128) {most : Nat → Int32} (hT : TB n now up (q + 1) most) (hq : q ≤ n) : ∃ z, lp (fun x21 : Int32 × (Nat → Int32) => X7_reckons_s21 (o32 n) wanted (o32 up) (o32 q) x21.1 x21.2) 1000 ((0 : Int32), most) = some z ∧ TB n now up q z := by
  have hn := h.nn
  have hri := h.ri
  have h7 := p2_7 hn
  have hp2 : 0 < 2 ^ n := Nat.two_pow_pos n
  obtain ⟨z, e, hz1, hz2⟩ := lp_ct (f := fun x21 : Int32 × (Nat → Int32) => X7_reckons_s21 (o32 n) wanted (o32 up) (o32 q) x21.1 x21.2) (fun k x => x.1 = o32 k ∧ TB n now up (q + 1) x.2 ∧ ∀ used, used < k → x.2 (q * 128 + used) = o32 (SV n now up (n - q) used)) (fun z => TB n now up (q + 1) z ∧ ∀ used, used < 2 ^ n → z (q * 128 + used) = o32 (SV n now up (n - q) used)) (2 ^ n) ((0 : Int32), most) ⟨rfl, hT, fun u hu => absurd hu (Nat.not_lt_zero u)⟩ (by
    rintro k ⟨i, x⟩ hk ⟨h1, h2, h3⟩
    have h1 : i = _ := h1
    subst h1
    have h2 : TB n now up (q + 1) x := h2
    have h3 : ∀ used, used < k → x (q * 128 + used) = o32 (SV n now up (n - q) used) := h3
    have ev : X0_everybody (o32 n) + 1 = o32 (2 ^ n) := by rw [ev_o hn, o_s, show 2 ^ n - 1 + 1 = 2 ^ n by omega]
    have e128 : (128 : Int32) = o32 128 := rfl
    refine ⟨(o32 (k + 1), upd x (q * 128 + k) (o32 (SV n now up (n - q) k))), ?_, rfl, ?_, fun u hu => ?_⟩
    · rcases Nat.lt_or_ge q n with hqn | hqn
      · have hwq := hri.wt hqn
        have ew : wanted q = o32 (nt (now (28 + q))) := by rw [← h.wan (by omega)]; exact hwq.2.1
        have hand : nt (now (28 + q)) &&& up < 128 := Nat.lt_of_le_of_lt Nat.and_le_left hwq.2.2.1
        have eb : (o32 (nt (now (28 + q))) &&& o32 up) &&& (o32 k ^^^ (-1 : Int32)) = o32 (BY now up q k) := by
          rw [o_and, sd_o hand (by omega)]; rfl
        simp (disch := omega) only [X7_reckons_s21, X7_reckons_k54, ev, i_ge, gi_o, o_cl, ew, eb, L_best hri h2 hqn hk, Option.bind_some, e128, o_mul, o_add, o_s]
      · have : q = n := by omega
        subst this
        have e0 : SV q now up (q - q) k = 0 := by rw [Nat.sub_self]; rfl
        simp (disch := omega) only [X7_reckons_s21, X7_reckons_k54, ev, i_ge, i_le, gi_o, o_cl, e128, o_mul, o_add, o_s, e0]
        rfl
    · intro one ho1 ho2 used hused
      show upd x (q * 128 + k) _ (one * 128 + used) = _
      rw [pk_un (by omega)]; exact h2 one ho1 ho2 used hused
    · show upd x (q * 128 + k) _ (q * 128 + u) = _
      by_cases eu : u = k
      · subst eu; exact pk_us
      · rw [pk_un (by omega)]; exact h3 u (by omega)) (by
    rintro ⟨i, x⟩ ⟨h1, h2, h3⟩
    have h1 : i = _ := h1
    subst h1
    have ev : X0_everybody (o32 n) + 1 = o32 (2 ^ n) := by rw [ev_o hn, o_s, show 2 ^ n - 1 + 1 = 2 ^ n by omega]
    refine ⟨x, ?_, h2, h3⟩
    simp (disch := omega) only [X7_reckons_s21, ev, i_le]) (by omega)
  refine ⟨z, e, fun one ho1 ho2 used hused => ?_⟩
  rcases Nat.lt_or_ge q one with hlt | hge
  · exact hz1 one hlt ho2 used hused
  · have : one = q := by omega
    subst this
    exact hz2 used hused
theorem L_reck (h : RF n day unmet skill pills slept woken wanted now) {up : Nat} (hup : up < 128) (most : Nat → Int32) : ∃ z, X7_reckons most (o32 n) wanted (o32 up) = some z ∧ TB n now up 0 z := by
  have hn := h.nn
  obtain ⟨z, e, hz⟩ := lp_ct (f := fun x13 : Int32 × (Nat → Int32) => X7_reckons_s13 (o32 n) wanted (o32 up) x13.1 x13.2) (fun k x => x.1 = o32 (n + 1 - k) - 1 ∧ TB n now up (n + 1 - k) x.2) (fun z => TB n now up 0 z) (n + 1) (o32 n, most) ⟨by rw [Nat.sub_zero, pu_m1], fun one h1 h2 => by omega⟩ (by
    rintro k ⟨i, x⟩ hk ⟨h1', h2⟩
    obtain ⟨j, hj⟩ : ∃ j, n + 1 - k = j + 1 := ⟨n - k, by omega⟩
    have h1 : i = o32 j := by
      have h3 : i = o32 (n + 1 - k) - 1 := h1'
      rw [h3, hj, pu_m1]
    clear h1'
    rw [hj] at h2
    subst h1
    have hj2 : n + 1 - (k + 1) = j := by omega
    rw [hj2]
    obtain ⟨g, eg, hg⟩ := L_rowC h hup h2 (show j ≤ n by omega)
    have nn : (o32 j < 0) = False := eq_false (o_nn j (by omega))
    refine ⟨(o32 j - 1, g), ?_, rfl, hg⟩
    simp only [X7_reckons_s13, nn, if_false, eg, Option.bind_some, pu_am1]) (by
    rintro ⟨i, x⟩ ⟨h1', h2⟩
    have h1 : i = -1 := by
      have h3 : i = o32 (n + 1 - (n + 1)) - 1 := h1'
      rw [h3, Nat.sub_self]
      rfl
    clear h1'
    rw [Nat.sub_self] at h2
    subst h1
    exact ⟨x, rfl, h2⟩) (by omega)
  refine ⟨z, ?_, hz⟩
  unfold X7_reckons
  rw [e]
  rfl
/-- the reference's table -/
theorem L_rowM {w : Nat → Int32} (h : RI n now) (hw : EQ w now) {up q : Nat} (hup : up < 128) {y10 : Int32 × Int32 × Int32 × Int32 × Int32 × Int32 × (Nat → Int32)} (hy : y10.1 = o32 up) {most : Nat → Int32} (hT : TB n now up (q + 1) most) (hq : q < n) : ∃ z, lp (fun x58 : Int32 × (Nat → Int32) => X11_serves_s58 (o32 n) w y10 (o32 q) x58.1 x58.2) 1000 ((0 : Int32), most) = some z ∧ TB n now up q z := by
  have hn := h.1
  have h7 := p2_7 hn
  have hp2 : 0 < 2 ^ n := Nat.two_pow_pos n
  have hwq := h.wt hq
  have ew : w (28 + q) = o32 (nt (now (28 + q))) := by rw [hw _ (by omega)]; exact hwq.2.1
  have hand : nt (now (28 + q)) &&& up < 128 := Nat.lt_of_le_of_lt Nat.and_le_left hwq.2.2.1
  have inner : ∀ {x : Nat → Int32} {used : Nat}, TB n now up (q + 1) x → used < 2 ^ n → lp (fun x84 : Int32 × Int32 => X11_serves_s84 (o32 n) w y10 (o32 q) (o32 used) x x84.1 x84.2) 1000 (o32 (SV n now up (n - (q + 1)) used), (0 : Int32)) = some (o32 (SV n now up (n - q) used)) := by
    intro x used hx hu
    have hB : BY now up q used < 128 := Nat.lt_of_lt_of_le (BY_lt h hq up used) h7
    have eb : (w (28 + q) &&& y10.1) &&& (o32 used ^^^ (-1 : Int32)) = o32 (BY now up q used) := by
      rw [ew, hy, o_and, sd_o hand (by omega)]; rfl
    obtain ⟨g, eg, hg⟩ := lp_ct (f := fun x84 : Int32 × Int32 => X11_serves_s84 (o32 n) w y10 (o32 q) (o32 used) x x84.1 x84.2) (fun k x => x = (o32 (BS (fun i => SV n now up (n - (q + 1)) (used ||| 2 ^ i)) (fun i => (BY now up q used).testBit i) (SV n now up (n - (q + 1)) used) k), o32 k)) (fun z => z = o32 (SV n now up (n - q) used)) n (o32 (SV n now up (n - (q + 1)) used), (0 : Int32)) rfl (by
      rintro k y hk rfl
      refine ⟨(o32 (BS (fun i => SV n now up (n - (q + 1)) (used ||| 2 ^ i)) (fun i => (BY now up q used).testBit i) (SV n now up (n - (q + 1)) used) (k + 1)), o32 (k + 1)), ?_, rfl⟩
      have eB : BS (fun i => SV n now up (n - (q + 1)) (used ||| 2 ^ i)) (fun i => (BY now up q used).testBit i) (SV n now up (n - (q + 1)) used) (k + 1) = if (BY now up q used).testBit k = true then max (BS (fun i => SV n now up (n - (q + 1)) (used ||| 2 ^ i)) (fun i => (BY now up q used).testBit i) (SV n now up (n - (q + 1)) used) k) (1 + SV n now up (n - (q + 1)) (used ||| 2 ^ k)) else BS (fun i => SV n now up (n - (q + 1)) (used ||| 2 ^ i)) (fun i => (BY now up q used).testBit i) (SV n now up (n - (q + 1)) used) k := rfl
      cases hb : (BY now up q used).testBit k with
      | false =>
        rw [hb, if_neg (by decide)] at eB
        rw [eB]
        simp (disch := omega) only [X11_serves_s84, i_ge, o_la, gi_o, o_cl, eb, pu_has hB (show k < 7 by omega), hb, bi_0, if_true, o_s]
      | true =>
        have hor := or_2n hu hk
        rw [hb, if_pos rfl] at eB
        rw [eB]
        have hle := SV_le n now up (n - (q + 1)) (used ||| 2 ^ k)
        have hle2 : BS (fun i => SV n now up (n - (q + 1)) (used ||| 2 ^ i)) (fun i => (BY now up q used).testBit i) (SV n now up (n - (q + 1)) used) k ≤ n := BS_le (by have := SV_le n now up (n - (q + 1)) used; omega) (fun j => by have := SV_le n now up (n - (q + 1)) (used ||| 2 ^ j); omega) k
        have eT := hx (q + 1) (Nat.le_refl _) (by omega) (used ||| 2 ^ k) hor
        have ebt : (bi true = 0) = False := eq_false (by decide)
        have ei : (((o32 (q + 1)) <<< ((7 : Int32) &&& 31)) ||| o32 used) ||| ((1 : Int32) <<< (o32 k &&& 31)) = o32 ((q + 1) * 128 + (used ||| 2 ^ k)) := by
          rw [ix_o (by omega) (by omega), o_shl (by omega), ix_i (by omega) (by omega) (by omega)]
        simp (disch := omega) only [X11_serves_s84, i_ge, o_la, gi_o, o_cl, eb, pu_has hB (show k < 7 by omega), hb, ebt, if_false, o_s, ei, eT, pu_max]) (by
      rintro y rfl
      refine ⟨o32 (SV n now up (n - q) used), ?_, rfl⟩
      rw [SV_s hq, BS_tail hn (fun k h1 h2 => by
        cases hb : (BY now up q used).testBit k with
        | false => rfl
        | true => have := BY_i h hq hb; omega)]
      simp (disch := omega) only [X11_serves_s84, i_le]) (by omega)
    rw [eg, hg]
  obtain ⟨z, e, hz1, hz2⟩ := lp_ct (f := fun x58 : Int32 × (Nat → Int32) => X11_serves_s58 (o32 n) w y10 (o32 q) x58.1 x58.2) (fun k x => x.1 = o32 k ∧ TB n now up (q + 1) x.2 ∧ ∀ used, used < k → x.2 (q * 128 + used) = o32 (SV n now up (n - q) used)) (fun z => TB n now up (q + 1) z ∧ ∀ used, used < 2 ^ n → z (q * 128 + used) = o32 (SV n now up (n - q) used)) (2 ^ n) ((0 : Int32), most) ⟨rfl, hT, fun u hu => absurd hu (Nat.not_lt_zero u)⟩ (by
    rintro k ⟨i, x⟩ hk ⟨h1, h2, h3⟩
    have h1 : i = _ := h1
    subst h1
    have h2 : TB n now up (q + 1) x := h2
    have h3 : ∀ used, used < k → x (q * 128 + used) = o32 (SV n now up (n - q) used) := h3
    have eT := h2 (q + 1) (Nat.le_refl _) (by omega) k hk
    refine ⟨(o32 (k + 1), upd x (q * 128 + k) (o32 (SV n now up (n - q) k))), ?_, rfl, ?_, fun u hu => ?_⟩
    · simp (disch := omega) only [X11_serves_s58, ev_11, ev_o hn, i_lt, o_s, ix_o, gi_o, o_cl, eT, inner h2 hk, Option.bind_some]
    · intro one ho1 ho2 used hused
      show upd x (q * 128 + k) _ (one * 128 + used) = _
      rw [pk_un (by omega)]; exact h2 one ho1 ho2 used hused
    · show upd x (q * 128 + k) _ (q * 128 + u) = _
      by_cases eu : u = k
      · subst eu; exact pk_us
      · rw [pk_un (by omega)]; exact h3 u (by omega)) (by
    rintro ⟨i, x⟩ ⟨h1, h2, h3⟩
    have h1 : i = _ := h1
    subst h1
    refine ⟨x, ?_, h2, h3⟩
    simp (disch := omega) only [X11_serves_s58, ev_11, ev_o hn, i_gt]) (by omega)
  refine ⟨z, e, fun one ho1 ho2 used hused => ?_⟩
  rcases Nat.lt_or_ge q one with hlt | hge
  · exact hz1 one hlt ho2 used hused
  · have : one = q := by omega
    subst this
    exact hz2 used hused
theorem L_tabM {w : Nat → Int32} (h : RI n now) (hw : EQ w now) {up : Nat} (hup : up < 128) {y10 : Int32 × Int32 × Int32 × Int32 × Int32 × Int32 × (Nat → Int32)} (hy : y10.1 = o32 up) (served : Nat → Int32) : ∃ x z, lp (fun x16 : Int32 × (Nat → Int32) => X11_serves_s16 (o32 n) x16.1 x16.2) 1000 ((0 : Int32), served) = some x ∧ lp (fun x52 : Int32 × (Nat → Int32) => X11_serves_s52 (o32 n) w y10 x52.1 x52.2) 1000 ((o32 n - (1 : Int32)), x) = some z ∧ TB n now up 0 z := by
  have hn := h.1
  have h7 := p2_7 hn
  have hp2 : 0 < 2 ^ n := Nat.two_pow_pos n
  obtain ⟨x, ex, hx⟩ := lp_ct (f := fun x16 : Int32 × (Nat → Int32) => X11_serves_s16 (o32 n) x16.1 x16.2) (fun k x => x.1 = o32 k ∧ ∀ used, used < k → x.2 (n * 128 + used) = 0) (fun z => ∀ used, used < 2 ^ n → z (n * 128 + used) = 0) (2 ^ n) ((0 : Int32), served) ⟨rfl, fun u hu => absurd hu (Nat.not_lt_zero u)⟩ (by
    rintro k ⟨i, x⟩ hk ⟨h1, h3⟩
    have h1 : i = _ := h1
    subst h1
    refine ⟨(o32 (k + 1), upd x (n * 128 + k) 0), ?_, rfl, fun u hu => ?_⟩
    · simp (disch := omega) only [X11_serves_s16, ev_11, ev_o hn, i_lt, o_s, ix_o, gi_o, o_cl]
    · show upd x (n * 128 + k) _ (n * 128 + u) = _
      by_cases eu : u = k
      · subst eu; exact pk_us
      · rw [pk_un (by omega)]; exact h3 u (by omega)) (by
    rintro ⟨i, x⟩ ⟨h1, h3⟩
    have h1 : i = _ := h1
    subst h1
    refine ⟨x, ?_, h3⟩
    simp (disch := omega) only [X11_serves_s16, ev_11, ev_o hn, i_gt]) (by omega)
  have hT0 : TB n now up n x := by
    intro one h1 h2 used hused
    have : one = n := by omega
    subst this
    rw [hx used hused, Nat.sub_self]
    rfl
  obtain ⟨z, ez, hz⟩ := lp_ct (f := fun x52 : Int32 × (Nat → Int32) => X11_serves_s52 (o32 n) w y10 x52.1 x52.2) (fun k x => x.1 = o32 (n - k) - 1 ∧ TB n now up (n - k) x.2) (fun z => TB n now up 0 z) n ((o32 n - (1 : Int32)), x) ⟨rfl, hT0⟩ (by
    rintro k ⟨i, x⟩ hk ⟨h1', h2⟩
    obtain ⟨j, hj⟩ : ∃ j, n - k = j + 1 := ⟨n - k - 1, by omega⟩
    have h1 : i = o32 j := by
      have h3 : i = o32 (n - k) - 1 := h1'
      rw [h3, hj, pu_m1]
    clear h1'
    rw [hj] at h2
    subst h1
    have hj2 : n - (k + 1) = j := by omega
    rw [hj2]
    obtain ⟨g, eg, hg⟩ := L_rowM h hw hup hy h2 (show j < n by omega)
    have nn : (o32 j < 0) = False := eq_false (o_nn j (by omega))
    refine ⟨(o32 j - 1, g), ?_, rfl, hg⟩
    simp only [X11_serves_s52, nn, if_false, eg, Option.bind_some, pu_am1]) (by
    rintro ⟨i, x⟩ ⟨h1', h2⟩
    have h1 : i = -1 := by
      have h3 : i = o32 (n - n) - 1 := h1'
      rw [h3, Nat.sub_self]
      rfl
    clear h1'
    rw [Nat.sub_self] at h2
    subst h1
    exact ⟨x, rfl, h2⟩) (by omega)
  exact ⟨x, z, ex, ez, hz⟩
end SE
