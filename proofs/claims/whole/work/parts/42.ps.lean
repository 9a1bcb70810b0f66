/-! ===== the pure level: sets as numbers below 128; the row's set-lemmas; who is needed, who wakes, a morning ===== -/
def cn (P : Nat → Bool) : Nat → Nat
  | 0 => 0
  | k + 1 => cn P k + (P k).toNat
theorem cn_ext {P Q : Nat → Bool} : ∀ {n : Nat}, (∀ k, k < n → P k = Q k) → cn P n = cn Q n
  | 0, _ => rfl
  | n + 1, h => by
    show cn P n + (P n).toNat = cn Q n + (Q n).toNat
    rw [cn_ext (fun k hk => h k (by omega)), h n (by omega)]
theorem cn_tail {P : Nat → Bool} {n : Nat} : ∀ {m : Nat}, n ≤ m → (∀ k, n ≤ k → k < m → P k = false) → cn P m = cn P n
  | 0, h, _ => by
    have : n = 0 := by omega
    rw [this]
  | m + 1, h, hf => by
    rcases Nat.lt_or_ge n (m + 1) with h1 | h1
    · show cn P m + (P m).toNat = cn P n
      rw [hf m (by omega) (by omega), cn_tail (by omega) (fun k h2 h3 => hf k h2 (by omega))]
      rfl
    · have : n = m + 1 := by omega
      rw [this]
theorem cn_le (P : Nat → Bool) : ∀ n, cn P n ≤ n
  | 0 => Nat.le_refl 0
  | n + 1 => by
    have h1 := cn_le P n
    have h2 : (P n).toNat ≤ 1 := by cases P n <;> decide
    show cn P n + (P n).toNat ≤ n + 1
    omega
/-- how many are in a set -/
def pc (m : Nat) : Nat := cn m.testBit 7
theorem bc_o {m : Nat} (h : m < 128) : J6_bitCount_0f7a4 (o32 m) = o32 (pc m) := by
  have h1 : ∀ m : Fin 128, J6_bitCount_0f7a4 (o32 m.val) = o32 (pc m.val) := by decide +kernel
  exact h1 ⟨m, h⟩
theorem pc_le (m : Nat) : pc m ≤ 7 := cn_le _ 7
theorem bt_o {m k : Nat} (hm : m < 128) (hk : k < 7) : bt (o32 m) (o32 k) ↔ m.testBit k = true := by
  have h1 : ∀ m : Fin 128, ∀ k : Fin 7, ((o32 m.val >>> (o32 k.val &&& 31)) &&& 1 = 0) ↔ m.val.testBit k.val = false := by decide +kernel
  have h2 := h1 ⟨m, hm⟩ ⟨k, hk⟩
  unfold bt
  rw [h2]
  cases m.testBit k <;> decide
theorem bt_bit {m k : Nat} (hm : m < 128) (hk : k < 7) : ((o32 m >>> (o32 k &&& 31)) &&& 1) = if m.testBit k then 1 else 0 := by
  have h1 : ∀ m : Fin 128, ∀ k : Fin 7, ((o32 m.val >>> (o32 k.val &&& 31)) &&& 1) = if m.val.testBit k.val then 1 else 0 := by decide +kernel
  exact h1 ⟨m, hm⟩ ⟨k, hk⟩
theorem bs_128 {n : Nat} {x : Int32} (h : bs n x) (hn : n ≤ 7) : ∃ m, m < 128 ∧ m < 2 ^ n ∧ x = o32 m := by
  obtain ⟨m, hm, rfl⟩ := h
  exact ⟨m, Nat.lt_of_lt_of_le hm (Nat.pow_le_pow_right (by decide) hn : 2 ^ n ≤ 2 ^ 7), hm, rfl⟩
theorem an_o {a b : Nat} (ha : a < 128) (hb : b < 128) : o32 a &&& (o32 b ^^^ -1) = o32 (a &&& (127 ^^^ b)) := by
  have h1 : ∀ a : Fin 128, ∀ b : Fin 128, o32 a.val &&& (o32 b.val ^^^ -1) = o32 (a.val &&& (127 ^^^ b.val)) := by decide +kernel
  exact h1 ⟨a, ha⟩ ⟨b, hb⟩
theorem tb_127 {k : Nat} (h : k < 7) : Nat.testBit 127 k = true := by
  have h1 : ∀ k : Fin 7, Nat.testBit 127 k.val = true := by decide
  exact h1 ⟨k, h⟩
theorem tb_2 {j k : Nat} : (2 ^ k).testBit j = decide (k = j) := Nat.testBit_two_pow
theorem tb_hi {m n k : Nat} (h : m < 2 ^ n) (hk : n ≤ k) : m.testBit k = false := Nat.testBit_lt_two_pow (Nat.lt_of_lt_of_le h (Nat.pow_le_pow_right (by decide) hk))
theorem ev_o {n : Nat} (h : n ≤ 7) : X0_everybody (o32 n) = o32 (2 ^ n - 1) := by
  have h1 : ∀ n : Fin 8, X0_everybody (o32 n.val) = o32 (2 ^ n.val - 1) := by decide +kernel
  exact h1 ⟨n, by omega⟩
theorem ev_11 (x : Int32) : X11_everybody x = X0_everybody x := rfl
theorem o0 {m : Nat} (h : m < 2147483648) : (o32 m = 0) = (m = 0) := o_eq h (by decide)
theorem p2_7 {n : Nat} (h : n ≤ 7) : 2 ^ n ≤ 128 := Nat.pow_le_pow_right (by decide) h

section RFT
variable {n : Nat} {day unmet : Int32} {skill pills slept woken wanted now : Nat → Int32}
theorem RF.s_ski (h : RF n day unmet skill pills slept woken wanted now) {k : Nat} {v : Int32} (hk : k < 7) (hv : k < n → ∃ a, a < 10 ∧ v = o32 a) : RF n day unmet (upd skill k v) pills slept woken wanted (upd now k v) := by
  refine ⟨h.nn, by rw [pk_un (by omega)]; exact h.dy, by rw [pk_un (by omega)]; exact h.unm, fun j hj => ⟨by
    by_cases e : j = k
    · subst e; rw [pk_us, pk_us]
    · rw [pk_un (by omega), pk_un e]; exact h.ski hj, by rw [pk_un (by omega)]; exact h.pil hj, by rw [pk_un (by omega)]; exact h.sle hj, by rw [pk_un (by omega)]; exact h.wok hj, by rw [pk_un (by omega)]; exact h.wan hj⟩, fun j hj => ⟨by
    by_cases e : j = k
    · subst e; rw [pk_us]; exact (hv hj)
    · rw [pk_un e]; exact h.bsk hj, h.bpi hj, h.bwa hj, h.bse hj⟩⟩
theorem RF.s_pil (h : RF n day unmet skill pills slept woken wanted now) {k : Nat} {v : Int32} (hk : k < 7) (hv : k < n → ∃ a, a < 10 ∧ v = o32 a) : RF n day unmet skill (upd pills k v) slept woken wanted (upd now (7 + k) v) := by
  refine ⟨h.nn, by rw [pk_un (by omega)]; exact h.dy, by rw [pk_un (by omega)]; exact h.unm, fun j hj => ⟨by rw [pk_un (by omega)]; exact h.ski hj, by
    by_cases e : j = k
    · subst e; rw [pk_us, pk_us]
    · rw [pk_un (by omega), pk_un e]; exact h.pil hj, by rw [pk_un (by omega)]; exact h.sle hj, by rw [pk_un (by omega)]; exact h.wok hj, by rw [pk_un (by omega)]; exact h.wan hj⟩, fun j hj => ⟨h.bsk hj, by
    by_cases e : j = k
    · subst e; rw [pk_us]; exact (hv hj)
    · rw [pk_un e]; exact h.bpi hj, h.bwa hj, h.bse hj⟩⟩
theorem RF.s_sle (h : RF n day unmet skill pills slept woken wanted now) {k : Nat} {v : Int32} (hk : k < 7)  : RF n day unmet skill pills (upd slept k v) woken wanted (upd now (14 + k) v) := by
  refine ⟨h.nn, by rw [pk_un (by omega)]; exact h.dy, by rw [pk_un (by omega)]; exact h.unm, fun j hj => ⟨by rw [pk_un (by omega)]; exact h.ski hj, by rw [pk_un (by omega)]; exact h.pil hj, by
    by_cases e : j = k
    · subst e; rw [pk_us, pk_us]
    · rw [pk_un (by omega), pk_un e]; exact h.sle hj, by rw [pk_un (by omega)]; exact h.wok hj, by rw [pk_un (by omega)]; exact h.wan hj⟩, fun j hj => ⟨h.bsk hj, h.bpi hj, h.bwa hj, h.bse hj⟩⟩
theorem RF.s_wok (h : RF n day unmet skill pills slept woken wanted now) {k : Nat} {v : Int32} (hk : k < 7)  : RF n day unmet skill pills slept (upd woken k v) wanted (upd now (21 + k) v) := by
  refine ⟨h.nn, by rw [pk_un (by omega)]; exact h.dy, by rw [pk_un (by omega)]; exact h.unm, fun j hj => ⟨by rw [pk_un (by omega)]; exact h.ski hj, by rw [pk_un (by omega)]; exact h.pil hj, by rw [pk_un (by omega)]; exact h.sle hj, by
    by_cases e : j = k
    · subst e; rw [pk_us, pk_us]
    · rw [pk_un (by omega), pk_un e]; exact h.wok hj, by rw [pk_un (by omega)]; exact h.wan hj⟩, fun j hj => ⟨h.bsk hj, h.bpi hj, h.bwa hj, h.bse hj⟩⟩
theorem RF.s_wan (h : RF n day unmet skill pills slept woken wanted now) {k : Nat} {v : Int32} (hk : k < 7) (hv : k < n → bs n v ∧ ¬ bt v (o32 k)) : RF n day unmet skill pills slept woken (upd wanted k v) (upd now (28 + k) v) := by
  refine ⟨h.nn, by rw [pk_un (by omega)]; exact h.dy, by rw [pk_un (by omega)]; exact h.unm, fun j hj => ⟨by rw [pk_un (by omega)]; exact h.ski hj, by rw [pk_un (by omega)]; exact h.pil hj, by rw [pk_un (by omega)]; exact h.sle hj, by rw [pk_un (by omega)]; exact h.wok hj, by
    by_cases e : j = k
    · subst e; rw [pk_us, pk_us]
    · rw [pk_un (by omega), pk_un e]; exact h.wan hj⟩, fun j hj => ⟨h.bsk hj, h.bpi hj, by
    by_cases e : j = k
    · subst e; rw [pk_us]; exact (hv hj).1
    · rw [pk_un e]; exact h.bwa hj, by
    by_cases e : j = k
    · subst e; rw [pk_us]; exact (hv hj).2
    · rw [pk_un e]; exact h.bse hj⟩⟩
theorem RF.s_day (h : RF n day unmet skill pills slept woken wanted now) (v : Int32) : RF n v unmet skill pills slept woken wanted (upd now 35 v) :=
  ⟨h.nn, pk_us, by rw [pk_un (by decide)]; exact h.unm, fun j hj => ⟨by rw [pk_un (by omega)]; exact h.ski hj, by rw [pk_un (by omega)]; exact h.pil hj, by rw [pk_un (by omega)]; exact h.sle hj, by rw [pk_un (by omega)]; exact h.wok hj, by rw [pk_un (by omega)]; exact h.wan hj⟩, h.2.2.2.2⟩
theorem RF.s_unm (h : RF n day unmet skill pills slept woken wanted now) (v : Int32) : RF n day v skill pills slept woken wanted (upd now 36 v) :=
  ⟨h.nn, by rw [pk_un (by decide)]; exact h.dy, pk_us, fun j hj => ⟨by rw [pk_un (by omega)]; exact h.ski hj, by rw [pk_un (by omega)]; exact h.pil hj, by rw [pk_un (by omega)]; exact h.sle hj, by rw [pk_un (by omega)]; exact h.wok hj, by rw [pk_un (by omega)]; exact h.wan hj⟩, h.2.2.2.2⟩
/-- what agrees where it counts -/
theorem RF.cg {skill' pills' slept' woken' wanted' now' : Nat → Int32} (h : RF n day unmet skill pills slept woken wanted now) (ha : ∀ j, j < 7 → skill' j = skill j ∧ pills' j = pills j ∧ slept' j = slept j ∧ woken' j = woken j ∧ wanted' j = wanted j) (hb : ∀ j, j < 37 → now' j = now j) : RF n day unmet skill' pills' slept' woken' wanted' now' := by
  have hn := h.nn
  refine ⟨hn, by rw [hb 35 (by decide)]; exact h.dy, by rw [hb 36 (by decide)]; exact h.unm, fun j hj => ?_, fun j hj => ?_⟩
  · obtain ⟨a1, a2, a3, a4, a5⟩ := ha j hj
    rw [a1, a2, a3, a4, a5, hb j (by omega), hb (7 + j) (by omega), hb (14 + j) (by omega), hb (21 + j) (by omega), hb (28 + j) (by omega)]
    exact h.2.2.2.1 j hj
  · obtain ⟨a1, a2, a3, a4, a5⟩ := ha j (by omega)
    rw [a1, a2, a5]
    exact h.2.2.2.2 j hj
end RFT
/-! rows copied -/
theorem L_lay {now t : Nat → Int32} : ∃ t', X11_lay 37 now 37 t 0 = some t' ∧ ∀ j, j < 37 → t' j = now j := by
  obtain ⟨z, e, hz⟩ := lp_inv (f := fun x2 : Int32 × (Nat → Int32) => X11_lay_s2 37 now 37 0 x2.1 x2.2) (fun k x => x.1 = o32 k ∧ ∀ j, j < k → x.2 j = now j) (fun z => ∀ j, j < 37 → z j = now j) 37 0 1000 ((0 : Int32), t) (by
    rintro k ⟨i, x⟩ - h2 ⟨hi, hx⟩
    have hi : i = o32 k := hi
    subst hi
    rcases Nat.lt_or_ge k 37 with hk | hk
    · right
      have e1 : X11_lay_s2 37 now 37 0 (o32 k) x = some (.inl (o32 (k + 1), upd x k (now k))) := by
        have e0 : (37 : Int32) = o32 37 := rfl
        simp (disch := omega) only [X11_lay_s2, e0, i_ge, gi_o, o_la, o_cl, o_s, Nat.zero_add]
      refine ⟨by omega, _, e1, rfl, fun j hj => ?_⟩
      show upd x k (now k) j = now j
      by_cases h : j = k
      · subst h; exact pk_us
      · rw [pk_un h]; exact hx j (by omega)
    · left
      have hk : k = 37 := by omega
      subst hk
      exact ⟨x, rfl, hx⟩) ⟨rfl, fun j hj => absurd hj (Nat.not_lt_zero j)⟩ (by omega)
  refine ⟨z, ?_, hz⟩
  unfold X11_lay
  rw [e]
  rfl
theorem L_becomes (a b c d f : Nat → Int32) (number day unmet : Int32) (skill pills slept woken wanted : Nat → Int32) : ∃ y, X0_becomes a b c d f number day unmet skill pills slept woken wanted = some y ∧ y.1 = number ∧ y.2.1 = day ∧ y.2.2.1 = unmet ∧ ∀ j, j < 7 → y.2.2.2.1 j = skill j ∧ y.2.2.2.2.1 j = pills j ∧ y.2.2.2.2.2.1 j = slept j ∧ y.2.2.2.2.2.2.1 j = woken j ∧ y.2.2.2.2.2.2.2 j = wanted j := by
  obtain ⟨z, e, hz⟩ := lp_inv (f := fun x2 : Int32 × (Nat → Int32) × (Nat → Int32) × (Nat → Int32) × (Nat → Int32) × (Nat → Int32) => X0_becomes_s2 skill pills slept woken wanted x2.1 x2.2.1 x2.2.2.1 x2.2.2.2.1 x2.2.2.2.2.1 x2.2.2.2.2.2) (fun k x => x.1 = o32 k ∧ ∀ j, j < k → x.2.1 j = skill j ∧ x.2.2.1 j = pills j ∧ x.2.2.2.1 j = slept j ∧ x.2.2.2.2.1 j = woken j ∧ x.2.2.2.2.2 j = wanted j) (fun z => ∀ j, j < 7 → z.1 j = skill j ∧ z.2.1 j = pills j ∧ z.2.2.1 j = slept j ∧ z.2.2.2.1 j = woken j ∧ z.2.2.2.2 j = wanted j) 7 0 1000 ((0 : Int32), a, b, c, d, f) (by
    rintro k ⟨i, x1, x2, x3, x4, x5⟩ - h2 ⟨hi, hx⟩
    have hi : i = o32 k := hi
    subst hi
    rcases Nat.lt_or_ge k 7 with hk | hk
    · right
      have e1 : X0_becomes_s2 skill pills slept woken wanted (o32 k) x1 x2 x3 x4 x5 = some (.inl (o32 (k + 1), upd x1 k (skill k), upd x2 k (pills k), upd x3 k (slept k), upd x4 k (woken k), upd x5 k (wanted k))) := by
        have e0 : (7 : Int32) = o32 7 := rfl
        simp (disch := omega) only [X0_becomes_s2, e0, i_ge, gi_o, o_cl, o_s]
      refine ⟨by omega, _, e1, rfl, fun j hj => ?_⟩
      by_cases h : j = k
      · subst h; exact ⟨pk_us, pk_us, pk_us, pk_us, pk_us⟩
      · obtain ⟨a1, a2, a3, a4, a5⟩ := hx j (by omega)
        exact ⟨by show upd x1 k _ j = _; rw [pk_un h]; exact a1, by show upd x2 k _ j = _; rw [pk_un h]; exact a2, by show upd x3 k _ j = _; rw [pk_un h]; exact a3, by show upd x4 k _ j = _; rw [pk_un h]; exact a4, by show upd x5 k _ j = _; rw [pk_un h]; exact a5⟩
    · left
      have hk : k = 7 := by omega
      subst hk
      exact ⟨(x1, x2, x3, x4, x5), rfl, hx⟩) ⟨rfl, fun j hj => absurd hj (Nat.not_lt_zero j)⟩ (by omega)
  refine ⟨(number, day, unmet, z.1, z.2.1, z.2.2.1, z.2.2.2.1, z.2.2.2.2), ?_, rfl, rfl, rfl, hz⟩
  unfold X0_becomes
  rw [e]
  rfl
