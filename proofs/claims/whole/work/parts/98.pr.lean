/-! ===== the pure level: the class reads a rule as the common reader: words ===== -/
def btx (M q : Nat) : Nat := M / 2 ^ q % 2
def clx (M q : Nat) : Nat := M - btx M q * 2 ^ q
def sex (M q : Nat) : Nat := clx M q + 2 ^ q
theorem btx_g {M q : Nat} (hM : M < 32) (hq : q ≤ 4) : ((o32 M >>> (o32 q &&& 31)) &&& (1 : Int32)) = o32 (btx M q) := by
  have h1 : ∀ M : Fin 32, ∀ q : Fin 5, ((o32 M.val >>> (o32 q.val &&& 31)) &&& (1 : Int32)) = o32 (btx M.val q.val) := by decide +kernel
  exact h1 ⟨M, hM⟩ ⟨q, by omega⟩
theorem clx_g {M q : Nat} (hM : M < 32) (hq : q ≤ 4) : (o32 M &&& (((1 : Int32) <<< (o32 q &&& 31)) ^^^ (-1 : Int32))) = o32 (clx M q) ∧ clx M q < 32 ∧ btx (clx M q) q = 0 := by
  have h1 : ∀ M : Fin 32, ∀ q : Fin 5, (o32 M.val &&& (((1 : Int32) <<< (o32 q.val &&& 31)) ^^^ (-1 : Int32))) = o32 (clx M.val q.val) ∧ clx M.val q.val < 32 ∧ btx (clx M.val q.val) q.val = 0 := by decide +kernel
  exact h1 ⟨M, hM⟩ ⟨q, by omega⟩
theorem sex_g {M q : Nat} (hM : M < 32) (hq : q ≤ 4) : (o32 M ||| ((1 : Int32) <<< (o32 q &&& 31))) = o32 (sex M q) ∧ sex M q < 32 ∧ btx (sex M q) q = 1 := by
  have h1 : ∀ M : Fin 32, ∀ q : Fin 5, (o32 M.val ||| ((1 : Int32) <<< (o32 q.val &&& 31))) = o32 (sex M.val q.val) ∧ sex M.val q.val < 32 ∧ btx (sex M.val q.val) q.val = 1 := by decide +kernel
  exact h1 ⟨M, hM⟩ ⟨q, by omega⟩
theorem clx_n {M q r : Nat} (hM : M < 32) (hq : q ≤ 4) (hr : r ≤ 4) (h : ¬ r = q) : btx (clx M q) r = btx M r := by
  have h1 : ∀ M : Fin 32, ∀ q r : Fin 5, ¬ r.val = q.val → btx (clx M.val q.val) r.val = btx M.val r.val := by decide +kernel
  exact h1 ⟨M, hM⟩ ⟨q, by omega⟩ ⟨r, by omega⟩ h
theorem sex_n {M q r : Nat} (hM : M < 32) (hq : q ≤ 4) (hr : r ≤ 4) (h : ¬ r = q) : btx (sex M q) r = btx M r := by
  have h1 : ∀ M : Fin 32, ∀ q r : Fin 5, ¬ r.val = q.val → btx (sex M.val q.val) r.val = btx M.val r.val := by decide +kernel
  exact h1 ⟨M, hM⟩ ⟨q, by omega⟩ ⟨r, by omega⟩ h
theorem btx_b (M q : Nat) : btx M q = 0 ∨ btx M q = 1 := by unfold btx; omega
def okx (k x : Nat) : Bool := if k = 0 then opC x else if k = 1 then opA x else opM x
theorem opx_v {x : Nat} (h : ¬ opx x = 0) : x = 60 ∨ x = 62 ∨ x = 61 ∨ x = 43 ∨ x = 45 ∨ x = 42 ∨ x = 47 := by
  unfold opx at h
  by_cases c1 : x = 60; · omega
  by_cases c2 : x = 62; · omega
  by_cases c3 : x = 61; · omega
  by_cases c4 : x = 43; · omega
  by_cases c5 : x = 45; · omega
  by_cases c6 : x = 42; · omega
  by_cases c7 : x = 47; · omega
  rw [if_neg c1, if_neg c2, if_neg c3, if_neg c4, if_neg c5, if_neg c6, if_neg c7] at h
  exact absurd rfl h
theorem opx_k {x : Nat} (h : ¬ opx x = 0) : (opC x = true ∧ bnx (1999 + opx x) = 1) ∨ (opA x = true ∧ bnx (1999 + opx x) = 2) ∨ (opM x = true ∧ bnx (1999 + opx x) = 3) := by
  rcases opx_v h with rfl | rfl | rfl | rfl | rfl | rfl | rfl <;> decide
theorem okx_f {k x : Nat} (hk : k ≤ 2) (h : okx k x = true) : x < 256 ∧ ¬ opx x = 0 ∧ bnx (1999 + opx x) = k + 1 := by
  unfold okx at h
  rcases (show k = 0 ∨ k = 1 ∨ k = 2 by omega) with rfl | rfl | rfl
  · rw [if_pos rfl] at h
    rcases opC_o h with rfl | rfl | rfl <;> decide
  · rw [if_neg (by decide), if_pos rfl] at h
    rcases opA_o h with rfl | rfl <;> decide
  · rw [if_neg (by decide), if_neg (by decide)] at h
    rcases opM_o h with rfl | rfl <;> decide
theorem HSx_l {t i : Nat} {c : Nat → Nat} (h : HSx t c i < 256) : i < t ∧ i < 40 ∧ c i = HSx t c i := by
  unfold HSx at *
  by_cases e : i < t ∧ i < 40
  · rw [if_pos e]; exact ⟨e.1, e.2, rfl⟩
  · rw [if_neg e] at h; omega
theorem HSx_i {t i : Nat} {c : Nat → Nat} (h : i < t ∧ i < 40) : HSx t c i = c i := if_pos h
theorem HSx_n {t i : Nat} {c : Nat → Nat} (h : ¬ (i < t ∧ i < 40)) : HSx t c i = 999 := if_neg h
theorem stl_mo {b b' : Nat} (h : b' ≤ b) {s : List Nat} (hs : stl b s = []) : stl b' s = [] := by
  rw [← stl_2 h s, hs]; rfl
theorem stg_o {b : Nat} {s : List Nat} (hs : stl b s = s) : stg b s = [] := by
  have h1 := stl_le b s
  rw [hs] at h1
  exact List.eq_nil_of_length_eq_zero (by omega)
abbrev XRx : Type := Option ((Int32 × Int32 × Int32 × Int32 × Int32 × (Nat → Int32) × Int32 × (Nat → Int32)) ⊕ (Int32 × Int32 × Int32 × Int32 × Int32 × Int32 × (Nat → Int32) × Int32 × (Nat → Int32)))
def KCx (k p M M' x : Nat) : Prop := (1 ≤ k → btx M' p = btx M p) ∧ (k ≤ 2 → opM x = false) ∧ (k ≤ 1 → opA x = false) ∧ (k = 0 → opC x = true → btx M' p = 1)
/-- behind a thing: what is settled, what waits above s -/
def S1x (t : Nat) (c : Nat → Nat) (signs : Nat → Int32) (b k p M : Nat) (s G : List Nat) (j : Nat) (X : XRx) : Prop := ∃ (s' g' : List Nat) (a' code' : Nat → Int32) (M' : Nat) (d' : Int32), X = lp (fIn t signs) (1000 - j) (o32 j, o32 (s' ++ s).length, o32 p, o32 M', d', (1 : Int32), a', o32 g'.length, code') ∧ WtR a' (s' ++ s) ∧ CdR code' g' ∧ stl (b + 1) s' = [] ∧ g' ++ s' = G ∧ M' < 32 ∧ (∀ q, q < p → btx M' q = btx M q) ∧ (dgx (HSx t c j) = true → d' = 0 ∨ d' = 3) ∧ g'.length + (s' ++ s).length ≤ j ∧ KCx k p M M' (HSx t c j)
/-- a fault at j, or the end there with something wanting -/
def FaX (t j : Nat) (X : XRx) : Prop := ∃ z, X = some z ∧ ((j < t ∧ j < 40 ∧ ∃ w, z = .inr (o32 j, w)) ∨ (¬ (j < t ∧ j < 40) ∧ ∃ W dp m d ht a z' code, z = .inl (W, dp, m, d, ht, a, z', code) ∧ (ht = 0 ∨ ¬ dp ≤ 0)))
def BPx (t : Nat) (c : Nat → Nat) (signs : Nat → Int32) (k i p M : Nat) (s g : List Nat) (X : XRx) (r : Bool × Nat × List Nat) : Prop := i ≤ r.2.1 ∧ r.2.1 ≤ t ∧ r.2.1 ≤ 40 ∧ (r.1 = true → i < r.2.1 ∧ S1x t c signs k k p M s (g ++ r.2.2) r.2.1 X) ∧ (r.1 = false → FaX t r.2.1 X)
def IHx (t : Nat) (c : Nat → Nat) (signs : Nat → Int32) (n k i p : Nat) : Prop := ∀ (M : Nat) (s g : List Nat) (a code : Nat → Int32) (d : Int32), M < 32 → (k = 0 → btx M p = 0) → (k ≤ 2 → stl (k + 1) s = s) → g.length + s.length ≤ i → WtR a s → CdR code g → BPx t c signs k i p M s g (lp (fIn t signs) (1000 - i) (o32 i, o32 s.length, o32 p, o32 M, d, (0 : Int32), a, o32 g.length, code)) (PD (HSx t c) n k i p)
section RBS
variable {t : Nat} {c : Nat → Nat} {signs text : Nat → Int32}
theorem L_flt (hT : TC t c signs text) {j p M M0 : Nat} {W d z : Int32} {a code : Nat → Int32} (hj : j ≤ 40) (hp : p ≤ 4) (hM : M < 32) (hd : dgx (HSx t c j) = true → d = 0 ∨ d = 3) (hk : KCx 0 p M0 M (HSx t c j)) (h41 : ¬ HSx t c j = 41 ∨ p = 0) (he : ¬ (j < t ∧ j < 40) → 0 < p) : FaX t j (lp (fIn t signs) (1000 - j) (o32 j, W, o32 p, o32 M, d, (1 : Int32), a, z, code)) := by
  rw [show 1000 - j = (999 - j) + 1 by omega]
  by_cases e : j < t ∧ j < 40
  · have hx := (hT.2 j (by omega)).1
    rw [HSx_i e] at hd hk h41
    obtain ⟨y, ey, ey0⟩ := L_gno (a := a) (code := code) (W := W) (z := z) (d := d) (m := o32 M) (ht := 1) hx hp (by
      cases hdg : dgx (c j) with
      | true => exact Or.inl ⟨rfl, hd hdg⟩
      | false =>
        by_cases c41 : c j = 41
        · exact Or.inr (Or.inl ⟨c41, by omega⟩)
        · by_cases co : opx (c j) = 0
          · exact Or.inr (Or.inr (Or.inr ⟨rfl, c41, co⟩))
          · refine Or.inr (Or.inr (Or.inl ⟨co, ?_⟩))
            rcases opx_k co with ⟨h1, h2⟩ | ⟨h1, -⟩ | ⟨h1, -⟩
            · refine ⟨h2, ?_⟩
              rw [btx_g hM hp, hk.2.2.2 rfl h1]
              decide
            · rw [hk.2.2.1 (by decide)] at h1; cases h1
            · rw [hk.2.1 (by decide)] at h1; cases h1)
    have st : fIn t signs (o32 j, W, o32 p, o32 M, d, (1 : Int32), a, z, code) = some (.inr (.inr (o32 j, y.2.1, y.2.2.1, y.2.2.2.1, y.2.2.2.2.1, y.2.2.2.2.2.1, y.2.2.2.2.2.2.1, y.2.2.2.2.2.2.2.1, y.2.2.2.2.2.2.2.2))) := by
      show X6_faultIn_s32 80 signs (o32 t) (o32 j) W (o32 p) (o32 M) d 1 a z code = _
      rw [L_fs1 hT e.1 e.2 ey, if_pos ey0]
    exact ⟨_, lp_e _ st, Or.inl ⟨e.1, e.2, _, rfl⟩⟩
  · have st : fIn t signs (o32 j, W, o32 p, o32 M, d, (1 : Int32), a, z, code) = some (.inr (.inl (W, o32 p, o32 M, d, (1 : Int32), a, z, code))) := L_fse hT e (by omega)
    refine ⟨_, lp_e _ st, Or.inr ⟨e, W, o32 p, o32 M, d, 1, a, z, code, rfl, Or.inr ?_⟩⟩
    have h0 := he e
    show ¬ o32 p ≤ o32 0
    rw [o_le (by omega) (by decide)]; omega
end RBS
