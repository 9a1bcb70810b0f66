/-! ===== the pure level: settling ===== -/
theorem L_stlp {a : Nat → Int32} {b : Nat} (hb : 1 ≤ b) (hb4 : b ≤ 4) : ∀ (s : List Nat) (g : List Nat) (code : Nat → Int32) (fuel : Nat), s.length < fuel → s.length ≤ 40 → WtR a s → CdR code g → g.length + s.length ≤ 40 → ∃ z code', lp (fun x7 : Int32 × Int32 × Int32 × (Nat → Int32) => X6_settles_s7 a (o32 b) x7.1 x7.2.1 x7.2.2.1 x7.2.2.2) fuel (o32 s.length - 1, o32 s.length, o32 g.length, code) = some z ∧ (z = .inl (o32 (stl b s).length, o32 (g ++ stg b s).length, code') ∨ z = .inr (o32 (stl b s).length, o32 (g ++ stg b s).length, code')) ∧ CdR code' (g ++ stg b s)
  | [], g, code, fuel, hf, h40, hw, hc, hl => by
    obtain ⟨q, rfl⟩ : ∃ q, fuel = q + 1 := ⟨fuel - 1, by have : ([] : List Nat).length = 0 := rfl; omega⟩
    refine ⟨_, code, lp_e q ?_, Or.inl rfl, ?_⟩
    · show X6_settles_s7 a (o32 b) (o32 0 - 1) (o32 0) (o32 g.length) code = _
      unfold X6_settles_s7
      rw [if_pos (by decide)]
      show some (Sum.inr (Sum.inl (o32 0, o32 g.length, code))) = some (Sum.inr (Sum.inl (o32 0, o32 (g ++ []).length, code)))
      rw [List.append_nil]
    · show CdR code (g ++ [])
      rw [List.append_nil]; exact hc
  | e :: r, g, code, fuel, hf, h40, hw, hc, hl => by
    have hf : r.length + 1 < fuel := hf
    have h40 : r.length + 1 ≤ 40 := h40
    have hl : g.length + (r.length + 1) ≤ 40 := hl
    have e40 : (40 : Int32) = o32 40 := rfl
    obtain ⟨q, rfl⟩ : ∃ q, fuel = q + 1 := ⟨fuel - 1, by omega⟩
    have he := hw.1 e (List.mem_cons_self)
    have hbn : bnx e ≤ 4 := by unfold bnx; split; omega; split; omega; split; omega; split <;> omega
    have pre : X6_settles_s7 a (o32 b) (o32 (r.length + 1) - 1) (o32 (r.length + 1)) (o32 g.length) code = if o32 b ≤ o32 (bnx e) then ((X5_adds (o32 g.length) code (o32 e)).bind fun y38 => some (.inl (o32 r.length - 1, o32 r.length, y38.1, y38.2))) else some (.inr (.inr (o32 (r.length + 1), o32 g.length, code))) := by
      unfold X6_settles_s7
      rw [pu_m1, if_neg (o_nn _ (by omega)), e40, i_ge (by omega) (by decide), gi_o (by omega) (by decide), gi_o (by omega) (by decide), o_cl (by omega), hw.hd, L_bnx he, pu_am1]
    by_cases c : b ≤ bnx e
    · obtain ⟨ea, ha⟩ := hc.ad (by omega) e
      rw [i_le c (by omega), ea, Option.bind_some] at pre
      have hgl : (g ++ [e]).length = g.length + 1 := by rw [List.length_append]; rfl
      obtain ⟨z, code', ez, hz, hcd⟩ := L_stlp hb hb4 r (g ++ [e]) (upd code g.length (o32 e)) q (by omega) (by omega) hw.tl ha (by omega)
      have e1 : stl b (e :: r) = stl b r := if_pos c
      have e2 : stg b (e :: r) = e :: stg b r := if_pos c
      have e3 : g ++ stg b (e :: r) = (g ++ [e]) ++ stg b r := by rw [e2, List.append_assoc]; rfl
      rw [e1, e3]
      exact ⟨z, code', (lp_c q pre).trans ez, hz, hcd⟩
    · rw [i_ge (by omega) (by omega)] at pre
      have e1 : stl b (e :: r) = e :: r := if_neg c
      have e2 : stg b (e :: r) = [] := if_neg c
      rw [e1, e2, List.append_nil]
      exact ⟨_, code, lp_e q pre, Or.inr rfl, hc⟩
theorem L_stl {a : Nat → Int32} {b : Nat} (hb : 1 ≤ b) (hb4 : b ≤ 4) {s g : List Nat} {code : Nat → Int32} (hw : WtR a s) (hc : CdR code g) (hl : g.length + s.length ≤ 40) : ∃ code', X6_settles (o32 s.length) a (o32 g.length) code (o32 b) = some (o32 (stl b s).length, o32 (g ++ stg b s).length, code') ∧ CdR code' (g ++ stg b s) := by
  obtain ⟨z, code', ez, hz, hcd⟩ := L_stlp hb hb4 s g code 1000 (by omega) (by omega) hw hc hl
  refine ⟨code', ?_, hcd⟩
  unfold X6_settles
  rw [ez, Option.bind_some]
  rcases hz with rfl | rfl <;> rfl
theorem stl_le (b : Nat) : ∀ s, (stl b s).length + (stg b s).length = s.length
  | [] => rfl
  | e :: r => by
    have ih := stl_le b r
    show (if b ≤ bnx e then stl b r else e :: r).length + (if b ≤ bnx e then e :: stg b r else []).length = r.length + 1
    by_cases c : b ≤ bnx e
    · rw [if_pos c, if_pos c]
      show _ + ((stg b r).length + 1) = _
      omega
    · rw [if_neg c, if_neg c]
      show r.length + 1 + 0 = _
      omega
theorem WtR.st {a : Nat → Int32} {b : Nat} : ∀ {s : List Nat}, WtR a s → WtR a (stl b s)
  | [], h => h
  | e :: r, h => by
    show WtR a (if b ≤ bnx e then stl b r else e :: r)
    by_cases c : b ≤ bnx e
    · rw [if_pos c]; exact WtR.st h.tl
    · rw [if_neg c]; exact h
/-- one waits for more -/
theorem L_wfo {a : Nat → Int32} {s : List Nat} (hw : WtR a s) (hl : s.length < 40) {v : Nat} (hv : v = 0 ∨ (2000 ≤ v ∧ v ≤ 2007)) : X6_waitsFor (o32 s.length) a (o32 v) = some (o32 (v :: s).length, upd a s.length (o32 v)) ∧ WtR (upd a s.length (o32 v)) (v :: s) := by
  have e40 : (40 : Int32) = o32 40 := rfl
  refine ⟨?_, hw.push hv⟩
  unfold X6_waitsFor
  rw [e40, i_ge hl (by decide), gi_o hl (by decide), o_cl (by omega), o_s]
  rfl
