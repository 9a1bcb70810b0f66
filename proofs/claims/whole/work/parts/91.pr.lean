/-! ===== the pure level: the reference reads a rule, the end of it ===== -/
section RAU
variable {L nv : Nat} {read : Nat → Int32} {h : Nat → Nat} {isA : Int32} {asked : Nat → Int32}
theorem nmk_b (hr : RdH L nv read h) {i : Nat} (hi : i < 40) (hd : dgx (h i) = true) : i + nmk h i ≤ 40 ∧ 1 ≤ nmk h i ∧ nmv h i < 1000 := by
  have hd0 := of_decide_eq_true hd
  unfold nmk nmv
  cases d1 : dgx (h (i + 1)) with
  | false => rw [if_neg (by decide), if_neg (by decide)]; omega
  | true =>
    have h1 := of_decide_eq_true d1
    have l1 := hr.lt (show i + 1 < 100 by omega) (by omega)
    rw [if_pos rfl, if_pos rfl]
    cases d2 : dgx (h (i + 2)) with
    | false => rw [if_neg (by decide), if_neg (by decide)]; omega
    | true =>
      have h2 := of_decide_eq_true d2
      have l2 := hr.lt (show i + 2 < 100 by omega) (by omega)
      rw [if_pos rfl, if_pos rfl]; omega
theorem lex_b (x : Nat) : lex x ≤ 7 := by
  unfold lex
  repeat (split; omega)
  omega
theorem lex_9 : lex 999 = 0 := by decide
theorem Rx_thi (hr : RdH L nv read h) (hA : isA = 0 ∨ isA = 1) {n i p : Nat} (hi : i ≤ 40) (hp : p ≤ 4) (hR3 : i < 40 → RaP isA asked (i + 1) (PD h n 3 (i + 1) p) (X11_expr n 3 (o32 L) (o32 40) (o32 (i + 1)) (-1) isA nv read asked (o32 p))) (hR0 : i < 40 → p < 4 → RaP isA asked (i + 1) (PD h n 0 (i + 1) (p + 1)) (X11_expr n 0 (o32 L) (o32 40) (o32 (i + 1)) (-1) isA nv read asked (o32 (p + 1)))) : RaP isA asked i (PD h (n + 1) 3 i p) (X11_expr (n + 1) 3 (o32 L) (o32 40) (o32 i) (-1) isA nv read asked (o32 p)) := by
  have e4 : (4 : Int32) = o32 4 := rfl
  have hb := hr.bd (show i < 100 by omega)
  have eP : PD h (n + 1) 3 i p = if h i = 45 then ((PD h n 3 (i + 1) p).1, (PD h n 3 (i + 1) p).2.1, (PD h n 3 (i + 1) p).2.2 ++ [2007]) else if h i = 40 ∧ p < 4 then (if (PD h n 0 (i + 1) (p + 1)).1 = true then (if h (PD h n 0 (i + 1) (p + 1)).2.1 = 41 then (true, (PD h n 0 (i + 1) (p + 1)).2.1 + 1, (PD h n 0 (i + 1) (p + 1)).2.2) else (false, (PD h n 0 (i + 1) (p + 1)).2.1, [])) else (false, (PD h n 0 (i + 1) (p + 1)).2.1, [])) else if dgx (h i) = true then (true, i + nmk h i, [nmv h i]) else if ¬ lex (h i) = 0 then (true, i + 1, [999 + lex (h i)]) else (false, i, []) := rfl
  rw [eP]
  show RaP isA asked i _ (X11_expr_b3 (X11_expr n) (o32 L) (o32 40) (o32 i) (-1) isA nv read asked (o32 p))
  unfold X11_expr_b3
  rw [show (45 : Int32) = o32 45 from rfl, L_px hr (by omega) (by decide), Option.bind_some]
  by_cases c45 : h i = 45
  · have hlt := hr.lt (show i < 100 by omega) (show h i < 256 by omega)
    obtain ⟨v, e, b1, b2, b3⟩ := hR3 hlt
    rw [if_pos c45, if_pos c45]
    dsimp only
    rw [if_neg (by decide), e, Option.bind_some]
    exact ⟨_, rfl, by show i ≤ (PD h n 3 (i + 1) p).2.1; omega, b2, fun k => ⟨by show i < (PD h n 3 (i + 1) p).2.1; omega, fun k2 => ((b3 k).2 k2).neg⟩⟩
  · rw [if_neg c45, if_neg c45]
    dsimp only
    rw [if_pos (show (0 : Int32) = 0 from rfl), if_neg (show ¬ X11_fine (-1) = 0 by rw [fi_m]; exact id), L_hx hr (by omega), Option.bind_some]
    have rest : ¬ (h i = 40 ∧ p < 4) → RaP isA asked i (if dgx (h i) = true then (true, i + nmk h i, [nmv h i]) else if ¬ lex (h i) = 0 then (true, i + 1, [999 + lex (h i)]) else (false, i, [])) (X11_thing_k67 (o32 L) (o32 40) (-1) isA nv read asked ((0 : Int32), o32 i) (hvx (h i))) := by
      intro _
      unfold X11_thing_k67
      rw [in_dg hb]
      dsimp only
      cases hd : dgx (h i) with
      | true =>
        have hd2 := of_decide_eq_true hd
        have hlt := hr.lt (show i < 100 by omega) (by omega)
        obtain ⟨k1, k2, k3⟩ := nmk_b hr hlt hd
        rw [if_neg (show ¬ bi true = 0 by decide), if_pos (show true = true from rfl), L_nx hr (by omega) hd, Option.bind_some]
        exact ⟨_, rfl, by show i ≤ i + nmk h i; omega, k1, fun _ => ⟨by show i < i + nmk h i; omega, fun _ => PVc.num k3⟩⟩
      | false =>
        rw [if_pos (show bi false = 0 from rfl), if_neg (show ¬ false = true by decide), ft_m, o_s]
        have el : X11_letterOf (hvx (h i)) = o32 (lex (h i)) - 1 := by
          unfold hvx
          rcases hb with hb | hb
          · rw [if_pos hb, L_let hb]
          · rw [hb, if_neg (by decide), lex_9]; decide
        rw [el]
        have hl7 := lex_b (h i)
        by_cases c0 : lex (h i) = 0
        · rw [c0, if_pos (show o32 0 - 1 = (-1 : Int32) by decide), if_neg (show ¬ ¬ (0 : Nat) = 0 from fun q => q rfl)]
          exact ⟨0, rfl, Nat.le_refl _, hi, fun q => Bool.noConfusion q⟩
        · obtain ⟨x, ex⟩ : ∃ x, lex (h i) = x + 1 := ⟨lex (h i) - 1, by omega⟩
          have hlt : i < 40 := by
            rcases hb with hb | hb
            · exact hr.lt (by omega) hb
            · rw [hb, lex_9] at c0; exact absurd rfl c0
          rw [ex, pu_m1, if_neg (show ¬ o32 x = (-1 : Int32) by
            intro e
            have h2 := congrArg Int32.toInt e
            rw [o_toInt (by omega), show (-1 : Int32).toInt = -1 by decide] at h2
            omega), if_pos (show ¬ x + 1 = 0 from Nat.succ_ne_zero x)]
          rcases hA with hA | hA
          · rw [hA, if_pos (show (0 : Int32) = 0 from rfl)]
            exact ⟨_, rfl, by show i ≤ i + 1; omega, by show i + 1 ≤ 40; omega, fun _ => ⟨by show i < i + 1; omega, fun q => absurd q (by decide)⟩⟩
          · rw [hA, if_neg (show ¬ (1 : Int32) = 0 by decide), gi_o (by omega) (by decide), o_cl (by omega)]
            exact ⟨_, rfl, by show i ≤ i + 1; omega, by show i + 1 ≤ 40; omega, fun _ => ⟨by show i < i + 1; omega, fun _ => PVc.let (x := x + 1) (by omega) (by omega)⟩⟩
    by_cases c40 : h i = 40
    · rw [if_pos (show hvx (h i) = (40 : Int32) by rw [c40]; rfl), e4]
      by_cases cp : p < 4
      · have hlt := hr.lt (show i < 100 by omega) (show h i < 256 by omega)
        obtain ⟨v, e, b1, b2, b3⟩ := hR0 hlt cp
        obtain ⟨r, er⟩ : ∃ r, PD h n 0 (i + 1) (p + 1) = r := ⟨_, rfl⟩
        rw [er] at e b1 b2 b3 ⊢
        rw [i_ge cp (by decide), o_s, o_s, e, Option.bind_some, if_pos (show h i = 40 ∧ p < 4 from ⟨c40, cp⟩)]
        dsimp only
        unfold X11_need
        by_cases c1 : r.1 = true
        · have ew : wrx r = -1 := if_pos c1
          rw [ew, show (41 : Int32) = o32 41 from rfl, L_px hr (by omega) (by decide), Option.bind_some, if_pos c1]
          by_cases c41 : h r.2.1 = 41
          · have hlt2 := hr.lt (show r.2.1 < 100 by omega) (show h r.2.1 < 256 by omega)
            rw [if_pos c41, if_pos c41]
            dsimp only
            rw [if_neg (by decide), Option.bind_some]
            exact ⟨v, rfl, by show i ≤ r.2.1 + 1; omega, by show r.2.1 + 1 ≤ 40; omega, fun _ => ⟨by show i < r.2.1 + 1; omega, (b3 c1).2⟩⟩
          · rw [if_neg c41, if_neg c41]
            dsimp only
            rw [if_pos rfl, ft_m, Option.bind_some]
            exact ⟨v, rfl, by show i ≤ r.2.1; omega, b2, fun q => Bool.noConfusion q⟩
        · have ew : wrx r = o32 r.2.1 := if_neg c1
          have W : (X11_fine (o32 r.2.1) = 0) = True := fi_o (by omega)
          rw [ew, L_pxw W, Option.bind_some, if_neg c1]
          dsimp only
          rw [if_pos rfl, ft_o (by omega), Option.bind_some]
          exact ⟨v, rfl, by show i ≤ r.2.1; omega, b2, fun q => Bool.noConfusion q⟩
      · rw [i_le (by omega) (by omega), if_neg (show ¬ (h i = 40 ∧ p < 4) from fun q => cp q.2)]
        exact rest (fun q => cp q.2)
    · rw [if_neg (show ¬ hvx (h i) = (40 : Int32) from hvx_43 hb (v := 40) (by decide) c40), if_neg (show ¬ (h i = 40 ∧ p < 4) from fun q => c40 q.1)]
      exact rest (fun q => c40 q.1)
theorem L_rA (hr : RdH L nv read h) (hA : isA = 0 ∨ isA = 1) : ∀ (f k i p : Nat), k ≤ 3 → i ≤ 40 → p ≤ 4 → 4 * (5 - p) + (41 - i) < f + k → RaP isA asked i (PD h f k i p) (X11_expr f k (o32 L) (o32 40) (o32 i) (-1) isA nv read asked (o32 p))
  | 0, k, i, p, hk, hi, hp, hf => by omega
  | f + 1, k, i, p, hk, hi, hp, hf => by
    rcases (show k = 0 ∨ k = 1 ∨ k = 2 ∨ k = 3 by omega) with rfl | rfl | rfl | rfl
    · exact Rx_hel hr hi (fun j h1 h2 => L_rA hr hA f 1 j p (by decide) h2 hp (by omega))
    · exact Rx_sum hr hi (fun j h1 h2 => L_rA hr hA f 2 j p (by decide) h2 hp (by omega))
    · exact Rx_pro hr hi (fun j h1 h2 => L_rA hr hA f 3 j p (by decide) h2 hp (by omega))
    · exact Rx_thi hr hA hi hp (fun h1 => L_rA hr hA f 3 (i + 1) p (by decide) (by omega) hp (by omega)) (fun h1 h2 => L_rA hr hA f 0 (i + 1) (p + 1) (by decide) (by omega) (by omega) (by omega))
end RAU
