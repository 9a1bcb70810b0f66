/-! ===== the pure level: the class reads a rule, sign by sign ===== -/
section RCS
variable {t : Nat} {c : Nat → Nat} {signs text : Nat → Int32}
/-- where a thing must begin -/
theorem L_beg {a code : Nat → Int32} {s g : List Nat} {x p : Nat} (hx : x < 256) (hw : WtR a s) (hc : CdR code g) (hs : s.length < 40) (hg : g.length < 40) (hp : p ≤ 4) (m d ht : Int32) :
    (x = 45 ∧ X6_begins (o32 s.length) (o32 p) m d ht a (o32 g.length) code (o32 x) = some ((1 : Int32), o32 (2007 :: s).length, o32 p, m, d, ht, upd a s.length (o32 2007), o32 g.length, code)) ∨
    (x = 40 ∧ p < 4 ∧ X6_begins (o32 s.length) (o32 p) m d ht a (o32 g.length) code (o32 x) = some ((1 : Int32), o32 (0 :: s).length, o32 (p + 1), m &&& (((1 : Int32) <<< (o32 (p + 1) &&& 31)) ^^^ (-1 : Int32)), d, ht, upd a s.length (o32 0), o32 g.length, code)) ∨
    (dgx x = true ∧ X6_begins (o32 s.length) (o32 p) m d ht a (o32 g.length) code (o32 x) = some ((1 : Int32), o32 s.length, o32 p, m, (1 : Int32), (1 : Int32), a, o32 (g ++ [x - 48]).length, upd code g.length (o32 (x - 48)))) ∨
    (¬ lex x = 0 ∧ dgx x = false ∧ ¬ x = 45 ∧ ¬ x = 40 ∧ X6_begins (o32 s.length) (o32 p) m d ht a (o32 g.length) code (o32 x) = some ((1 : Int32), o32 s.length, o32 p, m, (0 : Int32), (1 : Int32), a, o32 (g ++ [999 + lex x]).length, upd code g.length (o32 (999 + lex x)))) ∨
    (lex x = 0 ∧ dgx x = false ∧ ¬ x = 45 ∧ ¬ (x = 40 ∧ p < 4) ∧ X6_begins (o32 s.length) (o32 p) m d ht a (o32 g.length) code (o32 x) = some ((0 : Int32), o32 s.length, o32 p, m, d, ht, a, o32 g.length, code)) := by
  have e48 : (48 : Int32) = o32 48 := rfl
  have e57 : (57 : Int32) = o32 57 := rfl
  have e4 : (4 : Int32) = o32 4 := rfl
  have hl7 := lex_b x
  cases hd : dgx x with
  | true =>
    have hd2 := of_decide_eq_true hd
    refine Or.inr (Or.inr (Or.inl ⟨rfl, ?_⟩))
    unfold X6_begins
    rw [L_lex hx, Option.bind_some, e48, e57, i_lt (by omega) (by omega), i_lt (by omega) (by omega), o_sub hd2.1, (hc.ad hg (x - 48)).1, Option.bind_some]
  | false =>
    have hd2 := of_decide_eq_false hd
    have pre : X6_begins (o32 s.length) (o32 p) m d ht a (o32 g.length) code (o32 x) = X6_begins_k40 (o32 s.length) (o32 p) m d ht a (o32 g.length) code (o32 x) (o32 (lex x) - 1) := by
      unfold X6_begins
      rw [L_lex hx, Option.bind_some, e48, e57]
      rcases Nat.lt_or_ge x 48 with c1 | c1
      · rw [i_gt c1 (by decide)]
      · rw [i_lt c1 (by omega), i_gt (by omega) (by omega)]
    rw [pre]
    unfold X6_begins_k40
    by_cases c0 : lex x = 0
    · rw [c0, if_pos (show o32 0 - 1 < (0 : Int32) by decide)]
      by_cases c45 : x = 45
      · subst c45
        refine Or.inl ⟨rfl, ?_⟩
        rw [if_pos (by rfl), show (2007 : Int32) = o32 2007 from rfl, (L_wfo hw hs (v := 2007) (by omega)).1, Option.bind_some]
      · have n45 : ¬ o32 x = (45 : Int32) := by
          show ¬ o32 x = o32 45
          rw [o_eq (by omega) (by decide)]; exact c45
        rw [if_neg n45]
        by_cases c40 : x = 40
        · subst c40
          rw [if_pos (show o32 40 = (40 : Int32) from rfl), e4]
          rcases Nat.lt_or_ge p 4 with cp | cp
          · refine Or.inr (Or.inl ⟨rfl, cp, ?_⟩)
            rw [i_ge cp (by decide), show X6_waitsFor (o32 s.length) a (0 : Int32) = X6_waitsFor (o32 s.length) a (o32 0) from rfl, (L_wfo hw hs (v := 0) (Or.inl rfl)).1, Option.bind_some, o_s]
          · refine Or.inr (Or.inr (Or.inr (Or.inr ⟨rfl, rfl, by decide, by omega, ?_⟩)))
            rw [i_le cp (by omega)]
        · have n40 : ¬ o32 x = (40 : Int32) := by
            show ¬ o32 x = o32 40
            rw [o_eq (by omega) (by decide)]; exact c40
          refine Or.inr (Or.inr (Or.inr (Or.inr ⟨rfl, rfl, c45, fun q => c40 q.1, ?_⟩)))
          rw [if_neg n40]
    · obtain ⟨q, eq⟩ : ∃ q, lex x = q + 1 := ⟨lex x - 1, by omega⟩
      have n1 : ¬ x = 45 := by intro e; subst e; exact c0 (by decide)
      have n2 : ¬ x = 40 := by intro e; subst e; exact c0 (by decide)
      refine Or.inr (Or.inr (Or.inr (Or.inl ⟨c0, rfl, n1, n2, ?_⟩)))
      rw [eq, pu_m1, if_neg (o_nn _ (by omega)), show (1000 : Int32) + o32 q = o32 (1000 + q) from o_add 1000 q, show 1000 + q = 999 + (q + 1) by omega, (hc.ad hg (999 + (q + 1))).1, Option.bind_some]
end RCS
