/-! ===== the pure level: week, the reference reads ===== -/
def wps (c : Nat → Nat) : Nat → Nat
  | 0 => 0
  | k + 1 => wps c k + 1 + wdO (c (wps c k))
def AcR (c : Nat → Nat) (k : Nat) (acts : Nat → Int32) : Prop := ∀ j, j < k → acts (3 * j) = o32 (c (wps c j)) ∧ acts (3 * j + 1) = o32 (c (wps c j + 1) - 48) ∧ (wdO (c (wps c j)) = 2 → acts (3 * j + 2) = o32 (c (wps c j + 2) - 48))
theorem wps_le (c : Nat → Nat) : ∀ k, k ≤ wps c k
  | 0 => Nat.le_refl 0
  | k + 1 => by
    have := wps_le c k
    show k + 1 ≤ wps c k + 1 + _
    omega
section TAR
variable {t f : Nat} {c : Nat → Nat} {signs text : Nat → Int32}
theorem AcR.s {k : Nat} {acts acts' : Nat → Int32} (h : AcR c k acts) (h1 : ∀ j, j < 3 * k → acts' j = acts j) (h2 : acts' (3 * k) = o32 (c (wps c k))) (h3 : acts' (3 * k + 1) = o32 (c (wps c k + 1) - 48)) (h4 : wdO (c (wps c k)) = 2 → acts' (3 * k + 2) = o32 (c (wps c k + 2) - 48)) : AcR c (k + 1) acts' := by
  intro j hj
  by_cases e : j = k
  · subst e; exact ⟨h2, h3, h4⟩
  · obtain ⟨g1, g2, g3⟩ := h j (by omega)
    rw [h1 _ (by omega), h1 _ (by omega), h1 _ (by omega)]
    exact ⟨g1, g2, g3⟩
/-- the kinds -/
theorem wdO_k {x : Nat} (h : ¬ wdO x = 0) : (wdO x = 1 ∧ (x = 108 ∨ x = 110)) ∨ (wdO x = 2 ∧ (x = 115 ∨ x = 116)) ∨ (wdO x = 2 ∧ x = 112) := by
  unfold wdO at *
  split at h
  · rename_i h1
    rw [if_pos h1]
    exact Or.inl ⟨rfl, h1⟩
  · rename_i h1
    rw [if_neg h1]
    split at h
    · rename_i h2
      rw [if_pos h2]
      right
      rcases h2 with h2 | h2 | h2
      · exact Or.inr ⟨rfl, h2⟩
      · exact Or.inl ⟨rfl, Or.inl h2⟩
      · exact Or.inl ⟨rfl, Or.inr h2⟩
    · exact absurd rfl h
theorem L_ra (hT : TC t c signs text) (hf : f ≤ t) (hf2 : f ≤ 60) (hb : ¬ TaO t c f) (hg : ∀ i, i < f → TaO t c i) {k : Nat} (hi : wps c k < f) (h0 : (TaS c (wps c k)).2 = 0) {acts : Nat → Int32} (ha : AcR c k acts) : ∃ y, X11_readAct (o32 t) (o32 60) (o32 (wps c k)) (-1) 80 text acts ((3 : Int32) * o32 k) = some y ∧ ((y.1 = o32 (wps c (k + 1)) ∧ y.2.1 = -1 ∧ AcR c (k + 1) y.2.2 ∧ wps c (k + 1) ≤ f ∧ (TaS c (wps c (k + 1))).2 = 0) ∨ (y.2.1 = o32 f ∧ ¬ (f = t ∧ (TaS c f).2 = 0))) := by
  have ht := hT.1
  have hk := wps_le c k
  obtain ⟨i, ei⟩ : ∃ i, wps c k = i := ⟨_, rfl⟩
  have ew : wps c (k + 1) = i + 1 + wdO (c i) := by
    show wps c k + 1 + wdO (c (wps c k)) = _
    rw [ei]
  rw [ew]
  rw [ei] at hi h0 hk ⊢
  obtain ⟨g1, g2, hor⟩ := hg i hi
  have hc := (hT.2 i (by omega)).1
  have hne : ¬ wdO (c i) = 0 := by
    rcases hor with ⟨-, h⟩ | ⟨h, -⟩
    · exact h
    · exact absurd h0 h
  have hS1 := TaS_0 (c := c) h0
  have e3 : (3 : Int32) * o32 k = o32 (3 * k) := o_mul 3 k
  have O48 : ∀ p, p < 80 → X11_oneOf (o32 t) (o32 60) (o32 p) (-1) 80 text 48 10 = some (if p < t ∧ p < 60 ∧ 48 ≤ c p ∧ c p < 58 then (o32 (c p - 48), o32 (p + 1), -1) else (0, o32 p, o32 p)) := fun p hp => L_of hT (top := 60) (lo := 48) (cnt := 10) (by decide) hp (by decide) (by decide)
  have O49 : ∀ p, p < 80 → X11_oneOf (o32 t) (o32 60) (o32 p) (-1) 80 text 49 9 = some (if p < t ∧ p < 60 ∧ 49 ≤ c p ∧ c p < 58 then (o32 (c p - 49), o32 (p + 1), -1) else (0, o32 p, o32 p)) := fun p hp => L_of hT (top := 60) (lo := 49) (cnt := 9) (by decide) hp (by decide) (by decide)
  have W : (X11_fine (o32 f) = 0) = True := fi_o (by omega)
  have eh : X11_here (o32 t) (o32 60) (o32 i) 80 text = some (o32 (c i)) := by
    rw [L_he hT (by decide) (by omega), if_pos ⟨g1, g2⟩]
  have E2 : ∀ m, o32 m + 2 = o32 (m + 2) := fun m => o_add m 2
  -- it comes to the kind
  have kind : X11_readAct (o32 t) (o32 60) (o32 i) (-1) 80 text acts (o32 (3 * k)) = X11_readAct_k44 (o32 t) (o32 60) (o32 i) (-1) 80 text acts (o32 (3 * k)) (o32 (c i)) := by
    unfold X11_readAct
    rw [eh, Option.bind_some]
    rcases wdO_k hne with ⟨-, h | h⟩ | ⟨-, h | h⟩ | ⟨-, h⟩ <;> rw [h] <;> rfl
  rw [e3, kind]
  unfold X11_readAct_k44
  rw [gi_o (by omega) (by decide), o_s]
  rcases Nat.lt_or_ge (i + 1) f with h1f | h1f
  · -- the first digit stands
    obtain ⟨g1', g2', hor'⟩ := hg (i + 1) h1f
    have hd1 : 48 ≤ c (i + 1) ∧ c (i + 1) ≤ 57 := by
      rw [hS1] at hor'
      rcases hor' with ⟨h, -⟩ | ⟨-, h, h', -⟩
      · exact absurd h hne
      · exact ⟨h, h'⟩
    have hS2 : TaS c (i + 2) = (c i, wdO (c i) - 1) := by
      rw [TaS_1 (c := c) (i := i + 1) (by rw [hS1]; exact hne), hS1]
    rw [O48 _ (by omega), Option.bind_some, if_pos (show i + 1 < t ∧ i + 1 < 60 ∧ 48 ≤ c (i + 1) ∧ c (i + 1) < 58 from ⟨g1', g2', hd1.1, by omega⟩), o_s, gi_o (by omega) (by decide)]
    dsimp only
    rw [o_cl (by omega), o_cl (by omega)]
    rcases wdO_k hne with ⟨w1, h⟩ | ⟨w2, h⟩ | ⟨w2, h⟩
    · -- one digit
      have n116 : ¬ o32 (c i) = 116 := by rcases h with h | h <;> rw [h] <;> decide
      have n115 : ¬ o32 (c i) = 115 := by rcases h with h | h <;> rw [h] <;> decide
      have n112 : ¬ o32 (c i) = 112 := by rcases h with h | h <;> rw [h] <;> decide
      unfold X11_readAct_k105
      rw [if_neg n116, if_neg n115, if_neg n112]
      refine ⟨_, rfl, Or.inl ⟨?_, rfl, ?_, by omega, ?_⟩⟩
      · show o32 _ = o32 _
        rw [w1]
      · refine ha.s (fun j hj => ?_) ?_ ?_ (fun hw => ?_)
        · show upd (upd acts (3 * k) _) (3 * k + 1) _ j = _
          rw [pk_un (by omega), pk_un (by omega)]
        · show upd (upd acts (3 * k) _) (3 * k + 1) _ (3 * k) = _
          rw [pk_un (by omega), ei]; exact pk_us
        · show upd (upd acts (3 * k) _) (3 * k + 1) _ (3 * k + 1) = _
          rw [ei]; exact pk_us
        · rw [ei] at hw; omega
      · rw [w1, show i + 1 + 1 = i + 2 by omega, hS2, w1]
    · -- two digits
      have n112 : ¬ o32 (c i) = 112 := by rcases h with h | h <;> rw [h] <;> decide
      have k89 : ∀ (A B : Option (Int32 × Int32 × (Nat → Int32))), (if o32 (c i) = 116 then A else (if o32 (c i) = 115 then A else B)) = A := by
        intro A B
        rcases h with h | h <;> rw [h]
        · rw [if_neg (by decide), if_pos (by rfl)]
        · rw [if_pos (by rfl)]
      rw [k89]
      unfold X11_readAct_k89 X11_readAct_k105
      dsimp only
      rcases Nat.lt_or_ge (i + 2) f with h2f | h2f
      · obtain ⟨g1'', g2'', hor''⟩ := hg (i + 2) h2f
        have hd2 : 48 ≤ c (i + 2) ∧ c (i + 2) ≤ 57 := by
          rw [hS2, w2] at hor''
          rcases hor'' with ⟨h, -⟩ | ⟨-, h, h', -⟩
          · exact absurd h Nat.one_ne_zero
          · exact ⟨h, h'⟩
        rw [O48 (i + 1 + 1) (by omega), Option.bind_some, if_pos (show i + 1 + 1 < t ∧ i + 1 + 1 < 60 ∧ 48 ≤ c (i + 1 + 1) ∧ c (i + 1 + 1) < 58 from ⟨g1'', g2'', hd2.1, by have := hd2.2; show c (i + 2) < 58; omega⟩), E2, gi_o (by omega) (by decide), o_cl (by omega)]
        dsimp only
        rw [if_neg n112]
        simp (disch := omega) only [o_s, o_cl]
        refine ⟨_, rfl, Or.inl ⟨?_, rfl, ?_, by omega, ?_⟩⟩
        · show o32 _ = o32 _
          rw [w2]
        · refine ha.s (fun j hj => ?_) ?_ ?_ (fun hw => ?_)
          · show upd (upd (upd acts (3 * k) _) (3 * k + 1) _) (3 * k + 2) _ j = _
            rw [pk_un (by omega), pk_un (by omega), pk_un (by omega)]
          · show upd (upd (upd acts (3 * k) _) (3 * k + 1) _) (3 * k + 2) _ (3 * k) = _
            rw [pk_un (by omega), pk_un (by omega), ei]; exact pk_us
          · show upd (upd (upd acts (3 * k) _) (3 * k + 1) _) (3 * k + 2) _ (3 * k + 1) = _
            rw [pk_un (by omega), ei]; exact pk_us
          · show upd (upd (upd acts (3 * k) _) (3 * k + 1) _) (3 * k + 2) _ (3 * k + 2) = _
            rw [ei]; exact pk_us
        · rw [w2, show i + 1 + 2 = (i + 2) + 1 by omega, TaS_1 (c := c) (i := i + 2) (by rw [hS2, w2]; exact Nat.one_ne_zero), hS2, w2]
          rfl
      · have h2f' : i + 2 = f := by omega
        rw [O48 (i + 1 + 1) (by omega), Option.bind_some, if_neg (show ¬ (i + 1 + 1 < t ∧ i + 1 + 1 < 60 ∧ 48 ≤ c (i + 1 + 1) ∧ c (i + 1 + 1) < 58) from fun e => hb (by
          rw [← h2f']
          refine ⟨e.1, e.2.1, Or.inr ⟨by rw [hS2, w2]; exact Nat.one_ne_zero, e.2.2.1, by have := e.2.2.2; show c (i + 1 + 1) ≤ 57; omega, ?_⟩⟩
          rintro ⟨q, -⟩
          rw [hS2] at q
          have q : c i = 112 := q
          omega)), E2, gi_o (by omega) (by decide)]
        dsimp only
        rw [if_neg n112]
        refine ⟨_, rfl, Or.inr ⟨?_, ?_⟩⟩
        · show o32 _ = o32 _
          rw [← h2f']
        · rintro ⟨-, q⟩
          rw [← h2f', hS2, w2] at q
          cases q
    · -- pills
      have n116 : ¬ o32 (c i) = 116 := by rw [h]; decide
      have n115 : ¬ o32 (c i) = 115 := by rw [h]; decide
      have y112 : o32 (c i) = 112 := by rw [h]; rfl
      rw [if_neg n116, if_neg n115]
      unfold X11_readAct_k105
      rw [if_pos y112]
      rcases Nat.lt_or_ge (i + 2) f with h2f | h2f
      · obtain ⟨g1'', g2'', hor''⟩ := hg (i + 2) h2f
        have hd2 : 49 ≤ c (i + 2) ∧ c (i + 2) ≤ 57 := by
          rw [hS2, w2] at hor''
          rcases hor'' with ⟨h, -⟩ | ⟨-, h', h'', h3⟩
          · exact absurd h Nat.one_ne_zero
          · refine ⟨?_, h''⟩
            apply Classical.byContradiction
            intro hn
            exact h3 ⟨h, rfl, by omega⟩
        rw [O49 (i + 1 + 1) (by omega), Option.bind_some, if_pos (show i + 1 + 1 < t ∧ i + 1 + 1 < 60 ∧ 49 ≤ c (i + 1 + 1) ∧ c (i + 1 + 1) < 58 from ⟨g1'', g2'', hd2.1, by have := hd2.2; show c (i + 2) < 58; omega⟩), E2, gi_o (by omega) (by decide), o_cl (by omega)]
        dsimp only
        refine ⟨_, rfl, Or.inl ⟨?_, rfl, ?_, by omega, ?_⟩⟩
        · show o32 _ = o32 _
          rw [w2]
        · refine ha.s (fun j hj => ?_) ?_ ?_ (fun hw => ?_)
          · show upd (upd (upd acts (3 * k) _) (3 * k + 1) _) (3 * k + 2) _ j = _
            rw [pk_un (by omega), pk_un (by omega), pk_un (by omega)]
          · show upd (upd (upd acts (3 * k) _) (3 * k + 1) _) (3 * k + 2) _ (3 * k) = _
            rw [pk_un (by omega), pk_un (by omega), ei]; exact pk_us
          · show upd (upd (upd acts (3 * k) _) (3 * k + 1) _) (3 * k + 2) _ (3 * k + 1) = _
            rw [pk_un (by omega), ei]; exact pk_us
          · show upd (upd (upd acts (3 * k) _) (3 * k + 1) _) (3 * k + 2) _ (3 * k + 2) = _
            rw [ei, pk_us, o_s]
            show o32 (c (i + 2) - 49 + 1) = o32 (c (i + 2) - 48)
            rw [show c (i + 2) - 49 + 1 = c (i + 2) - 48 by omega]
        · rw [w2, show i + 1 + 2 = (i + 2) + 1 by omega, TaS_1 (c := c) (i := i + 2) (by rw [hS2, w2]; exact Nat.one_ne_zero), hS2, w2]
          rfl
      · have h2f' : i + 2 = f := by omega
        rw [O49 (i + 1 + 1) (by omega), Option.bind_some, if_neg (show ¬ (i + 1 + 1 < t ∧ i + 1 + 1 < 60 ∧ 49 ≤ c (i + 1 + 1) ∧ c (i + 1 + 1) < 58) from fun e => hb (by
          rw [← h2f']
          refine ⟨e.1, e.2.1, Or.inr ⟨by rw [hS2, w2]; exact Nat.one_ne_zero, by have := e.2.2.1; show 48 ≤ c (i + 1 + 1); omega, by have := e.2.2.2; show c (i + 1 + 1) ≤ 57; omega, ?_⟩⟩
          rintro ⟨-, -, q⟩
          have q : c (i + 1 + 1) = 48 := q
          omega)), E2, gi_o (by omega) (by decide)]
        refine ⟨_, rfl, Or.inr ⟨?_, ?_⟩⟩
        · show o32 _ = o32 _
          rw [← h2f']
        · rintro ⟨-, q⟩
          rw [← h2f', hS2, w2] at q
          cases q
  · -- no first digit
    have h1f' : i + 1 = f := by omega
    rw [O48 _ (by omega), Option.bind_some, if_neg (show ¬ (i + 1 < t ∧ i + 1 < 60 ∧ 48 ≤ c (i + 1) ∧ c (i + 1) < 58) from fun e => hb (by
      rw [← h1f']
      refine ⟨e.1, e.2.1, Or.inr ⟨by rw [hS1]; exact hne, e.2.2.1, by omega, ?_⟩⟩
      rintro ⟨q, q2, -⟩
      rw [hS1] at q q2
      have q : c i = 112 := q
      have q2 : wdO (c i) = 1 := q2
      rw [q] at q2
      cases q2)), o_s, gi_o (by omega) (by decide), h1f']
    dsimp only
    have nr : ¬ (f = t ∧ (TaS c f).2 = 0) := by
      rintro ⟨-, q⟩
      rw [← h1f', hS1] at q
      exact hne q
    unfold X11_readAct_k89 X11_readAct_k105
    dsimp only
    rw [L_ofw W, L_ofw W, Option.bind_some, Option.bind_some, E2, gi_o (by omega) (by decide), gi_o (by omega) (by decide)]
    dsimp only
    rw [L_ofw W, Option.bind_some]
    split
    · rename_i q1
      split
      · rename_i q2
        exact absurd (q1.symm.trans q2) (by decide)
      · exact ⟨_, rfl, Or.inr ⟨rfl, nr⟩⟩
    · split
      · rename_i q1
        split
        · rename_i q2
          exact absurd (q1.symm.trans q2) (by decide)
        · exact ⟨_, rfl, Or.inr ⟨rfl, nr⟩⟩
      · split
        · exact ⟨_, rfl, Or.inr ⟨rfl, nr⟩⟩
        · exact ⟨_, rfl, Or.inr ⟨rfl, nr⟩⟩
end TAR
