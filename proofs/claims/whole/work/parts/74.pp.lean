/-! ===== the pure level: people ===== -/
/-- a sign that stands where it may, in a row of people -/
def PE (n t : Nat) (c : Nat → Nat) (i : Nat) : Prop := i < t ∧ i < 20 ∧ ((i % 3 = 2 ∧ c i = 59) ∨ (¬ i % 3 = 2 ∧ 48 ≤ c i ∧ c i ≤ 57 ∧ (i % 3 = 0 → n + i / 3 < 7)))
/-- the first that doesn't -/
theorem PE_f (n t : Nat) (c : Nat → Nat) : ∃ f, f ≤ t ∧ f ≤ 20 ∧ ¬ PE n t c f ∧ ∀ i, i < f → PE n t c i := by
  rcases least_or (P := fun i => ¬ PE n t c i) (min t 20) with ⟨f, h1, h2, h3⟩ | hno
  · exact ⟨f, by omega, by omega, h2, fun i hi => Classical.byContradiction (fun hc => h3 i hi hc)⟩
  · exfalso
    apply hno (min t 20) (Nat.le_refl _)
    rintro ⟨h1, h2, -⟩
    omega
section PEO
variable {n t f : Nat} {c : Nat → Nat} {day unmet : Int32} {skill pills slept woken wanted now signs text : Nat → Int32}
theorem L_pf (hT : TC t c signs text) (hn : n ≤ 7) (hf : f ≤ t) (hf2 : f ≤ 20) (hb : ¬ PE n t c f) (hg : ∀ i, i < f → PE n t c i) : X9_peopleFault (o32 t) signs (7 - o32 n) = some (if f = t ∧ t % 3 = 2 then -1 else o32 f) := by
  have ht := hT.1
  have e7 : (7 : Int32) - o32 n = o32 (7 - n) := by
    show o32 7 - o32 n = _
    rw [o_sub hn]
  have e3 : (3 : Int32) = o32 3 := rfl
  have e20 : (20 : Int32) = o32 20 := rfl
  have rm3 : ∀ i, i < 100 → irem (o32 i) 3 = o32 (i % 3) := fun i hi => by rw [e3, pu_mod (by omega) (by decide) (by decide)]
  have dv3 : ∀ i, i < 100 → o32 i / 3 = o32 (i / 3) := fun i hi => by rw [e3, pu_div (by omega) (by decide) (by decide)]
  have q0 : ∀ i, i < 100 → ((o32 (i % 3) = (0 : Int32)) = (i % 3 = 0)) := fun i hi => by
    show (o32 (i % 3) = o32 0) = _
    rw [o_eq (by omega) (by decide)]
  have q2 : ∀ i, i < 100 → ((o32 (i % 3) = (2 : Int32)) = (i % 3 = 2)) := fun i hi => by
    show (o32 (i % 3) = o32 2) = _
    rw [o_eq (by omega) (by decide)]
  have k33g : ∀ i, PE n t c i → X9_peopleFault_k33 (o32 t) signs (o32 i) = some (.inl (o32 (i + 1))) := by
    rintro i ⟨h1, h2, h3⟩
    unfold X9_peopleFault_k33
    rw [rm3 i (by omega)]
    rcases h3 with ⟨h3, h4⟩ | ⟨h3, h4, h5, h6⟩
    · rw [if_pos (by rw [q2 i (by omega)]; exact h3), L_at hT h1, Option.bind_some, h4, if_pos (by rfl), o_s]
    · rw [if_neg (by rw [q2 i (by omega)]; exact h3), L_dg hT h1 h4 h5, Option.bind_some, if_pos (o_ge0 _ (by omega)), o_s]
  have step : ∀ i, PE n t c i → X9_peopleFault_s2 (o32 t) signs (o32 (7 - n)) (o32 i) = some (.inl (o32 (i + 1))) := by
    intro i hpe
    have ⟨h1, h2, h3⟩ := hpe
    unfold X9_peopleFault_s2
    rw [i_ge h1 (by omega), e20, i_ge h2 (by decide), gq3, rm3 i (by omega)]
    by_cases c0 : i % 3 = 0
    · rw [if_pos (by rw [q0 i (by omega)]; exact c0), gq3, dv3 i (by omega)]
      have h6 : n + i / 3 < 7 := by
        rcases h3 with ⟨h3, -⟩ | ⟨-, -, -, h6⟩
        · omega
        · exact h6 c0
      rw [i_gt (by omega) (by omega)]
      exact k33g i hpe
    · rw [if_neg (by rw [q0 i (by omega)]; exact c0)]
      exact k33g i hpe
  rw [e7]
  unfold X9_peopleFault
  rcases Nat.lt_or_ge f (min t 20) with hm | hm
  · -- it stands on a sign
    have h1 : f < t := by omega
    have h2 : f < 20 := by omega
    have fin : ∃ r, X9_peopleFault_s2 (o32 t) signs (o32 (7 - n)) (o32 f) = some (.inr (.inr r)) ∧ (r = .inl (o32 f) ∨ r = .inr (.inl (o32 f)) ∨ r = .inr (.inr (o32 f))) := by
      have k33b : (f % 3 = 0 → n + f / 3 < 7) → ∃ r, X9_peopleFault_k33 (o32 t) signs (o32 f) = some (.inr (.inr r)) ∧ (r = .inl (o32 f) ∨ r = .inr (.inl (o32 f)) ∨ r = .inr (.inr (o32 f))) := by
        intro h6
        unfold X9_peopleFault_k33
        rw [rm3 f (by omega)]
        have hcf := (hT.2 f (by omega)).1
        by_cases c2 : f % 3 = 2
        · rw [if_pos (by rw [q2 f (by omega)]; exact c2), L_at hT h1, Option.bind_some, if_neg (by
            show ¬ o32 (c f) = o32 59
            rw [o_eq (by omega) (by decide)]
            intro e
            exact hb ⟨h1, h2, Or.inl ⟨c2, e⟩⟩)]
          exact ⟨_, rfl, Or.inr (Or.inl rfl)⟩
        · rw [if_neg (by rw [q2 f (by omega)]; exact c2), L_dgn hT (by omega) (fun e => hb ⟨h1, h2, Or.inr ⟨c2, e.2.1, e.2.2, h6⟩⟩), Option.bind_some, if_neg (by decide)]
          exact ⟨_, rfl, Or.inr (Or.inr rfl)⟩
      unfold X9_peopleFault_s2
      rw [i_ge h1 (by omega), e20, i_ge h2 (by decide), gq3, rm3 f (by omega)]
      by_cases c0 : f % 3 = 0
      · rw [if_pos (by rw [q0 f (by omega)]; exact c0), gq3, dv3 f (by omega)]
        rcases Nat.lt_or_ge (f / 3) (7 - n) with c3 | c3
        · rw [i_gt c3 (by omega)]
          exact k33b (fun _ => by omega)
        · rw [i_lt c3 (by omega)]
          exact ⟨_, rfl, Or.inl rfl⟩
      · rw [if_neg (by rw [q0 f (by omega)]; exact c0)]
        exact k33b (fun e => absurd e c0)
    obtain ⟨r, er, hr⟩ := fin
    have el : lp (fun x2 => X9_peopleFault_s2 (o32 t) signs (o32 (7 - n)) x2) 1000 (0 : Int32) = some (.inr r) := lp_run (f := fun x2 => X9_peopleFault_s2 (o32 t) signs (o32 (7 - n)) x2) (r := .inr r) (fun k => o32 k) f 0 1000 (fun k _ hk => step k (hg k (by omega))) (by rw [Nat.zero_add]; exact er) (by omega)
    rw [el, Option.bind_some, if_neg (show ¬ (f = t ∧ t % 3 = 2) by omega)]
    rcases hr with rfl | rfl | rfl <;> rfl
  · have el : lp (fun x2 => X9_peopleFault_s2 (o32 t) signs (o32 (7 - n)) x2) 1000 (0 : Int32) = some (.inl ()) := lp_run (f := fun x2 => X9_peopleFault_s2 (o32 t) signs (o32 (7 - n)) x2) (r := .inl ()) (fun k => o32 k) f 0 1000 (fun k _ hk => step k (hg k (by omega))) (by
      rw [Nat.zero_add]
      show X9_peopleFault_s2 (o32 t) signs (o32 (7 - n)) (o32 f) = _
      unfold X9_peopleFault_s2
      rcases Nat.lt_or_ge f t with c1 | c1
      · rw [i_ge c1 (by omega), e20, i_le (by omega) (by omega)]
      · rw [i_le c1 (by omega)]) (by omega)
    rw [el, Option.bind_some]
    show (if o32 t ≤ (20 : Int32) then gz 3 (some (if irem (o32 t) 3 = (2 : Int32) then (-1 : Int32) else o32 t)) else some 20) = _
    rw [e20]
    rcases Nat.lt_or_ge 20 t with c1 | c1
    · rw [i_ge c1 (by omega), if_neg (by omega), show f = 20 by omega]
    · rw [i_le c1 (by decide), gq3, rm3 t (by omega)]
      have : f = t := by omega
      subst this
      by_cases c2 : f % 3 = 2
      · rw [if_pos (by rw [q2 f (by omega)]; exact c2), if_pos ⟨rfl, c2⟩]
      · rw [if_neg (by rw [q2 f (by omega)]; exact c2), if_neg (by omega)]
/-- who has been read so far -/
def CP (c : Nat → Nat) (j : Nat) (com : Nat → Int32) : Prop := ∀ k, k < j → com (2 * k) = o32 (c (3 * k) - 48) ∧ com (2 * k + 1) = o32 (c (3 * k + 1) - 48)
theorem CP.s {j : Nat} {com : Nat → Int32} (h : CP c j com) : CP c (j + 1) (upd (upd com (2 * j) (o32 (c (3 * j) - 48))) (2 * j + 1) (o32 (c (3 * j + 1) - 48))) := by
  intro k hk
  by_cases e : k = j
  · subst e
    rw [pk_un (by omega), pk_us, pk_us]
    exact ⟨rfl, rfl⟩
  · rw [pk_un (by omega), pk_un (by omega), pk_un (by omega), pk_un (by omega)]
    exact h k (by omega)
theorem L_pr (hT : TC t c signs text) (hn : n ≤ 7) (hf : f ≤ t) (hf2 : f ≤ 20) (hb : ¬ PE n t c f) (hg : ∀ i, i < f → PE n t c i) (com : Nat → Int32) : ∃ z, lp (fun x24 : Int32 × Int32 × Int32 × Int32 × (Nat → Int32) => X11_people_s24 (o32 n) (o32 t) text x24.1 x24.2.1 x24.2.2.1 x24.2.2.2.1 x24.2.2.2.2) 1000 ((0 : Int32), (1 : Int32), (0 : Int32), (-1 : Int32), com) = some z ∧ z.1 = o32 (f / 3 + 1) ∧ ((f % 3 = 2 ∧ z.2.1 = o32 f ∧ z.2.2.1 = -1 ∧ CP c (f / 3 + 1) z.2.2.2 ∧ n + f / 3 < 7) ∨ (¬ f % 3 = 2 ∧ z.2.2.1 = o32 f)) := by
  have ht := hT.1
  have e2 : (2 : Int32) = o32 2 := rfl
  have e48 : (48 : Int32) = o32 48 := rfl
  have e10 : (10 : Int32) = o32 10 := rfl
  have e20 : (20 : Int32) = o32 20 := rfl
  have e59 : (59 : Int32) = o32 59 := rfl
  have one0 : ((1 : Int32) = 0) = False := eq_false (by decide)
  have m2 : ∀ k, (2 : Int32) * o32 k = o32 (2 * k) := fun k => o_mul 2 k
  have OF : ∀ i, i < 80 → X11_oneOf (o32 t) 20 (o32 i) (-1) 80 text 48 10 = some (if i < t ∧ i < 20 ∧ 48 ≤ c i ∧ c i < 58 then (o32 (c i - 48), o32 (i + 1), -1) else (0, o32 i, o32 i)) := fun i hi => L_of hT (top := 20) (lo := 48) (cnt := 10) (by decide) hi (by decide) (by decide)
  have PS : ∀ i, i < 80 → X11_passes (o32 t) 20 (o32 i) (-1) 80 text 59 = some (if i < t ∧ i < 20 ∧ c i = 59 then (1, o32 (i + 1)) else (0, o32 i)) := fun i hi => L_ps hT (top := 20) (v := 59) (by decide) hi (by decide)
  have bt : X11_beginText (o32 t) 20 = ((0 : Int32), o32 t, (20 : Int32), (0 : Int32), (-1 : Int32)) := rfl
  refine lp_ct (fun k x => k ≤ f / 3 + 1 ∧ x.1 = o32 k ∧ ((k ≤ f / 3 ∧ x.2.1 = 1 ∧ x.2.2.1 = o32 (3 * k) ∧ x.2.2.2.1 = -1 ∧ CP c k x.2.2.2.2) ∨ (k = f / 3 + 1 ∧ ((f % 3 = 2 ∧ x.2.1 = 0 ∧ x.2.2.1 = o32 f ∧ x.2.2.2.1 = -1 ∧ CP c k x.2.2.2.2 ∧ n + f / 3 < 7) ∨ (¬ f % 3 = 2 ∧ x.2.2.2.1 = o32 f))))) _ (f / 3 + 1) _ ⟨by omega, rfl, Or.inl ⟨by omega, rfl, rfl, rfl, fun k hk => absurd hk (Nat.not_lt_zero k)⟩⟩ ?_ ?_ (by omega)
  · rintro k ⟨j, mo, at', w, co⟩ hk ⟨-, h1, hor⟩
    have h1 : j = _ := h1
    rcases hor with ⟨-, h2, h3, h4, h5⟩ | ⟨h2, -⟩
    · have h2 : mo = _ := h2
      have h3 : at' = _ := h3
      have h4 : w = _ := h4
      subst h1 h2 h3 h4
      have h5 : CP c k co := h5
      have q7 : (o32 (n + k) = (7 : Int32)) = (n + k = 7) := by
        show (o32 (n + k) = o32 7) = _
        rw [o_eq (by omega) (by decide)]
      show ∃ y, X11_people_s24 (o32 n) (o32 t) text (o32 k) 1 (o32 (3 * k)) (-1) co = some (.inl y) ∧ _
      unfold X11_people_s24 X11_people_k91
      rw [if_neg (by rw [one0]; exact id), if_neg (by rw [fi_m]; exact id), bt, o_add]
      dsimp only
      rcases Nat.lt_or_ge k (f / 3) with hlt | hge
      · obtain ⟨a1, a2, a3⟩ := hg (3 * k) (by omega)
        obtain ⟨b1, b2, b3⟩ := hg (3 * k + 1) (by omega)
        obtain ⟨c1, c2, c3⟩ := hg (3 * k + 2) (by omega)
        rcases a3 with ⟨a3, -⟩ | ⟨-, a4, a5, a6⟩
        · omega
        rcases b3 with ⟨b3, -⟩ | ⟨-, b4, b5, -⟩
        · omega
        rcases c3 with ⟨-, c3⟩ | ⟨c3, -⟩
        · have a7 := a6 (by omega)
          rw [if_neg (by rw [q7]; omega), OF _ (by omega), Option.bind_some, if_pos ⟨a1, a2, a4, by omega⟩, m2, gi_o (by omega) (by decide)]
          dsimp only
          rw [OF _ (by omega), Option.bind_some, if_pos ⟨b1, b2, b4, by omega⟩, o_s, gi_o (by omega) (by decide)]
          dsimp only
          rw [PS _ (by omega), Option.bind_some, if_pos ⟨c1, c2, c3⟩, o_s, o_cl (by omega), o_cl (by omega)]
          exact ⟨_, rfl, by omega, rfl, Or.inl ⟨by omega, rfl, by show o32 _ = o32 _; rw [show 3 * k + 1 + 1 + 1 = 3 * (k + 1) by omega], rfl, h5.s⟩⟩
        · omega
      · have hk3 : k = f / 3 := by omega
        have W : ∀ i, i < 80 → (X11_fine (o32 i) = 0) = True := fun i hi => fi_o (by omega)
        rcases (show f % 3 = 0 ∨ f % 3 = 1 ∨ f % 3 = 2 by omega) with r | r | r
        · have hf3 : 3 * k = f := by omega
          by_cases c7 : n + k = 7
          · rw [if_pos (by rw [q7]; exact c7), ft_m, L_psw (W _ (by omega)), Option.bind_some, o_s]
            exact ⟨_, rfl, by omega, rfl, Or.inr ⟨by omega, Or.inr ⟨by omega, by show o32 _ = o32 _; rw [hf3]⟩⟩⟩
          · rw [if_neg (by rw [q7]; exact c7), OF _ (by omega), Option.bind_some, if_neg (fun e => hb (by
              rw [hf3] at e
              exact ⟨e.1, e.2.1, Or.inr ⟨by omega, e.2.2.1, by omega, fun _ => by
                by_cases h8 : n + k < 7
                · omega
                · have := hn
                  rcases Nat.eq_zero_or_pos k with hk0 | hk0
                  · omega
                  · obtain ⟨-, -, z3⟩ := hg (3 * (k - 1)) (by omega)
                    rcases z3 with ⟨z3, -⟩ | ⟨-, -, -, z6⟩
                    · omega
                    · have := z6 (by omega)
                      omega⟩⟩)), m2, gi_o (by omega) (by decide)]
            dsimp only
            rw [L_ofw (W _ (by omega)), Option.bind_some, o_s, gi_o (by omega) (by decide)]
            dsimp only
            rw [L_psw (W _ (by omega)), Option.bind_some, o_s]
            exact ⟨_, rfl, by omega, rfl, Or.inr ⟨by omega, Or.inr ⟨by omega, by show o32 _ = o32 _; rw [hf3]⟩⟩⟩
        · obtain ⟨a1, a2, a3⟩ := hg (3 * k) (by omega)
          rcases a3 with ⟨a3, -⟩ | ⟨-, a4, a5, a6⟩
          · omega
          have a7 := a6 (by omega)
          have hf3 : 3 * k + 1 = f := by omega
          rw [if_neg (by rw [q7]; omega), OF _ (by omega), Option.bind_some, if_pos ⟨a1, a2, a4, by omega⟩, m2, gi_o (by omega) (by decide)]
          dsimp only
          rw [OF _ (by omega), Option.bind_some, if_neg (fun e => hb (by
            rw [hf3] at e
            exact ⟨e.1, e.2.1, Or.inr ⟨by omega, e.2.2.1, by omega, fun e0 => by omega⟩⟩)), o_s, gi_o (by omega) (by decide)]
          dsimp only
          rw [L_psw (W _ (by omega)), Option.bind_some, o_s]
          exact ⟨_, rfl, by omega, rfl, Or.inr ⟨by omega, Or.inr ⟨by omega, by show o32 _ = o32 _; rw [hf3]⟩⟩⟩
        · obtain ⟨a1, a2, a3⟩ := hg (3 * k) (by omega)
          obtain ⟨b1, b2, b3⟩ := hg (3 * k + 1) (by omega)
          rcases a3 with ⟨a3, -⟩ | ⟨-, a4, a5, a6⟩
          · omega
          rcases b3 with ⟨b3, -⟩ | ⟨-, b4, b5, -⟩
          · omega
          have a7 := a6 (by omega)
          have hf3 : 3 * k + 1 + 1 = f := by omega
          rw [if_neg (by rw [q7]; omega), OF _ (by omega), Option.bind_some, if_pos ⟨a1, a2, a4, by omega⟩, m2, gi_o (by omega) (by decide)]
          dsimp only
          rw [OF _ (by omega), Option.bind_some, if_pos ⟨b1, b2, b4, by omega⟩, o_s, gi_o (by omega) (by decide)]
          dsimp only
          rw [PS _ (by omega), Option.bind_some, if_neg (fun e => hb (by
            rw [hf3] at e
            exact ⟨e.1, e.2.1, Or.inl ⟨r, e.2.2⟩⟩)), o_s, o_cl (by omega), o_cl (by omega)]
          exact ⟨_, rfl, by omega, rfl, Or.inr ⟨by omega, Or.inl ⟨r, rfl, by show o32 _ = o32 _; rw [hf3], rfl, h5.s, by omega⟩⟩⟩
    · omega
  · rintro ⟨j, mo, at', w, co⟩ ⟨-, h1, hor⟩
    rcases hor with ⟨h2, -⟩ | ⟨-, hor⟩
    · omega
    · refine ⟨(j, at', w, co), ?_, h1, ?_⟩
      · show X11_people_s24 (o32 n) (o32 t) text j mo at' w co = _
        unfold X11_people_s24
        rcases hor with ⟨-, h2, -⟩ | ⟨-, h2⟩
        · have h2 : mo = 0 := h2
          rw [if_pos h2]
        · have h2 : w = o32 f := h2
          by_cases c0 : mo = 0
          · rw [if_pos c0]
          · rw [if_neg c0, h2, if_pos (by rw [fi_o (by omega)]; exact True.intro)]
      · rcases hor with ⟨r, h2, h3, h4, h5, h6⟩ | ⟨r, h2⟩
        · exact Or.inl ⟨r, h3, h4, h5, h6⟩
        · exact Or.inr ⟨r, h2⟩
end PEO
