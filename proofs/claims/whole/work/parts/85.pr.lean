/-! ===== the pure level: signs of a rule ===== -/
/-- which operator (and one more; 0: none) -/
def opx (x : Nat) : Nat := if x = 60 then 1 else if x = 62 then 2 else if x = 61 then 3 else if x = 43 then 4 else if x = 45 then 5 else if x = 42 then 6 else if x = 47 then 7 else 0
/-- which letter (and one more; 0: none) -/
def lex (x : Nat) : Nat := if x = 115 then 1 else if x = 116 then 2 else if x = 119 then 3 else if x = 118 then 4 else if x = 117 then 5 else if x = 98 then 6 else if x = 110 then 7 else 0
theorem L_opx {x : Nat} (h : x < 256) : ixo 0 (o32 x) 0 (tx_n 0) = some (o32 (opx x) - 1) := by
  have h1 : ∀ x : Fin 256, ixo 0 (o32 x.val) 0 (tx_n 0) = some (o32 (opx x.val) - 1) := by decide +kernel
  exact h1 ⟨x, h⟩
theorem L_lex {x : Nat} (h : x < 256) : ixo 1 (o32 x) 0 (tx_n 1) = some (o32 (lex x) - 1) := by
  have h1 : ∀ x : Fin 256, ixo 1 (o32 x.val) 0 (tx_n 1) = some (o32 (lex x.val) - 1) := by decide +kernel
  exact h1 ⟨x, h⟩
theorem L_let {x : Nat} (h : x < 256) : X11_letterOf (o32 x) = o32 (lex x) - 1 := by
  have h1 : ∀ x : Fin 256, X11_letterOf (o32 x.val) = o32 (lex x.val) - 1 := by decide +kernel
  exact h1 ⟨x, h⟩
theorem L_let1 : X11_letterOf (-1) = -1 := by decide
/-- how tightly what waits binds -/
def bnx (e : Nat) : Nat := if e = 0 then 0 else if e = 2007 then 4 else if 2005 ≤ e then 3 else if 2003 ≤ e then 2 else 1
theorem L_bnx {e : Nat} (h : e = 0 ∨ (2000 ≤ e ∧ e ≤ 2007)) : X6_bindingOf (o32 e) = o32 (bnx e) := by
  have h1 : ∀ d : Fin 8, X6_bindingOf (o32 (2000 + d.val)) = o32 (bnx (2000 + d.val)) := by decide +kernel
  rcases h with rfl | ⟨h, h'⟩
  · decide
  · obtain ⟨d, rfl⟩ : ∃ d, e = 2000 + d := ⟨e - 2000, by omega⟩
    exact h1 ⟨d, by omega⟩
/-- what settling leaves waiting: the list of what waits has its top first -/
def stl (b : Nat) : List Nat → List Nat
  | [] => []
  | e :: r => if b ≤ bnx e then stl b r else e :: r
/-- and what it gives -/
def stg (b : Nat) : List Nat → List Nat
  | [] => []
  | e :: r => if b ≤ bnx e then e :: stg b r else []
theorem stl_2 {b b' : Nat} (h : b' ≤ b) : ∀ s, stl b' (stl b s) = stl b' s
  | [] => rfl
  | e :: r => by
    show stl b' (if b ≤ bnx e then stl b r else e :: r) = if b' ≤ bnx e then stl b' r else e :: r
    by_cases c : b ≤ bnx e
    · rw [if_pos c, if_pos (by omega)]; exact stl_2 h r
    · rw [if_neg c]; rfl
theorem stg_2 {b b' : Nat} (h : b' ≤ b) : ∀ s, stg b s ++ stg b' (stl b s) = stg b' s
  | [] => rfl
  | e :: r => by
    show (if b ≤ bnx e then e :: stg b r else []) ++ stg b' (if b ≤ bnx e then stl b r else e :: r) = if b' ≤ bnx e then e :: stg b' r else []
    by_cases c : b ≤ bnx e
    · rw [if_pos c, if_pos c, if_pos (show b' ≤ bnx e by omega), List.cons_append, stg_2 h r]
    · rw [if_neg c, if_neg c]; rfl
theorem stl_ap {b : Nat} {s r : List Nat} (h : stl b s = []) : stl b (s ++ r) = stl b r := by
  induction s with
  | nil => rfl
  | cons e s ih =>
    have h : (if b ≤ bnx e then stl b s else e :: s) = [] := h
    by_cases c : b ≤ bnx e
    · rw [if_pos c] at h
      show (if b ≤ bnx e then stl b (s ++ r) else e :: (s ++ r)) = _
      rw [if_pos c]; exact ih h
    · rw [if_neg c] at h; cases h
theorem stg_ap {b : Nat} {s r : List Nat} (h : stl b s = []) : stg b (s ++ r) = s ++ stg b r := by
  induction s with
  | nil => rfl
  | cons e s ih =>
    have h : (if b ≤ bnx e then stl b s else e :: s) = [] := h
    by_cases c : b ≤ bnx e
    · rw [if_pos c] at h
      show (if b ≤ bnx e then e :: stg b (s ++ r) else []) = _
      rw [if_pos c, ih h]; rfl
    · rw [if_neg c] at h; cases h
/-- what waits, as a list, its top first -/
def WtR (a : Nat → Int32) (s : List Nat) : Prop := (∀ e, e ∈ s → e = 0 ∨ (2000 ≤ e ∧ e ≤ 2007)) ∧ ∀ j, j < s.length → a (s.length - 1 - j) = o32 (s.getD j 0)
theorem WtR.tl {a : Nat → Int32} {x : Nat} {s : List Nat} (h : WtR a (x :: s)) : WtR a s := by
  refine ⟨fun e he => h.1 e (List.mem_cons_of_mem x he), fun j hj => ?_⟩
  have h1 := h.2 (j + 1) (by show j + 1 < s.length + 1; omega)
  have h1 : a (s.length + 1 - 1 - (j + 1)) = o32 (s.getD j 0) := h1
  rw [show s.length + 1 - 1 - (j + 1) = s.length - 1 - j by omega] at h1
  exact h1
theorem WtR.hd {a : Nat → Int32} {x : Nat} {s : List Nat} (h : WtR a (x :: s)) : a s.length = o32 x := by
  have h1 := h.2 0 (by show 0 < s.length + 1; omega)
  have h1 : a (s.length + 1 - 1 - 0) = o32 x := h1
  rw [show s.length + 1 - 1 - 0 = s.length by omega] at h1
  exact h1
theorem WtR.push {a : Nat → Int32} {s : List Nat} (h : WtR a s) {v : Nat} (hv : v = 0 ∨ (2000 ≤ v ∧ v ≤ 2007)) : WtR (upd a s.length (o32 v)) (v :: s) := by
  refine ⟨fun e he => ?_, fun j hj => ?_⟩
  · rcases List.mem_cons.mp he with rfl | he
    · exact hv
    · exact h.1 e he
  · have hj : j < s.length + 1 := hj
    show upd a s.length (o32 v) (s.length + 1 - 1 - j) = _
    cases j with
    | zero =>
      rw [show s.length + 1 - 1 - 0 = s.length by omega]
      exact pk_us
    | succ j =>
      rw [show s.length + 1 - 1 - (j + 1) = s.length - 1 - j by omega, pk_un (by omega)]
      exact h.2 j (by omega)
/-- the code, as a function of the place -/
def CdR (code : Nat → Int32) (g : List Nat) : Prop := ∀ j, j < g.length → code j = o32 (g.getD j 0)
theorem CdR.ad {code : Nat → Int32} {g : List Nat} (h : CdR code g) (hl : g.length < 40) (e : Nat) : X5_adds (o32 g.length) code (o32 e) = some (o32 (g ++ [e]).length, upd code g.length (o32 e)) ∧ CdR (upd code g.length (o32 e)) (g ++ [e]) := by
  have e40 : (40 : Int32) = o32 40 := rfl
  refine ⟨?_, fun j hj => ?_⟩
  · unfold X5_adds
    rw [e40, i_ge hl (by decide), gi_o hl (by decide), o_cl (by omega), o_s, List.length_append]
    rfl
  · rw [List.length_append] at hj
    have hj : j < g.length + 1 := hj
    by_cases ej : j = g.length
    · subst ej
      rw [pk_us]
      simp [List.getD]
    · rw [pk_un ej, h j (by omega)]
      have : j < g.length := by omega
      simp [List.getD, List.getElem?_append_left this]
