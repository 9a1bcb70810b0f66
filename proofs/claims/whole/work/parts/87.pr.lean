/-! ===== the pure level: a rule's text, read once for both ===== -/
def dgx (x : Nat) : Bool := decide (48 ≤ x ∧ x ≤ 57)
/-- how many digits are read, at most three -/
def nmk (h : Nat → Nat) (i : Nat) : Nat := if dgx (h (i + 1)) = true then (if dgx (h (i + 2)) = true then 3 else 2) else 1
def nmv (h : Nat → Nat) (i : Nat) : Nat := if dgx (h (i + 1)) = true then (if dgx (h (i + 2)) = true then 100 * (h i - 48) + 10 * (h (i + 1) - 48) + (h (i + 2) - 48) else 10 * (h i - 48) + (h (i + 1) - 48)) else h i - 48
/-- more of a kind behind what stands -/
def PDl (h : Nat → Nat) (o : Nat → Bool) (q : Nat → Bool × Nat × List Nat) : Nat → Bool × Nat × List Nat → Bool × Nat × List Nat
  | 0, r => r
  | m + 1, r => if r.1 = true ∧ o (h r.2.1) = true then PDl h o q m ((q (r.2.1 + 1)).1, (q (r.2.1 + 1)).2.1, r.2.2 ++ (q (r.2.1 + 1)).2.2 ++ [1999 + opx (h r.2.1)]) else r
def opC (x : Nat) : Bool := decide (x = 60 ∨ x = 62 ∨ x = 61)
def opA (x : Nat) : Bool := decide (x = 43 ∨ x = 45)
def opM (x : Nat) : Bool := decide (x = 42 ∨ x = 47)
/-- kinds: 0 a rule or what is held, 1 a sum, 2 a product, 3 a thing; the answer: whether it is right, where it ends (or where the fault is), the code -/
def PD (h : Nat → Nat) : Nat → Nat → Nat → Nat → Bool × Nat × List Nat
  | 0, _, i, _ => (false, i, [])
  | f + 1, k, i, p =>
    if k = 0 then PDl h opC (fun j => PD h f 1 j p) 1 (PD h f 1 i p)
    else if k = 1 then PDl h opA (fun j => PD h f 2 j p) 50 (PD h f 2 i p)
    else if k = 2 then PDl h opM (fun j => PD h f 3 j p) 50 (PD h f 3 i p)
    else if h i = 45 then ((PD h f 3 (i + 1) p).1, (PD h f 3 (i + 1) p).2.1, (PD h f 3 (i + 1) p).2.2 ++ [2007])
    else if h i = 40 ∧ p < 4 then (if (PD h f 0 (i + 1) (p + 1)).1 = true then (if h (PD h f 0 (i + 1) (p + 1)).2.1 = 41 then (true, (PD h f 0 (i + 1) (p + 1)).2.1 + 1, (PD h f 0 (i + 1) (p + 1)).2.2) else (false, (PD h f 0 (i + 1) (p + 1)).2.1, [])) else (false, (PD h f 0 (i + 1) (p + 1)).2.1, []))
    else if dgx (h i) = true then (true, i + nmk h i, [nmv h i])
    else if ¬ lex (h i) = 0 then (true, i + 1, [999 + lex (h i)])
    else (false, i, [])
/-- a piece of code lays one value -/
def PVc (t : Nat → Int32) (l : List Nat) (v : Int32) : Prop := ∀ s, l.foldl (fun s e => evw t e s) s = v :: s
theorem PVc.bin {t : Nat → Int32} {l l' : List Nat} {v v' : Int32} (h : PVc t l v) (h' : PVc t l' v') {e : Nat} (h1 : 2000 ≤ e) (h2 : e ≤ 2006) : PVc t (l ++ l' ++ [e]) (JOv (e - 2000) v v') := by
  intro s
  rw [List.foldl_append, List.foldl_append, h s, h' (v :: s)]
  show evw t e (v' :: v :: s) = _
  unfold evw
  rw [if_neg (by omega), if_neg (by omega), if_neg (by omega)]
theorem PVc.neg {t : Nat → Int32} {l : List Nat} {v : Int32} (h : PVc t l v) : PVc t (l ++ [2007]) (-v) := by
  intro s
  rw [List.foldl_append, h s]
  show evw t 2007 (v :: s) = _
  unfold evw
  rw [if_pos rfl]
theorem PVc.num {t : Nat → Int32} {x : Nat} (h : x < 1000) : PVc t [x] (o32 x) := by
  intro s
  show evw t x s = _
  unfold evw
  rw [if_neg (by omega), if_pos h]
theorem PVc.let {t : Nat → Int32} {x : Nat} (h1 : 1 ≤ x) (h : x ≤ 7) : PVc t [999 + x] (t (x - 1)) := by
  intro s
  show evw t (999 + x) s = _
  unfold evw
  rw [if_neg (by omega), if_neg (by omega), if_pos (by omega), show 999 + x - 1000 = x - 1 by omega]
/-- what the code of a list leaves, from the places of an array -/
theorem EVc_f {t : Nat → Int32} {l : List Nat} : ∀ {k : Nat}, k ≤ l.length → EVc t (fun j => l.getD j 0) k = (l.take k).foldl (fun s e => evw t e s) []
  | 0, _ => rfl
  | k + 1, hk => by
    have ih := EVc_f (t := t) (l := l) (k := k) (by omega)
    show evw t (l.getD k 0) (EVc t (fun j => l.getD j 0) k) = _
    have hk' : k < l.length := hk
    rw [ih, List.take_succ_eq_append_getElem hk', List.foldl_append]
    show evw t (l.getD k 0) _ = evw t l[k] _
    rw [List.getD_eq_getElem?_getD, List.getElem?_eq_getElem hk']
    rfl
theorem VLc_p {l : List Nat} {t : Nat → Int32} {v : Int32} (h : PVc t l v) : VLc (fun j => l.getD j 0) l.length t = v := by
  unfold VLc
  rw [EVc_f (Nat.le_refl _), List.take_length, h []]
  rfl
