def X11_expr_b0 (rec : Nat → Int32 → Int32 → Int32 → Int32 → Int32 → Nat → (Nat → Int32) → (Nat → Int32) → Int32 → Option (Int32 × Int32 × Int32)) (v_length : Int32) (v_top : Int32) (v_at : Int32) (v_wrong : Int32) (v_isAsked : Int32) (nv_read : Nat) (v_read : Nat → Int32) (v_asked : Nat → Int32) (p1 : Int32) : Option (Int32 × Int32 × Int32) :=
  (rec 1 v_length v_top v_at v_wrong v_isAsked nv_read v_read v_asked p1).bind fun y2 => (X11_passes v_length v_top y2.2.1 y2.2.2 nv_read v_read (60 : Int32)).bind fun y9 => if y9.1 = 0 then ((X11_passes v_length v_top y9.2 y2.2.2 nv_read v_read (62 : Int32)).bind fun y33 => if y33.1 = 0 then ((X11_passes v_length v_top y33.2 y2.2.2 nv_read v_read (61 : Int32)).bind fun y57 => if y57.1 = 0 then (some (y2.1, y57.2, y2.2.2)) else ((rec 1 v_length v_top y57.2 y2.2.2 v_isAsked nv_read v_read v_asked p1).bind fun y66 => some ((if y2.1 = y66.1 then (1 : Int32) else (0 : Int32)), y66.2.1, y66.2.2))) else ((rec 1 v_length v_top y33.2 y2.2.2 v_isAsked nv_read v_read v_asked p1).bind fun y42 => some ((if y2.1 ≤ y42.1 then (0 : Int32) else (1 : Int32)), y42.2.1, y42.2.2))) else ((rec 1 v_length v_top y9.2 y2.2.2 v_isAsked nv_read v_read v_asked p1).bind fun y18 => some ((if y18.1 ≤ y2.1 then (0 : Int32) else (1 : Int32)), y18.2.1, y18.2.2))
def X11_sum_k31 (rec : Nat → Int32 → Int32 → Int32 → Int32 → Int32 → Nat → (Nat → Int32) → (Nat → Int32) → Int32 → Option (Int32 × Int32 × Int32)) (v_length : Int32) (v_top : Int32) (v_isAsked : Int32) (nv_read : Nat) (v_read : Nat → Int32) (v_asked : Nat → Int32) (p1 : Int32) (x6 : Int32 × Int32 × Int32) : Option ((Int32 × Int32 × Int32) ⊕ (Int32 × Int32 × Int32)) :=
  (X11_here v_length v_top x6.2.1 nv_read v_read).bind fun y32 => (rec 2 v_length v_top (x6.2.1 + (1 : Int32)) x6.2.2 v_isAsked nv_read v_read v_asked p1).bind fun y58 => some (.inl ((if (if y32 = (43 : Int32) then (1 : Int32) else (0 : Int32)) = 0 then (x6.1 - y58.1) else (x6.1 + y58.1)), y58.2.1, y58.2.2))
def X11_sum_s6 (rec : Nat → Int32 → Int32 → Int32 → Int32 → Int32 → Nat → (Nat → Int32) → (Nat → Int32) → Int32 → Option (Int32 × Int32 × Int32)) (v_length : Int32) (v_top : Int32) (v_isAsked : Int32) (nv_read : Nat) (v_read : Nat → Int32) (v_asked : Nat → Int32) (p1 : Int32) (x6 : Int32 × Int32 × Int32) : Option ((Int32 × Int32 × Int32) ⊕ (Int32 × Int32 × Int32)) :=
  if (X11_fine x6.2.2) = 0 then (some (.inr (x6.1, x6.2.1, x6.2.2))) else ((X11_here v_length v_top x6.2.1 nv_read v_read).bind fun y14 => if y14 = (43 : Int32) then (X11_sum_k31 rec v_length v_top v_isAsked nv_read v_read v_asked p1 x6) else ((X11_here v_length v_top x6.2.1 nv_read v_read).bind fun y23 => if y23 = (45 : Int32) then (X11_sum_k31 rec v_length v_top v_isAsked nv_read v_read v_asked p1 x6) else (some (.inr (x6.1, x6.2.1, x6.2.2)))))
def X11_expr_b1 (rec : Nat → Int32 → Int32 → Int32 → Int32 → Int32 → Nat → (Nat → Int32) → (Nat → Int32) → Int32 → Option (Int32 × Int32 × Int32)) (v_length : Int32) (v_top : Int32) (v_at : Int32) (v_wrong : Int32) (v_isAsked : Int32) (nv_read : Nat) (v_read : Nat → Int32) (v_asked : Nat → Int32) (p1 : Int32) : Option (Int32 × Int32 × Int32) :=
  (rec 2 v_length v_top v_at v_wrong v_isAsked nv_read v_read v_asked p1).bind fun y2 => (lp (fun x6 => X11_sum_s6 rec v_length v_top v_isAsked nv_read v_read v_asked p1 x6) 1000 (y2.1, y2.2.1, y2.2.2)).bind fun y6 => some (y6.1, y6.2.1, y6.2.2)
def X11_product_k31 (rec : Nat → Int32 → Int32 → Int32 → Int32 → Int32 → Nat → (Nat → Int32) → (Nat → Int32) → Int32 → Option (Int32 × Int32 × Int32)) (v_length : Int32) (v_top : Int32) (v_isAsked : Int32) (nv_read : Nat) (v_read : Nat → Int32) (v_asked : Nat → Int32) (p1 : Int32) (x6 : Int32 × Int32 × Int32) : Option ((Int32 × Int32 × Int32) ⊕ (Int32 × Int32 × Int32)) :=
  (X11_here v_length v_top x6.2.1 nv_read v_read).bind fun y32 => (rec 3 v_length v_top (x6.2.1 + (1 : Int32)) x6.2.2 v_isAsked nv_read v_read v_asked p1).bind fun y58 => if (if y32 = (42 : Int32) then (1 : Int32) else (0 : Int32)) = 0 then (if y58.1 = 0 then (some (.inl ((0 : Int32), y58.2.1, y58.2.2))) else (gz y58.1 (some (.inl ((x6.1 / y58.1), y58.2.1, y58.2.2))))) else (some (.inl ((x6.1 * y58.1), y58.2.1, y58.2.2)))
def X11_product_s6 (rec : Nat → Int32 → Int32 → Int32 → Int32 → Int32 → Nat → (Nat → Int32) → (Nat → Int32) → Int32 → Option (Int32 × Int32 × Int32)) (v_length : Int32) (v_top : Int32) (v_isAsked : Int32) (nv_read : Nat) (v_read : Nat → Int32) (v_asked : Nat → Int32) (p1 : Int32) (x6 : Int32 × Int32 × Int32) : Option ((Int32 × Int32 × Int32) ⊕ (Int32 × Int32 × Int32)) :=
  if (X11_fine x6.2.2) = 0 then (some (.inr (x6.1, x6.2.1, x6.2.2))) else ((X11_here v_length v_top x6.2.1 nv_read v_read).bind fun y14 => if y14 = (42 : Int32) then (X11_product_k31 rec v_length v_top v_isAsked nv_read v_read v_asked p1 x6) else ((X11_here v_length v_top x6.2.1 nv_read v_read).bind fun y23 => if y23 = (47 : Int32) then (X11_product_k31 rec v_length v_top v_isAsked nv_read v_read v_asked p1 x6) else (some (.inr (x6.1, x6.2.1, x6.2.2)))))
def X11_expr_b2 (rec : Nat → Int32 → Int32 → Int32 → Int32 → Int32 → Nat → (Nat → Int32) → (Nat → Int32) → Int32 → Option (Int32 × Int32 × Int32)) (v_length : Int32) (v_top : Int32) (v_at : Int32) (v_wrong : Int32) (v_isAsked : Int32) (nv_read : Nat) (v_read : Nat → Int32) (v_asked : Nat → Int32) (p1 : Int32) : Option (Int32 × Int32 × Int32) :=
  (rec 3 v_length v_top v_at v_wrong v_isAsked nv_read v_read v_asked p1).bind fun y2 => (lp (fun x6 => X11_product_s6 rec v_length v_top v_isAsked nv_read v_read v_asked p1 x6) 1000 (y2.1, y2.2.1, y2.2.2)).bind fun y6 => some (y6.1, y6.2.1, y6.2.2)
def X11_thing_k67 (v_length : Int32) (v_top : Int32) (v_wrong : Int32) (v_isAsked : Int32) (nv_read : Nat) (v_read : Nat → Int32) (v_asked : Nat → Int32) (y3 : Int32 × Int32) (y26 : Int32) : Option (Int32 × Int32 × Int32) :=
  if (X11_in y26 (48 : Int32) (57 : Int32)) = 0 then (if (X11_letterOf y26) = (-1 : Int32) then (some ((0 : Int32), y3.2, (X11_fault v_wrong y3.2))) else (if v_isAsked = 0 then (some ((0 : Int32), (y3.2 + (1 : Int32)), v_wrong)) else (gi (X11_letterOf y26) 7 (some ((v_asked (X11_letterOf y26).toNatClampNeg), (y3.2 + (1 : Int32)), v_wrong))))) else ((X11_number v_length v_top y3.2 v_wrong nv_read v_read (3 : Int32)).bind fun y80 => some (y80.1, y80.2.1, y80.2.2))
def X11_expr_b3 (rec : Nat → Int32 → Int32 → Int32 → Int32 → Int32 → Nat → (Nat → Int32) → (Nat → Int32) → Int32 → Option (Int32 × Int32 × Int32)) (v_length : Int32) (v_top : Int32) (v_at : Int32) (v_wrong : Int32) (v_isAsked : Int32) (nv_read : Nat) (v_read : Nat → Int32) (v_asked : Nat → Int32) (p1 : Int32) : Option (Int32 × Int32 × Int32) :=
  (X11_passes v_length v_top v_at v_wrong nv_read v_read (45 : Int32)).bind fun y3 => if y3.1 = 0 then (if (X11_fine v_wrong) = 0 then (some ((0 : Int32), y3.2, v_wrong)) else ((X11_here v_length v_top y3.2 nv_read v_read).bind fun y26 => if y26 = (40 : Int32) then (if (4 : Int32) ≤ p1 then (X11_thing_k67 v_length v_top v_wrong v_isAsked nv_read v_read v_asked y3 y26) else ((rec 0 v_length v_top (y3.2 + (1 : Int32)) v_wrong v_isAsked nv_read v_read v_asked (p1 + (1 : Int32))).bind fun y55 => (X11_need v_length v_top y55.2.1 y55.2.2 nv_read v_read (41 : Int32)).bind fun y62 => some (y55.1, y62.1, y62.2))) else (X11_thing_k67 v_length v_top v_wrong v_isAsked nv_read v_read v_asked y3 y26))) else ((rec 3 v_length v_top y3.2 v_wrong v_isAsked nv_read v_read v_asked p1).bind fun y11 => some ((-y11.1), y11.2.1, y11.2.2))
def X11_expr : Nat → Nat → Int32 → Int32 → Int32 → Int32 → Int32 → Nat → (Nat → Int32) → (Nat → Int32) → Int32 → Option (Int32 × Int32 × Int32)
  | 0 => fun _ _ _ _ _ _ _ _ _ _ => none
  | n + 1 => fun k v_length v_top v_at v_wrong v_isAsked nv_read v_read v_asked p1 => if k = 0 then X11_expr_b0 (X11_expr n) v_length v_top v_at v_wrong v_isAsked nv_read v_read v_asked p1 else if k = 1 then X11_expr_b1 (X11_expr n) v_length v_top v_at v_wrong v_isAsked nv_read v_read v_asked p1 else if k = 2 then X11_expr_b2 (X11_expr n) v_length v_top v_at v_wrong v_isAsked nv_read v_read v_asked p1 else X11_expr_b3 (X11_expr n) v_length v_top v_at v_wrong v_isAsked nv_read v_read v_asked p1
set_option maxHeartbeats 8000000 in
set_option maxRecDepth 100000 in
theorem g_X11_expr {l : Launch} {D : va_G} {cy : Nat → ClassId} : ∀ n : Nat, (∀ (q0 : Nat) (q1 : Nat) (q2 : Nat) (u0_0 : Value) (u0_1 : Value) (u0_2 : Value) (u0_3 : Value) (u0_4 : Value) (u0_5 : Value) (u0_6 : Value) (u0_12 : Value) (u0_13 : Value) (u0_14 : Value) (u0_15 : Value) (u0_18 : Value) (u0_19 : Value) (u0_20 : Value) (u0_21 : Value) (u0_22 : Value) (u0_23 : Value) (u0_24 : Value) (u0_25 : Value) (u0_26 : Value) (u0_27 : Value) (u0_28 : Value) (u0_29 : Value) (u0_30 : Value) (u0_31 : Value) (u0_32 : Value) (u0_33 : Value) (u0_34 : Value) (u0_35 : Value) (u0_36 : Value) (u0_37 : Value) (u0_38 : Value) (u0_39 : Value) (u0_40 : Value) (v_length : Int32) (v_top : Int32) (v_at : Int32) (v_wrong : Int32) (v_isAsked : Int32) (nv_read : Nat) (v_read : Nat → Int32) (v_asked : Nat → Int32) (p1 : Int32) (r : Int32 × Int32 × Int32), X11_expr n 0 v_length v_top v_at v_wrong v_isAsked nv_read v_read v_asked p1 = some r → Ct l yX11_held cX11_held 3 (some .int) (4 + n) (86 + n * 24) D cy [.ref q0, .int p1] [oX11 q0 u0_0 u0_1 u0_2 u0_3 u0_4 u0_5 u0_6 (.ref q1) (.int v_length) (.int v_top) (.int v_at) (.int v_wrong) u0_12 u0_13 u0_14 u0_15 (.int v_isAsked) (.ref q2) u0_18 u0_19 u0_20 u0_21 u0_22 u0_23 u0_24 u0_25 u0_26 u0_27 u0_28 u0_29 u0_30 u0_31 u0_32 u0_33 u0_34 u0_35 u0_36 u0_37 u0_38 u0_39 u0_40, aB cy q1 nv_read v_read, aI cy q2 7 v_asked] (fun _ => [oX11 q0 u0_0 u0_1 u0_2 u0_3 u0_4 u0_5 u0_6 (.ref q1) (.int v_length) (.int v_top) (.int r.2.1) (.int r.2.2) u0_12 u0_13 u0_14 u0_15 (.int v_isAsked) (.ref q2) u0_18 u0_19 u0_20 u0_21 u0_22 u0_23 u0_24 u0_25 u0_26 u0_27 u0_28 u0_29 u0_30 u0_31 u0_32 u0_33 u0_34 u0_35 u0_36 u0_37 u0_38 u0_39 u0_40, aB cy q1 nv_read v_read, aI cy q2 7 v_asked]) (some (.int r.1))) ∧ (∀ (q0 : Nat) (q1 : Nat) (q2 : Nat) (u0_0 : Value) (u0_1 : Value) (u0_2 : Value) (u0_3 : Value) (u0_4 : Value) (u0_5 : Value) (u0_6 : Value) (u0_12 : Value) (u0_13 : Value) (u0_14 : Value) (u0_15 : Value) (u0_18 : Value) (u0_19 : Value) (u0_20 : Value) (u0_21 : Value) (u0_22 : Value) (u0_23 : Value) (u0_24 : Value) (u0_25 : Value) (u0_26 : Value) (u0_27 : Value) (u0_28 : Value) (u0_29 : Value) (u0_30 : Value) (u0_31 : Value) (u0_32 : Value) (u0_33 : Value) (u0_34 : Value) (u0_35 : Value) (u0_36 : Value) (u0_37 : Value) (u0_38 : Value) (u0_39 : Value) (u0_40 : Value) (v_length : Int32) (v_top : Int32) (v_at : Int32) (v_wrong : Int32) (v_isAsked : Int32) (nv_read : Nat) (v_read : Nat → Int32) (v_asked : Nat → Int32) (p1 : Int32) (r : Int32 × Int32 × Int32), X11_expr n 1 v_length v_top v_at v_wrong v_isAsked nv_read v_read v_asked p1 = some r → Ct l yX11_sum cX11_sum 5 (some .int) (4 + n) (86 + n * 24) D cy [.ref q0, .int p1] [oX11 q0 u0_0 u0_1 u0_2 u0_3 u0_4 u0_5 u0_6 (.ref q1) (.int v_length) (.int v_top) (.int v_at) (.int v_wrong) u0_12 u0_13 u0_14 u0_15 (.int v_isAsked) (.ref q2) u0_18 u0_19 u0_20 u0_21 u0_22 u0_23 u0_24 u0_25 u0_26 u0_27 u0_28 u0_29 u0_30 u0_31 u0_32 u0_33 u0_34 u0_35 u0_36 u0_37 u0_38 u0_39 u0_40, aB cy q1 nv_read v_read, aI cy q2 7 v_asked] (fun _ => [oX11 q0 u0_0 u0_1 u0_2 u0_3 u0_4 u0_5 u0_6 (.ref q1) (.int v_length) (.int v_top) (.int r.2.1) (.int r.2.2) u0_12 u0_13 u0_14 u0_15 (.int v_isAsked) (.ref q2) u0_18 u0_19 u0_20 u0_21 u0_22 u0_23 u0_24 u0_25 u0_26 u0_27 u0_28 u0_29 u0_30 u0_31 u0_32 u0_33 u0_34 u0_35 u0_36 u0_37 u0_38 u0_39 u0_40, aB cy q1 nv_read v_read, aI cy q2 7 v_asked]) (some (.int r.1))) ∧ (∀ (q0 : Nat) (q1 : Nat) (q2 : Nat) (u0_0 : Value) (u0_1 : Value) (u0_2 : Value) (u0_3 : Value) (u0_4 : Value) (u0_5 : Value) (u0_6 : Value) (u0_12 : Value) (u0_13 : Value) (u0_14 : Value) (u0_15 : Value) (u0_18 : Value) (u0_19 : Value) (u0_20 : Value) (u0_21 : Value) (u0_22 : Value) (u0_23 : Value) (u0_24 : Value) (u0_25 : Value) (u0_26 : Value) (u0_27 : Value) (u0_28 : Value) (u0_29 : Value) (u0_30 : Value) (u0_31 : Value) (u0_32 : Value) (u0_33 : Value) (u0_34 : Value) (u0_35 : Value) (u0_36 : Value) (u0_37 : Value) (u0_38 : Value) (u0_39 : Value) (u0_40 : Value) (v_length : Int32) (v_top : Int32) (v_at : Int32) (v_wrong : Int32) (v_isAsked : Int32) (nv_read : Nat) (v_read : Nat → Int32) (v_asked : Nat → Int32) (p1 : Int32) (r : Int32 × Int32 × Int32), X11_expr n 2 v_length v_top v_at v_wrong v_isAsked nv_read v_read v_asked p1 = some r → Ct l yX11_product cX11_product 5 (some .int) (4 + n) (86 + n * 24) D cy [.ref q0, .int p1] [oX11 q0 u0_0 u0_1 u0_2 u0_3 u0_4 u0_5 u0_6 (.ref q1) (.int v_length) (.int v_top) (.int v_at) (.int v_wrong) u0_12 u0_13 u0_14 u0_15 (.int v_isAsked) (.ref q2) u0_18 u0_19 u0_20 u0_21 u0_22 u0_23 u0_24 u0_25 u0_26 u0_27 u0_28 u0_29 u0_30 u0_31 u0_32 u0_33 u0_34 u0_35 u0_36 u0_37 u0_38 u0_39 u0_40, aB cy q1 nv_read v_read, aI cy q2 7 v_asked] (fun _ => [oX11 q0 u0_0 u0_1 u0_2 u0_3 u0_4 u0_5 u0_6 (.ref q1) (.int v_length) (.int v_top) (.int r.2.1) (.int r.2.2) u0_12 u0_13 u0_14 u0_15 (.int v_isAsked) (.ref q2) u0_18 u0_19 u0_20 u0_21 u0_22 u0_23 u0_24 u0_25 u0_26 u0_27 u0_28 u0_29 u0_30 u0_31 u0_32 u0_33 u0_34 u0_35 u0_36 u0_37 u0_38 u0_39 u0_40, aB cy q1 nv_read v_read, aI cy q2 7 v_asked]) (some (.int r.1))) ∧ (∀ (q0 : Nat) (q1 : Nat) (q2 : Nat) (u0_0 : Value) (u0_1 : Value) (u0_2 : Value) (u0_3 : Value) (u0_4 : Value) (u0_5 : Value) (u0_6 : Value) (u0_12 : Value) (u0_13 : Value) (u0_14 : Value) (u0_15 : Value) (u0_18 : Value) (u0_19 : Value) (u0_20 : Value) (u0_21 : Value) (u0_22 : Value) (u0_23 : Value) (u0_24 : Value) (u0_25 : Value) (u0_26 : Value) (u0_27 : Value) (u0_28 : Value) (u0_29 : Value) (u0_30 : Value) (u0_31 : Value) (u0_32 : Value) (u0_33 : Value) (u0_34 : Value) (u0_35 : Value) (u0_36 : Value) (u0_37 : Value) (u0_38 : Value) (u0_39 : Value) (u0_40 : Value) (v_length : Int32) (v_top : Int32) (v_at : Int32) (v_wrong : Int32) (v_isAsked : Int32) (nv_read : Nat) (v_read : Nat → Int32) (v_asked : Nat → Int32) (p1 : Int32) (r : Int32 × Int32 × Int32), X11_expr n 3 v_length v_top v_at v_wrong v_isAsked nv_read v_read v_asked p1 = some r → Ct l yX11_thing cX11_thing 4 (some .int) (4 + n) (86 + n * 24) D cy [.ref q0, .int p1] [oX11 q0 u0_0 u0_1 u0_2 u0_3 u0_4 u0_5 u0_6 (.ref q1) (.int v_length) (.int v_top) (.int v_at) (.int v_wrong) u0_12 u0_13 u0_14 u0_15 (.int v_isAsked) (.ref q2) u0_18 u0_19 u0_20 u0_21 u0_22 u0_23 u0_24 u0_25 u0_26 u0_27 u0_28 u0_29 u0_30 u0_31 u0_32 u0_33 u0_34 u0_35 u0_36 u0_37 u0_38 u0_39 u0_40, aB cy q1 nv_read v_read, aI cy q2 7 v_asked] (fun _ => [oX11 q0 u0_0 u0_1 u0_2 u0_3 u0_4 u0_5 u0_6 (.ref q1) (.int v_length) (.int v_top) (.int r.2.1) (.int r.2.2) u0_12 u0_13 u0_14 u0_15 (.int v_isAsked) (.ref q2) u0_18 u0_19 u0_20 u0_21 u0_22 u0_23 u0_24 u0_25 u0_26 u0_27 u0_28 u0_29 u0_30 u0_31 u0_32 u0_33 u0_34 u0_35 u0_36 u0_37 u0_38 u0_39 u0_40, aB cy q1 nv_read v_read, aI cy q2 7 v_asked]) (some (.int r.1))) := by
  intro n
  induction n with
  | zero =>
    exact ⟨fun _ _ _ _ _ _ _ _ _ _ _ _ _ _ _ _ _ _ _ _ _ _ _ _ _ _ _ _ _ _ _ _ _ _ _ _ _ _ _ _ _ _ _ _ _ _ _ h => by cases h, fun _ _ _ _ _ _ _ _ _ _ _ _ _ _ _ _ _ _ _ _ _ _ _ _ _ _ _ _ _ _ _ _ _ _ _ _ _ _ _ _ _ _ _ _ _ _ _ h => by cases h, fun _ _ _ _ _ _ _ _ _ _ _ _ _ _ _ _ _ _ _ _ _ _ _ _ _ _ _ _ _ _ _ _ _ _ _ _ _ _ _ _ _ _ _ _ _ _ _ h => by cases h, fun _ _ _ _ _ _ _ _ _ _ _ _ _ _ _ _ _ _ _ _ _ _ _ _ _ _ _ _ _ _ _ _ _ _ _ _ _ _ _ _ _ _ _ _ _ _ _ h => by cases h⟩
  | succ n ih =>
    obtain ⟨ih0, ih1, ih2, ih3⟩ := ih
    refine ⟨?_, ?_, ?_, ?_⟩
    · intro q0 q1 q2 u0_0 u0_1 u0_2 u0_3 u0_4 u0_5 u0_6 u0_12 u0_13 u0_14 u0_15 u0_18 u0_19 u0_20 u0_21 u0_22 u0_23 u0_24 u0_25 u0_26 u0_27 u0_28 u0_29 u0_30 u0_31 u0_32 u0_33 u0_34 u0_35 u0_36 u0_37 u0_38 u0_39 u0_40 v_length v_top v_at v_wrong v_isAsked nv_read v_read v_asked p1 r h
      have h : X11_expr_b0 (X11_expr n) v_length v_top v_at v_wrong v_isAsked nv_read v_read v_asked p1 = some r := h
      generalize X11_expr n = rec at ih0 ih1 ih2 ih3 h
      unfold X11_expr_b0 at h
      refine Ct.mk kX11_held (by decide +kernel) (Nat.le_of_ble_eq_true rfl) ?_
      intro p e s m below meth c A ls args R Q hRf hRl hQ E H locs hS hl
      have hx := E.x
      have hb := E.b
      have hl : lv_has ls 3 [(0, .ref q0), (1, .int p1)] := hl
      refine lv_aload_n hx hb dX11_held_0 rfl (lv_at hl 0 rfl) ?_
      refine lv_iload_n hx hb dX11_held_1 rfl (lv_at hl 1 rfl) ?_
      obtain ⟨y2, e1, h⟩ := bd_some h
      refine ct_V (ws' := fun _ => [oX11 q0 u0_0 u0_1 u0_2 u0_3 u0_4 u0_5 u0_6 (.ref q1) (.int v_length) (.int v_top) (.int y2.2.1) (.int y2.2.2) u0_12 u0_13 u0_14 u0_15 (.int v_isAsked) (.ref q2) u0_18 u0_19 u0_20 u0_21 u0_22 u0_23 u0_24 u0_25 u0_26 u0_27 u0_28 u0_29 u0_30 u0_31 u0_32 u0_33 u0_34 u0_35 u0_36 u0_37 u0_38 u0_39 u0_40, aB cy q1 nv_read v_read, aI cy q2 7 v_asked]) (st' := [.int y2.1]) (rest := []) E hS vlX11_163 (ih1 q0 q1 q2 u0_0 u0_1 u0_2 u0_3 u0_4 u0_5 u0_6 u0_12 u0_13 u0_14 u0_15 u0_18 u0_19 u0_20 u0_21 u0_22 u0_23 u0_24 u0_25 u0_26 u0_27 u0_28 u0_29 u0_30 u0_31 u0_32 u0_33 u0_34 u0_35 u0_36 u0_37 u0_38 u0_39 u0_40 v_length v_top v_at v_wrong v_isAsked nv_read v_read v_asked p1 y2 e1) [0, 1, 2] rfl rfl (fun _ => rfl) (fun _ => rfl) rfl rfl rfl rfl (Nat.le_of_ble_eq_true rfl) hl.1 (by rw [hRf]; omega) (by rw [hRl]; omega) ⟨Nat.zero_le _, Nat.zero_le _⟩ dX11_held_2 rfl (fun H locs _ hS => ?_)
      refine lv_istore_n (lv' := [(2, .int y2.1), (0, .ref q0), (1, .int p1)]) hx hb dX11_held_5 rfl hl (by decide) rfl (fun ls hl => ?_)
      refine lv_aload_n hx hb dX11_held_6 rfl (lv_at hl 1 rfl) ?_
      refine lv_bipush (v := 60) hx hb dX11_held_7 (by decide) ?_
      obtain ⟨y9, e2, h⟩ := bd_some h
      refine ct_V (ws' := fun _ => [oX11 q0 u0_0 u0_1 u0_2 u0_3 u0_4 u0_5 u0_6 (.ref q1) (.int v_length) (.int v_top) (.int y9.2) (.int y2.2.2) u0_12 u0_13 u0_14 u0_15 (.int v_isAsked) (.ref q2) u0_18 u0_19 u0_20 u0_21 u0_22 u0_23 u0_24 u0_25 u0_26 u0_27 u0_28 u0_29 u0_30 u0_31 u0_32 u0_33 u0_34 u0_35 u0_36 u0_37 u0_38 u0_39 u0_40, aB cy q1 nv_read v_read, aI cy q2 7 v_asked]) (st' := [.int y9.1]) (rest := []) E hS vlX11_133 (c_X11_passes (l := l) (D := D) (cy := cy) (q0 := q0) (q1 := q1) (u0_0 := u0_0) (u0_1 := u0_1) (u0_2 := u0_2) (u0_3 := u0_3) (u0_4 := u0_4) (u0_5 := u0_5) (u0_6 := u0_6) (u0_12 := u0_12) (u0_13 := u0_13) (u0_14 := u0_14) (u0_15 := u0_15) (u0_16 := .int v_isAsked) (u0_17 := .ref q2) (u0_18 := u0_18) (u0_19 := u0_19) (u0_20 := u0_20) (u0_21 := u0_21) (u0_22 := u0_22) (u0_23 := u0_23) (u0_24 := u0_24) (u0_25 := u0_25) (u0_26 := u0_26) (u0_27 := u0_27) (u0_28 := u0_28) (u0_29 := u0_29) (u0_30 := u0_30) (u0_31 := u0_31) (u0_32 := u0_32) (u0_33 := u0_33) (u0_34 := u0_34) (u0_35 := u0_35) (u0_36 := u0_36) (u0_37 := u0_37) (u0_38 := u0_38) (u0_39 := u0_39) (u0_40 := u0_40) (v_length := v_length) (v_top := v_top) (v_at := y2.2.1) (v_wrong := y2.2.2) (nv_read := nv_read) (v_read := v_read) (p1 := (60 : Int32)) (r := y9) e2) [0, 1] rfl rfl (fun _ => rfl) (fun _ => rfl) rfl rfl rfl rfl (Nat.le_of_ble_eq_true rfl) hl.1 (by rw [hRf]; omega) (by rw [hRl]; omega) ⟨Nat.zero_le _, Nat.zero_le _⟩ dX11_held_9 rfl (fun H locs _ hS => ?_)
      refine lv_if_eq (tgt := 30) hx hb dX11_held_12 (by decide) (fun c3 => ?_) (fun c3 => ?_)
      · have h := it_pos c3 h
        refine lv_aload_n hx hb dX11_held_30 rfl (lv_at hl 1 rfl) ?_
        refine lv_bipush (v := 62) hx hb dX11_held_31 (by decide) ?_
        obtain ⟨y33, e4, h⟩ := bd_some h
        refine ct_V (ws' := fun _ => [oX11 q0 u0_0 u0_1 u0_2 u0_3 u0_4 u0_5 u0_6 (.ref q1) (.int v_length) (.int v_top) (.int y33.2) (.int y2.2.2) u0_12 u0_13 u0_14 u0_15 (.int v_isAsked) (.ref q2) u0_18 u0_19 u0_20 u0_21 u0_22 u0_23 u0_24 u0_25 u0_26 u0_27 u0_28 u0_29 u0_30 u0_31 u0_32 u0_33 u0_34 u0_35 u0_36 u0_37 u0_38 u0_39 u0_40, aB cy q1 nv_read v_read, aI cy q2 7 v_asked]) (st' := [.int y33.1]) (rest := []) E hS vlX11_133 (c_X11_passes (l := l) (D := D) (cy := cy) (q0 := q0) (q1 := q1) (u0_0 := u0_0) (u0_1 := u0_1) (u0_2 := u0_2) (u0_3 := u0_3) (u0_4 := u0_4) (u0_5 := u0_5) (u0_6 := u0_6) (u0_12 := u0_12) (u0_13 := u0_13) (u0_14 := u0_14) (u0_15 := u0_15) (u0_16 := .int v_isAsked) (u0_17 := .ref q2) (u0_18 := u0_18) (u0_19 := u0_19) (u0_20 := u0_20) (u0_21 := u0_21) (u0_22 := u0_22) (u0_23 := u0_23) (u0_24 := u0_24) (u0_25 := u0_25) (u0_26 := u0_26) (u0_27 := u0_27) (u0_28 := u0_28) (u0_29 := u0_29) (u0_30 := u0_30) (u0_31 := u0_31) (u0_32 := u0_32) (u0_33 := u0_33) (u0_34 := u0_34) (u0_35 := u0_35) (u0_36 := u0_36) (u0_37 := u0_37) (u0_38 := u0_38) (u0_39 := u0_39) (u0_40 := u0_40) (v_length := v_length) (v_top := v_top) (v_at := y9.2) (v_wrong := y2.2.2) (nv_read := nv_read) (v_read := v_read) (p1 := (62 : Int32)) (r := y33) e4) [0, 1] rfl rfl (fun _ => rfl) (fun _ => rfl) rfl rfl rfl rfl (Nat.le_of_ble_eq_true rfl) hl.1 (by rw [hRf]; omega) (by rw [hRl]; omega) ⟨Nat.zero_le _, Nat.zero_le _⟩ dX11_held_33 rfl (fun H locs _ hS => ?_)
        refine lv_if_eq (tgt := 54) hx hb dX11_held_36 (by decide) (fun c5 => ?_) (fun c5 => ?_)
        · have h := it_pos c5 h
          refine lv_aload_n hx hb dX11_held_54 rfl (lv_at hl 1 rfl) ?_
          refine lv_bipush (v := 61) hx hb dX11_held_55 (by decide) ?_
          obtain ⟨y57, e6, h⟩ := bd_some h
          refine ct_V (ws' := fun _ => [oX11 q0 u0_0 u0_1 u0_2 u0_3 u0_4 u0_5 u0_6 (.ref q1) (.int v_length) (.int v_top) (.int y57.2) (.int y2.2.2) u0_12 u0_13 u0_14 u0_15 (.int v_isAsked) (.ref q2) u0_18 u0_19 u0_20 u0_21 u0_22 u0_23 u0_24 u0_25 u0_26 u0_27 u0_28 u0_29 u0_30 u0_31 u0_32 u0_33 u0_34 u0_35 u0_36 u0_37 u0_38 u0_39 u0_40, aB cy q1 nv_read v_read, aI cy q2 7 v_asked]) (st' := [.int y57.1]) (rest := []) E hS vlX11_133 (c_X11_passes (l := l) (D := D) (cy := cy) (q0 := q0) (q1 := q1) (u0_0 := u0_0) (u0_1 := u0_1) (u0_2 := u0_2) (u0_3 := u0_3) (u0_4 := u0_4) (u0_5 := u0_5) (u0_6 := u0_6) (u0_12 := u0_12) (u0_13 := u0_13) (u0_14 := u0_14) (u0_15 := u0_15) (u0_16 := .int v_isAsked) (u0_17 := .ref q2) (u0_18 := u0_18) (u0_19 := u0_19) (u0_20 := u0_20) (u0_21 := u0_21) (u0_22 := u0_22) (u0_23 := u0_23) (u0_24 := u0_24) (u0_25 := u0_25) (u0_26 := u0_26) (u0_27 := u0_27) (u0_28 := u0_28) (u0_29 := u0_29) (u0_30 := u0_30) (u0_31 := u0_31) (u0_32 := u0_32) (u0_33 := u0_33) (u0_34 := u0_34) (u0_35 := u0_35) (u0_36 := u0_36) (u0_37 := u0_37) (u0_38 := u0_38) (u0_39 := u0_39) (u0_40 := u0_40) (v_length := v_length) (v_top := v_top) (v_at := y33.2) (v_wrong := y2.2.2) (nv_read := nv_read) (v_read := v_read) (p1 := (61 : Int32)) (r := y57) e6) [0, 1] rfl rfl (fun _ => rfl) (fun _ => rfl) rfl rfl rfl rfl (Nat.le_of_ble_eq_true rfl) hl.1 (by rw [hRf]; omega) (by rw [hRl]; omega) ⟨Nat.zero_le _, Nat.zero_le _⟩ dX11_held_57 rfl (fun H locs _ hS => ?_)
          refine lv_if_eq (tgt := 78) hx hb dX11_held_60 (by decide) (fun c7 => ?_) (fun c7 => ?_)
          · have h := it_pos c7 h
            refine lv_iload_n hx hb dX11_held_78 rfl (lv_at hl 0 rfl) ?_
            obtain rfl := Option.some.inj h
            exact rt_i E hQ (.null) hS dX11_held_79
          · have h := it_neg c7 h
            refine lv_iload_n hx hb dX11_held_63 rfl (lv_at hl 0 rfl) ?_
            refine lv_aload_n hx hb dX11_held_64 rfl (lv_at hl 1 rfl) ?_
            refine lv_iload_n hx hb dX11_held_65 rfl (lv_at hl 2 rfl) ?_
            obtain ⟨y66, e8, h⟩ := bd_some h
            refine ct_V (ws' := fun _ => [oX11 q0 u0_0 u0_1 u0_2 u0_3 u0_4 u0_5 u0_6 (.ref q1) (.int v_length) (.int v_top) (.int y66.2.1) (.int y66.2.2) u0_12 u0_13 u0_14 u0_15 (.int v_isAsked) (.ref q2) u0_18 u0_19 u0_20 u0_21 u0_22 u0_23 u0_24 u0_25 u0_26 u0_27 u0_28 u0_29 u0_30 u0_31 u0_32 u0_33 u0_34 u0_35 u0_36 u0_37 u0_38 u0_39 u0_40, aB cy q1 nv_read v_read, aI cy q2 7 v_asked]) (st' := [.int y66.1, .int y2.1]) (rest := [.int y2.1]) E hS vlX11_163 (ih1 q0 q1 q2 u0_0 u0_1 u0_2 u0_3 u0_4 u0_5 u0_6 u0_12 u0_13 u0_14 u0_15 u0_18 u0_19 u0_20 u0_21 u0_22 u0_23 u0_24 u0_25 u0_26 u0_27 u0_28 u0_29 u0_30 u0_31 u0_32 u0_33 u0_34 u0_35 u0_36 u0_37 u0_38 u0_39 u0_40 v_length v_top y57.2 y2.2.2 v_isAsked nv_read v_read v_asked p1 y66 e8) [0, 1, 2] rfl rfl (fun _ => rfl) (fun _ => rfl) rfl rfl rfl rfl (Nat.le_of_ble_eq_true rfl) hl.1 (by rw [hRf]; omega) (by rw [hRl]; omega) ⟨Nat.zero_le _, Nat.zero_le _⟩ dX11_held_66 rfl (fun H locs _ hS => ?_)
            have hJ77 : ∀ (s77_0 : Int32) (ls : Array Slot), s77_0 = (if y2.1 = y66.1 then (1 : Int32) else (0 : Int32)) → lv_has ls 3 [] → W p l e R s m args below meth c H locs 0 0 Q (F0 m 77 ls [.int s77_0]) := by
              intro s77_0 ls es77_0 hl
              subst es77_0
              obtain rfl := Option.some.inj h
              exact rt_i E hQ (.null) hS dX11_held_77
            refine lv_icmp_ne (tgt := 76) hx hb dX11_held_69 (by decide) (fun c9 => ?_) (fun c9 => ?_)
            · refine lv_iconst (v := 0) hx hb dX11_held_76 (by decide) ?_
              exact hJ77 _ ls ((if_neg c9)).symm (lv_sub hl [] rfl)
            · refine lv_iconst (v := 1) hx hb dX11_held_72 (by decide) ?_
              refine lv_goto (tgt := 77) hx hb dX11_held_73 (by decide) ?_
              exact hJ77 _ ls ((if_pos c9)).symm (lv_sub hl [] rfl)
        · have h := it_neg c5 h
          refine lv_iload_n hx hb dX11_held_39 rfl (lv_at hl 0 rfl) ?_
          refine lv_aload_n hx hb dX11_held_40 rfl (lv_at hl 1 rfl) ?_
          refine lv_iload_n hx hb dX11_held_41 rfl (lv_at hl 2 rfl) ?_
          obtain ⟨y42, e10, h⟩ := bd_some h
          refine ct_V (ws' := fun _ => [oX11 q0 u0_0 u0_1 u0_2 u0_3 u0_4 u0_5 u0_6 (.ref q1) (.int v_length) (.int v_top) (.int y42.2.1) (.int y42.2.2) u0_12 u0_13 u0_14 u0_15 (.int v_isAsked) (.ref q2) u0_18 u0_19 u0_20 u0_21 u0_22 u0_23 u0_24 u0_25 u0_26 u0_27 u0_28 u0_29 u0_30 u0_31 u0_32 u0_33 u0_34 u0_35 u0_36 u0_37 u0_38 u0_39 u0_40, aB cy q1 nv_read v_read, aI cy q2 7 v_asked]) (st' := [.int y42.1, .int y2.1]) (rest := [.int y2.1]) E hS vlX11_163 (ih1 q0 q1 q2 u0_0 u0_1 u0_2 u0_3 u0_4 u0_5 u0_6 u0_12 u0_13 u0_14 u0_15 u0_18 u0_19 u0_20 u0_21 u0_22 u0_23 u0_24 u0_25 u0_26 u0_27 u0_28 u0_29 u0_30 u0_31 u0_32 u0_33 u0_34 u0_35 u0_36 u0_37 u0_38 u0_39 u0_40 v_length v_top y33.2 y2.2.2 v_isAsked nv_read v_read v_asked p1 y42 e10) [0, 1, 2] rfl rfl (fun _ => rfl) (fun _ => rfl) rfl rfl rfl rfl (Nat.le_of_ble_eq_true rfl) hl.1 (by rw [hRf]; omega) (by rw [hRl]; omega) ⟨Nat.zero_le _, Nat.zero_le _⟩ dX11_held_42 rfl (fun H locs _ hS => ?_)
          have hJ53 : ∀ (s53_0 : Int32) (ls : Array Slot), s53_0 = (if y2.1 ≤ y42.1 then (0 : Int32) else (1 : Int32)) → lv_has ls 3 [] → W p l e R s m args below meth c H locs 0 0 Q (F0 m 53 ls [.int s53_0]) := by
            intro s53_0 ls es53_0 hl
            subst es53_0
            obtain rfl := Option.some.inj h
            exact rt_i E hQ (.null) hS dX11_held_53
          refine lv_icmp_le (tgt := 52) hx hb dX11_held_45 (by decide) (fun c11 => ?_) (fun c11 => ?_)
          · refine lv_iconst (v := 0) hx hb dX11_held_52 (by decide) ?_
            exact hJ53 _ ls ((if_pos c11)).symm (lv_sub hl [] rfl)
          · refine lv_iconst (v := 1) hx hb dX11_held_48 (by decide) ?_
            refine lv_goto (tgt := 53) hx hb dX11_held_49 (by decide) ?_
            exact hJ53 _ ls ((if_neg c11)).symm (lv_sub hl [] rfl)
      · have h := it_neg c3 h
        refine lv_iload_n hx hb dX11_held_15 rfl (lv_at hl 0 rfl) ?_
        refine lv_aload_n hx hb dX11_held_16 rfl (lv_at hl 1 rfl) ?_
        refine lv_iload_n hx hb dX11_held_17 rfl (lv_at hl 2 rfl) ?_
        obtain ⟨y18, e12, h⟩ := bd_some h
        refine ct_V (ws' := fun _ => [oX11 q0 u0_0 u0_1 u0_2 u0_3 u0_4 u0_5 u0_6 (.ref q1) (.int v_length) (.int v_top) (.int y18.2.1) (.int y18.2.2) u0_12 u0_13 u0_14 u0_15 (.int v_isAsked) (.ref q2) u0_18 u0_19 u0_20 u0_21 u0_22 u0_23 u0_24 u0_25 u0_26 u0_27 u0_28 u0_29 u0_30 u0_31 u0_32 u0_33 u0_34 u0_35 u0_36 u0_37 u0_38 u0_39 u0_40, aB cy q1 nv_read v_read, aI cy q2 7 v_asked]) (st' := [.int y18.1, .int y2.1]) (rest := [.int y2.1]) E hS vlX11_163 (ih1 q0 q1 q2 u0_0 u0_1 u0_2 u0_3 u0_4 u0_5 u0_6 u0_12 u0_13 u0_14 u0_15 u0_18 u0_19 u0_20 u0_21 u0_22 u0_23 u0_24 u0_25 u0_26 u0_27 u0_28 u0_29 u0_30 u0_31 u0_32 u0_33 u0_34 u0_35 u0_36 u0_37 u0_38 u0_39 u0_40 v_length v_top y9.2 y2.2.2 v_isAsked nv_read v_read v_asked p1 y18 e12) [0, 1, 2] rfl rfl (fun _ => rfl) (fun _ => rfl) rfl rfl rfl rfl (Nat.le_of_ble_eq_true rfl) hl.1 (by rw [hRf]; omega) (by rw [hRl]; omega) ⟨Nat.zero_le _, Nat.zero_le _⟩ dX11_held_18 rfl (fun H locs _ hS => ?_)
        have hJ29 : ∀ (s29_0 : Int32) (ls : Array Slot), s29_0 = (if y18.1 ≤ y2.1 then (0 : Int32) else (1 : Int32)) → lv_has ls 3 [] → W p l e R s m args below meth c H locs 0 0 Q (F0 m 29 ls [.int s29_0]) := by
          intro s29_0 ls es29_0 hl
          subst es29_0
          obtain rfl := Option.some.inj h
          exact rt_i E hQ (.null) hS dX11_held_29
        refine lv_icmp_ge (tgt := 28) hx hb dX11_held_21 (by decide) (fun c13 => ?_) (fun c13 => ?_)
        · refine lv_iconst (v := 0) hx hb dX11_held_28 (by decide) ?_
          exact hJ29 _ ls ((if_pos c13)).symm (lv_sub hl [] rfl)
        · refine lv_iconst (v := 1) hx hb dX11_held_24 (by decide) ?_
          refine lv_goto (tgt := 29) hx hb dX11_held_25 (by decide) ?_
          exact hJ29 _ ls ((if_neg c13)).symm (lv_sub hl [] rfl)
    · intro q0 q1 q2 u0_0 u0_1 u0_2 u0_3 u0_4 u0_5 u0_6 u0_12 u0_13 u0_14 u0_15 u0_18 u0_19 u0_20 u0_21 u0_22 u0_23 u0_24 u0_25 u0_26 u0_27 u0_28 u0_29 u0_30 u0_31 u0_32 u0_33 u0_34 u0_35 u0_36 u0_37 u0_38 u0_39 u0_40 v_length v_top v_at v_wrong v_isAsked nv_read v_read v_asked p1 r h
      have h : X11_expr_b1 (X11_expr n) v_length v_top v_at v_wrong v_isAsked nv_read v_read v_asked p1 = some r := h
      generalize X11_expr n = rec at ih0 ih1 ih2 ih3 h
      unfold X11_expr_b1 at h
      refine Ct.mk kX11_sum (by decide +kernel) (Nat.le_of_ble_eq_true rfl) ?_
      intro p e s m below meth c A ls args R Q hRf hRl hQ E H locs hS hl
      have hx := E.x
      have hb := E.b
      have hl : lv_has ls 5 [(0, .ref q0), (1, .int p1)] := hl
      refine lv_aload_n hx hb dX11_sum_0 rfl (lv_at hl 0 rfl) ?_
      refine lv_iload_n hx hb dX11_sum_1 rfl (lv_at hl 1 rfl) ?_
      obtain ⟨y2, e1, h⟩ := bd_some h
      refine ct_V (ws' := fun _ => [oX11 q0 u0_0 u0_1 u0_2 u0_3 u0_4 u0_5 u0_6 (.ref q1) (.int v_length) (.int v_top) (.int y2.2.1) (.int y2.2.2) u0_12 u0_13 u0_14 u0_15 (.int v_isAsked) (.ref q2) u0_18 u0_19 u0_20 u0_21 u0_22 u0_23 u0_24 u0_25 u0_26 u0_27 u0_28 u0_29 u0_30 u0_31 u0_32 u0_33 u0_34 u0_35 u0_36 u0_37 u0_38 u0_39 u0_40, aB cy q1 nv_read v_read, aI cy q2 7 v_asked]) (st' := [.int y2.1]) (rest := []) E hS vlX11_167 (ih2 q0 q1 q2 u0_0 u0_1 u0_2 u0_3 u0_4 u0_5 u0_6 u0_12 u0_13 u0_14 u0_15 u0_18 u0_19 u0_20 u0_21 u0_22 u0_23 u0_24 u0_25 u0_26 u0_27 u0_28 u0_29 u0_30 u0_31 u0_32 u0_33 u0_34 u0_35 u0_36 u0_37 u0_38 u0_39 u0_40 v_length v_top v_at v_wrong v_isAsked nv_read v_read v_asked p1 y2 e1) [0, 1, 2] rfl rfl (fun _ => rfl) (fun _ => rfl) rfl rfl rfl rfl (Nat.le_of_ble_eq_true rfl) hl.1 (by rw [hRf]; omega) (by rw [hRl]; omega) ⟨Nat.zero_le _, Nat.zero_le _⟩ dX11_sum_2 rfl (fun H locs _ hS => ?_)
      refine lv_istore_n (lv' := [(2, .int y2.1), (0, .ref q0), (1, .int p1)]) hx hb dX11_sum_5 rfl hl (by decide) rfl (fun ls hl => ?_)
      have hL6 : ∀ (n : Nat) (x6 : Int32 × Int32 × Int32) (y6 : Int32 × Int32 × Int32) (H : Heap) (locs : List Loc) (ls : Array Slot), lp (fun x6 => X11_sum_s6 rec v_length v_top v_isAsked nv_read v_read v_asked p1 x6) n x6 = some y6 → Sv D A s.heap [oX11 q0 u0_0 u0_1 u0_2 u0_3 u0_4 u0_5 u0_6 (.ref q1) (.int v_length) (.int v_top) (.int x6.2.1) (.int x6.2.2) u0_12 u0_13 u0_14 u0_15 (.int v_isAsked) (.ref q2) u0_18 u0_19 u0_20 u0_21 u0_22 u0_23 u0_24 u0_25 u0_26 u0_27 u0_28 u0_29 u0_30 u0_31 u0_32 u0_33 u0_34 u0_35 u0_36 u0_37 u0_38 u0_39 u0_40, aB cy q1 nv_read v_read, aI cy q2 7 v_asked] H locs → lv_has ls 5 [(0, .ref q0), (1, .int p1), (2, .int x6.1)] → (∀ (H : Heap) (locs : List Loc) (ls : Array Slot), Sv D A s.heap [oX11 q0 u0_0 u0_1 u0_2 u0_3 u0_4 u0_5 u0_6 (.ref q1) (.int v_length) (.int v_top) (.int y6.2.1) (.int y6.2.2) u0_12 u0_13 u0_14 u0_15 (.int v_isAsked) (.ref q2) u0_18 u0_19 u0_20 u0_21 u0_22 u0_23 u0_24 u0_25 u0_26 u0_27 u0_28 u0_29 u0_30 u0_31 u0_32 u0_33 u0_34 u0_35 u0_36 u0_37 u0_38 u0_39 u0_40, aB cy q1 nv_read v_read, aI cy q2 7 v_asked] H locs → lv_has ls 5 [(2, .int y6.1)] → W p l e R s m args below meth c H locs 0 0 Q (F0 m 82 ls [])) → W p l e R s m args below meth c H locs 0 0 Q (F0 m 6 ls []) := by
        intro n
        induction n with
        | zero =>
          intro x6 y6 H locs ls h
          exact lp_zero h
        | succ n ih6 =>
          intro x6 y6 H locs ls h hS hl hk6_0
          obtain ⟨z6, h, hz6a, hz6b⟩ := lp_succ h
          have h : X11_sum_s6 rec v_length v_top v_isAsked nv_read v_read v_asked p1 x6 = some z6 := h
          unfold X11_sum_s6 at h
          refine lv_aload_n hx hb dX11_sum_6 rfl (lv_at hl 0 rfl) ?_
          refine ct_V (ws' := fun _ => [oX11 q0 u0_0 u0_1 u0_2 u0_3 u0_4 u0_5 u0_6 (.ref q1) (.int v_length) (.int v_top) (.int x6.2.1) (.int x6.2.2) u0_12 u0_13 u0_14 u0_15 (.int v_isAsked) (.ref q2) u0_18 u0_19 u0_20 u0_21 u0_22 u0_23 u0_24 u0_25 u0_26 u0_27 u0_28 u0_29 u0_30 u0_31 u0_32 u0_33 u0_34 u0_35 u0_36 u0_37 u0_38 u0_39 u0_40, aB cy q1 nv_read v_read, aI cy q2 7 v_asked]) (st' := [.int (X11_fine x6.2.2)]) (rest := []) E hS vlX11_125 (c_X11_fine (l := l) (D := D) (cy := cy) (q0 := q0) (u0_0 := u0_0) (u0_1 := u0_1) (u0_2 := u0_2) (u0_3 := u0_3) (u0_4 := u0_4) (u0_5 := u0_5) (u0_6 := u0_6) (u0_7 := .ref q1) (u0_8 := .int v_length) (u0_9 := .int v_top) (u0_10 := .int x6.2.1) (u0_12 := u0_12) (u0_13 := u0_13) (u0_14 := u0_14) (u0_15 := u0_15) (u0_16 := .int v_isAsked) (u0_17 := .ref q2) (u0_18 := u0_18) (u0_19 := u0_19) (u0_20 := u0_20) (u0_21 := u0_21) (u0_22 := u0_22) (u0_23 := u0_23) (u0_24 := u0_24) (u0_25 := u0_25) (u0_26 := u0_26) (u0_27 := u0_27) (u0_28 := u0_28) (u0_29 := u0_29) (u0_30 := u0_30) (u0_31 := u0_31) (u0_32 := u0_32) (u0_33 := u0_33) (u0_34 := u0_34) (u0_35 := u0_35) (u0_36 := u0_36) (u0_37 := u0_37) (u0_38 := u0_38) (u0_39 := u0_39) (u0_40 := u0_40) (v_wrong := x6.2.2) (r := (X11_fine x6.2.2)) rfl) [0] rfl rfl (fun _ => rfl) (fun _ => rfl) rfl rfl rfl rfl (Nat.le_of_ble_eq_true rfl) hl.1 (by rw [hRf]; omega) (by rw [hRl]; omega) ⟨Nat.zero_le _, Nat.zero_le _⟩ dX11_sum_7 rfl (fun H locs _ hS => ?_)
          refine lv_if_eq (tgt := 82) hx hb dX11_sum_10 (by decide) (fun c2 => ?_) (fun c2 => ?_)
          · have h := it_pos c2 h
            obtain rfl := hz6b _ (Option.some.inj h).symm
            exact hk6_0  H locs ls hS (lv_sub hl [2] rfl)
          · have h := it_neg c2 h
            refine lv_aload_n hx hb dX11_sum_13 rfl (lv_at hl 0 rfl) ?_
            obtain ⟨y14, e3, h⟩ := bd_some h
            refine ct_V (ws' := fun _ => [oX11 q0 u0_0 u0_1 u0_2 u0_3 u0_4 u0_5 u0_6 (.ref q1) (.int v_length) (.int v_top) (.int x6.2.1) (.int x6.2.2) u0_12 u0_13 u0_14 u0_15 (.int v_isAsked) (.ref q2) u0_18 u0_19 u0_20 u0_21 u0_22 u0_23 u0_24 u0_25 u0_26 u0_27 u0_28 u0_29 u0_30 u0_31 u0_32 u0_33 u0_34 u0_35 u0_36 u0_37 u0_38 u0_39 u0_40, aB cy q1 nv_read v_read, aI cy q2 7 v_asked]) (st' := [.int y14]) (rest := []) E hS vlX11_129 (c_X11_here (l := l) (D := D) (cy := cy) (q0 := q0) (q1 := q1) (u0_0 := u0_0) (u0_1 := u0_1) (u0_2 := u0_2) (u0_3 := u0_3) (u0_4 := u0_4) (u0_5 := u0_5) (u0_6 := u0_6) (u0_11 := .int x6.2.2) (u0_12 := u0_12) (u0_13 := u0_13) (u0_14 := u0_14) (u0_15 := u0_15) (u0_16 := .int v_isAsked) (u0_17 := .ref q2) (u0_18 := u0_18) (u0_19 := u0_19) (u0_20 := u0_20) (u0_21 := u0_21) (u0_22 := u0_22) (u0_23 := u0_23) (u0_24 := u0_24) (u0_25 := u0_25) (u0_26 := u0_26) (u0_27 := u0_27) (u0_28 := u0_28) (u0_29 := u0_29) (u0_30 := u0_30) (u0_31 := u0_31) (u0_32 := u0_32) (u0_33 := u0_33) (u0_34 := u0_34) (u0_35 := u0_35) (u0_36 := u0_36) (u0_37 := u0_37) (u0_38 := u0_38) (u0_39 := u0_39) (u0_40 := u0_40) (v_length := v_length) (v_top := v_top) (v_at := x6.2.1) (nv_read := nv_read) (v_read := v_read) (r := y14) e3) [0, 1] rfl rfl (fun _ => rfl) (fun _ => rfl) rfl rfl rfl rfl (Nat.le_of_ble_eq_true rfl) hl.1 (by rw [hRf]; omega) (by rw [hRl]; omega) ⟨Nat.zero_le _, Nat.zero_le _⟩ dX11_sum_14 rfl (fun H locs _ hS => ?_)
            refine lv_bipush (v := 43) hx hb dX11_sum_17 (by decide) ?_
            have hJ31 : ∀ (H : Heap) (locs : List Loc) (ls : Array Slot), X11_sum_k31 rec v_length v_top v_isAsked nv_read v_read v_asked p1 x6 = some z6 → Sv D A s.heap [oX11 q0 u0_0 u0_1 u0_2 u0_3 u0_4 u0_5 u0_6 (.ref q1) (.int v_length) (.int v_top) (.int x6.2.1) (.int x6.2.2) u0_12 u0_13 u0_14 u0_15 (.int v_isAsked) (.ref q2) u0_18 u0_19 u0_20 u0_21 u0_22 u0_23 u0_24 u0_25 u0_26 u0_27 u0_28 u0_29 u0_30 u0_31 u0_32 u0_33 u0_34 u0_35 u0_36 u0_37 u0_38 u0_39 u0_40, aB cy q1 nv_read v_read, aI cy q2 7 v_asked] H locs → lv_has ls 5 [(0, .ref q0), (1, .int p1), (2, .int x6.1)] → W p l e R s m args below meth c H locs 0 0 Q (F0 m 31 ls []) := by
              intro H locs ls h hS hl
              unfold X11_sum_k31 at h
              refine lv_aload_n hx hb dX11_sum_31 rfl (lv_at hl 0 rfl) ?_
              obtain ⟨y32, e4, h⟩ := bd_some h
              refine ct_V (ws' := fun _ => [oX11 q0 u0_0 u0_1 u0_2 u0_3 u0_4 u0_5 u0_6 (.ref q1) (.int v_length) (.int v_top) (.int x6.2.1) (.int x6.2.2) u0_12 u0_13 u0_14 u0_15 (.int v_isAsked) (.ref q2) u0_18 u0_19 u0_20 u0_21 u0_22 u0_23 u0_24 u0_25 u0_26 u0_27 u0_28 u0_29 u0_30 u0_31 u0_32 u0_33 u0_34 u0_35 u0_36 u0_37 u0_38 u0_39 u0_40, aB cy q1 nv_read v_read, aI cy q2 7 v_asked]) (st' := [.int y32]) (rest := []) E hS vlX11_129 (c_X11_here (l := l) (D := D) (cy := cy) (q0 := q0) (q1 := q1) (u0_0 := u0_0) (u0_1 := u0_1) (u0_2 := u0_2) (u0_3 := u0_3) (u0_4 := u0_4) (u0_5 := u0_5) (u0_6 := u0_6) (u0_11 := .int x6.2.2) (u0_12 := u0_12) (u0_13 := u0_13) (u0_14 := u0_14) (u0_15 := u0_15) (u0_16 := .int v_isAsked) (u0_17 := .ref q2) (u0_18 := u0_18) (u0_19 := u0_19) (u0_20 := u0_20) (u0_21 := u0_21) (u0_22 := u0_22) (u0_23 := u0_23) (u0_24 := u0_24) (u0_25 := u0_25) (u0_26 := u0_26) (u0_27 := u0_27) (u0_28 := u0_28) (u0_29 := u0_29) (u0_30 := u0_30) (u0_31 := u0_31) (u0_32 := u0_32) (u0_33 := u0_33) (u0_34 := u0_34) (u0_35 := u0_35) (u0_36 := u0_36) (u0_37 := u0_37) (u0_38 := u0_38) (u0_39 := u0_39) (u0_40 := u0_40) (v_length := v_length) (v_top := v_top) (v_at := x6.2.1) (nv_read := nv_read) (v_read := v_read) (r := y32) e4) [0, 1] rfl rfl (fun _ => rfl) (fun _ => rfl) rfl rfl rfl rfl (Nat.le_of_ble_eq_true rfl) hl.1 (by rw [hRf]; omega) (by rw [hRl]; omega) ⟨Nat.zero_le _, Nat.zero_le _⟩ dX11_sum_32 rfl (fun H locs _ hS => ?_)
              refine lv_bipush (v := 43) hx hb dX11_sum_35 (by decide) ?_
              have hJ45 : ∀ (s45_0 : Int32) (ls : Array Slot), s45_0 = (if y32 = (43 : Int32) then (1 : Int32) else (0 : Int32)) → lv_has ls 5 [(0, .ref q0), (1, .int p1), (2, .int x6.1)] → W p l e R s m args below meth c H locs 0 0 Q (F0 m 45 ls [.int s45_0]) := by
                intro s45_0 ls es45_0 hl
                subst es45_0
                refine lv_istore_n (lv' := [(3, .int (if y32 = (43 : Int32) then (1 : Int32) else (0 : Int32))), (0, .ref q0), (1, .int p1), (2, .int x6.1)]) hx hb dX11_sum_45 rfl hl (by decide) rfl (fun ls hl => ?_)
                refine lv_aload_n hx hb dX11_sum_46 rfl (lv_at hl 1 rfl) ?_
                refine lv_dup hx hb dX11_sum_47 rfl ?_
                refine r_get E frX11_115 hS 0 rfl rfl dX11_sum_48 ?_
                refine lv_iconst (v := 1) hx hb dX11_sum_51 (by decide) ?_
                refine lv_iadd hx hb dX11_sum_52 ?_
                refine r_put (ws' := [oX11 q0 u0_0 u0_1 u0_2 u0_3 u0_4 u0_5 u0_6 (.ref q1) (.int v_length) (.int v_top) (.int (x6.2.1 + (1 : Int32))) (.int x6.2.2) u0_12 u0_13 u0_14 u0_15 (.int v_isAsked) (.ref q2) u0_18 u0_19 u0_20 u0_21 u0_22 u0_23 u0_24 u0_25 u0_26 u0_27 u0_28 u0_29 u0_30 u0_31 u0_32 u0_33 u0_34 u0_35 u0_36 u0_37 u0_38 u0_39 u0_40, aB cy q1 nv_read v_read, aI cy q2 7 v_asked]) E frX11_115 hS 0 rfl (Nat.le_of_ble_eq_true rfl) rfl rfl rfl rfl dX11_sum_53 (fun H locs hS => ?_)
                refine lv_aload_n hx hb dX11_sum_56 rfl (lv_at hl 1 rfl) ?_
                refine lv_iload_n hx hb dX11_sum_57 rfl (lv_at hl 2 rfl) ?_
                obtain ⟨y58, e5, h⟩ := bd_some h
                refine ct_V (ws' := fun _ => [oX11 q0 u0_0 u0_1 u0_2 u0_3 u0_4 u0_5 u0_6 (.ref q1) (.int v_length) (.int v_top) (.int y58.2.1) (.int y58.2.2) u0_12 u0_13 u0_14 u0_15 (.int v_isAsked) (.ref q2) u0_18 u0_19 u0_20 u0_21 u0_22 u0_23 u0_24 u0_25 u0_26 u0_27 u0_28 u0_29 u0_30 u0_31 u0_32 u0_33 u0_34 u0_35 u0_36 u0_37 u0_38 u0_39 u0_40, aB cy q1 nv_read v_read, aI cy q2 7 v_asked]) (st' := [.int y58.1]) (rest := []) E hS vlX11_167 (ih2 q0 q1 q2 u0_0 u0_1 u0_2 u0_3 u0_4 u0_5 u0_6 u0_12 u0_13 u0_14 u0_15 u0_18 u0_19 u0_20 u0_21 u0_22 u0_23 u0_24 u0_25 u0_26 u0_27 u0_28 u0_29 u0_30 u0_31 u0_32 u0_33 u0_34 u0_35 u0_36 u0_37 u0_38 u0_39 u0_40 v_length v_top (x6.2.1 + (1 : Int32)) x6.2.2 v_isAsked nv_read v_read v_asked p1 y58 e5) [0, 1, 2] rfl rfl (fun _ => rfl) (fun _ => rfl) rfl rfl rfl rfl (Nat.le_of_ble_eq_true rfl) hl.1 (by rw [hRf]; omega) (by rw [hRl]; omega) ⟨Nat.zero_le _, Nat.zero_le _⟩ dX11_sum_58 rfl (fun H locs _ hS => ?_)
                refine lv_istore (lv' := [(4, .int y58.1), (3, .int (if y32 = (43 : Int32) then (1 : Int32) else (0 : Int32))), (0, .ref q0), (1, .int p1), (2, .int x6.1)]) hx hb dX11_sum_61 hl (by decide) rfl (fun ls hl => ?_)
                refine lv_iload_n hx hb dX11_sum_63 rfl (lv_at hl 1 rfl) ?_
                have hJ78 : ∀ (s78_0 : Int32) (ls : Array Slot), s78_0 = (if (if y32 = (43 : Int32) then (1 : Int32) else (0 : Int32)) = 0 then (x6.1 - y58.1) else (x6.1 + y58.1)) → lv_has ls 5 [(0, .ref q0), (1, .int p1)] → W p l e R s m args below meth c H locs 0 0 Q (F0 m 78 ls [.int s78_0]) := by
                  intro s78_0 ls es78_0 hl
                  subst es78_0
                  refine lv_istore_n (lv' := [(2, .int (if (if y32 = (43 : Int32) then (1 : Int32) else (0 : Int32)) = 0 then (x6.1 - y58.1) else (x6.1 + y58.1))), (0, .ref q0), (1, .int p1)]) hx hb dX11_sum_78 rfl hl (by decide) rfl (fun ls hl => ?_)
                  refine lv_goto (tgt := 6) hx hb dX11_sum_79 (by decide) ?_
                  exact ih6 ((if (if y32 = (43 : Int32) then (1 : Int32) else (0 : Int32)) = 0 then (x6.1 - y58.1) else (x6.1 + y58.1)), y58.2.1, y58.2.2) y6  H locs ls (hz6a _ (Option.some.inj h).symm) hS (lv_sub hl [1, 2, 0] rfl) hk6_0
                refine lv_if_eq (tgt := 74) hx hb dX11_sum_64 (by decide) (fun c6 => ?_) (fun c6 => ?_)
                · refine lv_iload_n hx hb dX11_sum_74 rfl (lv_at hl 4 rfl) ?_
                  refine lv_iload hx hb dX11_sum_75 (lv_at hl 0 rfl) ?_
                  refine lv_isub hx hb dX11_sum_77 ?_
                  exact hJ78 _ ls ((if_pos c6)).symm (lv_sub hl [2, 3] rfl)
                · refine lv_iload_n hx hb dX11_sum_67 rfl (lv_at hl 4 rfl) ?_
                  refine lv_iload hx hb dX11_sum_68 (lv_at hl 0 rfl) ?_
                  refine lv_iadd hx hb dX11_sum_70 ?_
                  refine lv_goto (tgt := 78) hx hb dX11_sum_71 (by decide) ?_
                  exact hJ78 _ ls ((if_neg c6)).symm (lv_sub hl [2, 3] rfl)
              refine lv_icmp_ne (tgt := 44) hx hb dX11_sum_37 (by decide) (fun c7 => ?_) (fun c7 => ?_)
              · refine lv_iconst (v := 0) hx hb dX11_sum_44 (by decide) ?_
                exact hJ45 _ ls ((if_neg c7)).symm (lv_sub hl [0, 1, 2] rfl)
              · refine lv_iconst (v := 1) hx hb dX11_sum_40 (by decide) ?_
                refine lv_goto (tgt := 45) hx hb dX11_sum_41 (by decide) ?_
                exact hJ45 _ ls ((if_pos c7)).symm (lv_sub hl [0, 1, 2] rfl)
            refine lv_icmp_eq (tgt := 31) hx hb dX11_sum_19 (by decide) (fun c8 => ?_) (fun c8 => ?_)
            · have h := it_pos c8 h
              exact hJ31   H locs ls h hS (lv_sub hl [0, 1, 2] rfl)
            · have h := it_neg c8 h
              refine lv_aload_n hx hb dX11_sum_22 rfl (lv_at hl 0 rfl) ?_
              obtain ⟨y23, e9, h⟩ := bd_some h
              refine ct_V (ws' := fun _ => [oX11 q0 u0_0 u0_1 u0_2 u0_3 u0_4 u0_5 u0_6 (.ref q1) (.int v_length) (.int v_top) (.int x6.2.1) (.int x6.2.2) u0_12 u0_13 u0_14 u0_15 (.int v_isAsked) (.ref q2) u0_18 u0_19 u0_20 u0_21 u0_22 u0_23 u0_24 u0_25 u0_26 u0_27 u0_28 u0_29 u0_30 u0_31 u0_32 u0_33 u0_34 u0_35 u0_36 u0_37 u0_38 u0_39 u0_40, aB cy q1 nv_read v_read, aI cy q2 7 v_asked]) (st' := [.int y23]) (rest := []) E hS vlX11_129 (c_X11_here (l := l) (D := D) (cy := cy) (q0 := q0) (q1 := q1) (u0_0 := u0_0) (u0_1 := u0_1) (u0_2 := u0_2) (u0_3 := u0_3) (u0_4 := u0_4) (u0_5 := u0_5) (u0_6 := u0_6) (u0_11 := .int x6.2.2) (u0_12 := u0_12) (u0_13 := u0_13) (u0_14 := u0_14) (u0_15 := u0_15) (u0_16 := .int v_isAsked) (u0_17 := .ref q2) (u0_18 := u0_18) (u0_19 := u0_19) (u0_20 := u0_20) (u0_21 := u0_21) (u0_22 := u0_22) (u0_23 := u0_23) (u0_24 := u0_24) (u0_25 := u0_25) (u0_26 := u0_26) (u0_27 := u0_27) (u0_28 := u0_28) (u0_29 := u0_29) (u0_30 := u0_30) (u0_31 := u0_31) (u0_32 := u0_32) (u0_33 := u0_33) (u0_34 := u0_34) (u0_35 := u0_35) (u0_36 := u0_36) (u0_37 := u0_37) (u0_38 := u0_38) (u0_39 := u0_39) (u0_40 := u0_40) (v_length := v_length) (v_top := v_top) (v_at := x6.2.1) (nv_read := nv_read) (v_read := v_read) (r := y23) e9) [0, 1] rfl rfl (fun _ => rfl) (fun _ => rfl) rfl rfl rfl rfl (Nat.le_of_ble_eq_true rfl) hl.1 (by rw [hRf]; omega) (by rw [hRl]; omega) ⟨Nat.zero_le _, Nat.zero_le _⟩ dX11_sum_23 rfl (fun H locs _ hS => ?_)
              refine lv_bipush (v := 45) hx hb dX11_sum_26 (by decide) ?_
              refine lv_icmp_ne (tgt := 82) hx hb dX11_sum_28 (by decide) (fun c10 => ?_) (fun c10 => ?_)
              · have h := it_neg c10 h
                obtain rfl := hz6b _ (Option.some.inj h).symm
                exact hk6_0  H locs ls hS (lv_sub hl [2] rfl)
              · have h := it_pos c10 h
                exact hJ31   H locs ls h hS (lv_sub hl [0, 1, 2] rfl)
      obtain ⟨y6, e6, h⟩ := bd_some h
      refine hL6 1000 (y2.1, y2.2.1, y2.2.2) y6  H locs ls e6 hS (lv_sub hl [1, 2, 0] rfl) (fun H locs ls hS hl => ?_)
      refine lv_iload_n hx hb dX11_sum_82 rfl (lv_at hl 0 rfl) ?_
      obtain rfl := Option.some.inj h
      exact rt_i E hQ (.null) hS dX11_sum_83
    · intro q0 q1 q2 u0_0 u0_1 u0_2 u0_3 u0_4 u0_5 u0_6 u0_12 u0_13 u0_14 u0_15 u0_18 u0_19 u0_20 u0_21 u0_22 u0_23 u0_24 u0_25 u0_26 u0_27 u0_28 u0_29 u0_30 u0_31 u0_32 u0_33 u0_34 u0_35 u0_36 u0_37 u0_38 u0_39 u0_40 v_length v_top v_at v_wrong v_isAsked nv_read v_read v_asked p1 r h
      have h : X11_expr_b2 (X11_expr n) v_length v_top v_at v_wrong v_isAsked nv_read v_read v_asked p1 = some r := h
      generalize X11_expr n = rec at ih0 ih1 ih2 ih3 h
      unfold X11_expr_b2 at h
      refine Ct.mk kX11_product (by decide +kernel) (Nat.le_of_ble_eq_true rfl) ?_
      intro p e s m below meth c A ls args R Q hRf hRl hQ E H locs hS hl
      have hx := E.x
      have hb := E.b
      have hl : lv_has ls 5 [(0, .ref q0), (1, .int p1)] := hl
      refine lv_aload_n hx hb dX11_product_0 rfl (lv_at hl 0 rfl) ?_
      refine lv_iload_n hx hb dX11_product_1 rfl (lv_at hl 1 rfl) ?_
      obtain ⟨y2, e1, h⟩ := bd_some h
      refine ct_V (ws' := fun _ => [oX11 q0 u0_0 u0_1 u0_2 u0_3 u0_4 u0_5 u0_6 (.ref q1) (.int v_length) (.int v_top) (.int y2.2.1) (.int y2.2.2) u0_12 u0_13 u0_14 u0_15 (.int v_isAsked) (.ref q2) u0_18 u0_19 u0_20 u0_21 u0_22 u0_23 u0_24 u0_25 u0_26 u0_27 u0_28 u0_29 u0_30 u0_31 u0_32 u0_33 u0_34 u0_35 u0_36 u0_37 u0_38 u0_39 u0_40, aB cy q1 nv_read v_read, aI cy q2 7 v_asked]) (st' := [.int y2.1]) (rest := []) E hS vlX11_170 (ih3 q0 q1 q2 u0_0 u0_1 u0_2 u0_3 u0_4 u0_5 u0_6 u0_12 u0_13 u0_14 u0_15 u0_18 u0_19 u0_20 u0_21 u0_22 u0_23 u0_24 u0_25 u0_26 u0_27 u0_28 u0_29 u0_30 u0_31 u0_32 u0_33 u0_34 u0_35 u0_36 u0_37 u0_38 u0_39 u0_40 v_length v_top v_at v_wrong v_isAsked nv_read v_read v_asked p1 y2 e1) [0, 1, 2] rfl rfl (fun _ => rfl) (fun _ => rfl) rfl rfl rfl rfl (Nat.le_of_ble_eq_true rfl) hl.1 (by rw [hRf]; omega) (by rw [hRl]; omega) ⟨Nat.zero_le _, Nat.zero_le _⟩ dX11_product_2 rfl (fun H locs _ hS => ?_)
      refine lv_istore_n (lv' := [(2, .int y2.1), (0, .ref q0), (1, .int p1)]) hx hb dX11_product_5 rfl hl (by decide) rfl (fun ls hl => ?_)
      have hL6 : ∀ (n : Nat) (x6 : Int32 × Int32 × Int32) (y6 : Int32 × Int32 × Int32) (H : Heap) (locs : List Loc) (ls : Array Slot), lp (fun x6 => X11_product_s6 rec v_length v_top v_isAsked nv_read v_read v_asked p1 x6) n x6 = some y6 → Sv D A s.heap [oX11 q0 u0_0 u0_1 u0_2 u0_3 u0_4 u0_5 u0_6 (.ref q1) (.int v_length) (.int v_top) (.int x6.2.1) (.int x6.2.2) u0_12 u0_13 u0_14 u0_15 (.int v_isAsked) (.ref q2) u0_18 u0_19 u0_20 u0_21 u0_22 u0_23 u0_24 u0_25 u0_26 u0_27 u0_28 u0_29 u0_30 u0_31 u0_32 u0_33 u0_34 u0_35 u0_36 u0_37 u0_38 u0_39 u0_40, aB cy q1 nv_read v_read, aI cy q2 7 v_asked] H locs → lv_has ls 5 [(0, .ref q0), (1, .int p1), (2, .int x6.1)] → (∀ (H : Heap) (locs : List Loc) (ls : Array Slot), Sv D A s.heap [oX11 q0 u0_0 u0_1 u0_2 u0_3 u0_4 u0_5 u0_6 (.ref q1) (.int v_length) (.int v_top) (.int y6.2.1) (.int y6.2.2) u0_12 u0_13 u0_14 u0_15 (.int v_isAsked) (.ref q2) u0_18 u0_19 u0_20 u0_21 u0_22 u0_23 u0_24 u0_25 u0_26 u0_27 u0_28 u0_29 u0_30 u0_31 u0_32 u0_33 u0_34 u0_35 u0_36 u0_37 u0_38 u0_39 u0_40, aB cy q1 nv_read v_read, aI cy q2 7 v_asked] H locs → lv_has ls 5 [(2, .int y6.1)] → W p l e R s m args below meth c H locs 0 0 Q (F0 m 91 ls [])) → W p l e R s m args below meth c H locs 0 0 Q (F0 m 6 ls []) := by
        intro n
        induction n with
        | zero =>
          intro x6 y6 H locs ls h
          exact lp_zero h
        | succ n ih6 =>
          intro x6 y6 H locs ls h hS hl hk6_0
          obtain ⟨z6, h, hz6a, hz6b⟩ := lp_succ h
          have h : X11_product_s6 rec v_length v_top v_isAsked nv_read v_read v_asked p1 x6 = some z6 := h
          unfold X11_product_s6 at h
          refine lv_aload_n hx hb dX11_product_6 rfl (lv_at hl 0 rfl) ?_
          refine ct_V (ws' := fun _ => [oX11 q0 u0_0 u0_1 u0_2 u0_3 u0_4 u0_5 u0_6 (.ref q1) (.int v_length) (.int v_top) (.int x6.2.1) (.int x6.2.2) u0_12 u0_13 u0_14 u0_15 (.int v_isAsked) (.ref q2) u0_18 u0_19 u0_20 u0_21 u0_22 u0_23 u0_24 u0_25 u0_26 u0_27 u0_28 u0_29 u0_30 u0_31 u0_32 u0_33 u0_34 u0_35 u0_36 u0_37 u0_38 u0_39 u0_40, aB cy q1 nv_read v_read, aI cy q2 7 v_asked]) (st' := [.int (X11_fine x6.2.2)]) (rest := []) E hS vlX11_125 (c_X11_fine (l := l) (D := D) (cy := cy) (q0 := q0) (u0_0 := u0_0) (u0_1 := u0_1) (u0_2 := u0_2) (u0_3 := u0_3) (u0_4 := u0_4) (u0_5 := u0_5) (u0_6 := u0_6) (u0_7 := .ref q1) (u0_8 := .int v_length) (u0_9 := .int v_top) (u0_10 := .int x6.2.1) (u0_12 := u0_12) (u0_13 := u0_13) (u0_14 := u0_14) (u0_15 := u0_15) (u0_16 := .int v_isAsked) (u0_17 := .ref q2) (u0_18 := u0_18) (u0_19 := u0_19) (u0_20 := u0_20) (u0_21 := u0_21) (u0_22 := u0_22) (u0_23 := u0_23) (u0_24 := u0_24) (u0_25 := u0_25) (u0_26 := u0_26) (u0_27 := u0_27) (u0_28 := u0_28) (u0_29 := u0_29) (u0_30 := u0_30) (u0_31 := u0_31) (u0_32 := u0_32) (u0_33 := u0_33) (u0_34 := u0_34) (u0_35 := u0_35) (u0_36 := u0_36) (u0_37 := u0_37) (u0_38 := u0_38) (u0_39 := u0_39) (u0_40 := u0_40) (v_wrong := x6.2.2) (r := (X11_fine x6.2.2)) rfl) [0] rfl rfl (fun _ => rfl) (fun _ => rfl) rfl rfl rfl rfl (Nat.le_of_ble_eq_true rfl) hl.1 (by rw [hRf]; omega) (by rw [hRl]; omega) ⟨Nat.zero_le _, Nat.zero_le _⟩ dX11_product_7 rfl (fun H locs _ hS => ?_)
          refine lv_if_eq (tgt := 91) hx hb dX11_product_10 (by decide) (fun c2 => ?_) (fun c2 => ?_)
          · have h := it_pos c2 h
            obtain rfl := hz6b _ (Option.some.inj h).symm
            exact hk6_0  H locs ls hS (lv_sub hl [2] rfl)
          · have h := it_neg c2 h
            refine lv_aload_n hx hb dX11_product_13 rfl (lv_at hl 0 rfl) ?_
            obtain ⟨y14, e3, h⟩ := bd_some h
            refine ct_V (ws' := fun _ => [oX11 q0 u0_0 u0_1 u0_2 u0_3 u0_4 u0_5 u0_6 (.ref q1) (.int v_length) (.int v_top) (.int x6.2.1) (.int x6.2.2) u0_12 u0_13 u0_14 u0_15 (.int v_isAsked) (.ref q2) u0_18 u0_19 u0_20 u0_21 u0_22 u0_23 u0_24 u0_25 u0_26 u0_27 u0_28 u0_29 u0_30 u0_31 u0_32 u0_33 u0_34 u0_35 u0_36 u0_37 u0_38 u0_39 u0_40, aB cy q1 nv_read v_read, aI cy q2 7 v_asked]) (st' := [.int y14]) (rest := []) E hS vlX11_129 (c_X11_here (l := l) (D := D) (cy := cy) (q0 := q0) (q1 := q1) (u0_0 := u0_0) (u0_1 := u0_1) (u0_2 := u0_2) (u0_3 := u0_3) (u0_4 := u0_4) (u0_5 := u0_5) (u0_6 := u0_6) (u0_11 := .int x6.2.2) (u0_12 := u0_12) (u0_13 := u0_13) (u0_14 := u0_14) (u0_15 := u0_15) (u0_16 := .int v_isAsked) (u0_17 := .ref q2) (u0_18 := u0_18) (u0_19 := u0_19) (u0_20 := u0_20) (u0_21 := u0_21) (u0_22 := u0_22) (u0_23 := u0_23) (u0_24 := u0_24) (u0_25 := u0_25) (u0_26 := u0_26) (u0_27 := u0_27) (u0_28 := u0_28) (u0_29 := u0_29) (u0_30 := u0_30) (u0_31 := u0_31) (u0_32 := u0_32) (u0_33 := u0_33) (u0_34 := u0_34) (u0_35 := u0_35) (u0_36 := u0_36) (u0_37 := u0_37) (u0_38 := u0_38) (u0_39 := u0_39) (u0_40 := u0_40) (v_length := v_length) (v_top := v_top) (v_at := x6.2.1) (nv_read := nv_read) (v_read := v_read) (r := y14) e3) [0, 1] rfl rfl (fun _ => rfl) (fun _ => rfl) rfl rfl rfl rfl (Nat.le_of_ble_eq_true rfl) hl.1 (by rw [hRf]; omega) (by rw [hRl]; omega) ⟨Nat.zero_le _, Nat.zero_le _⟩ dX11_product_14 rfl (fun H locs _ hS => ?_)
            refine lv_bipush (v := 42) hx hb dX11_product_17 (by decide) ?_
            have hJ31 : ∀ (H : Heap) (locs : List Loc) (ls : Array Slot), X11_product_k31 rec v_length v_top v_isAsked nv_read v_read v_asked p1 x6 = some z6 → Sv D A s.heap [oX11 q0 u0_0 u0_1 u0_2 u0_3 u0_4 u0_5 u0_6 (.ref q1) (.int v_length) (.int v_top) (.int x6.2.1) (.int x6.2.2) u0_12 u0_13 u0_14 u0_15 (.int v_isAsked) (.ref q2) u0_18 u0_19 u0_20 u0_21 u0_22 u0_23 u0_24 u0_25 u0_26 u0_27 u0_28 u0_29 u0_30 u0_31 u0_32 u0_33 u0_34 u0_35 u0_36 u0_37 u0_38 u0_39 u0_40, aB cy q1 nv_read v_read, aI cy q2 7 v_asked] H locs → lv_has ls 5 [(0, .ref q0), (1, .int p1), (2, .int x6.1)] → W p l e R s m args below meth c H locs 0 0 Q (F0 m 31 ls []) := by
              intro H locs ls h hS hl
              unfold X11_product_k31 at h
              refine lv_aload_n hx hb dX11_product_31 rfl (lv_at hl 0 rfl) ?_
              obtain ⟨y32, e4, h⟩ := bd_some h
              refine ct_V (ws' := fun _ => [oX11 q0 u0_0 u0_1 u0_2 u0_3 u0_4 u0_5 u0_6 (.ref q1) (.int v_length) (.int v_top) (.int x6.2.1) (.int x6.2.2) u0_12 u0_13 u0_14 u0_15 (.int v_isAsked) (.ref q2) u0_18 u0_19 u0_20 u0_21 u0_22 u0_23 u0_24 u0_25 u0_26 u0_27 u0_28 u0_29 u0_30 u0_31 u0_32 u0_33 u0_34 u0_35 u0_36 u0_37 u0_38 u0_39 u0_40, aB cy q1 nv_read v_read, aI cy q2 7 v_asked]) (st' := [.int y32]) (rest := []) E hS vlX11_129 (c_X11_here (l := l) (D := D) (cy := cy) (q0 := q0) (q1 := q1) (u0_0 := u0_0) (u0_1 := u0_1) (u0_2 := u0_2) (u0_3 := u0_3) (u0_4 := u0_4) (u0_5 := u0_5) (u0_6 := u0_6) (u0_11 := .int x6.2.2) (u0_12 := u0_12) (u0_13 := u0_13) (u0_14 := u0_14) (u0_15 := u0_15) (u0_16 := .int v_isAsked) (u0_17 := .ref q2) (u0_18 := u0_18) (u0_19 := u0_19) (u0_20 := u0_20) (u0_21 := u0_21) (u0_22 := u0_22) (u0_23 := u0_23) (u0_24 := u0_24) (u0_25 := u0_25) (u0_26 := u0_26) (u0_27 := u0_27) (u0_28 := u0_28) (u0_29 := u0_29) (u0_30 := u0_30) (u0_31 := u0_31) (u0_32 := u0_32) (u0_33 := u0_33) (u0_34 := u0_34) (u0_35 := u0_35) (u0_36 := u0_36) (u0_37 := u0_37) (u0_38 := u0_38) (u0_39 := u0_39) (u0_40 := u0_40) (v_length := v_length) (v_top := v_top) (v_at := x6.2.1) (nv_read := nv_read) (v_read := v_read) (r := y32) e4) [0, 1] rfl rfl (fun _ => rfl) (fun _ => rfl) rfl rfl rfl rfl (Nat.le_of_ble_eq_true rfl) hl.1 (by rw [hRf]; omega) (by rw [hRl]; omega) ⟨Nat.zero_le _, Nat.zero_le _⟩ dX11_product_32 rfl (fun H locs _ hS => ?_)
              refine lv_bipush (v := 42) hx hb dX11_product_35 (by decide) ?_
              have hJ45 : ∀ (s45_0 : Int32) (ls : Array Slot), s45_0 = (if y32 = (42 : Int32) then (1 : Int32) else (0 : Int32)) → lv_has ls 5 [(0, .ref q0), (1, .int p1), (2, .int x6.1)] → W p l e R s m args below meth c H locs 0 0 Q (F0 m 45 ls [.int s45_0]) := by
                intro s45_0 ls es45_0 hl
                subst es45_0
                refine lv_istore_n (lv' := [(3, .int (if y32 = (42 : Int32) then (1 : Int32) else (0 : Int32))), (0, .ref q0), (1, .int p1), (2, .int x6.1)]) hx hb dX11_product_45 rfl hl (by decide) rfl (fun ls hl => ?_)
                refine lv_aload_n hx hb dX11_product_46 rfl (lv_at hl 1 rfl) ?_
                refine lv_dup hx hb dX11_product_47 rfl ?_
                refine r_get E frX11_115 hS 0 rfl rfl dX11_product_48 ?_
                refine lv_iconst (v := 1) hx hb dX11_product_51 (by decide) ?_
                refine lv_iadd hx hb dX11_product_52 ?_
                refine r_put (ws' := [oX11 q0 u0_0 u0_1 u0_2 u0_3 u0_4 u0_5 u0_6 (.ref q1) (.int v_length) (.int v_top) (.int (x6.2.1 + (1 : Int32))) (.int x6.2.2) u0_12 u0_13 u0_14 u0_15 (.int v_isAsked) (.ref q2) u0_18 u0_19 u0_20 u0_21 u0_22 u0_23 u0_24 u0_25 u0_26 u0_27 u0_28 u0_29 u0_30 u0_31 u0_32 u0_33 u0_34 u0_35 u0_36 u0_37 u0_38 u0_39 u0_40, aB cy q1 nv_read v_read, aI cy q2 7 v_asked]) E frX11_115 hS 0 rfl (Nat.le_of_ble_eq_true rfl) rfl rfl rfl rfl dX11_product_53 (fun H locs hS => ?_)
                refine lv_aload_n hx hb dX11_product_56 rfl (lv_at hl 1 rfl) ?_
                refine lv_iload_n hx hb dX11_product_57 rfl (lv_at hl 2 rfl) ?_
                obtain ⟨y58, e5, h⟩ := bd_some h
                refine ct_V (ws' := fun _ => [oX11 q0 u0_0 u0_1 u0_2 u0_3 u0_4 u0_5 u0_6 (.ref q1) (.int v_length) (.int v_top) (.int y58.2.1) (.int y58.2.2) u0_12 u0_13 u0_14 u0_15 (.int v_isAsked) (.ref q2) u0_18 u0_19 u0_20 u0_21 u0_22 u0_23 u0_24 u0_25 u0_26 u0_27 u0_28 u0_29 u0_30 u0_31 u0_32 u0_33 u0_34 u0_35 u0_36 u0_37 u0_38 u0_39 u0_40, aB cy q1 nv_read v_read, aI cy q2 7 v_asked]) (st' := [.int y58.1]) (rest := []) E hS vlX11_170 (ih3 q0 q1 q2 u0_0 u0_1 u0_2 u0_3 u0_4 u0_5 u0_6 u0_12 u0_13 u0_14 u0_15 u0_18 u0_19 u0_20 u0_21 u0_22 u0_23 u0_24 u0_25 u0_26 u0_27 u0_28 u0_29 u0_30 u0_31 u0_32 u0_33 u0_34 u0_35 u0_36 u0_37 u0_38 u0_39 u0_40 v_length v_top (x6.2.1 + (1 : Int32)) x6.2.2 v_isAsked nv_read v_read v_asked p1 y58 e5) [0, 1, 2] rfl rfl (fun _ => rfl) (fun _ => rfl) rfl rfl rfl rfl (Nat.le_of_ble_eq_true rfl) hl.1 (by rw [hRf]; omega) (by rw [hRl]; omega) ⟨Nat.zero_le _, Nat.zero_le _⟩ dX11_product_58 rfl (fun H locs _ hS => ?_)
                refine lv_istore (lv' := [(4, .int y58.1), (3, .int (if y32 = (42 : Int32) then (1 : Int32) else (0 : Int32))), (0, .ref q0), (1, .int p1), (2, .int x6.1)]) hx hb dX11_product_61 hl (by decide) rfl (fun ls hl => ?_)
                refine lv_iload_n hx hb dX11_product_63 rfl (lv_at hl 1 rfl) ?_
                refine lv_if_eq (tgt := 74) hx hb dX11_product_64 (by decide) (fun c6 => ?_) (fun c6 => ?_)
                · have h := it_pos c6 h
                  refine lv_iload hx hb dX11_product_74 (lv_at hl 0 rfl) ?_
                  refine lv_if_ne (tgt := 83) hx hb dX11_product_76 (by decide) (fun c7 => ?_) (fun c7 => ?_)
                  · have h := it_neg c7 h
                    refine lv_iload_n hx hb dX11_product_83 rfl (lv_at hl 4 rfl) ?_
                    refine lv_iload hx hb dX11_product_84 (lv_at hl 0 rfl) ?_
                    obtain ⟨g8, h⟩ := gz_some h
                    refine lv_idiv hx hb dX11_product_86 g8 ?_
                    refine lv_istore_n (lv' := [(2, .int (x6.1 / y58.1)), (4, .int y58.1), (3, .int (if y32 = (42 : Int32) then (1 : Int32) else (0 : Int32))), (0, .ref q0), (1, .int p1)]) hx hb dX11_product_87 rfl hl (by decide) rfl (fun ls hl => ?_)
                    refine lv_goto (tgt := 6) hx hb dX11_product_88 (by decide) ?_
                    exact ih6 ((x6.1 / y58.1), y58.2.1, y58.2.2) y6  H locs ls (hz6a _ (Option.some.inj h).symm) hS (lv_sub hl [3, 4, 0] rfl) hk6_0
                  · have h := it_pos c7 h
                    refine lv_iconst (v := 0) hx hb dX11_product_79 (by decide) ?_
                    refine lv_goto (tgt := 87) hx hb dX11_product_80 (by decide) ?_
                    refine lv_istore_n (lv' := [(2, .int (0 : Int32)), (4, .int y58.1), (3, .int (if y32 = (42 : Int32) then (1 : Int32) else (0 : Int32))), (0, .ref q0), (1, .int p1)]) hx hb dX11_product_87 rfl hl (by decide) rfl (fun ls hl => ?_)
                    refine lv_goto (tgt := 6) hx hb dX11_product_88 (by decide) ?_
                    exact ih6 ((0 : Int32), y58.2.1, y58.2.2) y6  H locs ls (hz6a _ (Option.some.inj h).symm) hS (lv_sub hl [3, 4, 0] rfl) hk6_0
                · have h := it_neg c6 h
                  refine lv_iload_n hx hb dX11_product_67 rfl (lv_at hl 4 rfl) ?_
                  refine lv_iload hx hb dX11_product_68 (lv_at hl 0 rfl) ?_
                  refine lv_imul hx hb dX11_product_70 ?_
                  refine lv_goto (tgt := 87) hx hb dX11_product_71 (by decide) ?_
                  refine lv_istore_n (lv' := [(2, .int (x6.1 * y58.1)), (4, .int y58.1), (3, .int (if y32 = (42 : Int32) then (1 : Int32) else (0 : Int32))), (0, .ref q0), (1, .int p1)]) hx hb dX11_product_87 rfl hl (by decide) rfl (fun ls hl => ?_)
                  refine lv_goto (tgt := 6) hx hb dX11_product_88 (by decide) ?_
                  exact ih6 ((x6.1 * y58.1), y58.2.1, y58.2.2) y6  H locs ls (hz6a _ (Option.some.inj h).symm) hS (lv_sub hl [3, 4, 0] rfl) hk6_0
              refine lv_icmp_ne (tgt := 44) hx hb dX11_product_37 (by decide) (fun c9 => ?_) (fun c9 => ?_)
              · refine lv_iconst (v := 0) hx hb dX11_product_44 (by decide) ?_
                exact hJ45 _ ls ((if_neg c9)).symm (lv_sub hl [0, 1, 2] rfl)
              · refine lv_iconst (v := 1) hx hb dX11_product_40 (by decide) ?_
                refine lv_goto (tgt := 45) hx hb dX11_product_41 (by decide) ?_
                exact hJ45 _ ls ((if_pos c9)).symm (lv_sub hl [0, 1, 2] rfl)
            refine lv_icmp_eq (tgt := 31) hx hb dX11_product_19 (by decide) (fun c10 => ?_) (fun c10 => ?_)
            · have h := it_pos c10 h
              exact hJ31   H locs ls h hS (lv_sub hl [0, 1, 2] rfl)
            · have h := it_neg c10 h
              refine lv_aload_n hx hb dX11_product_22 rfl (lv_at hl 0 rfl) ?_
              obtain ⟨y23, e11, h⟩ := bd_some h
              refine ct_V (ws' := fun _ => [oX11 q0 u0_0 u0_1 u0_2 u0_3 u0_4 u0_5 u0_6 (.ref q1) (.int v_length) (.int v_top) (.int x6.2.1) (.int x6.2.2) u0_12 u0_13 u0_14 u0_15 (.int v_isAsked) (.ref q2) u0_18 u0_19 u0_20 u0_21 u0_22 u0_23 u0_24 u0_25 u0_26 u0_27 u0_28 u0_29 u0_30 u0_31 u0_32 u0_33 u0_34 u0_35 u0_36 u0_37 u0_38 u0_39 u0_40, aB cy q1 nv_read v_read, aI cy q2 7 v_asked]) (st' := [.int y23]) (rest := []) E hS vlX11_129 (c_X11_here (l := l) (D := D) (cy := cy) (q0 := q0) (q1 := q1) (u0_0 := u0_0) (u0_1 := u0_1) (u0_2 := u0_2) (u0_3 := u0_3) (u0_4 := u0_4) (u0_5 := u0_5) (u0_6 := u0_6) (u0_11 := .int x6.2.2) (u0_12 := u0_12) (u0_13 := u0_13) (u0_14 := u0_14) (u0_15 := u0_15) (u0_16 := .int v_isAsked) (u0_17 := .ref q2) (u0_18 := u0_18) (u0_19 := u0_19) (u0_20 := u0_20) (u0_21 := u0_21) (u0_22 := u0_22) (u0_23 := u0_23) (u0_24 := u0_24) (u0_25 := u0_25) (u0_26 := u0_26) (u0_27 := u0_27) (u0_28 := u0_28) (u0_29 := u0_29) (u0_30 := u0_30) (u0_31 := u0_31) (u0_32 := u0_32) (u0_33 := u0_33) (u0_34 := u0_34) (u0_35 := u0_35) (u0_36 := u0_36) (u0_37 := u0_37) (u0_38 := u0_38) (u0_39 := u0_39) (u0_40 := u0_40) (v_length := v_length) (v_top := v_top) (v_at := x6.2.1) (nv_read := nv_read) (v_read := v_read) (r := y23) e11) [0, 1] rfl rfl (fun _ => rfl) (fun _ => rfl) rfl rfl rfl rfl (Nat.le_of_ble_eq_true rfl) hl.1 (by rw [hRf]; omega) (by rw [hRl]; omega) ⟨Nat.zero_le _, Nat.zero_le _⟩ dX11_product_23 rfl (fun H locs _ hS => ?_)
              refine lv_bipush (v := 47) hx hb dX11_product_26 (by decide) ?_
              refine lv_icmp_ne (tgt := 91) hx hb dX11_product_28 (by decide) (fun c12 => ?_) (fun c12 => ?_)
              · have h := it_neg c12 h
                obtain rfl := hz6b _ (Option.some.inj h).symm
                exact hk6_0  H locs ls hS (lv_sub hl [2] rfl)
              · have h := it_pos c12 h
                exact hJ31   H locs ls h hS (lv_sub hl [0, 1, 2] rfl)
      obtain ⟨y6, e6, h⟩ := bd_some h
      refine hL6 1000 (y2.1, y2.2.1, y2.2.2) y6  H locs ls e6 hS (lv_sub hl [1, 2, 0] rfl) (fun H locs ls hS hl => ?_)
      refine lv_iload_n hx hb dX11_product_91 rfl (lv_at hl 0 rfl) ?_
      obtain rfl := Option.some.inj h
      exact rt_i E hQ (.null) hS dX11_product_92
    · intro q0 q1 q2 u0_0 u0_1 u0_2 u0_3 u0_4 u0_5 u0_6 u0_12 u0_13 u0_14 u0_15 u0_18 u0_19 u0_20 u0_21 u0_22 u0_23 u0_24 u0_25 u0_26 u0_27 u0_28 u0_29 u0_30 u0_31 u0_32 u0_33 u0_34 u0_35 u0_36 u0_37 u0_38 u0_39 u0_40 v_length v_top v_at v_wrong v_isAsked nv_read v_read v_asked p1 r h
      have h : X11_expr_b3 (X11_expr n) v_length v_top v_at v_wrong v_isAsked nv_read v_read v_asked p1 = some r := h
      generalize X11_expr n = rec at ih0 ih1 ih2 ih3 h
      unfold X11_expr_b3 at h
      refine Ct.mk kX11_thing (by decide +kernel) (Nat.le_of_ble_eq_true rfl) ?_
      intro p e s m below meth c A ls args R Q hRf hRl hQ E H locs hS hl
      have hx := E.x
      have hb := E.b
      have hl : lv_has ls 4 [(0, .ref q0), (1, .int p1)] := hl
      refine lv_aload_n hx hb dX11_thing_0 rfl (lv_at hl 0 rfl) ?_
      refine lv_bipush (v := 45) hx hb dX11_thing_1 (by decide) ?_
      obtain ⟨y3, e1, h⟩ := bd_some h
      refine ct_V (ws' := fun _ => [oX11 q0 u0_0 u0_1 u0_2 u0_3 u0_4 u0_5 u0_6 (.ref q1) (.int v_length) (.int v_top) (.int y3.2) (.int v_wrong) u0_12 u0_13 u0_14 u0_15 (.int v_isAsked) (.ref q2) u0_18 u0_19 u0_20 u0_21 u0_22 u0_23 u0_24 u0_25 u0_26 u0_27 u0_28 u0_29 u0_30 u0_31 u0_32 u0_33 u0_34 u0_35 u0_36 u0_37 u0_38 u0_39 u0_40, aB cy q1 nv_read v_read, aI cy q2 7 v_asked]) (st' := [.int y3.1]) (rest := []) E hS vlX11_133 (c_X11_passes (l := l) (D := D) (cy := cy) (q0 := q0) (q1 := q1) (u0_0 := u0_0) (u0_1 := u0_1) (u0_2 := u0_2) (u0_3 := u0_3) (u0_4 := u0_4) (u0_5 := u0_5) (u0_6 := u0_6) (u0_12 := u0_12) (u0_13 := u0_13) (u0_14 := u0_14) (u0_15 := u0_15) (u0_16 := .int v_isAsked) (u0_17 := .ref q2) (u0_18 := u0_18) (u0_19 := u0_19) (u0_20 := u0_20) (u0_21 := u0_21) (u0_22 := u0_22) (u0_23 := u0_23) (u0_24 := u0_24) (u0_25 := u0_25) (u0_26 := u0_26) (u0_27 := u0_27) (u0_28 := u0_28) (u0_29 := u0_29) (u0_30 := u0_30) (u0_31 := u0_31) (u0_32 := u0_32) (u0_33 := u0_33) (u0_34 := u0_34) (u0_35 := u0_35) (u0_36 := u0_36) (u0_37 := u0_37) (u0_38 := u0_38) (u0_39 := u0_39) (u0_40 := u0_40) (v_length := v_length) (v_top := v_top) (v_at := v_at) (v_wrong := v_wrong) (nv_read := nv_read) (v_read := v_read) (p1 := (45 : Int32)) (r := y3) e1) [0, 1] rfl rfl (fun _ => rfl) (fun _ => rfl) rfl rfl rfl rfl (Nat.le_of_ble_eq_true rfl) hl.1 (by rw [hRf]; omega) (by rw [hRl]; omega) ⟨Nat.zero_le _, Nat.zero_le _⟩ dX11_thing_3 rfl (fun H locs _ hS => ?_)
      refine lv_if_eq (tgt := 16) hx hb dX11_thing_6 (by decide) (fun c2 => ?_) (fun c2 => ?_)
      · have h := it_pos c2 h
        refine lv_aload_n hx hb dX11_thing_16 rfl (lv_at hl 0 rfl) ?_
        refine ct_V (ws' := fun _ => [oX11 q0 u0_0 u0_1 u0_2 u0_3 u0_4 u0_5 u0_6 (.ref q1) (.int v_length) (.int v_top) (.int y3.2) (.int v_wrong) u0_12 u0_13 u0_14 u0_15 (.int v_isAsked) (.ref q2) u0_18 u0_19 u0_20 u0_21 u0_22 u0_23 u0_24 u0_25 u0_26 u0_27 u0_28 u0_29 u0_30 u0_31 u0_32 u0_33 u0_34 u0_35 u0_36 u0_37 u0_38 u0_39 u0_40, aB cy q1 nv_read v_read, aI cy q2 7 v_asked]) (st' := [.int (X11_fine v_wrong)]) (rest := []) E hS vlX11_125 (c_X11_fine (l := l) (D := D) (cy := cy) (q0 := q0) (u0_0 := u0_0) (u0_1 := u0_1) (u0_2 := u0_2) (u0_3 := u0_3) (u0_4 := u0_4) (u0_5 := u0_5) (u0_6 := u0_6) (u0_7 := .ref q1) (u0_8 := .int v_length) (u0_9 := .int v_top) (u0_10 := .int y3.2) (u0_12 := u0_12) (u0_13 := u0_13) (u0_14 := u0_14) (u0_15 := u0_15) (u0_16 := .int v_isAsked) (u0_17 := .ref q2) (u0_18 := u0_18) (u0_19 := u0_19) (u0_20 := u0_20) (u0_21 := u0_21) (u0_22 := u0_22) (u0_23 := u0_23) (u0_24 := u0_24) (u0_25 := u0_25) (u0_26 := u0_26) (u0_27 := u0_27) (u0_28 := u0_28) (u0_29 := u0_29) (u0_30 := u0_30) (u0_31 := u0_31) (u0_32 := u0_32) (u0_33 := u0_33) (u0_34 := u0_34) (u0_35 := u0_35) (u0_36 := u0_36) (u0_37 := u0_37) (u0_38 := u0_38) (u0_39 := u0_39) (u0_40 := u0_40) (v_wrong := v_wrong) (r := (X11_fine v_wrong)) rfl) [0] rfl rfl (fun _ => rfl) (fun _ => rfl) rfl rfl rfl rfl (Nat.le_of_ble_eq_true rfl) hl.1 (by rw [hRf]; omega) (by rw [hRl]; omega) ⟨Nat.zero_le _, Nat.zero_le _⟩ dX11_thing_17 rfl (fun H locs _ hS => ?_)
        refine lv_if_ne (tgt := 25) hx hb dX11_thing_20 (by decide) (fun c3 => ?_) (fun c3 => ?_)
        · have h := it_neg c3 h
          refine lv_aload_n hx hb dX11_thing_25 rfl (lv_at hl 0 rfl) ?_
          obtain ⟨y26, e4, h⟩ := bd_some h
          refine ct_V (ws' := fun _ => [oX11 q0 u0_0 u0_1 u0_2 u0_3 u0_4 u0_5 u0_6 (.ref q1) (.int v_length) (.int v_top) (.int y3.2) (.int v_wrong) u0_12 u0_13 u0_14 u0_15 (.int v_isAsked) (.ref q2) u0_18 u0_19 u0_20 u0_21 u0_22 u0_23 u0_24 u0_25 u0_26 u0_27 u0_28 u0_29 u0_30 u0_31 u0_32 u0_33 u0_34 u0_35 u0_36 u0_37 u0_38 u0_39 u0_40, aB cy q1 nv_read v_read, aI cy q2 7 v_asked]) (st' := [.int y26]) (rest := []) E hS vlX11_129 (c_X11_here (l := l) (D := D) (cy := cy) (q0 := q0) (q1 := q1) (u0_0 := u0_0) (u0_1 := u0_1) (u0_2 := u0_2) (u0_3 := u0_3) (u0_4 := u0_4) (u0_5 := u0_5) (u0_6 := u0_6) (u0_11 := .int v_wrong) (u0_12 := u0_12) (u0_13 := u0_13) (u0_14 := u0_14) (u0_15 := u0_15) (u0_16 := .int v_isAsked) (u0_17 := .ref q2) (u0_18 := u0_18) (u0_19 := u0_19) (u0_20 := u0_20) (u0_21 := u0_21) (u0_22 := u0_22) (u0_23 := u0_23) (u0_24 := u0_24) (u0_25 := u0_25) (u0_26 := u0_26) (u0_27 := u0_27) (u0_28 := u0_28) (u0_29 := u0_29) (u0_30 := u0_30) (u0_31 := u0_31) (u0_32 := u0_32) (u0_33 := u0_33) (u0_34 := u0_34) (u0_35 := u0_35) (u0_36 := u0_36) (u0_37 := u0_37) (u0_38 := u0_38) (u0_39 := u0_39) (u0_40 := u0_40) (v_length := v_length) (v_top := v_top) (v_at := y3.2) (nv_read := nv_read) (v_read := v_read) (r := y26) e4) [0, 1] rfl rfl (fun _ => rfl) (fun _ => rfl) rfl rfl rfl rfl (Nat.le_of_ble_eq_true rfl) hl.1 (by rw [hRf]; omega) (by rw [hRl]; omega) ⟨Nat.zero_le _, Nat.zero_le _⟩ dX11_thing_26 rfl (fun H locs _ hS => ?_)
          refine lv_istore_n (lv' := [(2, .int y26), (0, .ref q0), (1, .int p1)]) hx hb dX11_thing_29 rfl hl (by decide) rfl (fun ls hl => ?_)
          refine lv_iload_n hx hb dX11_thing_30 rfl (lv_at hl 0 rfl) ?_
          refine lv_bipush (v := 40) hx hb dX11_thing_31 (by decide) ?_
          have hJ67 : ∀ (H : Heap) (locs : List Loc) (ls : Array Slot), X11_thing_k67 v_length v_top v_wrong v_isAsked nv_read v_read v_asked y3 y26 = some r → Sv D A s.heap [oX11 q0 u0_0 u0_1 u0_2 u0_3 u0_4 u0_5 u0_6 (.ref q1) (.int v_length) (.int v_top) (.int y3.2) (.int v_wrong) u0_12 u0_13 u0_14 u0_15 (.int v_isAsked) (.ref q2) u0_18 u0_19 u0_20 u0_21 u0_22 u0_23 u0_24 u0_25 u0_26 u0_27 u0_28 u0_29 u0_30 u0_31 u0_32 u0_33 u0_34 u0_35 u0_36 u0_37 u0_38 u0_39 u0_40, aB cy q1 nv_read v_read, aI cy q2 7 v_asked] H locs → lv_has ls 4 [(0, .ref q0), (2, .int y26)] → W p l e R s m args below meth c H locs 0 0 Q (F0 m 67 ls []) := by
            intro H locs ls h hS hl
            unfold X11_thing_k67 at h
            refine lv_iload_n hx hb dX11_thing_67 rfl (lv_at hl 1 rfl) ?_
            refine lv_bipush (v := 48) hx hb dX11_thing_68 (by decide) ?_
            refine lv_bipush (v := 57) hx hb dX11_thing_70 (by decide) ?_
            refine ct_S (ws' := fun _ => [oX11 q0 u0_0 u0_1 u0_2 u0_3 u0_4 u0_5 u0_6 (.ref q1) (.int v_length) (.int v_top) (.int y3.2) (.int v_wrong) u0_12 u0_13 u0_14 u0_15 (.int v_isAsked) (.ref q2) u0_18 u0_19 u0_20 u0_21 u0_22 u0_23 u0_24 u0_25 u0_26 u0_27 u0_28 u0_29 u0_30 u0_31 u0_32 u0_33 u0_34 u0_35 u0_36 u0_37 u0_38 u0_39 u0_40, aB cy q1 nv_read v_read, aI cy q2 7 v_asked]) (st' := [.int (X11_in y26 (48 : Int32) (57 : Int32))]) (rest := []) E hS slX11_95 (c_X11_in (l := l) (D := D) (cy := cy) (p0 := y26) (p1 := (48 : Int32)) (p2 := (57 : Int32)) (r := (X11_in y26 (48 : Int32) (57 : Int32))) rfl) [] rfl rfl (fun _ => rfl) (fun _ => rfl) rfl rfl (Nat.le_of_ble_eq_true rfl) hl.1 (by rw [hRf]; omega) (by rw [hRl]; omega) ⟨Nat.zero_le _, Nat.zero_le _⟩ dX11_thing_72 rfl (fun H locs _ hS => ?_)
            refine lv_if_eq (tgt := 84) hx hb dX11_thing_75 (by decide) (fun c5 => ?_) (fun c5 => ?_)
            · have h := it_pos c5 h
              refine lv_iload_n hx hb dX11_thing_84 rfl (lv_at hl 1 rfl) ?_
              refine ct_S (ws' := fun _ => [oX11 q0 u0_0 u0_1 u0_2 u0_3 u0_4 u0_5 u0_6 (.ref q1) (.int v_length) (.int v_top) (.int y3.2) (.int v_wrong) u0_12 u0_13 u0_14 u0_15 (.int v_isAsked) (.ref q2) u0_18 u0_19 u0_20 u0_21 u0_22 u0_23 u0_24 u0_25 u0_26 u0_27 u0_28 u0_29 u0_30 u0_31 u0_32 u0_33 u0_34 u0_35 u0_36 u0_37 u0_38 u0_39 u0_40, aB cy q1 nv_read v_read, aI cy q2 7 v_asked]) (st' := [.int (X11_letterOf y26)]) (rest := []) E hS slX11_183 (c_X11_letterOf (l := l) (D := D) (cy := cy) (p0 := y26) (r := (X11_letterOf y26)) rfl) [] rfl rfl (fun _ => rfl) (fun _ => rfl) rfl rfl (Nat.le_of_ble_eq_true rfl) hl.1 (by rw [hRf]; omega) (by rw [hRl]; omega) ⟨Nat.zero_le _, Nat.zero_le _⟩ dX11_thing_85 rfl (fun H locs _ hS => ?_)
              refine lv_iconst (v := -1) hx hb dX11_thing_88 (by decide) ?_
              refine lv_icmp_ne (tgt := 102) hx hb dX11_thing_89 (by decide) (fun c6 => ?_) (fun c6 => ?_)
              · have h := it_neg c6 h
                refine lv_aload_n hx hb dX11_thing_102 rfl (lv_at hl 0 rfl) ?_
                refine lv_dup hx hb dX11_thing_103 rfl ?_
                refine r_get E frX11_115 hS 0 rfl rfl dX11_thing_104 ?_
                refine lv_iconst (v := 1) hx hb dX11_thing_107 (by decide) ?_
                refine lv_iadd hx hb dX11_thing_108 ?_
                refine r_put (ws' := [oX11 q0 u0_0 u0_1 u0_2 u0_3 u0_4 u0_5 u0_6 (.ref q1) (.int v_length) (.int v_top) (.int (y3.2 + (1 : Int32))) (.int v_wrong) u0_12 u0_13 u0_14 u0_15 (.int v_isAsked) (.ref q2) u0_18 u0_19 u0_20 u0_21 u0_22 u0_23 u0_24 u0_25 u0_26 u0_27 u0_28 u0_29 u0_30 u0_31 u0_32 u0_33 u0_34 u0_35 u0_36 u0_37 u0_38 u0_39 u0_40, aB cy q1 nv_read v_read, aI cy q2 7 v_asked]) E frX11_115 hS 0 rfl (Nat.le_of_ble_eq_true rfl) rfl rfl rfl rfl dX11_thing_109 (fun H locs hS => ?_)
                refine lv_aload_n hx hb dX11_thing_112 rfl (lv_at hl 0 rfl) ?_
                refine r_get E frX11_186 hS 0 rfl rfl dX11_thing_113 ?_
                refine lv_if_eq (tgt := 131) hx hb dX11_thing_116 (by decide) (fun c7 => ?_) (fun c7 => ?_)
                · have h := it_pos c7 h
                  refine lv_iconst (v := 0) hx hb dX11_thing_131 (by decide) ?_
                  obtain rfl := Option.some.inj h
                  exact rt_i E hQ (.null) hS dX11_thing_132
                · have h := it_neg c7 h
                  refine lv_aload_n hx hb dX11_thing_119 rfl (lv_at hl 0 rfl) ?_
                  refine r_get E frX11_30 hS 0 rfl rfl dX11_thing_120 ?_
                  refine lv_iload_n hx hb dX11_thing_123 rfl (lv_at hl 1 rfl) ?_
                  refine ct_S (ws' := fun _ => [oX11 q0 u0_0 u0_1 u0_2 u0_3 u0_4 u0_5 u0_6 (.ref q1) (.int v_length) (.int v_top) (.int (y3.2 + (1 : Int32))) (.int v_wrong) u0_12 u0_13 u0_14 u0_15 (.int v_isAsked) (.ref q2) u0_18 u0_19 u0_20 u0_21 u0_22 u0_23 u0_24 u0_25 u0_26 u0_27 u0_28 u0_29 u0_30 u0_31 u0_32 u0_33 u0_34 u0_35 u0_36 u0_37 u0_38 u0_39 u0_40, aB cy q1 nv_read v_read, aI cy q2 7 v_asked]) (st' := [.int (X11_letterOf y26), .ref q2]) (rest := [.ref q2]) E hS slX11_183 (c_X11_letterOf (l := l) (D := D) (cy := cy) (p0 := y26) (r := (X11_letterOf y26)) rfl) [] rfl rfl (fun _ => rfl) (fun _ => rfl) rfl rfl (Nat.le_of_ble_eq_true rfl) hl.1 (by rw [hRf]; omega) (by rw [hRl]; omega) ⟨Nat.zero_le _, Nat.zero_le _⟩ dX11_thing_124 rfl (fun H locs _ hS => ?_)
                  obtain ⟨g8, h⟩ := gi_some h
                  refine r_iald E hS 2 rfl g8 dX11_thing_127 ?_
                  refine lv_goto (tgt := 132) hx hb dX11_thing_128 (by decide) ?_
                  obtain rfl := Option.some.inj h
                  exact rt_i E hQ (.null) hS dX11_thing_132
              · have h := it_pos c6 h
                refine lv_aload_n hx hb dX11_thing_92 rfl (lv_at hl 0 rfl) ?_
                refine lv_aload_n hx hb dX11_thing_93 rfl (lv_at hl 0 rfl) ?_
                refine r_get E frX11_115 hS 0 rfl rfl dX11_thing_94 ?_
                refine ct_V (ws' := fun _ => [oX11 q0 u0_0 u0_1 u0_2 u0_3 u0_4 u0_5 u0_6 (.ref q1) (.int v_length) (.int v_top) (.int y3.2) (.int (X11_fault v_wrong y3.2)) u0_12 u0_13 u0_14 u0_15 (.int v_isAsked) (.ref q2) u0_18 u0_19 u0_20 u0_21 u0_22 u0_23 u0_24 u0_25 u0_26 u0_27 u0_28 u0_29 u0_30 u0_31 u0_32 u0_33 u0_34 u0_35 u0_36 u0_37 u0_38 u0_39 u0_40, aB cy q1 nv_read v_read, aI cy q2 7 v_asked]) (st' := []) (rest := []) E hS vlX11_137 (c_X11_fault (l := l) (D := D) (cy := cy) (q0 := q0) (u0_0 := u0_0) (u0_1 := u0_1) (u0_2 := u0_2) (u0_3 := u0_3) (u0_4 := u0_4) (u0_5 := u0_5) (u0_6 := u0_6) (u0_7 := .ref q1) (u0_8 := .int v_length) (u0_9 := .int v_top) (u0_10 := .int y3.2) (u0_12 := u0_12) (u0_13 := u0_13) (u0_14 := u0_14) (u0_15 := u0_15) (u0_16 := .int v_isAsked) (u0_17 := .ref q2) (u0_18 := u0_18) (u0_19 := u0_19) (u0_20 := u0_20) (u0_21 := u0_21) (u0_22 := u0_22) (u0_23 := u0_23) (u0_24 := u0_24) (u0_25 := u0_25) (u0_26 := u0_26) (u0_27 := u0_27) (u0_28 := u0_28) (u0_29 := u0_29) (u0_30 := u0_30) (u0_31 := u0_31) (u0_32 := u0_32) (u0_33 := u0_33) (u0_34 := u0_34) (u0_35 := u0_35) (u0_36 := u0_36) (u0_37 := u0_37) (u0_38 := u0_38) (u0_39 := u0_39) (u0_40 := u0_40) (v_wrong := v_wrong) (p1 := y3.2) (r := (X11_fault v_wrong y3.2)) rfl) [0] rfl rfl (fun _ => rfl) (fun _ => rfl) rfl rfl rfl rfl (Nat.le_of_ble_eq_true rfl) hl.1 (by rw [hRf]; omega) (by rw [hRl]; omega) ⟨Nat.zero_le _, Nat.zero_le _⟩ dX11_thing_97 rfl (fun H locs _ hS => ?_)
                refine lv_iconst (v := 0) hx hb dX11_thing_100 (by decide) ?_
                obtain rfl := Option.some.inj h
                exact rt_i E hQ (.null) hS dX11_thing_101
            · have h := it_neg c5 h
              refine lv_aload_n hx hb dX11_thing_78 rfl (lv_at hl 0 rfl) ?_
              refine lv_iconst (v := 3) hx hb dX11_thing_79 (by decide) ?_
              obtain ⟨y80, e9, h⟩ := bd_some h
              refine ct_V (ws' := fun _ => [oX11 q0 u0_0 u0_1 u0_2 u0_3 u0_4 u0_5 u0_6 (.ref q1) (.int v_length) (.int v_top) (.int y80.2.1) (.int y80.2.2) u0_12 u0_13 u0_14 u0_15 (.int v_isAsked) (.ref q2) u0_18 u0_19 u0_20 u0_21 u0_22 u0_23 u0_24 u0_25 u0_26 u0_27 u0_28 u0_29 u0_30 u0_31 u0_32 u0_33 u0_34 u0_35 u0_36 u0_37 u0_38 u0_39 u0_40, aB cy q1 nv_read v_read, aI cy q2 7 v_asked]) (st' := [.int y80.1]) (rest := []) E hS vlX11_180 (c_X11_number (l := l) (D := D) (cy := cy) (q0 := q0) (q1 := q1) (u0_0 := u0_0) (u0_1 := u0_1) (u0_2 := u0_2) (u0_3 := u0_3) (u0_4 := u0_4) (u0_5 := u0_5) (u0_6 := u0_6) (u0_12 := u0_12) (u0_13 := u0_13) (u0_14 := u0_14) (u0_15 := u0_15) (u0_16 := .int v_isAsked) (u0_17 := .ref q2) (u0_18 := u0_18) (u0_19 := u0_19) (u0_20 := u0_20) (u0_21 := u0_21) (u0_22 := u0_22) (u0_23 := u0_23) (u0_24 := u0_24) (u0_25 := u0_25) (u0_26 := u0_26) (u0_27 := u0_27) (u0_28 := u0_28) (u0_29 := u0_29) (u0_30 := u0_30) (u0_31 := u0_31) (u0_32 := u0_32) (u0_33 := u0_33) (u0_34 := u0_34) (u0_35 := u0_35) (u0_36 := u0_36) (u0_37 := u0_37) (u0_38 := u0_38) (u0_39 := u0_39) (u0_40 := u0_40) (v_length := v_length) (v_top := v_top) (v_at := y3.2) (v_wrong := v_wrong) (nv_read := nv_read) (v_read := v_read) (p1 := (3 : Int32)) (r := y80) e9) [0, 1] rfl rfl (fun _ => rfl) (fun _ => rfl) rfl rfl rfl rfl (Nat.le_of_ble_eq_true rfl) hl.1 (by rw [hRf]; omega) (by rw [hRl]; omega) ⟨Nat.zero_le _, Nat.zero_le _⟩ dX11_thing_80 rfl (fun H locs _ hS => ?_)
              obtain rfl := Option.some.inj h
              exact rt_i E hQ (.null) hS dX11_thing_83
          refine lv_icmp_ne (tgt := 67) hx hb dX11_thing_33 (by decide) (fun c10 => ?_) (fun c10 => ?_)
          · have h := it_neg c10 h
            exact hJ67   H locs ls h hS (lv_sub hl [1, 0] rfl)
          · have h := it_pos c10 h
            refine lv_iload_n hx hb dX11_thing_36 rfl (lv_at hl 2 rfl) ?_
            refine lv_iconst (v := 4) hx hb dX11_thing_37 (by decide) ?_
            refine lv_icmp_ge (tgt := 67) hx hb dX11_thing_38 (by decide) (fun c11 => ?_) (fun c11 => ?_)
            · have h := it_pos c11 h
              exact hJ67   H locs ls h hS (lv_sub hl [1, 0] rfl)
            · have h := it_neg c11 h
              refine lv_aload_n hx hb dX11_thing_41 rfl (lv_at hl 1 rfl) ?_
              refine lv_dup hx hb dX11_thing_42 rfl ?_
              refine r_get E frX11_115 hS 0 rfl rfl dX11_thing_43 ?_
              refine lv_iconst (v := 1) hx hb dX11_thing_46 (by decide) ?_
              refine lv_iadd hx hb dX11_thing_47 ?_
              refine r_put (ws' := [oX11 q0 u0_0 u0_1 u0_2 u0_3 u0_4 u0_5 u0_6 (.ref q1) (.int v_length) (.int v_top) (.int (y3.2 + (1 : Int32))) (.int v_wrong) u0_12 u0_13 u0_14 u0_15 (.int v_isAsked) (.ref q2) u0_18 u0_19 u0_20 u0_21 u0_22 u0_23 u0_24 u0_25 u0_26 u0_27 u0_28 u0_29 u0_30 u0_31 u0_32 u0_33 u0_34 u0_35 u0_36 u0_37 u0_38 u0_39 u0_40, aB cy q1 nv_read v_read, aI cy q2 7 v_asked]) E frX11_115 hS 0 rfl (Nat.le_of_ble_eq_true rfl) rfl rfl rfl rfl dX11_thing_48 (fun H locs hS => ?_)
              refine lv_aload_n hx hb dX11_thing_51 rfl (lv_at hl 1 rfl) ?_
              refine lv_iload_n hx hb dX11_thing_52 rfl (lv_at hl 2 rfl) ?_
              refine lv_iconst (v := 1) hx hb dX11_thing_53 (by decide) ?_
              refine lv_iadd hx hb dX11_thing_54 ?_
              obtain ⟨y55, e12, h⟩ := bd_some h
              refine ct_V (ws' := fun _ => [oX11 q0 u0_0 u0_1 u0_2 u0_3 u0_4 u0_5 u0_6 (.ref q1) (.int v_length) (.int v_top) (.int y55.2.1) (.int y55.2.2) u0_12 u0_13 u0_14 u0_15 (.int v_isAsked) (.ref q2) u0_18 u0_19 u0_20 u0_21 u0_22 u0_23 u0_24 u0_25 u0_26 u0_27 u0_28 u0_29 u0_30 u0_31 u0_32 u0_33 u0_34 u0_35 u0_36 u0_37 u0_38 u0_39 u0_40, aB cy q1 nv_read v_read, aI cy q2 7 v_asked]) (st' := [.int y55.1]) (rest := []) E hS vlX11_173 (ih0 q0 q1 q2 u0_0 u0_1 u0_2 u0_3 u0_4 u0_5 u0_6 u0_12 u0_13 u0_14 u0_15 u0_18 u0_19 u0_20 u0_21 u0_22 u0_23 u0_24 u0_25 u0_26 u0_27 u0_28 u0_29 u0_30 u0_31 u0_32 u0_33 u0_34 u0_35 u0_36 u0_37 u0_38 u0_39 u0_40 v_length v_top (y3.2 + (1 : Int32)) v_wrong v_isAsked nv_read v_read v_asked (p1 + (1 : Int32)) y55 e12) [0, 1, 2] rfl rfl (fun _ => rfl) (fun _ => rfl) rfl rfl rfl rfl (Nat.le_of_ble_eq_true rfl) hl.1 (by rw [hRf]; omega) (by rw [hRl]; omega) ⟨Nat.zero_le _, Nat.zero_le _⟩ dX11_thing_55 rfl (fun H locs _ hS => ?_)
              refine lv_istore_n (lv' := [(3, .int y55.1), (2, .int y26), (0, .ref q0), (1, .int p1)]) hx hb dX11_thing_58 rfl hl (by decide) rfl (fun ls hl => ?_)
              refine lv_aload_n hx hb dX11_thing_59 rfl (lv_at hl 2 rfl) ?_
              refine lv_bipush (v := 41) hx hb dX11_thing_60 (by decide) ?_
              obtain ⟨y62, e13, h⟩ := bd_some h
              refine ct_V (ws' := fun _ => [oX11 q0 u0_0 u0_1 u0_2 u0_3 u0_4 u0_5 u0_6 (.ref q1) (.int v_length) (.int v_top) (.int y62.1) (.int y62.2) u0_12 u0_13 u0_14 u0_15 (.int v_isAsked) (.ref q2) u0_18 u0_19 u0_20 u0_21 u0_22 u0_23 u0_24 u0_25 u0_26 u0_27 u0_28 u0_29 u0_30 u0_31 u0_32 u0_33 u0_34 u0_35 u0_36 u0_37 u0_38 u0_39 u0_40, aB cy q1 nv_read v_read, aI cy q2 7 v_asked]) (st' := []) (rest := []) E hS vlX11_176 (c_X11_need (l := l) (D := D) (cy := cy) (q0 := q0) (q1 := q1) (u0_0 := u0_0) (u0_1 := u0_1) (u0_2 := u0_2) (u0_3 := u0_3) (u0_4 := u0_4) (u0_5 := u0_5) (u0_6 := u0_6) (u0_12 := u0_12) (u0_13 := u0_13) (u0_14 := u0_14) (u0_15 := u0_15) (u0_16 := .int v_isAsked) (u0_17 := .ref q2) (u0_18 := u0_18) (u0_19 := u0_19) (u0_20 := u0_20) (u0_21 := u0_21) (u0_22 := u0_22) (u0_23 := u0_23) (u0_24 := u0_24) (u0_25 := u0_25) (u0_26 := u0_26) (u0_27 := u0_27) (u0_28 := u0_28) (u0_29 := u0_29) (u0_30 := u0_30) (u0_31 := u0_31) (u0_32 := u0_32) (u0_33 := u0_33) (u0_34 := u0_34) (u0_35 := u0_35) (u0_36 := u0_36) (u0_37 := u0_37) (u0_38 := u0_38) (u0_39 := u0_39) (u0_40 := u0_40) (v_length := v_length) (v_top := v_top) (v_at := y55.2.1) (v_wrong := y55.2.2) (nv_read := nv_read) (v_read := v_read) (p1 := (41 : Int32)) (r := y62) e13) [0, 1] rfl rfl (fun _ => rfl) (fun _ => rfl) rfl rfl rfl rfl (Nat.le_of_ble_eq_true rfl) hl.1 (by rw [hRf]; omega) (by rw [hRl]; omega) ⟨Nat.zero_le _, Nat.zero_le _⟩ dX11_thing_62 rfl (fun H locs _ hS => ?_)
              refine lv_iload_n hx hb dX11_thing_65 rfl (lv_at hl 0 rfl) ?_
              obtain rfl := Option.some.inj h
              exact rt_i E hQ (.null) hS dX11_thing_66
        · have h := it_pos c3 h
          refine lv_iconst (v := 0) hx hb dX11_thing_23 (by decide) ?_
          obtain rfl := Option.some.inj h
          exact rt_i E hQ (.null) hS dX11_thing_24
      · have h := it_neg c2 h
        refine lv_aload_n hx hb dX11_thing_9 rfl (lv_at hl 0 rfl) ?_
        refine lv_iload_n hx hb dX11_thing_10 rfl (lv_at hl 1 rfl) ?_
        obtain ⟨y11, e14, h⟩ := bd_some h
        refine ct_V (ws' := fun _ => [oX11 q0 u0_0 u0_1 u0_2 u0_3 u0_4 u0_5 u0_6 (.ref q1) (.int v_length) (.int v_top) (.int y11.2.1) (.int y11.2.2) u0_12 u0_13 u0_14 u0_15 (.int v_isAsked) (.ref q2) u0_18 u0_19 u0_20 u0_21 u0_22 u0_23 u0_24 u0_25 u0_26 u0_27 u0_28 u0_29 u0_30 u0_31 u0_32 u0_33 u0_34 u0_35 u0_36 u0_37 u0_38 u0_39 u0_40, aB cy q1 nv_read v_read, aI cy q2 7 v_asked]) (st' := [.int y11.1]) (rest := []) E hS vlX11_170 (ih3 q0 q1 q2 u0_0 u0_1 u0_2 u0_3 u0_4 u0_5 u0_6 u0_12 u0_13 u0_14 u0_15 u0_18 u0_19 u0_20 u0_21 u0_22 u0_23 u0_24 u0_25 u0_26 u0_27 u0_28 u0_29 u0_30 u0_31 u0_32 u0_33 u0_34 u0_35 u0_36 u0_37 u0_38 u0_39 u0_40 v_length v_top y3.2 v_wrong v_isAsked nv_read v_read v_asked p1 y11 e14) [0, 1, 2] rfl rfl (fun _ => rfl) (fun _ => rfl) rfl rfl rfl rfl (Nat.le_of_ble_eq_true rfl) hl.1 (by rw [hRf]; omega) (by rw [hRl]; omega) ⟨Nat.zero_le _, Nat.zero_le _⟩ dX11_thing_11 rfl (fun H locs _ hS => ?_)
        refine lv_ineg hx hb dX11_thing_14 ?_
        obtain rfl := Option.some.inj h
        exact rt_i E hQ (.null) hS dX11_thing_15
theorem c_X11_held {l : Launch} {D : va_G} {cy : Nat → ClassId} (q0 : Nat) (q1 : Nat) (q2 : Nat) (u0_0 : Value) (u0_1 : Value) (u0_2 : Value) (u0_3 : Value) (u0_4 : Value) (u0_5 : Value) (u0_6 : Value) (u0_12 : Value) (u0_13 : Value) (u0_14 : Value) (u0_15 : Value) (u0_18 : Value) (u0_19 : Value) (u0_20 : Value) (u0_21 : Value) (u0_22 : Value) (u0_23 : Value) (u0_24 : Value) (u0_25 : Value) (u0_26 : Value) (u0_27 : Value) (u0_28 : Value) (u0_29 : Value) (u0_30 : Value) (u0_31 : Value) (u0_32 : Value) (u0_33 : Value) (u0_34 : Value) (u0_35 : Value) (u0_36 : Value) (u0_37 : Value) (u0_38 : Value) (u0_39 : Value) (u0_40 : Value) (v_length : Int32) (v_top : Int32) (v_at : Int32) (v_wrong : Int32) (v_isAsked : Int32) (nv_read : Nat) (v_read : Nat → Int32) (v_asked : Nat → Int32) (p1 : Int32) (r : Int32 × Int32 × Int32) (h : X11_expr 100 0 v_length v_top v_at v_wrong v_isAsked nv_read v_read v_asked p1 = some r) : Ct l yX11_held cX11_held 3 (some .int) 104 2486 D cy [.ref q0, .int p1] [oX11 q0 u0_0 u0_1 u0_2 u0_3 u0_4 u0_5 u0_6 (.ref q1) (.int v_length) (.int v_top) (.int v_at) (.int v_wrong) u0_12 u0_13 u0_14 u0_15 (.int v_isAsked) (.ref q2) u0_18 u0_19 u0_20 u0_21 u0_22 u0_23 u0_24 u0_25 u0_26 u0_27 u0_28 u0_29 u0_30 u0_31 u0_32 u0_33 u0_34 u0_35 u0_36 u0_37 u0_38 u0_39 u0_40, aB cy q1 nv_read v_read, aI cy q2 7 v_asked] (fun _ => [oX11 q0 u0_0 u0_1 u0_2 u0_3 u0_4 u0_5 u0_6 (.ref q1) (.int v_length) (.int v_top) (.int r.2.1) (.int r.2.2) u0_12 u0_13 u0_14 u0_15 (.int v_isAsked) (.ref q2) u0_18 u0_19 u0_20 u0_21 u0_22 u0_23 u0_24 u0_25 u0_26 u0_27 u0_28 u0_29 u0_30 u0_31 u0_32 u0_33 u0_34 u0_35 u0_36 u0_37 u0_38 u0_39 u0_40, aB cy q1 nv_read v_read, aI cy q2 7 v_asked]) (some (.int r.1)) := (g_X11_expr 100).1 q0 q1 q2 u0_0 u0_1 u0_2 u0_3 u0_4 u0_5 u0_6 u0_12 u0_13 u0_14 u0_15 u0_18 u0_19 u0_20 u0_21 u0_22 u0_23 u0_24 u0_25 u0_26 u0_27 u0_28 u0_29 u0_30 u0_31 u0_32 u0_33 u0_34 u0_35 u0_36 u0_37 u0_38 u0_39 u0_40 v_length v_top v_at v_wrong v_isAsked nv_read v_read v_asked p1 r h
theorem c_X11_sum {l : Launch} {D : va_G} {cy : Nat → ClassId} (q0 : Nat) (q1 : Nat) (q2 : Nat) (u0_0 : Value) (u0_1 : Value) (u0_2 : Value) (u0_3 : Value) (u0_4 : Value) (u0_5 : Value) (u0_6 : Value) (u0_12 : Value) (u0_13 : Value) (u0_14 : Value) (u0_15 : Value) (u0_18 : Value) (u0_19 : Value) (u0_20 : Value) (u0_21 : Value) (u0_22 : Value) (u0_23 : Value) (u0_24 : Value) (u0_25 : Value) (u0_26 : Value) (u0_27 : Value) (u0_28 : Value) (u0_29 : Value) (u0_30 : Value) (u0_31 : Value) (u0_32 : Value) (u0_33 : Value) (u0_34 : Value) (u0_35 : Value) (u0_36 : Value) (u0_37 : Value) (u0_38 : Value) (u0_39 : Value) (u0_40 : Value) (v_length : Int32) (v_top : Int32) (v_at : Int32) (v_wrong : Int32) (v_isAsked : Int32) (nv_read : Nat) (v_read : Nat → Int32) (v_asked : Nat → Int32) (p1 : Int32) (r : Int32 × Int32 × Int32) (h : X11_expr 100 1 v_length v_top v_at v_wrong v_isAsked nv_read v_read v_asked p1 = some r) : Ct l yX11_sum cX11_sum 5 (some .int) 104 2486 D cy [.ref q0, .int p1] [oX11 q0 u0_0 u0_1 u0_2 u0_3 u0_4 u0_5 u0_6 (.ref q1) (.int v_length) (.int v_top) (.int v_at) (.int v_wrong) u0_12 u0_13 u0_14 u0_15 (.int v_isAsked) (.ref q2) u0_18 u0_19 u0_20 u0_21 u0_22 u0_23 u0_24 u0_25 u0_26 u0_27 u0_28 u0_29 u0_30 u0_31 u0_32 u0_33 u0_34 u0_35 u0_36 u0_37 u0_38 u0_39 u0_40, aB cy q1 nv_read v_read, aI cy q2 7 v_asked] (fun _ => [oX11 q0 u0_0 u0_1 u0_2 u0_3 u0_4 u0_5 u0_6 (.ref q1) (.int v_length) (.int v_top) (.int r.2.1) (.int r.2.2) u0_12 u0_13 u0_14 u0_15 (.int v_isAsked) (.ref q2) u0_18 u0_19 u0_20 u0_21 u0_22 u0_23 u0_24 u0_25 u0_26 u0_27 u0_28 u0_29 u0_30 u0_31 u0_32 u0_33 u0_34 u0_35 u0_36 u0_37 u0_38 u0_39 u0_40, aB cy q1 nv_read v_read, aI cy q2 7 v_asked]) (some (.int r.1)) := (g_X11_expr 100).2.1 q0 q1 q2 u0_0 u0_1 u0_2 u0_3 u0_4 u0_5 u0_6 u0_12 u0_13 u0_14 u0_15 u0_18 u0_19 u0_20 u0_21 u0_22 u0_23 u0_24 u0_25 u0_26 u0_27 u0_28 u0_29 u0_30 u0_31 u0_32 u0_33 u0_34 u0_35 u0_36 u0_37 u0_38 u0_39 u0_40 v_length v_top v_at v_wrong v_isAsked nv_read v_read v_asked p1 r h
theorem c_X11_product {l : Launch} {D : va_G} {cy : Nat → ClassId} (q0 : Nat) (q1 : Nat) (q2 : Nat) (u0_0 : Value) (u0_1 : Value) (u0_2 : Value) (u0_3 : Value) (u0_4 : Value) (u0_5 : Value) (u0_6 : Value) (u0_12 : Value) (u0_13 : Value) (u0_14 : Value) (u0_15 : Value) (u0_18 : Value) (u0_19 : Value) (u0_20 : Value) (u0_21 : Value) (u0_22 : Value) (u0_23 : Value) (u0_24 : Value) (u0_25 : Value) (u0_26 : Value) (u0_27 : Value) (u0_28 : Value) (u0_29 : Value) (u0_30 : Value) (u0_31 : Value) (u0_32 : Value) (u0_33 : Value) (u0_34 : Value) (u0_35 : Value) (u0_36 : Value) (u0_37 : Value) (u0_38 : Value) (u0_39 : Value) (u0_40 : Value) (v_length : Int32) (v_top : Int32) (v_at : Int32) (v_wrong : Int32) (v_isAsked : Int32) (nv_read : Nat) (v_read : Nat → Int32) (v_asked : Nat → Int32) (p1 : Int32) (r : Int32 × Int32 × Int32) (h : X11_expr 100 2 v_length v_top v_at v_wrong v_isAsked nv_read v_read v_asked p1 = some r) : Ct l yX11_product cX11_product 5 (some .int) 104 2486 D cy [.ref q0, .int p1] [oX11 q0 u0_0 u0_1 u0_2 u0_3 u0_4 u0_5 u0_6 (.ref q1) (.int v_length) (.int v_top) (.int v_at) (.int v_wrong) u0_12 u0_13 u0_14 u0_15 (.int v_isAsked) (.ref q2) u0_18 u0_19 u0_20 u0_21 u0_22 u0_23 u0_24 u0_25 u0_26 u0_27 u0_28 u0_29 u0_30 u0_31 u0_32 u0_33 u0_34 u0_35 u0_36 u0_37 u0_38 u0_39 u0_40, aB cy q1 nv_read v_read, aI cy q2 7 v_asked] (fun _ => [oX11 q0 u0_0 u0_1 u0_2 u0_3 u0_4 u0_5 u0_6 (.ref q1) (.int v_length) (.int v_top) (.int r.2.1) (.int r.2.2) u0_12 u0_13 u0_14 u0_15 (.int v_isAsked) (.ref q2) u0_18 u0_19 u0_20 u0_21 u0_22 u0_23 u0_24 u0_25 u0_26 u0_27 u0_28 u0_29 u0_30 u0_31 u0_32 u0_33 u0_34 u0_35 u0_36 u0_37 u0_38 u0_39 u0_40, aB cy q1 nv_read v_read, aI cy q2 7 v_asked]) (some (.int r.1)) := (g_X11_expr 100).2.2.1 q0 q1 q2 u0_0 u0_1 u0_2 u0_3 u0_4 u0_5 u0_6 u0_12 u0_13 u0_14 u0_15 u0_18 u0_19 u0_20 u0_21 u0_22 u0_23 u0_24 u0_25 u0_26 u0_27 u0_28 u0_29 u0_30 u0_31 u0_32 u0_33 u0_34 u0_35 u0_36 u0_37 u0_38 u0_39 u0_40 v_length v_top v_at v_wrong v_isAsked nv_read v_read v_asked p1 r h
theorem c_X11_thing {l : Launch} {D : va_G} {cy : Nat → ClassId} (q0 : Nat) (q1 : Nat) (q2 : Nat) (u0_0 : Value) (u0_1 : Value) (u0_2 : Value) (u0_3 : Value) (u0_4 : Value) (u0_5 : Value) (u0_6 : Value) (u0_12 : Value) (u0_13 : Value) (u0_14 : Value) (u0_15 : Value) (u0_18 : Value) (u0_19 : Value) (u0_20 : Value) (u0_21 : Value) (u0_22 : Value) (u0_23 : Value) (u0_24 : Value) (u0_25 : Value) (u0_26 : Value) (u0_27 : Value) (u0_28 : Value) (u0_29 : Value) (u0_30 : Value) (u0_31 : Value) (u0_32 : Value) (u0_33 : Value) (u0_34 : Value) (u0_35 : Value) (u0_36 : Value) (u0_37 : Value) (u0_38 : Value) (u0_39 : Value) (u0_40 : Value) (v_length : Int32) (v_top : Int32) (v_at : Int32) (v_wrong : Int32) (v_isAsked : Int32) (nv_read : Nat) (v_read : Nat → Int32) (v_asked : Nat → Int32) (p1 : Int32) (r : Int32 × Int32 × Int32) (h : X11_expr 100 3 v_length v_top v_at v_wrong v_isAsked nv_read v_read v_asked p1 = some r) : Ct l yX11_thing cX11_thing 4 (some .int) 104 2486 D cy [.ref q0, .int p1] [oX11 q0 u0_0 u0_1 u0_2 u0_3 u0_4 u0_5 u0_6 (.ref q1) (.int v_length) (.int v_top) (.int v_at) (.int v_wrong) u0_12 u0_13 u0_14 u0_15 (.int v_isAsked) (.ref q2) u0_18 u0_19 u0_20 u0_21 u0_22 u0_23 u0_24 u0_25 u0_26 u0_27 u0_28 u0_29 u0_30 u0_31 u0_32 u0_33 u0_34 u0_35 u0_36 u0_37 u0_38 u0_39 u0_40, aB cy q1 nv_read v_read, aI cy q2 7 v_asked] (fun _ => [oX11 q0 u0_0 u0_1 u0_2 u0_3 u0_4 u0_5 u0_6 (.ref q1) (.int v_length) (.int v_top) (.int r.2.1) (.int r.2.2) u0_12 u0_13 u0_14 u0_15 (.int v_isAsked) (.ref q2) u0_18 u0_19 u0_20 u0_21 u0_22 u0_23 u0_24 u0_25 u0_26 u0_27 u0_28 u0_29 u0_30 u0_31 u0_32 u0_33 u0_34 u0_35 u0_36 u0_37 u0_38 u0_39 u0_40, aB cy q1 nv_read v_read, aI cy q2 7 v_asked]) (some (.int r.1)) := (g_X11_expr 100).2.2.2 q0 q1 q2 u0_0 u0_1 u0_2 u0_3 u0_4 u0_5 u0_6 u0_12 u0_13 u0_14 u0_15 u0_18 u0_19 u0_20 u0_21 u0_22 u0_23 u0_24 u0_25 u0_26 u0_27 u0_28 u0_29 u0_30 u0_31 u0_32 u0_33 u0_34 u0_35 u0_36 u0_37 u0_38 u0_39 u0_40 v_length v_top v_at v_wrong v_isAsked nv_read v_read v_asked p1 r h
def X11_readRule_k24 (v_typed : Int32) (j24_v_at : Int32) (j24_v_wrong : Int32) : Option (Int32 × Int32 × Int32 × Int32 × Int32 × Int32 × Int32) :=
  (X11_wasRight ((X11_beginText v_typed (40 : Int32)).2.1) j24_v_at j24_v_wrong).bind fun y25 => gn .boolean y25.1 (some (y25.1, (X11_beginText v_typed (40 : Int32)).1, (X11_beginText v_typed (40 : Int32)).2.1, (X11_beginText v_typed (40 : Int32)).2.2.1, j24_v_at, y25.2, (0 : Int32)))
def X11_readRule (v_typed : Int32) (v_text : Nat → Int32) (v_asked : Nat → Int32) : Option (Int32 × Int32 × Int32 × Int32 × Int32 × Int32 × Int32) :=
  if (X11_beginText v_typed (40 : Int32)).2.1 ≤ 0 then (X11_readRule_k24 v_typed ((X11_beginText v_typed (40 : Int32)).2.2.2.1) ((X11_beginText v_typed (40 : Int32)).2.2.2.2)) else ((X11_expr 100 0 ((X11_beginText v_typed (40 : Int32)).2.1) ((X11_beginText v_typed (40 : Int32)).2.2.1) ((X11_beginText v_typed (40 : Int32)).2.2.2.1) ((X11_beginText v_typed (40 : Int32)).2.2.2.2) (0 : Int32) 80 v_text v_asked (0 : Int32)).bind fun y20 => X11_readRule_k24 v_typed y20.2.1 y20.2.2)
set_option maxHeartbeats 4000000 in
set_option maxRecDepth 100000 in
theorem c_X11_readRule {l : Launch} {D : va_G} {cy : Nat → ClassId} (q0 : Nat) (q1 : Nat) (q2 : Nat) (u0_0 : Value) (u0_1 : Value) (u0_4 : Value) (u0_5 : Value) (u0_6 : Value) (u0_7 : Value) (u0_12 : Value) (u0_13 : Value) (u0_14 : Value) (u0_15 : Value) (u0_18 : Value) (u0_19 : Value) (u0_20 : Value) (u0_21 : Value) (u0_22 : Value) (u0_23 : Value) (u0_24 : Value) (u0_25 : Value) (u0_26 : Value) (u0_27 : Value) (u0_28 : Value) (u0_29 : Value) (u0_30 : Value) (u0_31 : Value) (u0_32 : Value) (u0_33 : Value) (u0_34 : Value) (u0_35 : Value) (u0_36 : Value) (u0_37 : Value) (u0_38 : Value) (u0_39 : Value) (u0_40 : Value) (v_typed : Int32) (v_length : Int32) (v_top : Int32) (v_at : Int32) (v_wrong : Int32) (v_isAsked : Int32) (v_text : Nat → Int32) (v_asked : Nat → Int32) (r : Int32 × Int32 × Int32 × Int32 × Int32 × Int32 × Int32) (h : X11_readRule v_typed v_text v_asked = some r) : Ct l yX11_readRule cX11_readRule 1 (some .boolean) 105 2508 D cy [.ref q0] [oX11 q0 u0_0 u0_1 (.ref q1) (.int v_typed) u0_4 u0_5 u0_6 u0_7 (.int v_length) (.int v_top) (.int v_at) (.int v_wrong) u0_12 u0_13 u0_14 u0_15 (.int v_isAsked) (.ref q2) u0_18 u0_19 u0_20 u0_21 u0_22 u0_23 u0_24 u0_25 u0_26 u0_27 u0_28 u0_29 u0_30 u0_31 u0_32 u0_33 u0_34 u0_35 u0_36 u0_37 u0_38 u0_39 u0_40, aB cy q1 80 v_text, aI cy q2 7 v_asked] (fun _ => [oX11 q0 u0_0 u0_1 (.ref q1) (.int r.2.1) u0_4 u0_5 u0_6 (.ref q1) (.int r.2.2.1) (.int r.2.2.2.1) (.int r.2.2.2.2.1) (.int r.2.2.2.2.2.1) u0_12 u0_13 u0_14 u0_15 (.int r.2.2.2.2.2.2) (.ref q2) u0_18 u0_19 u0_20 u0_21 u0_22 u0_23 u0_24 u0_25 u0_26 u0_27 u0_28 u0_29 u0_30 u0_31 u0_32 u0_33 u0_34 u0_35 u0_36 u0_37 u0_38 u0_39 u0_40, aB cy q1 80 v_text, aI cy q2 7 v_asked]) (some (.int r.1)) := by
  refine Ct.mk kX11_readRule (by decide +kernel) (Nat.le_of_ble_eq_true rfl) ?_
  intro p e s m below meth c A ls args R Q hRf hRl hQ E H locs hS hl
  have hx := E.x
  have hb := E.b
  have hl : lv_has ls 1 [(0, .ref q0)] := hl
  unfold X11_readRule at h
  refine lv_aload_n hx hb dX11_readRule_0 rfl (lv_at hl 0 rfl) ?_
  refine lv_bipush (v := 40) hx hb dX11_readRule_1 (by decide) ?_
  refine ct_V (ws' := fun _ => [oX11 q0 u0_0 u0_1 (.ref q1) (.int ((X11_beginText v_typed (40 : Int32)).1)) u0_4 u0_5 u0_6 (.ref q1) (.int ((X11_beginText v_typed (40 : Int32)).2.1)) (.int ((X11_beginText v_typed (40 : Int32)).2.2.1)) (.int ((X11_beginText v_typed (40 : Int32)).2.2.2.1)) (.int ((X11_beginText v_typed (40 : Int32)).2.2.2.2)) u0_12 u0_13 u0_14 u0_15 (.int v_isAsked) (.ref q2) u0_18 u0_19 u0_20 u0_21 u0_22 u0_23 u0_24 u0_25 u0_26 u0_27 u0_28 u0_29 u0_30 u0_31 u0_32 u0_33 u0_34 u0_35 u0_36 u0_37 u0_38 u0_39 u0_40, aB cy q1 80 v_text, aI cy q2 7 v_asked]) (st' := []) (rest := []) E hS vlX11_151 (c_X11_beginText (l := l) (D := D) (cy := cy) (q0 := q0) (u0_0 := u0_0) (u0_1 := u0_1) (z0_2 := q1) (u0_4 := u0_4) (u0_5 := u0_5) (u0_6 := u0_6) (u0_7 := u0_7) (u0_12 := u0_12) (u0_13 := u0_13) (u0_14 := u0_14) (u0_15 := u0_15) (u0_16 := .int v_isAsked) (u0_17 := .ref q2) (u0_18 := u0_18) (u0_19 := u0_19) (u0_20 := u0_20) (u0_21 := u0_21) (u0_22 := u0_22) (u0_23 := u0_23) (u0_24 := u0_24) (u0_25 := u0_25) (u0_26 := u0_26) (u0_27 := u0_27) (u0_28 := u0_28) (u0_29 := u0_29) (u0_30 := u0_30) (u0_31 := u0_31) (u0_32 := u0_32) (u0_33 := u0_33) (u0_34 := u0_34) (u0_35 := u0_35) (u0_36 := u0_36) (u0_37 := u0_37) (u0_38 := u0_38) (u0_39 := u0_39) (u0_40 := u0_40) (v_typed := v_typed) (v_length := v_length) (v_top := v_top) (v_at := v_at) (v_wrong := v_wrong) (p1 := (40 : Int32)) (r := (X11_beginText v_typed (40 : Int32))) rfl) [0] rfl rfl (fun _ => rfl) (fun _ => rfl) rfl rfl rfl rfl (Nat.le_of_ble_eq_true rfl) hl.1 (by rw [hRf]; exact Nat.le_of_ble_eq_true rfl) (by rw [hRl]; exact Nat.le_of_ble_eq_true rfl) ⟨Nat.zero_le _, Nat.zero_le _⟩ dX11_readRule_3 rfl (fun H locs _ hS => ?_)
  refine lv_aload_n hx hb dX11_readRule_6 rfl (lv_at hl 0 rfl) ?_
  refine lv_iconst (v := 0) hx hb dX11_readRule_7 (by decide) ?_
  refine r_put (ws' := [oX11 q0 u0_0 u0_1 (.ref q1) (.int ((X11_beginText v_typed (40 : Int32)).1)) u0_4 u0_5 u0_6 (.ref q1) (.int ((X11_beginText v_typed (40 : Int32)).2.1)) (.int ((X11_beginText v_typed (40 : Int32)).2.2.1)) (.int ((X11_beginText v_typed (40 : Int32)).2.2.2.1)) (.int ((X11_beginText v_typed (40 : Int32)).2.2.2.2)) u0_12 u0_13 u0_14 u0_15 (.int (0 : Int32)) (.ref q2) u0_18 u0_19 u0_20 u0_21 u0_22 u0_23 u0_24 u0_25 u0_26 u0_27 u0_28 u0_29 u0_30 u0_31 u0_32 u0_33 u0_34 u0_35 u0_36 u0_37 u0_38 u0_39 u0_40, aB cy q1 80 v_text, aI cy q2 7 v_asked]) E frX11_186 hS 0 rfl (Nat.le_of_ble_eq_true rfl) rfl rfl rfl rfl dX11_readRule_8 (fun H locs hS => ?_)
  refine lv_aload_n hx hb dX11_readRule_11 rfl (lv_at hl 0 rfl) ?_
  refine r_get E frX11_109 hS 0 rfl rfl dX11_readRule_12 ?_
  have hJ24 : ∀ (j24_v_at : Int32) (j24_v_wrong : Int32) (H : Heap) (locs : List Loc) (ls : Array Slot), X11_readRule_k24 v_typed j24_v_at j24_v_wrong = some r → Sv D A s.heap [oX11 q0 u0_0 u0_1 (.ref q1) (.int ((X11_beginText v_typed (40 : Int32)).1)) u0_4 u0_5 u0_6 (.ref q1) (.int ((X11_beginText v_typed (40 : Int32)).2.1)) (.int ((X11_beginText v_typed (40 : Int32)).2.2.1)) (.int j24_v_at) (.int j24_v_wrong) u0_12 u0_13 u0_14 u0_15 (.int (0 : Int32)) (.ref q2) u0_18 u0_19 u0_20 u0_21 u0_22 u0_23 u0_24 u0_25 u0_26 u0_27 u0_28 u0_29 u0_30 u0_31 u0_32 u0_33 u0_34 u0_35 u0_36 u0_37 u0_38 u0_39 u0_40, aB cy q1 80 v_text, aI cy q2 7 v_asked] H locs → lv_has ls 1 [(0, .ref q0)] → W p l e R s m args below meth c H locs 0 0 Q (F0 m 24 ls []) := by
    intro j24_v_at j24_v_wrong H locs ls h hS hl
    unfold X11_readRule_k24 at h
    refine lv_aload_n hx hb dX11_readRule_24 rfl (lv_at hl 0 rfl) ?_
    obtain ⟨y25, e1, h⟩ := bd_some h
    refine ct_V (ws' := fun _ => [oX11 q0 u0_0 u0_1 (.ref q1) (.int ((X11_beginText v_typed (40 : Int32)).1)) u0_4 u0_5 u0_6 (.ref q1) (.int ((X11_beginText v_typed (40 : Int32)).2.1)) (.int ((X11_beginText v_typed (40 : Int32)).2.2.1)) (.int j24_v_at) (.int y25.2) u0_12 u0_13 u0_14 u0_15 (.int (0 : Int32)) (.ref q2) u0_18 u0_19 u0_20 u0_21 u0_22 u0_23 u0_24 u0_25 u0_26 u0_27 u0_28 u0_29 u0_30 u0_31 u0_32 u0_33 u0_34 u0_35 u0_36 u0_37 u0_38 u0_39 u0_40, aB cy q1 80 v_text, aI cy q2 7 v_asked]) (st' := [.int y25.1]) (rest := []) E hS vlX11_154 (c_X11_wasRight (l := l) (D := D) (cy := cy) (q0 := q0) (u0_0 := u0_0) (u0_1 := u0_1) (u0_2 := .ref q1) (u0_3 := .int ((X11_beginText v_typed (40 : Int32)).1)) (u0_4 := u0_4) (u0_5 := u0_5) (u0_6 := u0_6) (u0_7 := .ref q1) (u0_9 := .int ((X11_beginText v_typed (40 : Int32)).2.2.1)) (u0_12 := u0_12) (u0_13 := u0_13) (u0_14 := u0_14) (u0_15 := u0_15) (u0_16 := .int (0 : Int32)) (u0_17 := .ref q2) (u0_18 := u0_18) (u0_19 := u0_19) (u0_20 := u0_20) (u0_21 := u0_21) (u0_22 := u0_22) (u0_23 := u0_23) (u0_24 := u0_24) (u0_25 := u0_25) (u0_26 := u0_26) (u0_27 := u0_27) (u0_28 := u0_28) (u0_29 := u0_29) (u0_30 := u0_30) (u0_31 := u0_31) (u0_32 := u0_32) (u0_33 := u0_33) (u0_34 := u0_34) (u0_35 := u0_35) (u0_36 := u0_36) (u0_37 := u0_37) (u0_38 := u0_38) (u0_39 := u0_39) (u0_40 := u0_40) (v_length := (X11_beginText v_typed (40 : Int32)).2.1) (v_at := j24_v_at) (v_wrong := j24_v_wrong) (r := y25) e1) [0] rfl rfl (fun _ => rfl) (fun _ => rfl) rfl rfl rfl rfl (Nat.le_of_ble_eq_true rfl) hl.1 (by rw [hRf]; exact Nat.le_of_ble_eq_true rfl) (by rw [hRl]; exact Nat.le_of_ble_eq_true rfl) ⟨Nat.zero_le _, Nat.zero_le _⟩ dX11_readRule_25 rfl (fun H locs _ hS => ?_)
    obtain ⟨g2, h⟩ := gn_some h
    obtain rfl := Option.some.inj h
    exact rt_n E (gn_nar g2) hQ (.null) hS dX11_readRule_28
  refine lv_if_le (tgt := 24) hx hb dX11_readRule_15 (by decide) (fun c3 => ?_) (fun c3 => ?_)
  · have h := it_pos c3 h
    exact hJ24 ((X11_beginText v_typed (40 : Int32)).2.2.2.1) ((X11_beginText v_typed (40 : Int32)).2.2.2.2)  H locs ls h hS (lv_sub hl [0] rfl)
  · have h := it_neg c3 h
    refine lv_aload_n hx hb dX11_readRule_18 rfl (lv_at hl 0 rfl) ?_
    refine lv_iconst (v := 0) hx hb dX11_readRule_19 (by decide) ?_
    obtain ⟨y20, e4, h⟩ := bd_some h
    refine ct_V (ws' := fun _ => [oX11 q0 u0_0 u0_1 (.ref q1) (.int ((X11_beginText v_typed (40 : Int32)).1)) u0_4 u0_5 u0_6 (.ref q1) (.int ((X11_beginText v_typed (40 : Int32)).2.1)) (.int ((X11_beginText v_typed (40 : Int32)).2.2.1)) (.int y20.2.1) (.int y20.2.2) u0_12 u0_13 u0_14 u0_15 (.int (0 : Int32)) (.ref q2) u0_18 u0_19 u0_20 u0_21 u0_22 u0_23 u0_24 u0_25 u0_26 u0_27 u0_28 u0_29 u0_30 u0_31 u0_32 u0_33 u0_34 u0_35 u0_36 u0_37 u0_38 u0_39 u0_40, aB cy q1 80 v_text, aI cy q2 7 v_asked]) (st' := [.int y20.1]) (rest := []) E hS vlX11_173 (c_X11_held (l := l) (D := D) (cy := cy) (q0 := q0) (q1 := q1) (q2 := q2) (u0_0 := u0_0) (u0_1 := u0_1) (u0_2 := .ref q1) (u0_3 := .int ((X11_beginText v_typed (40 : Int32)).1)) (u0_4 := u0_4) (u0_5 := u0_5) (u0_6 := u0_6) (u0_12 := u0_12) (u0_13 := u0_13) (u0_14 := u0_14) (u0_15 := u0_15) (u0_18 := u0_18) (u0_19 := u0_19) (u0_20 := u0_20) (u0_21 := u0_21) (u0_22 := u0_22) (u0_23 := u0_23) (u0_24 := u0_24) (u0_25 := u0_25) (u0_26 := u0_26) (u0_27 := u0_27) (u0_28 := u0_28) (u0_29 := u0_29) (u0_30 := u0_30) (u0_31 := u0_31) (u0_32 := u0_32) (u0_33 := u0_33) (u0_34 := u0_34) (u0_35 := u0_35) (u0_36 := u0_36) (u0_37 := u0_37) (u0_38 := u0_38) (u0_39 := u0_39) (u0_40 := u0_40) (v_length := (X11_beginText v_typed (40 : Int32)).2.1) (v_top := (X11_beginText v_typed (40 : Int32)).2.2.1) (v_at := (X11_beginText v_typed (40 : Int32)).2.2.2.1) (v_wrong := (X11_beginText v_typed (40 : Int32)).2.2.2.2) (v_isAsked := (0 : Int32)) (nv_read := 80) (v_read := v_text) (v_asked := v_asked) (p1 := (0 : Int32)) (r := y20) e4) [0, 1, 2] rfl rfl (fun _ => rfl) (fun _ => rfl) rfl rfl rfl rfl (Nat.le_of_ble_eq_true rfl) hl.1 (by rw [hRf]; exact Nat.le_of_ble_eq_true rfl) (by rw [hRl]; exact Nat.le_of_ble_eq_true rfl) ⟨Nat.zero_le _, Nat.zero_le _⟩ dX11_readRule_20 rfl (fun H locs _ hS => ?_)
    refine lv_pop hx hb dX11_readRule_23 rfl ?_
    exact hJ24 y20.2.1 y20.2.2  H locs ls h hS (lv_sub hl [0] rfl)
def X11_rule_s26 (v_typed : Int32) (v_text : Nat → Int32) (x26 : Int32 × (Nat → Int32)) : Option ((Int32 × (Nat → Int32)) ⊕ ((Nat → Int32))) :=
  if v_typed ≤ x26.1 then (some (.inr x26.2)) else (gi x26.1 80 (gi x26.1 40 (some (.inl ((x26.1 + (1 : Int32)), (upd x26.2 x26.1.toNatClampNeg (vp_nar .byte (v_text x26.1.toNatClampNeg))))))))
def X11_rule (v_typed : Int32) (v_ruleSize : Int32) (v_text : Nat → Int32) (v_rule : Nat → Int32) (v_asked : Nat → Int32) : Option (Int32 × Int32 × Int32 × Int32 × Int32 × Int32 × Int32 × Int32 × Int32 × (Nat → Int32)) :=
  (X11_readRule v_typed v_text v_asked).bind fun y11 => if y11.1 = 0 then (some (((-1 : Int32) - y11.2.2.2.2.2.1), y11.2.1, (0 : Int32), y11.2.2.1, y11.2.2.2.1, y11.2.2.2.2.1, y11.2.2.2.2.2.1, v_ruleSize, y11.2.2.2.2.2.2, v_rule)) else ((lp (fun x26 => X11_rule_s26 v_typed v_text x26) 1000 ((0 : Int32), v_rule)).bind fun y26 => some ((0 : Int32), y11.2.1, (0 : Int32), y11.2.2.1, y11.2.2.2.1, y11.2.2.2.2.1, y11.2.2.2.2.2.1, v_typed, y11.2.2.2.2.2.2, y26))
set_option maxHeartbeats 4000000 in
set_option maxRecDepth 100000 in
theorem c_X11_rule {l : Launch} {D : va_G} {cy : Nat → ClassId} (q0 : Nat) (q1 : Nat) (q2 : Nat) (q3 : Nat) (u0_0 : Value) (u0_1 : Value) (u0_4 : Value) (u0_5 : Value) (u0_7 : Value) (u0_12 : Value) (u0_14 : Value) (u0_18 : Value) (u0_19 : Value) (u0_20 : Value) (u0_21 : Value) (u0_22 : Value) (u0_23 : Value) (u0_24 : Value) (u0_25 : Value) (u0_26 : Value) (u0_27 : Value) (u0_28 : Value) (u0_29 : Value) (u0_30 : Value) (u0_31 : Value) (u0_32 : Value) (u0_33 : Value) (u0_34 : Value) (u0_35 : Value) (u0_36 : Value) (u0_37 : Value) (u0_38 : Value) (u0_39 : Value) (u0_40 : Value) (v_typed : Int32) (v_thrown : Int32) (v_length : Int32) (v_top : Int32) (v_at : Int32) (v_wrong : Int32) (v_ruleSize : Int32) (v_isAsked : Int32) (v_text : Nat → Int32) (v_rule : Nat → Int32) (v_asked : Nat → Int32) (r : Int32 × Int32 × Int32 × Int32 × Int32 × Int32 × Int32 × Int32 × Int32 × (Nat → Int32)) (h : X11_rule v_typed v_ruleSize v_text v_rule v_asked = some r) : Ct l yX11_rule cX11_rule 3 (some .int) 106 2528 D cy [.ref q0] [oX11 q0 u0_0 u0_1 (.ref q1) (.int v_typed) u0_4 u0_5 (.int v_thrown) u0_7 (.int v_length) (.int v_top) (.int v_at) (.int v_wrong) u0_12 (.ref q2) u0_14 (.int v_ruleSize) (.int v_isAsked) (.ref q3) u0_18 u0_19 u0_20 u0_21 u0_22 u0_23 u0_24 u0_25 u0_26 u0_27 u0_28 u0_29 u0_30 u0_31 u0_32 u0_33 u0_34 u0_35 u0_36 u0_37 u0_38 u0_39 u0_40, aB cy q1 80 v_text, aB cy q2 40 v_rule, aI cy q3 7 v_asked] (fun _ => [oX11 q0 u0_0 u0_1 (.ref q1) (.int r.2.1) u0_4 u0_5 (.int r.2.2.1) (.ref q1) (.int r.2.2.2.1) (.int r.2.2.2.2.1) (.int r.2.2.2.2.2.1) (.int r.2.2.2.2.2.2.1) u0_12 (.ref q2) u0_14 (.int r.2.2.2.2.2.2.2.1) (.int r.2.2.2.2.2.2.2.2.1) (.ref q3) u0_18 u0_19 u0_20 u0_21 u0_22 u0_23 u0_24 u0_25 u0_26 u0_27 u0_28 u0_29 u0_30 u0_31 u0_32 u0_33 u0_34 u0_35 u0_36 u0_37 u0_38 u0_39 u0_40, aB cy q1 80 v_text, aB cy q2 40 r.2.2.2.2.2.2.2.2.2, aI cy q3 7 v_asked]) (some (.int r.1)) := by
  refine Ct.mk kX11_rule (by decide +kernel) (Nat.le_of_ble_eq_true rfl) ?_
  intro p e s m below meth c A ls args R Q hRf hRl hQ E H locs hS hl
  have hx := E.x
  have hb := E.b
  have hl : lv_has ls 3 [(0, .ref q0)] := hl
  unfold X11_rule at h
  refine lv_aload_n hx hb dX11_rule_0 rfl (lv_at hl 0 rfl) ?_
  refine lv_iconst (v := 0) hx hb dX11_rule_1 (by decide) ?_
  refine r_put (ws' := [oX11 q0 u0_0 u0_1 (.ref q1) (.int v_typed) u0_4 u0_5 (.int (0 : Int32)) u0_7 (.int v_length) (.int v_top) (.int v_at) (.int v_wrong) u0_12 (.ref q2) u0_14 (.int v_ruleSize) (.int v_isAsked) (.ref q3) u0_18 u0_19 u0_20 u0_21 u0_22 u0_23 u0_24 u0_25 u0_26 u0_27 u0_28 u0_29 u0_30 u0_31 u0_32 u0_33 u0_34 u0_35 u0_36 u0_37 u0_38 u0_39 u0_40, aB cy q1 80 v_text, aB cy q2 40 v_rule, aI cy q3 7 v_asked]) E frX11_85 hS 0 rfl (Nat.le_of_ble_eq_true rfl) rfl rfl rfl rfl dX11_rule_2 (fun H locs hS => ?_)
  refine lv_aload_n hx hb dX11_rule_5 rfl (lv_at hl 0 rfl) ?_
  refine r_get E frX11_103 hS 0 rfl rfl dX11_rule_6 ?_
  refine lv_istore_n (lv' := [(1, .int v_typed), (0, .ref q0)]) hx hb dX11_rule_9 rfl hl (by decide) rfl (fun ls hl => ?_)
  refine lv_aload_n hx hb dX11_rule_10 rfl (lv_at hl 1 rfl) ?_
  obtain ⟨y11, e1, h⟩ := bd_some h
  refine ct_V (ws' := fun _ => [oX11 q0 u0_0 u0_1 (.ref q1) (.int y11.2.1) u0_4 u0_5 (.int (0 : Int32)) (.ref q1) (.int y11.2.2.1) (.int y11.2.2.2.1) (.int y11.2.2.2.2.1) (.int y11.2.2.2.2.2.1) u0_12 (.ref q2) u0_14 (.int v_ruleSize) (.int y11.2.2.2.2.2.2) (.ref q3) u0_18 u0_19 u0_20 u0_21 u0_22 u0_23 u0_24 u0_25 u0_26 u0_27 u0_28 u0_29 u0_30 u0_31 u0_32 u0_33 u0_34 u0_35 u0_36 u0_37 u0_38 u0_39 u0_40, aB cy q1 80 v_text, aB cy q2 40 v_rule, aI cy q3 7 v_asked]) (st' := [.int y11.1]) (rest := []) E hS vlX11_190 (c_X11_readRule (l := l) (D := D) (cy := cy) (q0 := q0) (q1 := q1) (q2 := q3) (u0_0 := u0_0) (u0_1 := u0_1) (u0_4 := u0_4) (u0_5 := u0_5) (u0_6 := .int (0 : Int32)) (u0_7 := u0_7) (u0_12 := u0_12) (u0_13 := .ref q2) (u0_14 := u0_14) (u0_15 := .int v_ruleSize) (u0_18 := u0_18) (u0_19 := u0_19) (u0_20 := u0_20) (u0_21 := u0_21) (u0_22 := u0_22) (u0_23 := u0_23) (u0_24 := u0_24) (u0_25 := u0_25) (u0_26 := u0_26) (u0_27 := u0_27) (u0_28 := u0_28) (u0_29 := u0_29) (u0_30 := u0_30) (u0_31 := u0_31) (u0_32 := u0_32) (u0_33 := u0_33) (u0_34 := u0_34) (u0_35 := u0_35) (u0_36 := u0_36) (u0_37 := u0_37) (u0_38 := u0_38) (u0_39 := u0_39) (u0_40 := u0_40) (v_typed := v_typed) (v_length := v_length) (v_top := v_top) (v_at := v_at) (v_wrong := v_wrong) (v_isAsked := v_isAsked) (v_text := v_text) (v_asked := v_asked) (r := y11) e1) [0, 1, 3] rfl rfl (fun _ => rfl) (fun _ => rfl) rfl rfl rfl rfl (Nat.le_of_ble_eq_true rfl) hl.1 (by rw [hRf]; exact Nat.le_of_ble_eq_true rfl) (by rw [hRl]; exact Nat.le_of_ble_eq_true rfl) ⟨Nat.zero_le _, Nat.zero_le _⟩ dX11_rule_11 rfl (fun H locs _ hS => ?_)
  refine lv_if_ne (tgt := 24) hx hb dX11_rule_14 (by decide) (fun c2 => ?_) (fun c2 => ?_)
  · have h := it_neg c2 h
    refine lv_iconst (v := 0) hx hb dX11_rule_24 (by decide) ?_
    refine lv_istore_n (lv' := [(2, .int (0 : Int32)), (1, .int v_typed), (0, .ref q0)]) hx hb dX11_rule_25 rfl hl (by decide) rfl (fun ls hl => ?_)
    have hL26 : ∀ (n : Nat) (x26 : Int32 × (Nat → Int32)) (y26 : (Nat → Int32)) (H : Heap) (locs : List Loc) (ls : Array Slot), lp (fun x26 => X11_rule_s26 v_typed v_text x26) n x26 = some y26 → Sv D A s.heap [oX11 q0 u0_0 u0_1 (.ref q1) (.int y11.2.1) u0_4 u0_5 (.int (0 : Int32)) (.ref q1) (.int y11.2.2.1) (.int y11.2.2.2.1) (.int y11.2.2.2.2.1) (.int y11.2.2.2.2.2.1) u0_12 (.ref q2) u0_14 (.int v_ruleSize) (.int y11.2.2.2.2.2.2) (.ref q3) u0_18 u0_19 u0_20 u0_21 u0_22 u0_23 u0_24 u0_25 u0_26 u0_27 u0_28 u0_29 u0_30 u0_31 u0_32 u0_33 u0_34 u0_35 u0_36 u0_37 u0_38 u0_39 u0_40, aB cy q1 80 v_text, aB cy q2 40 x26.2, aI cy q3 7 v_asked] H locs → lv_has ls 3 [(0, .ref q0), (1, .int v_typed), (2, .int x26.1)] → (∀ (H : Heap) (locs : List Loc) (ls : Array Slot), Sv D A s.heap [oX11 q0 u0_0 u0_1 (.ref q1) (.int y11.2.1) u0_4 u0_5 (.int (0 : Int32)) (.ref q1) (.int y11.2.2.1) (.int y11.2.2.2.1) (.int y11.2.2.2.2.1) (.int y11.2.2.2.2.2.1) u0_12 (.ref q2) u0_14 (.int v_ruleSize) (.int y11.2.2.2.2.2.2) (.ref q3) u0_18 u0_19 u0_20 u0_21 u0_22 u0_23 u0_24 u0_25 u0_26 u0_27 u0_28 u0_29 u0_30 u0_31 u0_32 u0_33 u0_34 u0_35 u0_36 u0_37 u0_38 u0_39 u0_40, aB cy q1 80 v_text, aB cy q2 40 y26, aI cy q3 7 v_asked] H locs → lv_has ls 3 [(0, .ref q0), (1, .int v_typed)] → W p l e R s m args below meth c H locs 0 0 Q (F0 m 49 ls [])) → W p l e R s m args below meth c H locs 0 0 Q (F0 m 26 ls []) := by
      intro n
      induction n with
      | zero =>
        intro x26 y26 H locs ls h
        exact lp_zero h
      | succ n ih26 =>
        intro x26 y26 H locs ls h hS hl hk26_0
        obtain ⟨z26, h, hz26a, hz26b⟩ := lp_succ h
        have h : X11_rule_s26 v_typed v_text x26 = some z26 := h
        unfold X11_rule_s26 at h
        refine lv_iload_n hx hb dX11_rule_26 rfl (lv_at hl 2 rfl) ?_
        refine lv_iload_n hx hb dX11_rule_27 rfl (lv_at hl 1 rfl) ?_
        refine lv_icmp_ge (tgt := 49) hx hb dX11_rule_28 (by decide) (fun c3 => ?_) (fun c3 => ?_)
        · have h := it_pos c3 h
          obtain rfl := hz26b _ (Option.some.inj h).symm
          exact hk26_0  H locs ls hS (lv_sub hl [0, 1] rfl)
        · have h := it_neg c3 h
          refine lv_aload_n hx hb dX11_rule_31 rfl (lv_at hl 0 rfl) ?_
          refine r_get E frX11_24 hS 0 rfl rfl dX11_rule_32 ?_
          refine lv_iload_n hx hb dX11_rule_35 rfl (lv_at hl 2 rfl) ?_
          refine lv_aload_n hx hb dX11_rule_36 rfl (lv_at hl 0 rfl) ?_
          refine r_get E frX11_13 hS 0 rfl rfl dX11_rule_37 ?_
          refine lv_iload_n hx hb dX11_rule_40 rfl (lv_at hl 2 rfl) ?_
          obtain ⟨g4, h⟩ := gi_some h
          refine r_bald E hS 1 rfl g4 dX11_rule_41 ?_
          obtain ⟨g5, h⟩ := gi_some h
          refine r_bast (ws' := [oX11 q0 u0_0 u0_1 (.ref q1) (.int y11.2.1) u0_4 u0_5 (.int (0 : Int32)) (.ref q1) (.int y11.2.2.1) (.int y11.2.2.2.1) (.int y11.2.2.2.2.1) (.int y11.2.2.2.2.2.1) u0_12 (.ref q2) u0_14 (.int v_ruleSize) (.int y11.2.2.2.2.2.2) (.ref q3) u0_18 u0_19 u0_20 u0_21 u0_22 u0_23 u0_24 u0_25 u0_26 u0_27 u0_28 u0_29 u0_30 u0_31 u0_32 u0_33 u0_34 u0_35 u0_36 u0_37 u0_38 u0_39 u0_40, aB cy q1 80 v_text, aB cy q2 40 (upd x26.2 x26.1.toNatClampNeg (vp_nar .byte (v_text x26.1.toNatClampNeg))), aI cy q3 7 v_asked]) E hS 2 rfl g5 rfl dX11_rule_42 (fun H locs hS => ?_)
          refine lv_iinc (v := (x26.1 + (1 : Int32))) (lv' := [(2, .int (x26.1 + (1 : Int32))), (0, .ref q0), (1, .int v_typed)]) hx hb dX11_rule_43 hl (k := 2) rfl rfl (by decide) rfl (fun ls hl => ?_)
          refine lv_goto (tgt := 26) hx hb dX11_rule_46 (by decide) ?_
          exact ih26 ((x26.1 + (1 : Int32)), (upd x26.2 x26.1.toNatClampNeg (vp_nar .byte (v_text x26.1.toNatClampNeg)))) y26  H locs ls (hz26a _ (Option.some.inj h).symm) hS (lv_sub hl [1, 2, 0] rfl) hk26_0
    obtain ⟨y26, e26, h⟩ := bd_some h
    refine hL26 1000 ((0 : Int32), v_rule) y26  H locs ls e26 hS (lv_sub hl [2, 1, 0] rfl) (fun H locs ls hS hl => ?_)
    refine lv_aload_n hx hb dX11_rule_49 rfl (lv_at hl 0 rfl) ?_
    refine lv_iload_n hx hb dX11_rule_50 rfl (lv_at hl 1 rfl) ?_
    refine r_put (ws' := [oX11 q0 u0_0 u0_1 (.ref q1) (.int y11.2.1) u0_4 u0_5 (.int (0 : Int32)) (.ref q1) (.int y11.2.2.1) (.int y11.2.2.2.1) (.int y11.2.2.2.2.1) (.int y11.2.2.2.2.2.1) u0_12 (.ref q2) u0_14 (.int v_typed) (.int y11.2.2.2.2.2.2) (.ref q3) u0_18 u0_19 u0_20 u0_21 u0_22 u0_23 u0_24 u0_25 u0_26 u0_27 u0_28 u0_29 u0_30 u0_31 u0_32 u0_33 u0_34 u0_35 u0_36 u0_37 u0_38 u0_39 u0_40, aB cy q1 80 v_text, aB cy q2 40 y26, aI cy q3 7 v_asked]) E frX11_193 hS 0 rfl (Nat.le_of_ble_eq_true rfl) rfl rfl rfl rfl dX11_rule_51 (fun H locs hS => ?_)
    refine lv_iconst (v := 0) hx hb dX11_rule_54 (by decide) ?_
    obtain rfl := Option.some.inj h
    exact rt_i E hQ (.null) hS dX11_rule_55
  · have h := it_pos c2 h
    refine lv_iconst (v := -1) hx hb dX11_rule_17 (by decide) ?_
    refine lv_aload_n hx hb dX11_rule_18 rfl (lv_at hl 1 rfl) ?_
    refine r_get E frX11_118 hS 0 rfl rfl dX11_rule_19 ?_
    refine lv_isub hx hb dX11_rule_22 ?_
    obtain rfl := Option.some.inj h
    exact rt_i E hQ (.null) hS dX11_rule_23
def X11_wantedBy_s5 (v_people : Int32) (nw1_ : Nat) (w1_ : Nat → Int32) (p2 : Int32) (x5 : Int32 × Int32) : Option ((Int32 × Int32) ⊕ (Int32)) :=
  if v_people ≤ x5.2 then (some (.inr x5.1)) else (gi ((28 : Int32) + x5.2) nw1_ (some (.inl ((x5.1 ||| (if (X11_has (w1_ ((28 : Int32) + x5.2).toNatClampNeg) p2) = 0 then (0 : Int32) else ((1 : Int32) <<< (x5.2 &&& 31)))), (x5.2 + (1 : Int32))))))
def X11_wantedBy (v_people : Int32) (nw1_ : Nat) (w1_ : Nat → Int32) (p2 : Int32) : Option (Int32) :=
  (lp (fun x5 => X11_wantedBy_s5 v_people nw1_ w1_ p2 x5) 1000 ((0 : Int32), (0 : Int32))).bind fun y5 => some y5
set_option maxHeartbeats 4000000 in
set_option maxRecDepth 100000 in
theorem c_X11_wantedBy {l : Launch} {D : va_G} {cy : Nat → ClassId} (q0 : Nat) (q1 : Nat) (u0_0 : Value) (u0_2 : Value) (u0_3 : Value) (u0_4 : Value) (u0_5 : Value) (u0_6 : Value) (u0_7 : Value) (u0_8 : Value) (u0_9 : Value) (u0_10 : Value) (u0_11 : Value) (u0_12 : Value) (u0_13 : Value) (u0_14 : Value) (u0_15 : Value) (u0_16 : Value) (u0_17 : Value) (u0_18 : Value) (u0_19 : Value) (u0_20 : Value) (u0_21 : Value) (u0_22 : Value) (u0_23 : Value) (u0_24 : Value) (u0_25 : Value) (u0_26 : Value) (u0_27 : Value) (u0_28 : Value) (u0_29 : Value) (u0_30 : Value) (u0_31 : Value) (u0_32 : Value) (u0_33 : Value) (u0_34 : Value) (u0_35 : Value) (u0_36 : Value) (u0_37 : Value) (u0_38 : Value) (u0_39 : Value) (u0_40 : Value) (v_people : Int32) (nw1_ : Nat) (w1_ : Nat → Int32) (p2 : Int32) (r : Int32) (h : X11_wantedBy v_people nw1_ w1_ p2 = some r) : Ct l yX11_wantedBy cX11_wantedBy 5 (some .int) 1 21 D cy [.ref q0, .ref q1, .int p2] [oX11 q0 u0_0 (.int v_people) u0_2 u0_3 u0_4 u0_5 u0_6 u0_7 u0_8 u0_9 u0_10 u0_11 u0_12 u0_13 u0_14 u0_15 u0_16 u0_17 u0_18 u0_19 u0_20 u0_21 u0_22 u0_23 u0_24 u0_25 u0_26 u0_27 u0_28 u0_29 u0_30 u0_31 u0_32 u0_33 u0_34 u0_35 u0_36 u0_37 u0_38 u0_39 u0_40, aI cy q1 nw1_ w1_] (fun _ => [oX11 q0 u0_0 (.int v_people) u0_2 u0_3 u0_4 u0_5 u0_6 u0_7 u0_8 u0_9 u0_10 u0_11 u0_12 u0_13 u0_14 u0_15 u0_16 u0_17 u0_18 u0_19 u0_20 u0_21 u0_22 u0_23 u0_24 u0_25 u0_26 u0_27 u0_28 u0_29 u0_30 u0_31 u0_32 u0_33 u0_34 u0_35 u0_36 u0_37 u0_38 u0_39 u0_40, aI cy q1 nw1_ w1_]) (some (.int r)) := by
  refine Ct.mk kX11_wantedBy (by decide +kernel) (Nat.le_of_ble_eq_true rfl) ?_
  intro p e s m below meth c A ls args R Q hRf hRl hQ E H locs hS hl
  have hx := E.x
  have hb := E.b
  have hl : lv_has ls 5 [(0, .ref q0), (1, .ref q1), (2, .int p2)] := hl
  unfold X11_wantedBy at h
  refine lv_iconst (v := 0) hx hb dX11_wantedBy_0 (by decide) ?_
  refine lv_istore_n (lv' := [(3, .int (0 : Int32)), (0, .ref q0), (1, .ref q1), (2, .int p2)]) hx hb dX11_wantedBy_1 rfl hl (by decide) rfl (fun ls hl => ?_)
  refine lv_iconst (v := 0) hx hb dX11_wantedBy_2 (by decide) ?_
  refine lv_istore (lv' := [(4, .int (0 : Int32)), (3, .int (0 : Int32)), (0, .ref q0), (1, .ref q1), (2, .int p2)]) hx hb dX11_wantedBy_3 hl (by decide) rfl (fun ls hl => ?_)
  have hL5 : ∀ (n : Nat) (x5 : Int32 × Int32) (y5 : Int32) (H : Heap) (locs : List Loc) (ls : Array Slot), lp (fun x5 => X11_wantedBy_s5 v_people nw1_ w1_ p2 x5) n x5 = some y5 → Sv D A s.heap [oX11 q0 u0_0 (.int v_people) u0_2 u0_3 u0_4 u0_5 u0_6 u0_7 u0_8 u0_9 u0_10 u0_11 u0_12 u0_13 u0_14 u0_15 u0_16 u0_17 u0_18 u0_19 u0_20 u0_21 u0_22 u0_23 u0_24 u0_25 u0_26 u0_27 u0_28 u0_29 u0_30 u0_31 u0_32 u0_33 u0_34 u0_35 u0_36 u0_37 u0_38 u0_39 u0_40, aI cy q1 nw1_ w1_] H locs → lv_has ls 5 [(0, .ref q0), (1, .ref q1), (2, .int p2), (3, .int x5.1), (4, .int x5.2)] → (∀ (H : Heap) (locs : List Loc) (ls : Array Slot), Sv D A s.heap [oX11 q0 u0_0 (.int v_people) u0_2 u0_3 u0_4 u0_5 u0_6 u0_7 u0_8 u0_9 u0_10 u0_11 u0_12 u0_13 u0_14 u0_15 u0_16 u0_17 u0_18 u0_19 u0_20 u0_21 u0_22 u0_23 u0_24 u0_25 u0_26 u0_27 u0_28 u0_29 u0_30 u0_31 u0_32 u0_33 u0_34 u0_35 u0_36 u0_37 u0_38 u0_39 u0_40, aI cy q1 nw1_ w1_] H locs → lv_has ls 5 [(3, .int y5)] → W p l e R s m args below meth c H locs 0 0 Q (F0 m 45 ls [])) → W p l e R s m args below meth c H locs 0 0 Q (F0 m 5 ls []) := by
    intro n
    induction n with
    | zero =>
      intro x5 y5 H locs ls h
      exact lp_zero h
    | succ n ih5 =>
      intro x5 y5 H locs ls h hS hl hk5_0
      obtain ⟨z5, h, hz5a, hz5b⟩ := lp_succ h
      have h : X11_wantedBy_s5 v_people nw1_ w1_ p2 x5 = some z5 := h
      unfold X11_wantedBy_s5 at h
      refine lv_iload hx hb dX11_wantedBy_5 (lv_at hl 4 rfl) ?_
      refine lv_aload_n hx hb dX11_wantedBy_7 rfl (lv_at hl 0 rfl) ?_
      refine r_get E frX11_92 hS 0 rfl rfl dX11_wantedBy_8 ?_
      refine lv_icmp_ge (tgt := 45) hx hb dX11_wantedBy_11 (by decide) (fun c1 => ?_) (fun c1 => ?_)
      · have h := it_pos c1 h
        obtain rfl := hz5b _ (Option.some.inj h).symm
        exact hk5_0  H locs ls hS (lv_sub hl [3] rfl)
      · have h := it_neg c1 h
        refine lv_iload_n hx hb dX11_wantedBy_14 rfl (lv_at hl 3 rfl) ?_
        refine lv_aload_n hx hb dX11_wantedBy_15 rfl (lv_at hl 1 rfl) ?_
        refine lv_bipush (v := 28) hx hb dX11_wantedBy_16 (by decide) ?_
        refine lv_iload hx hb dX11_wantedBy_18 (lv_at hl 4 rfl) ?_
        refine lv_iadd hx hb dX11_wantedBy_20 ?_
        obtain ⟨g2, h⟩ := gi_some h
        refine r_iald E hS 1 rfl g2 dX11_wantedBy_21 ?_
        refine lv_iload_n hx hb dX11_wantedBy_22 rfl (lv_at hl 2 rfl) ?_
        refine ct_S (ws' := fun _ => [oX11 q0 u0_0 (.int v_people) u0_2 u0_3 u0_4 u0_5 u0_6 u0_7 u0_8 u0_9 u0_10 u0_11 u0_12 u0_13 u0_14 u0_15 u0_16 u0_17 u0_18 u0_19 u0_20 u0_21 u0_22 u0_23 u0_24 u0_25 u0_26 u0_27 u0_28 u0_29 u0_30 u0_31 u0_32 u0_33 u0_34 u0_35 u0_36 u0_37 u0_38 u0_39 u0_40, aI cy q1 nw1_ w1_]) (st' := [.int (X11_has (w1_ ((28 : Int32) + x5.2).toNatClampNeg) p2), .int x5.1]) (rest := [.int x5.1]) E hS slX11_196 (c_X11_has (l := l) (D := D) (cy := cy) (p0 := (w1_ ((28 : Int32) + x5.2).toNatClampNeg)) (p1 := p2) (r := (X11_has (w1_ ((28 : Int32) + x5.2).toNatClampNeg) p2)) rfl) [] rfl rfl (fun _ => rfl) (fun _ => rfl) rfl rfl (Nat.le_of_ble_eq_true rfl) hl.1 (by rw [hRf]; exact Nat.le_of_ble_eq_true rfl) (by rw [hRl]; exact Nat.le_of_ble_eq_true rfl) ⟨Nat.zero_le _, Nat.zero_le _⟩ dX11_wantedBy_23 rfl (fun H locs _ hS => ?_)
        have hJ37 : ∀ (s37_1 : Int32) (ls : Array Slot), s37_1 = (if (X11_has (w1_ ((28 : Int32) + x5.2).toNatClampNeg) p2) = 0 then (0 : Int32) else ((1 : Int32) <<< (x5.2 &&& 31))) → lv_has ls 5 [(0, .ref q0), (1, .ref q1), (2, .int p2), (4, .int x5.2)] → W p l e R s m args below meth c H locs 0 0 Q (F0 m 37 ls [.int s37_1, .int x5.1]) := by
          intro s37_1 ls es37_1 hl
          subst es37_1
          refine lv_ior hx hb dX11_wantedBy_37 ?_
          refine lv_istore_n (lv' := [(3, .int (x5.1 ||| (if (X11_has (w1_ ((28 : Int32) + x5.2).toNatClampNeg) p2) = 0 then (0 : Int32) else ((1 : Int32) <<< (x5.2 &&& 31))))), (0, .ref q0), (1, .ref q1), (2, .int p2), (4, .int x5.2)]) hx hb dX11_wantedBy_38 rfl hl (by decide) rfl (fun ls hl => ?_)
          refine lv_iinc (v := (x5.2 + (1 : Int32))) (lv' := [(4, .int (x5.2 + (1 : Int32))), (3, .int (x5.1 ||| (if (X11_has (w1_ ((28 : Int32) + x5.2).toNatClampNeg) p2) = 0 then (0 : Int32) else ((1 : Int32) <<< (x5.2 &&& 31))))), (0, .ref q0), (1, .ref q1), (2, .int p2)]) hx hb dX11_wantedBy_39 hl (k := 4) rfl rfl (by decide) rfl (fun ls hl => ?_)
          refine lv_goto (tgt := 5) hx hb dX11_wantedBy_42 (by decide) ?_
          exact ih5 ((x5.1 ||| (if (X11_has (w1_ ((28 : Int32) + x5.2).toNatClampNeg) p2) = 0 then (0 : Int32) else ((1 : Int32) <<< (x5.2 &&& 31)))), (x5.2 + (1 : Int32))) y5  H locs ls (hz5a _ (Option.some.inj h).symm) hS (lv_sub hl [2, 3, 4, 1, 0] rfl) hk5_0
        refine lv_if_eq (tgt := 36) hx hb dX11_wantedBy_26 (by decide) (fun c3 => ?_) (fun c3 => ?_)
        · refine lv_iconst (v := 0) hx hb dX11_wantedBy_36 (by decide) ?_
          exact hJ37 _ ls ((if_pos c3)).symm (lv_sub hl [0, 1, 2, 4] rfl)
        · refine lv_iconst (v := 1) hx hb dX11_wantedBy_29 (by decide) ?_
          refine lv_iload hx hb dX11_wantedBy_30 (lv_at hl 4 rfl) ?_
          refine lv_ishl hx hb dX11_wantedBy_32 ?_
          refine lv_goto (tgt := 37) hx hb dX11_wantedBy_33 (by decide) ?_
          exact hJ37 _ ls ((if_neg c3)).symm (lv_sub hl [0, 1, 2, 4] rfl)
  obtain ⟨y5, e5, h⟩ := bd_some h
  refine hL5 1000 ((0 : Int32), (0 : Int32)) y5  H locs ls e5 hS (lv_sub hl [2, 3, 4, 1, 0] rfl) (fun H locs ls hS hl => ?_)
  refine lv_iload_n hx hb dX11_wantedBy_45 rfl (lv_at hl 0 rfl) ?_
  obtain rfl := Option.some.inj h
  exact rt_i E hQ (.null) hS dX11_wantedBy_46
def X11_needs (v_people : Int32) (v_length : Int32) (v_top : Int32) (v_at : Int32) (v_wrong : Int32) (v_ruleSize : Int32) (v_isAsked : Int32) (v_rule : Nat → Int32) (v_asked : Nat → Int32) (nw1_ : Nat) (w1_ : Nat → Int32) (p2 : Int32) (p3 : Int32) : Option (Int32 × Int32 × Int32 × Int32 × Int32 × Int32 × (Nat → Int32)) :=
  (X11_wantedBy v_people nw1_ w1_ p3).bind fun y3 => if v_ruleSize = 0 then (gi p3 nw1_ (some ((if (((w1_ p3.toNatClampNeg) - (4 : Int32)) + (J6_bitCount_0f7a4 y3)) ≤ 0 then (0 : Int32) else (1 : Int32)), v_length, v_top, v_at, v_wrong, v_isAsked, v_asked))) else (gi p3 nw1_ (gi (0 : Int32) 7 (gi p2 nw1_ (gi (1 : Int32) 7 (gi (2 : Int32) 7 (gi ((28 : Int32) + p2) nw1_ (gi (3 : Int32) 7 (gi ((14 : Int32) + p3) nw1_ (gi (4 : Int32) 7 (gi ((28 : Int32) + p3) nw1_ (gi (5 : Int32) 7 (gi (35 : Int32) nw1_ (gz (7 : Int32) (gi (6 : Int32) 7 ((X11_expr 100 0 ((X11_begin v_ruleSize (40 : Int32)).1) ((X11_begin v_ruleSize (40 : Int32)).2.1) ((X11_begin v_ruleSize (40 : Int32)).2.2.1) ((X11_begin v_ruleSize (40 : Int32)).2.2.2) (1 : Int32) 40 v_rule (upd (upd (upd (upd (upd (upd (upd v_asked (0 : Int32).toNatClampNeg (w1_ p3.toNatClampNeg)) (1 : Int32).toNatClampNeg (w1_ p2.toNatClampNeg)) (2 : Int32).toNatClampNeg (J6_bitCount_0f7a4 y3)) (3 : Int32).toNatClampNeg (J6_bitCount_0f7a4 (w1_ ((28 : Int32) + p2).toNatClampNeg))) (4 : Int32).toNatClampNeg (w1_ ((14 : Int32) + p3).toNatClampNeg)) (5 : Int32).toNatClampNeg (((w1_ ((28 : Int32) + p3).toNatClampNeg) >>> (p2 &&& 31)) &&& (1 : Int32))) (6 : Int32).toNatClampNeg (irem (w1_ (35 : Int32).toNatClampNeg) (7 : Int32))) (0 : Int32)).bind fun y139 => some ((if y139.1 ≤ 0 then (0 : Int32) else (1 : Int32)), (X11_begin v_ruleSize (40 : Int32)).1, (X11_begin v_ruleSize (40 : Int32)).2.1, y139.2.1, y139.2.2, (0 : Int32), (upd (upd (upd (upd (upd (upd (upd v_asked (0 : Int32).toNatClampNeg (w1_ p3.toNatClampNeg)) (1 : Int32).toNatClampNeg (w1_ p2.toNatClampNeg)) (2 : Int32).toNatClampNeg (J6_bitCount_0f7a4 y3)) (3 : Int32).toNatClampNeg (J6_bitCount_0f7a4 (w1_ ((28 : Int32) + p2).toNatClampNeg))) (4 : Int32).toNatClampNeg (w1_ ((14 : Int32) + p3).toNatClampNeg)) (5 : Int32).toNatClampNeg (((w1_ ((28 : Int32) + p3).toNatClampNeg) >>> (p2 &&& 31)) &&& (1 : Int32))) (6 : Int32).toNatClampNeg (irem (w1_ (35 : Int32).toNatClampNeg) (7 : Int32)))))))))))))))))))
set_option maxHeartbeats 4000000 in
set_option maxRecDepth 100000 in
theorem c_X11_needs {l : Launch} {D : va_G} {cy : Nat → ClassId} (q0 : Nat) (q1 : Nat) (q2 : Nat) (q3 : Nat) (u0_0 : Value) (u0_2 : Value) (u0_3 : Value) (u0_4 : Value) (u0_5 : Value) (u0_6 : Value) (u0_7 : Value) (u0_12 : Value) (u0_14 : Value) (u0_18 : Value) (u0_19 : Value) (u0_20 : Value) (u0_21 : Value) (u0_22 : Value) (u0_23 : Value) (u0_24 : Value) (u0_25 : Value) (u0_26 : Value) (u0_27 : Value) (u0_28 : Value) (u0_29 : Value) (u0_30 : Value) (u0_31 : Value) (u0_32 : Value) (u0_33 : Value) (u0_34 : Value) (u0_35 : Value) (u0_36 : Value) (u0_37 : Value) (u0_38 : Value) (u0_39 : Value) (u0_40 : Value) (v_people : Int32) (v_length : Int32) (v_top : Int32) (v_at : Int32) (v_wrong : Int32) (v_ruleSize : Int32) (v_isAsked : Int32) (v_rule : Nat → Int32) (v_asked : Nat → Int32) (nw1_ : Nat) (w1_ : Nat → Int32) (p2 : Int32) (p3 : Int32) (r : Int32 × Int32 × Int32 × Int32 × Int32 × Int32 × (Nat → Int32)) (h : X11_needs v_people v_length v_top v_at v_wrong v_ruleSize v_isAsked v_rule v_asked nw1_ w1_ p2 p3 = some r) : Ct l yX11_needs cX11_needs 6 (some .boolean) 105 2508 D cy [.ref q0, .ref q3, .int p2, .int p3] [oX11 q0 u0_0 (.int v_people) u0_2 u0_3 u0_4 u0_5 u0_6 u0_7 (.int v_length) (.int v_top) (.int v_at) (.int v_wrong) u0_12 (.ref q1) u0_14 (.int v_ruleSize) (.int v_isAsked) (.ref q2) u0_18 u0_19 u0_20 u0_21 u0_22 u0_23 u0_24 u0_25 u0_26 u0_27 u0_28 u0_29 u0_30 u0_31 u0_32 u0_33 u0_34 u0_35 u0_36 u0_37 u0_38 u0_39 u0_40, aB cy q1 40 v_rule, aI cy q2 7 v_asked, aI cy q3 nw1_ w1_] (fun _ => [oX11 q0 u0_0 (.int v_people) u0_2 u0_3 u0_4 u0_5 u0_6 (.ref q1) (.int r.2.1) (.int r.2.2.1) (.int r.2.2.2.1) (.int r.2.2.2.2.1) u0_12 (.ref q1) u0_14 (.int v_ruleSize) (.int r.2.2.2.2.2.1) (.ref q2) u0_18 u0_19 u0_20 u0_21 u0_22 u0_23 u0_24 u0_25 u0_26 u0_27 u0_28 u0_29 u0_30 u0_31 u0_32 u0_33 u0_34 u0_35 u0_36 u0_37 u0_38 u0_39 u0_40, aB cy q1 40 v_rule, aI cy q2 7 r.2.2.2.2.2.2, aI cy q3 nw1_ w1_]) (some (.int r.1)) := by
  refine Ct.mk kX11_needs (by decide +kernel) (Nat.le_of_ble_eq_true rfl) ?_
  intro p e s m below meth c A ls args R Q hRf hRl hQ E H locs hS hl
  have hx := E.x
  have hb := E.b
  have hl : lv_has ls 6 [(0, .ref q0), (1, .ref q3), (2, .int p2), (3, .int p3)] := hl
  unfold X11_needs at h
  refine lv_aload_n hx hb dX11_needs_0 rfl (lv_at hl 0 rfl) ?_
  refine lv_aload_n hx hb dX11_needs_1 rfl (lv_at hl 1 rfl) ?_
  refine lv_iload_n hx hb dX11_needs_2 rfl (lv_at hl 3 rfl) ?_
  obtain ⟨y3, e1, h⟩ := bd_some h
  refine ct_V (ws' := fun _ => [oX11 q0 u0_0 (.int v_people) u0_2 u0_3 u0_4 u0_5 u0_6 u0_7 (.int v_length) (.int v_top) (.int v_at) (.int v_wrong) u0_12 (.ref q1) u0_14 (.int v_ruleSize) (.int v_isAsked) (.ref q2) u0_18 u0_19 u0_20 u0_21 u0_22 u0_23 u0_24 u0_25 u0_26 u0_27 u0_28 u0_29 u0_30 u0_31 u0_32 u0_33 u0_34 u0_35 u0_36 u0_37 u0_38 u0_39 u0_40, aB cy q1 40 v_rule, aI cy q2 7 v_asked, aI cy q3 nw1_ w1_]) (st' := [.int y3]) (rest := []) E hS vlX11_200 (c_X11_wantedBy (l := l) (D := D) (cy := cy) (q0 := q0) (q1 := q3) (u0_0 := u0_0) (u0_2 := u0_2) (u0_3 := u0_3) (u0_4 := u0_4) (u0_5 := u0_5) (u0_6 := u0_6) (u0_7 := u0_7) (u0_8 := .int v_length) (u0_9 := .int v_top) (u0_10 := .int v_at) (u0_11 := .int v_wrong) (u0_12 := u0_12) (u0_13 := .ref q1) (u0_14 := u0_14) (u0_15 := .int v_ruleSize) (u0_16 := .int v_isAsked) (u0_17 := .ref q2) (u0_18 := u0_18) (u0_19 := u0_19) (u0_20 := u0_20) (u0_21 := u0_21) (u0_22 := u0_22) (u0_23 := u0_23) (u0_24 := u0_24) (u0_25 := u0_25) (u0_26 := u0_26) (u0_27 := u0_27) (u0_28 := u0_28) (u0_29 := u0_29) (u0_30 := u0_30) (u0_31 := u0_31) (u0_32 := u0_32) (u0_33 := u0_33) (u0_34 := u0_34) (u0_35 := u0_35) (u0_36 := u0_36) (u0_37 := u0_37) (u0_38 := u0_38) (u0_39 := u0_39) (u0_40 := u0_40) (v_people := v_people) (nw1_ := nw1_) (w1_ := w1_) (p2 := p3) (r := y3) e1) [0, 3] rfl rfl (fun _ => rfl) (fun _ => rfl) rfl rfl rfl rfl (Nat.le_of_ble_eq_true rfl) hl.1 (by rw [hRf]; exact Nat.le_of_ble_eq_true rfl) (by rw [hRl]; exact Nat.le_of_ble_eq_true rfl) ⟨Nat.zero_le _, Nat.zero_le _⟩ dX11_needs_3 rfl (fun H locs _ hS => ?_)
  refine ct_S (ws' := fun _ => [oX11 q0 u0_0 (.int v_people) u0_2 u0_3 u0_4 u0_5 u0_6 u0_7 (.int v_length) (.int v_top) (.int v_at) (.int v_wrong) u0_12 (.ref q1) u0_14 (.int v_ruleSize) (.int v_isAsked) (.ref q2) u0_18 u0_19 u0_20 u0_21 u0_22 u0_23 u0_24 u0_25 u0_26 u0_27 u0_28 u0_29 u0_30 u0_31 u0_32 u0_33 u0_34 u0_35 u0_36 u0_37 u0_38 u0_39 u0_40, aB cy q1 40 v_rule, aI cy q2 7 v_asked, aI cy q3 nw1_ w1_]) (st' := [.int (J6_bitCount_0f7a4 y3)]) (rest := []) E hS slX11_204 (c_J6_bitCount_0f7a4 (l := l) (D := D) (cy := cy) (p0 := y3) (r := (J6_bitCount_0f7a4 y3)) rfl) [] rfl rfl (fun _ => rfl) (fun _ => rfl) rfl rfl (Nat.le_of_ble_eq_true rfl) hl.1 (by rw [hRf]; exact Nat.le_of_ble_eq_true rfl) (by rw [hRl]; exact Nat.le_of_ble_eq_true rfl) ⟨Nat.zero_le _, Nat.zero_le _⟩ dX11_needs_6 rfl (fun H locs _ hS => ?_)
  refine lv_istore (lv' := [(4, .int (J6_bitCount_0f7a4 y3)), (0, .ref q0), (1, .ref q3), (2, .int p2), (3, .int p3)]) hx hb dX11_needs_9 hl (by decide) rfl (fun ls hl => ?_)
  refine lv_aload_n hx hb dX11_needs_11 rfl (lv_at hl 1 rfl) ?_
  refine r_get E frX11_193 hS 0 rfl rfl dX11_needs_12 ?_
  refine lv_if_ne (tgt := 35) hx hb dX11_needs_15 (by decide) (fun c2 => ?_) (fun c2 => ?_)
  · have h := it_neg c2 h
    refine lv_aload_n hx hb dX11_needs_35 rfl (lv_at hl 1 rfl) ?_
    refine r_get E frX11_30 hS 0 rfl rfl dX11_needs_36 ?_
    refine lv_iconst (v := 0) hx hb dX11_needs_39 (by decide) ?_
    refine lv_aload_n hx hb dX11_needs_40 rfl (lv_at hl 2 rfl) ?_
    refine lv_iload_n hx hb dX11_needs_41 rfl (lv_at hl 4 rfl) ?_
    obtain ⟨g3, h⟩ := gi_some h
    refine r_iald E hS 3 rfl g3 dX11_needs_42 ?_
    obtain ⟨g4, h⟩ := gi_some h
    refine r_iast (ws' := [oX11 q0 u0_0 (.int v_people) u0_2 u0_3 u0_4 u0_5 u0_6 u0_7 (.int v_length) (.int v_top) (.int v_at) (.int v_wrong) u0_12 (.ref q1) u0_14 (.int v_ruleSize) (.int v_isAsked) (.ref q2) u0_18 u0_19 u0_20 u0_21 u0_22 u0_23 u0_24 u0_25 u0_26 u0_27 u0_28 u0_29 u0_30 u0_31 u0_32 u0_33 u0_34 u0_35 u0_36 u0_37 u0_38 u0_39 u0_40, aB cy q1 40 v_rule, aI cy q2 7 (upd v_asked (0 : Int32).toNatClampNeg (w1_ p3.toNatClampNeg)), aI cy q3 nw1_ w1_]) E hS 2 rfl g4 rfl dX11_needs_43 (fun H locs hS => ?_)
    refine lv_aload_n hx hb dX11_needs_44 rfl (lv_at hl 1 rfl) ?_
    refine r_get E frX11_30 hS 0 rfl rfl dX11_needs_45 ?_
    refine lv_iconst (v := 1) hx hb dX11_needs_48 (by decide) ?_
    refine lv_aload_n hx hb dX11_needs_49 rfl (lv_at hl 2 rfl) ?_
    refine lv_iload_n hx hb dX11_needs_50 rfl (lv_at hl 3 rfl) ?_
    obtain ⟨g5, h⟩ := gi_some h
    refine r_iald E hS 3 rfl g5 dX11_needs_51 ?_
    obtain ⟨g6, h⟩ := gi_some h
    refine r_iast (ws' := [oX11 q0 u0_0 (.int v_people) u0_2 u0_3 u0_4 u0_5 u0_6 u0_7 (.int v_length) (.int v_top) (.int v_at) (.int v_wrong) u0_12 (.ref q1) u0_14 (.int v_ruleSize) (.int v_isAsked) (.ref q2) u0_18 u0_19 u0_20 u0_21 u0_22 u0_23 u0_24 u0_25 u0_26 u0_27 u0_28 u0_29 u0_30 u0_31 u0_32 u0_33 u0_34 u0_35 u0_36 u0_37 u0_38 u0_39 u0_40, aB cy q1 40 v_rule, aI cy q2 7 (upd (upd v_asked (0 : Int32).toNatClampNeg (w1_ p3.toNatClampNeg)) (1 : Int32).toNatClampNeg (w1_ p2.toNatClampNeg)), aI cy q3 nw1_ w1_]) E hS 2 rfl g6 rfl dX11_needs_52 (fun H locs hS => ?_)
    refine lv_aload_n hx hb dX11_needs_53 rfl (lv_at hl 1 rfl) ?_
    refine r_get E frX11_30 hS 0 rfl rfl dX11_needs_54 ?_
    refine lv_iconst (v := 2) hx hb dX11_needs_57 (by decide) ?_
    refine lv_iload hx hb dX11_needs_58 (lv_at hl 0 rfl) ?_
    obtain ⟨g7, h⟩ := gi_some h
    refine r_iast (ws' := [oX11 q0 u0_0 (.int v_people) u0_2 u0_3 u0_4 u0_5 u0_6 u0_7 (.int v_length) (.int v_top) (.int v_at) (.int v_wrong) u0_12 (.ref q1) u0_14 (.int v_ruleSize) (.int v_isAsked) (.ref q2) u0_18 u0_19 u0_20 u0_21 u0_22 u0_23 u0_24 u0_25 u0_26 u0_27 u0_28 u0_29 u0_30 u0_31 u0_32 u0_33 u0_34 u0_35 u0_36 u0_37 u0_38 u0_39 u0_40, aB cy q1 40 v_rule, aI cy q2 7 (upd (upd (upd v_asked (0 : Int32).toNatClampNeg (w1_ p3.toNatClampNeg)) (1 : Int32).toNatClampNeg (w1_ p2.toNatClampNeg)) (2 : Int32).toNatClampNeg (J6_bitCount_0f7a4 y3)), aI cy q3 nw1_ w1_]) E hS 2 rfl g7 rfl dX11_needs_60 (fun H locs hS => ?_)
    refine lv_aload_n hx hb dX11_needs_61 rfl (lv_at hl 1 rfl) ?_
    refine r_get E frX11_30 hS 0 rfl rfl dX11_needs_62 ?_
    refine lv_iconst (v := 3) hx hb dX11_needs_65 (by decide) ?_
    refine lv_aload_n hx hb dX11_needs_66 rfl (lv_at hl 2 rfl) ?_
    refine lv_bipush (v := 28) hx hb dX11_needs_67 (by decide) ?_
    refine lv_iload_n hx hb dX11_needs_69 rfl (lv_at hl 3 rfl) ?_
    refine lv_iadd hx hb dX11_needs_70 ?_
    obtain ⟨g8, h⟩ := gi_some h
    refine r_iald E hS 3 rfl g8 dX11_needs_71 ?_
    refine ct_S (ws' := fun _ => [oX11 q0 u0_0 (.int v_people) u0_2 u0_3 u0_4 u0_5 u0_6 u0_7 (.int v_length) (.int v_top) (.int v_at) (.int v_wrong) u0_12 (.ref q1) u0_14 (.int v_ruleSize) (.int v_isAsked) (.ref q2) u0_18 u0_19 u0_20 u0_21 u0_22 u0_23 u0_24 u0_25 u0_26 u0_27 u0_28 u0_29 u0_30 u0_31 u0_32 u0_33 u0_34 u0_35 u0_36 u0_37 u0_38 u0_39 u0_40, aB cy q1 40 v_rule, aI cy q2 7 (upd (upd (upd v_asked (0 : Int32).toNatClampNeg (w1_ p3.toNatClampNeg)) (1 : Int32).toNatClampNeg (w1_ p2.toNatClampNeg)) (2 : Int32).toNatClampNeg (J6_bitCount_0f7a4 y3)), aI cy q3 nw1_ w1_]) (st' := [.int (J6_bitCount_0f7a4 (w1_ ((28 : Int32) + p2).toNatClampNeg)), .int (3 : Int32), .ref q2]) (rest := [.int (3 : Int32), .ref q2]) E hS slX11_204 (c_J6_bitCount_0f7a4 (l := l) (D := D) (cy := cy) (p0 := (w1_ ((28 : Int32) + p2).toNatClampNeg)) (r := (J6_bitCount_0f7a4 (w1_ ((28 : Int32) + p2).toNatClampNeg))) rfl) [] rfl rfl (fun _ => rfl) (fun _ => rfl) rfl rfl (Nat.le_of_ble_eq_true rfl) hl.1 (by rw [hRf]; exact Nat.le_of_ble_eq_true rfl) (by rw [hRl]; exact Nat.le_of_ble_eq_true rfl) ⟨Nat.zero_le _, Nat.zero_le _⟩ dX11_needs_72 rfl (fun H locs _ hS => ?_)
    obtain ⟨g9, h⟩ := gi_some h
    refine r_iast (ws' := [oX11 q0 u0_0 (.int v_people) u0_2 u0_3 u0_4 u0_5 u0_6 u0_7 (.int v_length) (.int v_top) (.int v_at) (.int v_wrong) u0_12 (.ref q1) u0_14 (.int v_ruleSize) (.int v_isAsked) (.ref q2) u0_18 u0_19 u0_20 u0_21 u0_22 u0_23 u0_24 u0_25 u0_26 u0_27 u0_28 u0_29 u0_30 u0_31 u0_32 u0_33 u0_34 u0_35 u0_36 u0_37 u0_38 u0_39 u0_40, aB cy q1 40 v_rule, aI cy q2 7 (upd (upd (upd (upd v_asked (0 : Int32).toNatClampNeg (w1_ p3.toNatClampNeg)) (1 : Int32).toNatClampNeg (w1_ p2.toNatClampNeg)) (2 : Int32).toNatClampNeg (J6_bitCount_0f7a4 y3)) (3 : Int32).toNatClampNeg (J6_bitCount_0f7a4 (w1_ ((28 : Int32) + p2).toNatClampNeg))), aI cy q3 nw1_ w1_]) E hS 2 rfl g9 rfl dX11_needs_75 (fun H locs hS => ?_)
    refine lv_aload_n hx hb dX11_needs_76 rfl (lv_at hl 1 rfl) ?_
    refine r_get E frX11_30 hS 0 rfl rfl dX11_needs_77 ?_
    refine lv_iconst (v := 4) hx hb dX11_needs_80 (by decide) ?_
    refine lv_aload_n hx hb dX11_needs_81 rfl (lv_at hl 2 rfl) ?_
    refine lv_bipush (v := 14) hx hb dX11_needs_82 (by decide) ?_
    refine lv_iload_n hx hb dX11_needs_84 rfl (lv_at hl 4 rfl) ?_
    refine lv_iadd hx hb dX11_needs_85 ?_
    obtain ⟨g10, h⟩ := gi_some h
    refine r_iald E hS 3 rfl g10 dX11_needs_86 ?_
    obtain ⟨g11, h⟩ := gi_some h
    refine r_iast (ws' := [oX11 q0 u0_0 (.int v_people) u0_2 u0_3 u0_4 u0_5 u0_6 u0_7 (.int v_length) (.int v_top) (.int v_at) (.int v_wrong) u0_12 (.ref q1) u0_14 (.int v_ruleSize) (.int v_isAsked) (.ref q2) u0_18 u0_19 u0_20 u0_21 u0_22 u0_23 u0_24 u0_25 u0_26 u0_27 u0_28 u0_29 u0_30 u0_31 u0_32 u0_33 u0_34 u0_35 u0_36 u0_37 u0_38 u0_39 u0_40, aB cy q1 40 v_rule, aI cy q2 7 (upd (upd (upd (upd (upd v_asked (0 : Int32).toNatClampNeg (w1_ p3.toNatClampNeg)) (1 : Int32).toNatClampNeg (w1_ p2.toNatClampNeg)) (2 : Int32).toNatClampNeg (J6_bitCount_0f7a4 y3)) (3 : Int32).toNatClampNeg (J6_bitCount_0f7a4 (w1_ ((28 : Int32) + p2).toNatClampNeg))) (4 : Int32).toNatClampNeg (w1_ ((14 : Int32) + p3).toNatClampNeg)), aI cy q3 nw1_ w1_]) E hS 2 rfl g11 rfl dX11_needs_87 (fun H locs hS => ?_)
    refine lv_aload_n hx hb dX11_needs_88 rfl (lv_at hl 1 rfl) ?_
    refine r_get E frX11_30 hS 0 rfl rfl dX11_needs_89 ?_
    refine lv_iconst (v := 5) hx hb dX11_needs_92 (by decide) ?_
    refine lv_aload_n hx hb dX11_needs_93 rfl (lv_at hl 2 rfl) ?_
    refine lv_bipush (v := 28) hx hb dX11_needs_94 (by decide) ?_
    refine lv_iload_n hx hb dX11_needs_96 rfl (lv_at hl 4 rfl) ?_
    refine lv_iadd hx hb dX11_needs_97 ?_
    obtain ⟨g12, h⟩ := gi_some h
    refine r_iald E hS 3 rfl g12 dX11_needs_98 ?_
    refine lv_iload_n hx hb dX11_needs_99 rfl (lv_at hl 3 rfl) ?_
    refine lv_ishr hx hb dX11_needs_100 ?_
    refine lv_iconst (v := 1) hx hb dX11_needs_101 (by decide) ?_
    refine lv_iand hx hb dX11_needs_102 ?_
    obtain ⟨g13, h⟩ := gi_some h
    refine r_iast (ws' := [oX11 q0 u0_0 (.int v_people) u0_2 u0_3 u0_4 u0_5 u0_6 u0_7 (.int v_length) (.int v_top) (.int v_at) (.int v_wrong) u0_12 (.ref q1) u0_14 (.int v_ruleSize) (.int v_isAsked) (.ref q2) u0_18 u0_19 u0_20 u0_21 u0_22 u0_23 u0_24 u0_25 u0_26 u0_27 u0_28 u0_29 u0_30 u0_31 u0_32 u0_33 u0_34 u0_35 u0_36 u0_37 u0_38 u0_39 u0_40, aB cy q1 40 v_rule, aI cy q2 7 (upd (upd (upd (upd (upd (upd v_asked (0 : Int32).toNatClampNeg (w1_ p3.toNatClampNeg)) (1 : Int32).toNatClampNeg (w1_ p2.toNatClampNeg)) (2 : Int32).toNatClampNeg (J6_bitCount_0f7a4 y3)) (3 : Int32).toNatClampNeg (J6_bitCount_0f7a4 (w1_ ((28 : Int32) + p2).toNatClampNeg))) (4 : Int32).toNatClampNeg (w1_ ((14 : Int32) + p3).toNatClampNeg)) (5 : Int32).toNatClampNeg (((w1_ ((28 : Int32) + p3).toNatClampNeg) >>> (p2 &&& 31)) &&& (1 : Int32))), aI cy q3 nw1_ w1_]) E hS 2 rfl g13 rfl dX11_needs_103 (fun H locs hS => ?_)
    refine lv_aload_n hx hb dX11_needs_104 rfl (lv_at hl 1 rfl) ?_
    refine r_get E frX11_30 hS 0 rfl rfl dX11_needs_105 ?_
    refine lv_bipush (v := 6) hx hb dX11_needs_108 (by decide) ?_
    refine lv_aload_n hx hb dX11_needs_110 rfl (lv_at hl 2 rfl) ?_
    refine lv_bipush (v := 35) hx hb dX11_needs_111 (by decide) ?_
    obtain ⟨g14, h⟩ := gi_some h
    refine r_iald E hS 3 rfl g14 dX11_needs_113 ?_
    refine lv_bipush (v := 7) hx hb dX11_needs_114 (by decide) ?_
    obtain ⟨g15, h⟩ := gz_some h
    refine lv_irem hx hb dX11_needs_116 g15 ?_
    obtain ⟨g16, h⟩ := gi_some h
    refine r_iast (ws' := [oX11 q0 u0_0 (.int v_people) u0_2 u0_3 u0_4 u0_5 u0_6 u0_7 (.int v_length) (.int v_top) (.int v_at) (.int v_wrong) u0_12 (.ref q1) u0_14 (.int v_ruleSize) (.int v_isAsked) (.ref q2) u0_18 u0_19 u0_20 u0_21 u0_22 u0_23 u0_24 u0_25 u0_26 u0_27 u0_28 u0_29 u0_30 u0_31 u0_32 u0_33 u0_34 u0_35 u0_36 u0_37 u0_38 u0_39 u0_40, aB cy q1 40 v_rule, aI cy q2 7 (upd (upd (upd (upd (upd (upd (upd v_asked (0 : Int32).toNatClampNeg (w1_ p3.toNatClampNeg)) (1 : Int32).toNatClampNeg (w1_ p2.toNatClampNeg)) (2 : Int32).toNatClampNeg (J6_bitCount_0f7a4 y3)) (3 : Int32).toNatClampNeg (J6_bitCount_0f7a4 (w1_ ((28 : Int32) + p2).toNatClampNeg))) (4 : Int32).toNatClampNeg (w1_ ((14 : Int32) + p3).toNatClampNeg)) (5 : Int32).toNatClampNeg (((w1_ ((28 : Int32) + p3).toNatClampNeg) >>> (p2 &&& 31)) &&& (1 : Int32))) (6 : Int32).toNatClampNeg (irem (w1_ (35 : Int32).toNatClampNeg) (7 : Int32))), aI cy q3 nw1_ w1_]) E hS 2 rfl g16 rfl dX11_needs_117 (fun H locs hS => ?_)
    refine lv_aload_n hx hb dX11_needs_118 rfl (lv_at hl 1 rfl) ?_
    refine lv_aload_n hx hb dX11_needs_119 rfl (lv_at hl 1 rfl) ?_
    refine r_get E frX11_24 hS 0 rfl rfl dX11_needs_120 ?_
    refine lv_aload_n hx hb dX11_needs_123 rfl (lv_at hl 1 rfl) ?_
    refine r_get E frX11_193 hS 0 rfl rfl dX11_needs_124 ?_
    refine lv_bipush (v := 40) hx hb dX11_needs_127 (by decide) ?_
    refine ct_V (ws' := fun _ => [oX11 q0 u0_0 (.int v_people) u0_2 u0_3 u0_4 u0_5 u0_6 (.ref q1) (.int ((X11_begin v_ruleSize (40 : Int32)).1)) (.int ((X11_begin v_ruleSize (40 : Int32)).2.1)) (.int ((X11_begin v_ruleSize (40 : Int32)).2.2.1)) (.int ((X11_begin v_ruleSize (40 : Int32)).2.2.2)) u0_12 (.ref q1) u0_14 (.int v_ruleSize) (.int v_isAsked) (.ref q2) u0_18 u0_19 u0_20 u0_21 u0_22 u0_23 u0_24 u0_25 u0_26 u0_27 u0_28 u0_29 u0_30 u0_31 u0_32 u0_33 u0_34 u0_35 u0_36 u0_37 u0_38 u0_39 u0_40, aB cy q1 40 v_rule, aI cy q2 7 (upd (upd (upd (upd (upd (upd (upd v_asked (0 : Int32).toNatClampNeg (w1_ p3.toNatClampNeg)) (1 : Int32).toNatClampNeg (w1_ p2.toNatClampNeg)) (2 : Int32).toNatClampNeg (J6_bitCount_0f7a4 y3)) (3 : Int32).toNatClampNeg (J6_bitCount_0f7a4 (w1_ ((28 : Int32) + p2).toNatClampNeg))) (4 : Int32).toNatClampNeg (w1_ ((14 : Int32) + p3).toNatClampNeg)) (5 : Int32).toNatClampNeg (((w1_ ((28 : Int32) + p3).toNatClampNeg) >>> (p2 &&& 31)) &&& (1 : Int32))) (6 : Int32).toNatClampNeg (irem (w1_ (35 : Int32).toNatClampNeg) (7 : Int32))), aI cy q3 nw1_ w1_]) (st' := []) (rest := []) E hS vlX11_121 (c_X11_begin (l := l) (D := D) (cy := cy) (q0 := q0) (u0_0 := u0_0) (u0_1 := .int v_people) (u0_2 := u0_2) (u0_3 := u0_3) (u0_4 := u0_4) (u0_5 := u0_5) (u0_6 := u0_6) (u0_7 := u0_7) (u0_12 := u0_12) (u0_13 := .ref q1) (u0_14 := u0_14) (u0_15 := .int v_ruleSize) (u0_16 := .int v_isAsked) (u0_17 := .ref q2) (u0_18 := u0_18) (u0_19 := u0_19) (u0_20 := u0_20) (u0_21 := u0_21) (u0_22 := u0_22) (u0_23 := u0_23) (u0_24 := u0_24) (u0_25 := u0_25) (u0_26 := u0_26) (u0_27 := u0_27) (u0_28 := u0_28) (u0_29 := u0_29) (u0_30 := u0_30) (u0_31 := u0_31) (u0_32 := u0_32) (u0_33 := u0_33) (u0_34 := u0_34) (u0_35 := u0_35) (u0_36 := u0_36) (u0_37 := u0_37) (u0_38 := u0_38) (u0_39 := u0_39) (u0_40 := u0_40) (z_a1 := q1) (v_length := v_length) (v_top := v_top) (v_at := v_at) (v_wrong := v_wrong) (p2 := v_ruleSize) (p3 := (40 : Int32)) (r := (X11_begin v_ruleSize (40 : Int32))) rfl) [0] rfl rfl (fun _ => rfl) (fun _ => rfl) rfl rfl rfl rfl (Nat.le_of_ble_eq_true rfl) hl.1 (by rw [hRf]; exact Nat.le_of_ble_eq_true rfl) (by rw [hRl]; exact Nat.le_of_ble_eq_true rfl) ⟨Nat.zero_le _, Nat.zero_le _⟩ dX11_needs_129 rfl (fun H locs _ hS => ?_)
    refine lv_aload_n hx hb dX11_needs_132 rfl (lv_at hl 1 rfl) ?_
    refine lv_iconst (v := 1) hx hb dX11_needs_133 (by decide) ?_
    refine r_put (ws' := [oX11 q0 u0_0 (.int v_people) u0_2 u0_3 u0_4 u0_5 u0_6 (.ref q1) (.int ((X11_begin v_ruleSize (40 : Int32)).1)) (.int ((X11_begin v_ruleSize (40 : Int32)).2.1)) (.int ((X11_begin v_ruleSize (40 : Int32)).2.2.1)) (.int ((X11_begin v_ruleSize (40 : Int32)).2.2.2)) u0_12 (.ref q1) u0_14 (.int v_ruleSize) (.int (1 : Int32)) (.ref q2) u0_18 u0_19 u0_20 u0_21 u0_22 u0_23 u0_24 u0_25 u0_26 u0_27 u0_28 u0_29 u0_30 u0_31 u0_32 u0_33 u0_34 u0_35 u0_36 u0_37 u0_38 u0_39 u0_40, aB cy q1 40 v_rule, aI cy q2 7 (upd (upd (upd (upd (upd (upd (upd v_asked (0 : Int32).toNatClampNeg (w1_ p3.toNatClampNeg)) (1 : Int32).toNatClampNeg (w1_ p2.toNatClampNeg)) (2 : Int32).toNatClampNeg (J6_bitCount_0f7a4 y3)) (3 : Int32).toNatClampNeg (J6_bitCount_0f7a4 (w1_ ((28 : Int32) + p2).toNatClampNeg))) (4 : Int32).toNatClampNeg (w1_ ((14 : Int32) + p3).toNatClampNeg)) (5 : Int32).toNatClampNeg (((w1_ ((28 : Int32) + p3).toNatClampNeg) >>> (p2 &&& 31)) &&& (1 : Int32))) (6 : Int32).toNatClampNeg (irem (w1_ (35 : Int32).toNatClampNeg) (7 : Int32))), aI cy q3 nw1_ w1_]) E frX11_186 hS 0 rfl (Nat.le_of_ble_eq_true rfl) rfl rfl rfl rfl dX11_needs_134 (fun H locs hS => ?_)
    refine lv_aload_n hx hb dX11_needs_137 rfl (lv_at hl 1 rfl) ?_
    refine lv_iconst (v := 0) hx hb dX11_needs_138 (by decide) ?_
    obtain ⟨y139, e17, h⟩ := bd_some h
    refine ct_V (ws' := fun _ => [oX11 q0 u0_0 (.int v_people) u0_2 u0_3 u0_4 u0_5 u0_6 (.ref q1) (.int ((X11_begin v_ruleSize (40 : Int32)).1)) (.int ((X11_begin v_ruleSize (40 : Int32)).2.1)) (.int y139.2.1) (.int y139.2.2) u0_12 (.ref q1) u0_14 (.int v_ruleSize) (.int (1 : Int32)) (.ref q2) u0_18 u0_19 u0_20 u0_21 u0_22 u0_23 u0_24 u0_25 u0_26 u0_27 u0_28 u0_29 u0_30 u0_31 u0_32 u0_33 u0_34 u0_35 u0_36 u0_37 u0_38 u0_39 u0_40, aB cy q1 40 v_rule, aI cy q2 7 (upd (upd (upd (upd (upd (upd (upd v_asked (0 : Int32).toNatClampNeg (w1_ p3.toNatClampNeg)) (1 : Int32).toNatClampNeg (w1_ p2.toNatClampNeg)) (2 : Int32).toNatClampNeg (J6_bitCount_0f7a4 y3)) (3 : Int32).toNatClampNeg (J6_bitCount_0f7a4 (w1_ ((28 : Int32) + p2).toNatClampNeg))) (4 : Int32).toNatClampNeg (w1_ ((14 : Int32) + p3).toNatClampNeg)) (5 : Int32).toNatClampNeg (((w1_ ((28 : Int32) + p3).toNatClampNeg) >>> (p2 &&& 31)) &&& (1 : Int32))) (6 : Int32).toNatClampNeg (irem (w1_ (35 : Int32).toNatClampNeg) (7 : Int32))), aI cy q3 nw1_ w1_]) (st' := [.int y139.1]) (rest := []) E hS vlX11_173 (c_X11_held (l := l) (D := D) (cy := cy) (q0 := q0) (q1 := q1) (q2 := q2) (u0_0 := u0_0) (u0_1 := .int v_people) (u0_2 := u0_2) (u0_3 := u0_3) (u0_4 := u0_4) (u0_5 := u0_5) (u0_6 := u0_6) (u0_12 := u0_12) (u0_13 := .ref q1) (u0_14 := u0_14) (u0_15 := .int v_ruleSize) (u0_18 := u0_18) (u0_19 := u0_19) (u0_20 := u0_20) (u0_21 := u0_21) (u0_22 := u0_22) (u0_23 := u0_23) (u0_24 := u0_24) (u0_25 := u0_25) (u0_26 := u0_26) (u0_27 := u0_27) (u0_28 := u0_28) (u0_29 := u0_29) (u0_30 := u0_30) (u0_31 := u0_31) (u0_32 := u0_32) (u0_33 := u0_33) (u0_34 := u0_34) (u0_35 := u0_35) (u0_36 := u0_36) (u0_37 := u0_37) (u0_38 := u0_38) (u0_39 := u0_39) (u0_40 := u0_40) (v_length := (X11_begin v_ruleSize (40 : Int32)).1) (v_top := (X11_begin v_ruleSize (40 : Int32)).2.1) (v_at := (X11_begin v_ruleSize (40 : Int32)).2.2.1) (v_wrong := (X11_begin v_ruleSize (40 : Int32)).2.2.2) (v_isAsked := (1 : Int32)) (nv_read := 40) (v_read := v_rule) (v_asked := (upd (upd (upd (upd (upd (upd (upd v_asked (0 : Int32).toNatClampNeg (w1_ p3.toNatClampNeg)) (1 : Int32).toNatClampNeg (w1_ p2.toNatClampNeg)) (2 : Int32).toNatClampNeg (J6_bitCount_0f7a4 y3)) (3 : Int32).toNatClampNeg (J6_bitCount_0f7a4 (w1_ ((28 : Int32) + p2).toNatClampNeg))) (4 : Int32).toNatClampNeg (w1_ ((14 : Int32) + p3).toNatClampNeg)) (5 : Int32).toNatClampNeg (((w1_ ((28 : Int32) + p3).toNatClampNeg) >>> (p2 &&& 31)) &&& (1 : Int32))) (6 : Int32).toNatClampNeg (irem (w1_ (35 : Int32).toNatClampNeg) (7 : Int32)))) (p1 := (0 : Int32)) (r := y139) e17) [0, 1, 2] rfl rfl (fun _ => rfl) (fun _ => rfl) rfl rfl rfl rfl (Nat.le_of_ble_eq_true rfl) hl.1 (by rw [hRf]; exact Nat.le_of_ble_eq_true rfl) (by rw [hRl]; exact Nat.le_of_ble_eq_true rfl) ⟨Nat.zero_le _, Nat.zero_le _⟩ dX11_needs_139 rfl (fun H locs _ hS => ?_)
    refine lv_istore (lv' := [(5, .int y139.1), (4, .int (J6_bitCount_0f7a4 y3)), (0, .ref q0), (1, .ref q3), (2, .int p2), (3, .int p3)]) hx hb dX11_needs_142 hl (by decide) rfl (fun ls hl => ?_)
    refine lv_aload_n hx hb dX11_needs_144 rfl (lv_at hl 2 rfl) ?_
    refine lv_iconst (v := 0) hx hb dX11_needs_145 (by decide) ?_
    refine r_put (ws' := [oX11 q0 u0_0 (.int v_people) u0_2 u0_3 u0_4 u0_5 u0_6 (.ref q1) (.int ((X11_begin v_ruleSize (40 : Int32)).1)) (.int ((X11_begin v_ruleSize (40 : Int32)).2.1)) (.int y139.2.1) (.int y139.2.2) u0_12 (.ref q1) u0_14 (.int v_ruleSize) (.int (0 : Int32)) (.ref q2) u0_18 u0_19 u0_20 u0_21 u0_22 u0_23 u0_24 u0_25 u0_26 u0_27 u0_28 u0_29 u0_30 u0_31 u0_32 u0_33 u0_34 u0_35 u0_36 u0_37 u0_38 u0_39 u0_40, aB cy q1 40 v_rule, aI cy q2 7 (upd (upd (upd (upd (upd (upd (upd v_asked (0 : Int32).toNatClampNeg (w1_ p3.toNatClampNeg)) (1 : Int32).toNatClampNeg (w1_ p2.toNatClampNeg)) (2 : Int32).toNatClampNeg (J6_bitCount_0f7a4 y3)) (3 : Int32).toNatClampNeg (J6_bitCount_0f7a4 (w1_ ((28 : Int32) + p2).toNatClampNeg))) (4 : Int32).toNatClampNeg (w1_ ((14 : Int32) + p3).toNatClampNeg)) (5 : Int32).toNatClampNeg (((w1_ ((28 : Int32) + p3).toNatClampNeg) >>> (p2 &&& 31)) &&& (1 : Int32))) (6 : Int32).toNatClampNeg (irem (w1_ (35 : Int32).toNatClampNeg) (7 : Int32))), aI cy q3 nw1_ w1_]) E frX11_186 hS 0 rfl (Nat.le_of_ble_eq_true rfl) rfl rfl rfl rfl dX11_needs_146 (fun H locs hS => ?_)
    refine lv_iload hx hb dX11_needs_149 (lv_at hl 0 rfl) ?_
    have hJ159 : ∀ (s159_0 : Int32) (ls : Array Slot), s159_0 = (if y139.1 ≤ 0 then (0 : Int32) else (1 : Int32)) → lv_has ls 6 [] → W p l e R s m args below meth c H locs 0 0 Q (F0 m 159 ls [.int s159_0]) := by
      intro s159_0 ls es159_0 hl
      subst es159_0
      obtain rfl := Option.some.inj h
      exact rt_n E (by repeat' (first | rfl | split)) hQ (.null) hS dX11_needs_159
    refine lv_if_le (tgt := 158) hx hb dX11_needs_151 (by decide) (fun c18 => ?_) (fun c18 => ?_)
    · refine lv_iconst (v := 0) hx hb dX11_needs_158 (by decide) ?_
      exact hJ159 _ ls ((if_pos c18)).symm (lv_sub hl [] rfl)
    · refine lv_iconst (v := 1) hx hb dX11_needs_154 (by decide) ?_
      refine lv_goto (tgt := 159) hx hb dX11_needs_155 (by decide) ?_
      exact hJ159 _ ls ((if_neg c18)).symm (lv_sub hl [] rfl)
  · have h := it_pos c2 h
    refine lv_aload_n hx hb dX11_needs_18 rfl (lv_at hl 2 rfl) ?_
    refine lv_iload_n hx hb dX11_needs_19 rfl (lv_at hl 4 rfl) ?_
    obtain ⟨g19, h⟩ := gi_some h
    refine r_iald E hS 3 rfl g19 dX11_needs_20 ?_
    refine lv_iconst (v := 4) hx hb dX11_needs_21 (by decide) ?_
    refine lv_isub hx hb dX11_needs_22 ?_
    refine lv_iload hx hb dX11_needs_23 (lv_at hl 0 rfl) ?_
    refine lv_iadd hx hb dX11_needs_25 ?_
    have hJ34 : ∀ (s34_0 : Int32) (ls : Array Slot), s34_0 = (if (((w1_ p3.toNatClampNeg) - (4 : Int32)) + (J6_bitCount_0f7a4 y3)) ≤ 0 then (0 : Int32) else (1 : Int32)) → lv_has ls 6 [] → W p l e R s m args below meth c H locs 0 0 Q (F0 m 34 ls [.int s34_0]) := by
      intro s34_0 ls es34_0 hl
      subst es34_0
      obtain rfl := Option.some.inj h
      exact rt_n E (by repeat' (first | rfl | split)) hQ (.null) hS dX11_needs_34
    refine lv_if_le (tgt := 33) hx hb dX11_needs_26 (by decide) (fun c20 => ?_) (fun c20 => ?_)
    · refine lv_iconst (v := 0) hx hb dX11_needs_33 (by decide) ?_
      exact hJ34 _ ls ((if_pos c20)).symm (lv_sub hl [] rfl)
    · refine lv_iconst (v := 1) hx hb dX11_needs_29 (by decide) ?_
      refine lv_goto (tgt := 34) hx hb dX11_needs_30 (by decide) ?_
      exact hJ34 _ ls ((if_neg c20)).symm (lv_sub hl [] rfl)
def X11_neededBy_s13 (v_people : Int32) (v_ruleSize : Int32) (v_rule : Nat → Int32) (nw1_ : Nat) (w1_ : Nat → Int32) (p2 : Int32) (y3 : Int32) (x13 : Int32 × Int32 × Int32 × Int32 × Int32 × Int32 × Int32 × (Nat → Int32)) : Option ((Int32 × Int32 × Int32 × Int32 × Int32 × Int32 × Int32 × (Nat → Int32)) ⊕ (Int32 × Int32 × Int32 × Int32 × Int32 × Int32 × (Nat → Int32))) :=
  if v_people ≤ x13.2.1 then (some (.inr (x13.1, x13.2.2.1, x13.2.2.2.1, x13.2.2.2.2.1, x13.2.2.2.2.2.1, x13.2.2.2.2.2.2.1, x13.2.2.2.2.2.2.2))) else (if (X11_has y3 x13.2.1) = 0 then (some (.inl ((x13.1 ||| (0 : Int32)), (x13.2.1 + (1 : Int32)), x13.2.2.1, x13.2.2.2.1, x13.2.2.2.2.1, x13.2.2.2.2.2.1, x13.2.2.2.2.2.2.1, x13.2.2.2.2.2.2.2))) else ((X11_needs v_people x13.2.2.1 x13.2.2.2.1 x13.2.2.2.2.1 x13.2.2.2.2.2.1 v_ruleSize x13.2.2.2.2.2.2.1 v_rule x13.2.2.2.2.2.2.2 nw1_ w1_ x13.2.1 p2).bind fun y38 => if y38.1 = 0 then (some (.inl ((x13.1 ||| (0 : Int32)), (x13.2.1 + (1 : Int32)), y38.2.1, y38.2.2.1, y38.2.2.2.1, y38.2.2.2.2.1, y38.2.2.2.2.2.1, y38.2.2.2.2.2.2))) else (some (.inl ((x13.1 ||| ((1 : Int32) <<< (x13.2.1 &&& 31))), (x13.2.1 + (1 : Int32)), y38.2.1, y38.2.2.1, y38.2.2.2.1, y38.2.2.2.2.1, y38.2.2.2.2.2.1, y38.2.2.2.2.2.2)))))
def X11_neededBy (v_people : Int32) (v_length : Int32) (v_top : Int32) (v_at : Int32) (v_wrong : Int32) (v_ruleSize : Int32) (v_isAsked : Int32) (v_rule : Nat → Int32) (v_asked : Nat → Int32) (nw1_ : Nat) (w1_ : Nat → Int32) (p2 : Int32) : Option (Int32 × Int32 × Int32 × Int32 × Int32 × Int32 × (Nat → Int32)) :=
  (X11_wantedBy v_people nw1_ w1_ p2).bind fun y3 => (lp (fun x13 => X11_neededBy_s13 v_people v_ruleSize v_rule nw1_ w1_ p2 y3 x13) 1000 ((0 : Int32), (0 : Int32), v_length, v_top, v_at, v_wrong, v_isAsked, v_asked)).bind fun y13 => some (y13.1, y13.2.1, y13.2.2.1, y13.2.2.2.1, y13.2.2.2.2.1, y13.2.2.2.2.2.1, y13.2.2.2.2.2.2)
set_option maxHeartbeats 4000000 in
set_option maxRecDepth 100000 in
theorem c_X11_neededBy {l : Launch} {D : va_G} {cy : Nat → ClassId} (q0 : Nat) (q1 : Nat) (q2 : Nat) (q3 : Nat) (u0_0 : Value) (u0_2 : Value) (u0_3 : Value) (u0_4 : Value) (u0_5 : Value) (u0_6 : Value) (u0_7 : Value) (u0_12 : Value) (u0_14 : Value) (u0_18 : Value) (u0_19 : Value) (u0_20 : Value) (u0_21 : Value) (u0_22 : Value) (u0_23 : Value) (u0_24 : Value) (u0_25 : Value) (u0_26 : Value) (u0_27 : Value) (u0_28 : Value) (u0_29 : Value) (u0_30 : Value) (u0_31 : Value) (u0_32 : Value) (u0_33 : Value) (u0_34 : Value) (u0_35 : Value) (u0_36 : Value) (u0_37 : Value) (u0_38 : Value) (u0_39 : Value) (u0_40 : Value) (v_people : Int32) (v_length : Int32) (v_top : Int32) (v_at : Int32) (v_wrong : Int32) (v_ruleSize : Int32) (v_isAsked : Int32) (v_rule : Nat → Int32) (v_asked : Nat → Int32) (nw1_ : Nat) (w1_ : Nat → Int32) (p2 : Int32) (r : Int32 × Int32 × Int32 × Int32 × Int32 × Int32 × (Nat → Int32)) (h : X11_neededBy v_people v_length v_top v_at v_wrong v_ruleSize v_isAsked v_rule v_asked nw1_ w1_ p2 = some r) : Ct l yX11_neededBy cX11_neededBy 6 (some .int) 106 2533 D cy [.ref q0, .ref q3, .int p2] [oX11 q0 u0_0 (.int v_people) u0_2 u0_3 u0_4 u0_5 u0_6 u0_7 (.int v_length) (.int v_top) (.int v_at) (.int v_wrong) u0_12 (.ref q1) u0_14 (.int v_ruleSize) (.int v_isAsked) (.ref q2) u0_18 u0_19 u0_20 u0_21 u0_22 u0_23 u0_24 u0_25 u0_26 u0_27 u0_28 u0_29 u0_30 u0_31 u0_32 u0_33 u0_34 u0_35 u0_36 u0_37 u0_38 u0_39 u0_40, aB cy q1 40 v_rule, aI cy q2 7 v_asked, aI cy q3 nw1_ w1_] (fun _ => [oX11 q0 u0_0 (.int v_people) u0_2 u0_3 u0_4 u0_5 u0_6 (.ref q1) (.int r.2.1) (.int r.2.2.1) (.int r.2.2.2.1) (.int r.2.2.2.2.1) u0_12 (.ref q1) u0_14 (.int v_ruleSize) (.int r.2.2.2.2.2.1) (.ref q2) u0_18 u0_19 u0_20 u0_21 u0_22 u0_23 u0_24 u0_25 u0_26 u0_27 u0_28 u0_29 u0_30 u0_31 u0_32 u0_33 u0_34 u0_35 u0_36 u0_37 u0_38 u0_39 u0_40, aB cy q1 40 v_rule, aI cy q2 7 r.2.2.2.2.2.2, aI cy q3 nw1_ w1_]) (some (.int r.1)) := by
  refine Ct.mk kX11_neededBy (by decide +kernel) (Nat.le_of_ble_eq_true rfl) ?_
  intro p e s m below meth c A ls args R Q hRf hRl hQ E H locs hS hl
  have hx := E.x
  have hb := E.b
  have hl : lv_has ls 6 [(0, .ref q0), (1, .ref q3), (2, .int p2)] := hl
  unfold X11_neededBy at h
  refine lv_aload_n hx hb dX11_neededBy_0 rfl (lv_at hl 0 rfl) ?_
  refine lv_aload_n hx hb dX11_neededBy_1 rfl (lv_at hl 1 rfl) ?_
  refine lv_iload_n hx hb dX11_neededBy_2 rfl (lv_at hl 2 rfl) ?_
  obtain ⟨y3, e1, h⟩ := bd_some h
  refine ct_V (ws' := fun _ => [oX11 q0 u0_0 (.int v_people) u0_2 u0_3 u0_4 u0_5 u0_6 u0_7 (.int v_length) (.int v_top) (.int v_at) (.int v_wrong) u0_12 (.ref q1) u0_14 (.int v_ruleSize) (.int v_isAsked) (.ref q2) u0_18 u0_19 u0_20 u0_21 u0_22 u0_23 u0_24 u0_25 u0_26 u0_27 u0_28 u0_29 u0_30 u0_31 u0_32 u0_33 u0_34 u0_35 u0_36 u0_37 u0_38 u0_39 u0_40, aB cy q1 40 v_rule, aI cy q2 7 v_asked, aI cy q3 nw1_ w1_]) (st' := [.int y3]) (rest := []) E hS vlX11_200 (c_X11_wantedBy (l := l) (D := D) (cy := cy) (q0 := q0) (q1 := q3) (u0_0 := u0_0) (u0_2 := u0_2) (u0_3 := u0_3) (u0_4 := u0_4) (u0_5 := u0_5) (u0_6 := u0_6) (u0_7 := u0_7) (u0_8 := .int v_length) (u0_9 := .int v_top) (u0_10 := .int v_at) (u0_11 := .int v_wrong) (u0_12 := u0_12) (u0_13 := .ref q1) (u0_14 := u0_14) (u0_15 := .int v_ruleSize) (u0_16 := .int v_isAsked) (u0_17 := .ref q2) (u0_18 := u0_18) (u0_19 := u0_19) (u0_20 := u0_20) (u0_21 := u0_21) (u0_22 := u0_22) (u0_23 := u0_23) (u0_24 := u0_24) (u0_25 := u0_25) (u0_26 := u0_26) (u0_27 := u0_27) (u0_28 := u0_28) (u0_29 := u0_29) (u0_30 := u0_30) (u0_31 := u0_31) (u0_32 := u0_32) (u0_33 := u0_33) (u0_34 := u0_34) (u0_35 := u0_35) (u0_36 := u0_36) (u0_37 := u0_37) (u0_38 := u0_38) (u0_39 := u0_39) (u0_40 := u0_40) (v_people := v_people) (nw1_ := nw1_) (w1_ := w1_) (p2 := p2) (r := y3) e1) [0, 3] rfl rfl (fun _ => rfl) (fun _ => rfl) rfl rfl rfl rfl (Nat.le_of_ble_eq_true rfl) hl.1 (by rw [hRf]; exact Nat.le_of_ble_eq_true rfl) (by rw [hRl]; exact Nat.le_of_ble_eq_true rfl) ⟨Nat.zero_le _, Nat.zero_le _⟩ dX11_neededBy_3 rfl (fun H locs _ hS => ?_)
  refine lv_istore_n (lv' := [(3, .int y3), (0, .ref q0), (1, .ref q3), (2, .int p2)]) hx hb dX11_neededBy_6 rfl hl (by decide) rfl (fun ls hl => ?_)
  refine lv_iconst (v := 0) hx hb dX11_neededBy_7 (by decide) ?_
  refine lv_istore (lv' := [(4, .int (0 : Int32)), (3, .int y3), (0, .ref q0), (1, .ref q3), (2, .int p2)]) hx hb dX11_neededBy_8 hl (by decide) rfl (fun ls hl => ?_)
  refine lv_iconst (v := 0) hx hb dX11_neededBy_10 (by decide) ?_
  refine lv_istore (lv' := [(5, .int (0 : Int32)), (4, .int (0 : Int32)), (3, .int y3), (0, .ref q0), (1, .ref q3), (2, .int p2)]) hx hb dX11_neededBy_11 hl (by decide) rfl (fun ls hl => ?_)
  have hL13 : ∀ (n : Nat) (x13 : Int32 × Int32 × Int32 × Int32 × Int32 × Int32 × Int32 × (Nat → Int32)) (y13 : Int32 × Int32 × Int32 × Int32 × Int32 × Int32 × (Nat → Int32)) (rv13_0 : Value) (H : Heap) (locs : List Loc) (ls : Array Slot), lp (fun x13 => X11_neededBy_s13 v_people v_ruleSize v_rule nw1_ w1_ p2 y3 x13) n x13 = some y13 → Sv D A s.heap [oX11 q0 u0_0 (.int v_people) u0_2 u0_3 u0_4 u0_5 u0_6 rv13_0 (.int x13.2.2.1) (.int x13.2.2.2.1) (.int x13.2.2.2.2.1) (.int x13.2.2.2.2.2.1) u0_12 (.ref q1) u0_14 (.int v_ruleSize) (.int x13.2.2.2.2.2.2.1) (.ref q2) u0_18 u0_19 u0_20 u0_21 u0_22 u0_23 u0_24 u0_25 u0_26 u0_27 u0_28 u0_29 u0_30 u0_31 u0_32 u0_33 u0_34 u0_35 u0_36 u0_37 u0_38 u0_39 u0_40, aB cy q1 40 v_rule, aI cy q2 7 x13.2.2.2.2.2.2.2, aI cy q3 nw1_ w1_] H locs → lv_has ls 6 [(0, .ref q0), (1, .ref q3), (2, .int p2), (3, .int y3), (4, .int x13.1), (5, .int x13.2.1)] → (∀ (rv13_0 : Value) (H : Heap) (locs : List Loc) (ls : Array Slot), Sv D A s.heap [oX11 q0 u0_0 (.int v_people) u0_2 u0_3 u0_4 u0_5 u0_6 rv13_0 (.int y13.2.1) (.int y13.2.2.1) (.int y13.2.2.2.1) (.int y13.2.2.2.2.1) u0_12 (.ref q1) u0_14 (.int v_ruleSize) (.int y13.2.2.2.2.2.1) (.ref q2) u0_18 u0_19 u0_20 u0_21 u0_22 u0_23 u0_24 u0_25 u0_26 u0_27 u0_28 u0_29 u0_30 u0_31 u0_32 u0_33 u0_34 u0_35 u0_36 u0_37 u0_38 u0_39 u0_40, aB cy q1 40 v_rule, aI cy q2 7 y13.2.2.2.2.2.2, aI cy q3 nw1_ w1_] H locs → lv_has ls 6 [(4, .int y13.1)] → W p l e R s m args below meth c H locs 0 0 Q (F0 m 61 ls [])) → W p l e R s m args below meth c H locs 0 0 Q (F0 m 13 ls []) := by
    intro n
    induction n with
    | zero =>
      intro x13 y13 rv13_0 H locs ls h
      exact lp_zero h
    | succ n ih13 =>
      intro x13 y13 rv13_0 H locs ls h hS hl hk13_0
      obtain ⟨z13, h, hz13a, hz13b⟩ := lp_succ h
      have h : X11_neededBy_s13 v_people v_ruleSize v_rule nw1_ w1_ p2 y3 x13 = some z13 := h
      unfold X11_neededBy_s13 at h
      refine lv_iload hx hb dX11_neededBy_13 (lv_at hl 5 rfl) ?_
      refine lv_aload_n hx hb dX11_neededBy_15 rfl (lv_at hl 0 rfl) ?_
      refine r_get E frX11_92 hS 0 rfl rfl dX11_neededBy_16 ?_
      refine lv_icmp_ge (tgt := 61) hx hb dX11_neededBy_19 (by decide) (fun c2 => ?_) (fun c2 => ?_)
      · have h := it_pos c2 h
        obtain rfl := hz13b _ (Option.some.inj h).symm
        exact hk13_0 rv13_0 H locs ls hS (lv_sub hl [4] rfl)
      · have h := it_neg c2 h
        refine lv_iload hx hb dX11_neededBy_22 (lv_at hl 4 rfl) ?_
        refine lv_iload_n hx hb dX11_neededBy_24 rfl (lv_at hl 3 rfl) ?_
        refine lv_iload hx hb dX11_neededBy_25 (lv_at hl 5 rfl) ?_
        refine ct_S (ws' := fun _ => [oX11 q0 u0_0 (.int v_people) u0_2 u0_3 u0_4 u0_5 u0_6 rv13_0 (.int x13.2.2.1) (.int x13.2.2.2.1) (.int x13.2.2.2.2.1) (.int x13.2.2.2.2.2.1) u0_12 (.ref q1) u0_14 (.int v_ruleSize) (.int x13.2.2.2.2.2.2.1) (.ref q2) u0_18 u0_19 u0_20 u0_21 u0_22 u0_23 u0_24 u0_25 u0_26 u0_27 u0_28 u0_29 u0_30 u0_31 u0_32 u0_33 u0_34 u0_35 u0_36 u0_37 u0_38 u0_39 u0_40, aB cy q1 40 v_rule, aI cy q2 7 x13.2.2.2.2.2.2.2, aI cy q3 nw1_ w1_]) (st' := [.int (X11_has y3 x13.2.1), .int x13.1]) (rest := [.int x13.1]) E hS slX11_196 (c_X11_has (l := l) (D := D) (cy := cy) (p0 := y3) (p1 := x13.2.1) (r := (X11_has y3 x13.2.1)) rfl) [] rfl rfl (fun _ => rfl) (fun _ => rfl) rfl rfl (Nat.le_of_ble_eq_true rfl) hl.1 (by rw [hRf]; exact Nat.le_of_ble_eq_true rfl) (by rw [hRl]; exact Nat.le_of_ble_eq_true rfl) ⟨Nat.zero_le _, Nat.zero_le _⟩ dX11_neededBy_27 rfl (fun H locs _ hS => ?_)
        refine lv_if_eq (tgt := 51) hx hb dX11_neededBy_30 (by decide) (fun c3 => ?_) (fun c3 => ?_)
        · have h := it_pos c3 h
          refine lv_iconst (v := 0) hx hb dX11_neededBy_51 (by decide) ?_
          refine lv_ior hx hb dX11_neededBy_52 ?_
          refine lv_istore (lv' := [(4, .int (x13.1 ||| (0 : Int32))), (0, .ref q0), (1, .ref q3), (2, .int p2), (3, .int y3), (5, .int x13.2.1)]) hx hb dX11_neededBy_53 hl (by decide) rfl (fun ls hl => ?_)
          refine lv_iinc (v := (x13.2.1 + (1 : Int32))) (lv' := [(5, .int (x13.2.1 + (1 : Int32))), (4, .int (x13.1 ||| (0 : Int32))), (0, .ref q0), (1, .ref q3), (2, .int p2), (3, .int y3)]) hx hb dX11_neededBy_55 hl (k := 5) rfl rfl (by decide) rfl (fun ls hl => ?_)
          refine lv_goto (tgt := 13) hx hb dX11_neededBy_58 (by decide) ?_
          exact ih13 ((x13.1 ||| (0 : Int32)), (x13.2.1 + (1 : Int32)), x13.2.2.1, x13.2.2.2.1, x13.2.2.2.2.1, x13.2.2.2.2.2.1, x13.2.2.2.2.2.2.1, x13.2.2.2.2.2.2.2) y13 rv13_0 H locs ls (hz13a _ (Option.some.inj h).symm) hS (lv_sub hl [2, 3, 4, 5, 1, 0] rfl) hk13_0
        · have h := it_neg c3 h
          refine lv_aload_n hx hb dX11_neededBy_33 rfl (lv_at hl 0 rfl) ?_
          refine lv_aload_n hx hb dX11_neededBy_34 rfl (lv_at hl 1 rfl) ?_
          refine lv_iload hx hb dX11_neededBy_35 (lv_at hl 5 rfl) ?_
          refine lv_iload_n hx hb dX11_neededBy_37 rfl (lv_at hl 2 rfl) ?_
          obtain ⟨y38, e4, h⟩ := bd_some h
          refine ct_V (ws' := fun _ => [oX11 q0 u0_0 (.int v_people) u0_2 u0_3 u0_4 u0_5 u0_6 (.ref q1) (.int y38.2.1) (.int y38.2.2.1) (.int y38.2.2.2.1) (.int y38.2.2.2.2.1) u0_12 (.ref q1) u0_14 (.int v_ruleSize) (.int y38.2.2.2.2.2.1) (.ref q2) u0_18 u0_19 u0_20 u0_21 u0_22 u0_23 u0_24 u0_25 u0_26 u0_27 u0_28 u0_29 u0_30 u0_31 u0_32 u0_33 u0_34 u0_35 u0_36 u0_37 u0_38 u0_39 u0_40, aB cy q1 40 v_rule, aI cy q2 7 y38.2.2.2.2.2.2, aI cy q3 nw1_ w1_]) (st' := [.int y38.1, .int x13.1]) (rest := [.int x13.1]) E hS vlX11_209 (c_X11_needs (l := l) (D := D) (cy := cy) (q0 := q0) (q1 := q1) (q2 := q2) (q3 := q3) (u0_0 := u0_0) (u0_2 := u0_2) (u0_3 := u0_3) (u0_4 := u0_4) (u0_5 := u0_5) (u0_6 := u0_6) (u0_7 := rv13_0) (u0_12 := u0_12) (u0_14 := u0_14) (u0_18 := u0_18) (u0_19 := u0_19) (u0_20 := u0_20) (u0_21 := u0_21) (u0_22 := u0_22) (u0_23 := u0_23) (u0_24 := u0_24) (u0_25 := u0_25) (u0_26 := u0_26) (u0_27 := u0_27) (u0_28 := u0_28) (u0_29 := u0_29) (u0_30 := u0_30) (u0_31 := u0_31) (u0_32 := u0_32) (u0_33 := u0_33) (u0_34 := u0_34) (u0_35 := u0_35) (u0_36 := u0_36) (u0_37 := u0_37) (u0_38 := u0_38) (u0_39 := u0_39) (u0_40 := u0_40) (v_people := v_people) (v_length := x13.2.2.1) (v_top := x13.2.2.2.1) (v_at := x13.2.2.2.2.1) (v_wrong := x13.2.2.2.2.2.1) (v_ruleSize := v_ruleSize) (v_isAsked := x13.2.2.2.2.2.2.1) (v_rule := v_rule) (v_asked := x13.2.2.2.2.2.2.2) (nw1_ := nw1_) (w1_ := w1_) (p2 := x13.2.1) (p3 := p2) (r := y38) e4) [0, 1, 2, 3] rfl rfl (fun _ => rfl) (fun _ => rfl) rfl rfl rfl rfl (Nat.le_of_ble_eq_true rfl) hl.1 (by rw [hRf]; exact Nat.le_of_ble_eq_true rfl) (by rw [hRl]; exact Nat.le_of_ble_eq_true rfl) ⟨Nat.zero_le _, Nat.zero_le _⟩ dX11_neededBy_38 rfl (fun H locs _ hS => ?_)
          refine lv_if_eq (tgt := 51) hx hb dX11_neededBy_41 (by decide) (fun c5 => ?_) (fun c5 => ?_)
          · have h := it_pos c5 h
            refine lv_iconst (v := 0) hx hb dX11_neededBy_51 (by decide) ?_
            refine lv_ior hx hb dX11_neededBy_52 ?_
            refine lv_istore (lv' := [(4, .int (x13.1 ||| (0 : Int32))), (0, .ref q0), (1, .ref q3), (2, .int p2), (3, .int y3), (5, .int x13.2.1)]) hx hb dX11_neededBy_53 hl (by decide) rfl (fun ls hl => ?_)
            refine lv_iinc (v := (x13.2.1 + (1 : Int32))) (lv' := [(5, .int (x13.2.1 + (1 : Int32))), (4, .int (x13.1 ||| (0 : Int32))), (0, .ref q0), (1, .ref q3), (2, .int p2), (3, .int y3)]) hx hb dX11_neededBy_55 hl (k := 5) rfl rfl (by decide) rfl (fun ls hl => ?_)
            refine lv_goto (tgt := 13) hx hb dX11_neededBy_58 (by decide) ?_
            exact ih13 ((x13.1 ||| (0 : Int32)), (x13.2.1 + (1 : Int32)), y38.2.1, y38.2.2.1, y38.2.2.2.1, y38.2.2.2.2.1, y38.2.2.2.2.2.1, y38.2.2.2.2.2.2) y13 (.ref q1) H locs ls (hz13a _ (Option.some.inj h).symm) hS (lv_sub hl [2, 3, 4, 5, 1, 0] rfl) hk13_0
          · have h := it_neg c5 h
            refine lv_iconst (v := 1) hx hb dX11_neededBy_44 (by decide) ?_
            refine lv_iload hx hb dX11_neededBy_45 (lv_at hl 5 rfl) ?_
            refine lv_ishl hx hb dX11_neededBy_47 ?_
            refine lv_goto (tgt := 52) hx hb dX11_neededBy_48 (by decide) ?_
            refine lv_ior hx hb dX11_neededBy_52 ?_
            refine lv_istore (lv' := [(4, .int (x13.1 ||| ((1 : Int32) <<< (x13.2.1 &&& 31)))), (0, .ref q0), (1, .ref q3), (2, .int p2), (3, .int y3), (5, .int x13.2.1)]) hx hb dX11_neededBy_53 hl (by decide) rfl (fun ls hl => ?_)
            refine lv_iinc (v := (x13.2.1 + (1 : Int32))) (lv' := [(5, .int (x13.2.1 + (1 : Int32))), (4, .int (x13.1 ||| ((1 : Int32) <<< (x13.2.1 &&& 31)))), (0, .ref q0), (1, .ref q3), (2, .int p2), (3, .int y3)]) hx hb dX11_neededBy_55 hl (k := 5) rfl rfl (by decide) rfl (fun ls hl => ?_)
            refine lv_goto (tgt := 13) hx hb dX11_neededBy_58 (by decide) ?_
            exact ih13 ((x13.1 ||| ((1 : Int32) <<< (x13.2.1 &&& 31))), (x13.2.1 + (1 : Int32)), y38.2.1, y38.2.2.1, y38.2.2.2.1, y38.2.2.2.2.1, y38.2.2.2.2.2.1, y38.2.2.2.2.2.2) y13 (.ref q1) H locs ls (hz13a _ (Option.some.inj h).symm) hS (lv_sub hl [2, 3, 4, 5, 1, 0] rfl) hk13_0
  obtain ⟨y13, e13, h⟩ := bd_some h
  refine hL13 1000 ((0 : Int32), (0 : Int32), v_length, v_top, v_at, v_wrong, v_isAsked, v_asked) y13 u0_7 H locs ls e13 hS (lv_sub hl [3, 4, 5, 2, 1, 0] rfl) (fun rw13_0 H locs ls hS hl => ?_)
  refine lv_iload hx hb dX11_neededBy_61 (lv_at hl 0 rfl) ?_
  obtain rfl := Option.some.inj h
  exact rt_i E hQ (.null) hS dX11_neededBy_63
def X11_isAwake (v_people : Int32) (v_length : Int32) (v_top : Int32) (v_at : Int32) (v_wrong : Int32) (v_ruleSize : Int32) (v_isAsked : Int32) (v_rule : Nat → Int32) (v_asked : Nat → Int32) (nw1_ : Nat) (w1_ : Nat → Int32) (p2 : Int32) : Option (Int32 × Int32 × Int32 × Int32 × Int32 × Int32 × (Nat → Int32)) :=
  gi ((7 : Int32) + p2) nw1_ (if (w1_ ((7 : Int32) + p2).toNatClampNeg) = 0 then ((X11_neededBy v_people v_length v_top v_at v_wrong v_ruleSize v_isAsked v_rule v_asked nw1_ w1_ p2).bind fun y12 => if y12.1 = 0 then (some ((0 : Int32), y12.2.1, y12.2.2.1, y12.2.2.2.1, y12.2.2.2.2.1, y12.2.2.2.2.2.1, y12.2.2.2.2.2.2)) else (some ((1 : Int32), y12.2.1, y12.2.2.1, y12.2.2.2.1, y12.2.2.2.2.1, y12.2.2.2.2.2.1, y12.2.2.2.2.2.2))) else (some ((0 : Int32), v_length, v_top, v_at, v_wrong, v_isAsked, v_asked)))
set_option maxHeartbeats 4000000 in
set_option maxRecDepth 100000 in
theorem c_X11_isAwake {l : Launch} {D : va_G} {cy : Nat → ClassId} (q0 : Nat) (q1 : Nat) (q2 : Nat) (q3 : Nat) (u0_0 : Value) (u0_2 : Value) (u0_3 : Value) (u0_4 : Value) (u0_5 : Value) (u0_6 : Value) (u0_7 : Value) (u0_12 : Value) (u0_14 : Value) (u0_18 : Value) (u0_19 : Value) (u0_20 : Value) (u0_21 : Value) (u0_22 : Value) (u0_23 : Value) (u0_24 : Value) (u0_25 : Value) (u0_26 : Value) (u0_27 : Value) (u0_28 : Value) (u0_29 : Value) (u0_30 : Value) (u0_31 : Value) (u0_32 : Value) (u0_33 : Value) (u0_34 : Value) (u0_35 : Value) (u0_36 : Value) (u0_37 : Value) (u0_38 : Value) (u0_39 : Value) (u0_40 : Value) (v_people : Int32) (v_length : Int32) (v_top : Int32) (v_at : Int32) (v_wrong : Int32) (v_ruleSize : Int32) (v_isAsked : Int32) (v_rule : Nat → Int32) (v_asked : Nat → Int32) (nw1_ : Nat) (w1_ : Nat → Int32) (p2 : Int32) (r : Int32 × Int32 × Int32 × Int32 × Int32 × Int32 × (Nat → Int32)) (h : X11_isAwake v_people v_length v_top v_at v_wrong v_ruleSize v_isAsked v_rule v_asked nw1_ w1_ p2 = some r) : Ct l yX11_isAwake cX11_isAwake 3 (some .boolean) 107 2558 D cy [.ref q0, .ref q3, .int p2] [oX11 q0 u0_0 (.int v_people) u0_2 u0_3 u0_4 u0_5 u0_6 u0_7 (.int v_length) (.int v_top) (.int v_at) (.int v_wrong) u0_12 (.ref q1) u0_14 (.int v_ruleSize) (.int v_isAsked) (.ref q2) u0_18 u0_19 u0_20 u0_21 u0_22 u0_23 u0_24 u0_25 u0_26 u0_27 u0_28 u0_29 u0_30 u0_31 u0_32 u0_33 u0_34 u0_35 u0_36 u0_37 u0_38 u0_39 u0_40, aB cy q1 40 v_rule, aI cy q2 7 v_asked, aI cy q3 nw1_ w1_] (fun _ => [oX11 q0 u0_0 (.int v_people) u0_2 u0_3 u0_4 u0_5 u0_6 (.ref q1) (.int r.2.1) (.int r.2.2.1) (.int r.2.2.2.1) (.int r.2.2.2.2.1) u0_12 (.ref q1) u0_14 (.int v_ruleSize) (.int r.2.2.2.2.2.1) (.ref q2) u0_18 u0_19 u0_20 u0_21 u0_22 u0_23 u0_24 u0_25 u0_26 u0_27 u0_28 u0_29 u0_30 u0_31 u0_32 u0_33 u0_34 u0_35 u0_36 u0_37 u0_38 u0_39 u0_40, aB cy q1 40 v_rule, aI cy q2 7 r.2.2.2.2.2.2, aI cy q3 nw1_ w1_]) (some (.int r.1)) := by
  refine Ct.mk kX11_isAwake (by decide +kernel) (Nat.le_of_ble_eq_true rfl) ?_
  intro p e s m below meth c A ls args R Q hRf hRl hQ E H locs hS hl
  have hx := E.x
  have hb := E.b
  have hl : lv_has ls 3 [(0, .ref q0), (1, .ref q3), (2, .int p2)] := hl
  unfold X11_isAwake at h
  refine lv_aload_n hx hb dX11_isAwake_0 rfl (lv_at hl 1 rfl) ?_
  refine lv_bipush (v := 7) hx hb dX11_isAwake_1 (by decide) ?_
  refine lv_iload_n hx hb dX11_isAwake_3 rfl (lv_at hl 2 rfl) ?_
  refine lv_iadd hx hb dX11_isAwake_4 ?_
  obtain ⟨g1, h⟩ := gi_some h
  refine r_iald E hS 3 rfl g1 dX11_isAwake_5 ?_
  refine lv_if_ne (tgt := 22) hx hb dX11_isAwake_6 (by decide) (fun c2 => ?_) (fun c2 => ?_)
  · have h := it_neg c2 h
    refine lv_iconst (v := 0) hx hb dX11_isAwake_22 (by decide) ?_
    obtain rfl := Option.some.inj h
    exact rt_n E rfl hQ (.null) hS dX11_isAwake_23
  · have h := it_pos c2 h
    refine lv_aload_n hx hb dX11_isAwake_9 rfl (lv_at hl 0 rfl) ?_
    refine lv_aload_n hx hb dX11_isAwake_10 rfl (lv_at hl 1 rfl) ?_
    refine lv_iload_n hx hb dX11_isAwake_11 rfl (lv_at hl 2 rfl) ?_
    obtain ⟨y12, e3, h⟩ := bd_some h
    refine ct_V (ws' := fun _ => [oX11 q0 u0_0 (.int v_people) u0_2 u0_3 u0_4 u0_5 u0_6 (.ref q1) (.int y12.2.1) (.int y12.2.2.1) (.int y12.2.2.2.1) (.int y12.2.2.2.2.1) u0_12 (.ref q1) u0_14 (.int v_ruleSize) (.int y12.2.2.2.2.2.1) (.ref q2) u0_18 u0_19 u0_20 u0_21 u0_22 u0_23 u0_24 u0_25 u0_26 u0_27 u0_28 u0_29 u0_30 u0_31 u0_32 u0_33 u0_34 u0_35 u0_36 u0_37 u0_38 u0_39 u0_40, aB cy q1 40 v_rule, aI cy q2 7 y12.2.2.2.2.2.2, aI cy q3 nw1_ w1_]) (st' := [.int y12.1]) (rest := []) E hS vlX11_213 (c_X11_neededBy (l := l) (D := D) (cy := cy) (q0 := q0) (q1 := q1) (q2 := q2) (q3 := q3) (u0_0 := u0_0) (u0_2 := u0_2) (u0_3 := u0_3) (u0_4 := u0_4) (u0_5 := u0_5) (u0_6 := u0_6) (u0_7 := u0_7) (u0_12 := u0_12) (u0_14 := u0_14) (u0_18 := u0_18) (u0_19 := u0_19) (u0_20 := u0_20) (u0_21 := u0_21) (u0_22 := u0_22) (u0_23 := u0_23) (u0_24 := u0_24) (u0_25 := u0_25) (u0_26 := u0_26) (u0_27 := u0_27) (u0_28 := u0_28) (u0_29 := u0_29) (u0_30 := u0_30) (u0_31 := u0_31) (u0_32 := u0_32) (u0_33 := u0_33) (u0_34 := u0_34) (u0_35 := u0_35) (u0_36 := u0_36) (u0_37 := u0_37) (u0_38 := u0_38) (u0_39 := u0_39) (u0_40 := u0_40) (v_people := v_people) (v_length := v_length) (v_top := v_top) (v_at := v_at) (v_wrong := v_wrong) (v_ruleSize := v_ruleSize) (v_isAsked := v_isAsked) (v_rule := v_rule) (v_asked := v_asked) (nw1_ := nw1_) (w1_ := w1_) (p2 := p2) (r := y12) e3) [0, 1, 2, 3] rfl rfl (fun _ => rfl) (fun _ => rfl) rfl rfl rfl rfl (Nat.le_of_ble_eq_true rfl) hl.1 (by rw [hRf]; exact Nat.le_of_ble_eq_true rfl) (by rw [hRl]; exact Nat.le_of_ble_eq_true rfl) ⟨Nat.zero_le _, Nat.zero_le _⟩ dX11_isAwake_12 rfl (fun H locs _ hS => ?_)
    refine lv_if_eq (tgt := 22) hx hb dX11_isAwake_15 (by decide) (fun c4 => ?_) (fun c4 => ?_)
    · have h := it_pos c4 h
      refine lv_iconst (v := 0) hx hb dX11_isAwake_22 (by decide) ?_
      obtain rfl := Option.some.inj h
      exact rt_n E rfl hQ (.null) hS dX11_isAwake_23
    · have h := it_neg c4 h
      refine lv_iconst (v := 1) hx hb dX11_isAwake_18 (by decide) ?_
      refine lv_goto (tgt := 23) hx hb dX11_isAwake_19 (by decide) ?_
      obtain rfl := Option.some.inj h
      exact rt_n E rfl hQ (.null) hS dX11_isAwake_23
def X11_awake_s4 (v_people : Int32) (v_ruleSize : Int32) (v_rule : Nat → Int32) (nw1_ : Nat) (w1_ : Nat → Int32) (x4 : Int32 × Int32 × Int32 × Int32 × Int32 × Int32 × Int32 × (Nat → Int32)) : Option ((Int32 × Int32 × Int32 × Int32 × Int32 × Int32 × Int32 × (Nat → Int32)) ⊕ (Int32 × Int32 × Int32 × Int32 × Int32 × Int32 × (Nat → Int32))) :=
  if v_people ≤ x4.2.1 then (some (.inr (x4.1, x4.2.2.1, x4.2.2.2.1, x4.2.2.2.2.1, x4.2.2.2.2.2.1, x4.2.2.2.2.2.2.1, x4.2.2.2.2.2.2.2))) else ((X11_isAwake v_people x4.2.2.1 x4.2.2.2.1 x4.2.2.2.2.1 x4.2.2.2.2.2.1 v_ruleSize x4.2.2.2.2.2.2.1 v_rule x4.2.2.2.2.2.2.2 nw1_ w1_ x4.2.1).bind fun y16 => some (.inl ((x4.1 ||| (if y16.1 = 0 then (0 : Int32) else ((1 : Int32) <<< (x4.2.1 &&& 31)))), (x4.2.1 + (1 : Int32)), y16.2.1, y16.2.2.1, y16.2.2.2.1, y16.2.2.2.2.1, y16.2.2.2.2.2.1, y16.2.2.2.2.2.2)))
def X11_awake (v_people : Int32) (v_length : Int32) (v_top : Int32) (v_at : Int32) (v_wrong : Int32) (v_ruleSize : Int32) (v_isAsked : Int32) (v_rule : Nat → Int32) (v_asked : Nat → Int32) (nw1_ : Nat) (w1_ : Nat → Int32) : Option (Int32 × Int32 × Int32 × Int32 × Int32 × Int32 × (Nat → Int32)) :=
  (lp (fun x4 => X11_awake_s4 v_people v_ruleSize v_rule nw1_ w1_ x4) 1000 ((0 : Int32), (0 : Int32), v_length, v_top, v_at, v_wrong, v_isAsked, v_asked)).bind fun y4 => some (y4.1, y4.2.1, y4.2.2.1, y4.2.2.2.1, y4.2.2.2.2.1, y4.2.2.2.2.2.1, y4.2.2.2.2.2.2)
set_option maxHeartbeats 4000000 in
set_option maxRecDepth 100000 in
theorem c_X11_awake {l : Launch} {D : va_G} {cy : Nat → ClassId} (q0 : Nat) (q1 : Nat) (q2 : Nat) (q3 : Nat) (u0_0 : Value) (u0_2 : Value) (u0_3 : Value) (u0_4 : Value) (u0_5 : Value) (u0_6 : Value) (u0_7 : Value) (u0_12 : Value) (u0_14 : Value) (u0_18 : Value) (u0_19 : Value) (u0_20 : Value) (u0_21 : Value) (u0_22 : Value) (u0_23 : Value) (u0_24 : Value) (u0_25 : Value) (u0_26 : Value) (u0_27 : Value) (u0_28 : Value) (u0_29 : Value) (u0_30 : Value) (u0_31 : Value) (u0_32 : Value) (u0_33 : Value) (u0_34 : Value) (u0_35 : Value) (u0_36 : Value) (u0_37 : Value) (u0_38 : Value) (u0_39 : Value) (u0_40 : Value) (v_people : Int32) (v_length : Int32) (v_top : Int32) (v_at : Int32) (v_wrong : Int32) (v_ruleSize : Int32) (v_isAsked : Int32) (v_rule : Nat → Int32) (v_asked : Nat → Int32) (nw1_ : Nat) (w1_ : Nat → Int32) (r : Int32 × Int32 × Int32 × Int32 × Int32 × Int32 × (Nat → Int32)) (h : X11_awake v_people v_length v_top v_at v_wrong v_ruleSize v_isAsked v_rule v_asked nw1_ w1_ = some r) : Ct l yX11_awake cX11_awake 4 (some .int) 108 2580 D cy [.ref q0, .ref q3] [oX11 q0 u0_0 (.int v_people) u0_2 u0_3 u0_4 u0_5 u0_6 u0_7 (.int v_length) (.int v_top) (.int v_at) (.int v_wrong) u0_12 (.ref q1) u0_14 (.int v_ruleSize) (.int v_isAsked) (.ref q2) u0_18 u0_19 u0_20 u0_21 u0_22 u0_23 u0_24 u0_25 u0_26 u0_27 u0_28 u0_29 u0_30 u0_31 u0_32 u0_33 u0_34 u0_35 u0_36 u0_37 u0_38 u0_39 u0_40, aB cy q1 40 v_rule, aI cy q2 7 v_asked, aI cy q3 nw1_ w1_] (fun _ => [oX11 q0 u0_0 (.int v_people) u0_2 u0_3 u0_4 u0_5 u0_6 (.ref q1) (.int r.2.1) (.int r.2.2.1) (.int r.2.2.2.1) (.int r.2.2.2.2.1) u0_12 (.ref q1) u0_14 (.int v_ruleSize) (.int r.2.2.2.2.2.1) (.ref q2) u0_18 u0_19 u0_20 u0_21 u0_22 u0_23 u0_24 u0_25 u0_26 u0_27 u0_28 u0_29 u0_30 u0_31 u0_32 u0_33 u0_34 u0_35 u0_36 u0_37 u0_38 u0_39 u0_40, aB cy q1 40 v_rule, aI cy q2 7 r.2.2.2.2.2.2, aI cy q3 nw1_ w1_]) (some (.int r.1)) := by
  refine Ct.mk kX11_awake (by decide +kernel) (Nat.le_of_ble_eq_true rfl) ?_
  intro p e s m below meth c A ls args R Q hRf hRl hQ E H locs hS hl
  have hx := E.x
  have hb := E.b
  have hl : lv_has ls 4 [(0, .ref q0), (1, .ref q3)] := hl
  unfold X11_awake at h
  refine lv_iconst (v := 0) hx hb dX11_awake_0 (by decide) ?_
  refine lv_istore_n (lv' := [(2, .int (0 : Int32)), (0, .ref q0), (1, .ref q3)]) hx hb dX11_awake_1 rfl hl (by decide) rfl (fun ls hl => ?_)
  refine lv_iconst (v := 0) hx hb dX11_awake_2 (by decide) ?_
  refine lv_istore_n (lv' := [(3, .int (0 : Int32)), (2, .int (0 : Int32)), (0, .ref q0), (1, .ref q3)]) hx hb dX11_awake_3 rfl hl (by decide) rfl (fun ls hl => ?_)
  have hL4 : ∀ (n : Nat) (x4 : Int32 × Int32 × Int32 × Int32 × Int32 × Int32 × Int32 × (Nat → Int32)) (y4 : Int32 × Int32 × Int32 × Int32 × Int32 × Int32 × (Nat → Int32)) (rv4_0 : Value) (H : Heap) (locs : List Loc) (ls : Array Slot), lp (fun x4 => X11_awake_s4 v_people v_ruleSize v_rule nw1_ w1_ x4) n x4 = some y4 → Sv D A s.heap [oX11 q0 u0_0 (.int v_people) u0_2 u0_3 u0_4 u0_5 u0_6 rv4_0 (.int x4.2.2.1) (.int x4.2.2.2.1) (.int x4.2.2.2.2.1) (.int x4.2.2.2.2.2.1) u0_12 (.ref q1) u0_14 (.int v_ruleSize) (.int x4.2.2.2.2.2.2.1) (.ref q2) u0_18 u0_19 u0_20 u0_21 u0_22 u0_23 u0_24 u0_25 u0_26 u0_27 u0_28 u0_29 u0_30 u0_31 u0_32 u0_33 u0_34 u0_35 u0_36 u0_37 u0_38 u0_39 u0_40, aB cy q1 40 v_rule, aI cy q2 7 x4.2.2.2.2.2.2.2, aI cy q3 nw1_ w1_] H locs → lv_has ls 4 [(0, .ref q0), (1, .ref q3), (2, .int x4.1), (3, .int x4.2.1)] → (∀ (rv4_0 : Value) (H : Heap) (locs : List Loc) (ls : Array Slot), Sv D A s.heap [oX11 q0 u0_0 (.int v_people) u0_2 u0_3 u0_4 u0_5 u0_6 rv4_0 (.int y4.2.1) (.int y4.2.2.1) (.int y4.2.2.2.1) (.int y4.2.2.2.2.1) u0_12 (.ref q1) u0_14 (.int v_ruleSize) (.int y4.2.2.2.2.2.1) (.ref q2) u0_18 u0_19 u0_20 u0_21 u0_22 u0_23 u0_24 u0_25 u0_26 u0_27 u0_28 u0_29 u0_30 u0_31 u0_32 u0_33 u0_34 u0_35 u0_36 u0_37 u0_38 u0_39 u0_40, aB cy q1 40 v_rule, aI cy q2 7 y4.2.2.2.2.2.2, aI cy q3 nw1_ w1_] H locs → lv_has ls 4 [(2, .int y4.1)] → W p l e R s m args below meth c H locs 0 0 Q (F0 m 37 ls [])) → W p l e R s m args below meth c H locs 0 0 Q (F0 m 4 ls []) := by
    intro n
    induction n with
    | zero =>
      intro x4 y4 rv4_0 H locs ls h
      exact lp_zero h
    | succ n ih4 =>
      intro x4 y4 rv4_0 H locs ls h hS hl hk4_0
      obtain ⟨z4, h, hz4a, hz4b⟩ := lp_succ h
      have h : X11_awake_s4 v_people v_ruleSize v_rule nw1_ w1_ x4 = some z4 := h
      unfold X11_awake_s4 at h
      refine lv_iload_n hx hb dX11_awake_4 rfl (lv_at hl 3 rfl) ?_
      refine lv_aload_n hx hb dX11_awake_5 rfl (lv_at hl 0 rfl) ?_
      refine r_get E frX11_92 hS 0 rfl rfl dX11_awake_6 ?_
      refine lv_icmp_ge (tgt := 37) hx hb dX11_awake_9 (by decide) (fun c1 => ?_) (fun c1 => ?_)
      · have h := it_pos c1 h
        obtain rfl := hz4b _ (Option.some.inj h).symm
        exact hk4_0 rv4_0 H locs ls hS (lv_sub hl [2] rfl)
      · have h := it_neg c1 h
        refine lv_iload_n hx hb dX11_awake_12 rfl (lv_at hl 2 rfl) ?_
        refine lv_aload_n hx hb dX11_awake_13 rfl (lv_at hl 0 rfl) ?_
        refine lv_aload_n hx hb dX11_awake_14 rfl (lv_at hl 1 rfl) ?_
        refine lv_iload_n hx hb dX11_awake_15 rfl (lv_at hl 3 rfl) ?_
        obtain ⟨y16, e2, h⟩ := bd_some h
        refine ct_V (ws' := fun _ => [oX11 q0 u0_0 (.int v_people) u0_2 u0_3 u0_4 u0_5 u0_6 (.ref q1) (.int y16.2.1) (.int y16.2.2.1) (.int y16.2.2.2.1) (.int y16.2.2.2.2.1) u0_12 (.ref q1) u0_14 (.int v_ruleSize) (.int y16.2.2.2.2.2.1) (.ref q2) u0_18 u0_19 u0_20 u0_21 u0_22 u0_23 u0_24 u0_25 u0_26 u0_27 u0_28 u0_29 u0_30 u0_31 u0_32 u0_33 u0_34 u0_35 u0_36 u0_37 u0_38 u0_39 u0_40, aB cy q1 40 v_rule, aI cy q2 7 y16.2.2.2.2.2.2, aI cy q3 nw1_ w1_]) (st' := [.int y16.1, .int x4.1]) (rest := [.int x4.1]) E hS vlX11_216 (c_X11_isAwake (l := l) (D := D) (cy := cy) (q0 := q0) (q1 := q1) (q2 := q2) (q3 := q3) (u0_0 := u0_0) (u0_2 := u0_2) (u0_3 := u0_3) (u0_4 := u0_4) (u0_5 := u0_5) (u0_6 := u0_6) (u0_7 := rv4_0) (u0_12 := u0_12) (u0_14 := u0_14) (u0_18 := u0_18) (u0_19 := u0_19) (u0_20 := u0_20) (u0_21 := u0_21) (u0_22 := u0_22) (u0_23 := u0_23) (u0_24 := u0_24) (u0_25 := u0_25) (u0_26 := u0_26) (u0_27 := u0_27) (u0_28 := u0_28) (u0_29 := u0_29) (u0_30 := u0_30) (u0_31 := u0_31) (u0_32 := u0_32) (u0_33 := u0_33) (u0_34 := u0_34) (u0_35 := u0_35) (u0_36 := u0_36) (u0_37 := u0_37) (u0_38 := u0_38) (u0_39 := u0_39) (u0_40 := u0_40) (v_people := v_people) (v_length := x4.2.2.1) (v_top := x4.2.2.2.1) (v_at := x4.2.2.2.2.1) (v_wrong := x4.2.2.2.2.2.1) (v_ruleSize := v_ruleSize) (v_isAsked := x4.2.2.2.2.2.2.1) (v_rule := v_rule) (v_asked := x4.2.2.2.2.2.2.2) (nw1_ := nw1_) (w1_ := w1_) (p2 := x4.2.1) (r := y16) e2) [0, 1, 2, 3] rfl rfl (fun _ => rfl) (fun _ => rfl) rfl rfl rfl rfl (Nat.le_of_ble_eq_true rfl) hl.1 (by rw [hRf]; exact Nat.le_of_ble_eq_true rfl) (by rw [hRl]; exact Nat.le_of_ble_eq_true rfl) ⟨Nat.zero_le _, Nat.zero_le _⟩ dX11_awake_16 rfl (fun H locs _ hS => ?_)
        have hJ29 : ∀ (s29_1 : Int32) (ls : Array Slot), s29_1 = (if y16.1 = 0 then (0 : Int32) else ((1 : Int32) <<< (x4.2.1 &&& 31))) → lv_has ls 4 [(0, .ref q0), (1, .ref q3), (3, .int x4.2.1)] → W p l e R s m args below meth c H locs 0 0 Q (F0 m 29 ls [.int s29_1, .int x4.1]) := by
          intro s29_1 ls es29_1 hl
          subst es29_1
          refine lv_ior hx hb dX11_awake_29 ?_
          refine lv_istore_n (lv' := [(2, .int (x4.1 ||| (if y16.1 = 0 then (0 : Int32) else ((1 : Int32) <<< (x4.2.1 &&& 31))))), (0, .ref q0), (1, .ref q3), (3, .int x4.2.1)]) hx hb dX11_awake_30 rfl hl (by decide) rfl (fun ls hl => ?_)
          refine lv_iinc (v := (x4.2.1 + (1 : Int32))) (lv' := [(3, .int (x4.2.1 + (1 : Int32))), (2, .int (x4.1 ||| (if y16.1 = 0 then (0 : Int32) else ((1 : Int32) <<< (x4.2.1 &&& 31))))), (0, .ref q0), (1, .ref q3)]) hx hb dX11_awake_31 hl (k := 3) rfl rfl (by decide) rfl (fun ls hl => ?_)
          refine lv_goto (tgt := 4) hx hb dX11_awake_34 (by decide) ?_
          exact ih4 ((x4.1 ||| (if y16.1 = 0 then (0 : Int32) else ((1 : Int32) <<< (x4.2.1 &&& 31)))), (x4.2.1 + (1 : Int32)), y16.2.1, y16.2.2.1, y16.2.2.2.1, y16.2.2.2.2.1, y16.2.2.2.2.2.1, y16.2.2.2.2.2.2) y4 (.ref q1) H locs ls (hz4a _ (Option.some.inj h).symm) hS (lv_sub hl [2, 3, 1, 0] rfl) hk4_0
        refine lv_if_eq (tgt := 28) hx hb dX11_awake_19 (by decide) (fun c3 => ?_) (fun c3 => ?_)
        · refine lv_iconst (v := 0) hx hb dX11_awake_28 (by decide) ?_
          exact hJ29 _ ls ((if_pos c3)).symm (lv_sub hl [0, 1, 3] rfl)
        · refine lv_iconst (v := 1) hx hb dX11_awake_22 (by decide) ?_
          refine lv_iload_n hx hb dX11_awake_23 rfl (lv_at hl 3 rfl) ?_
          refine lv_ishl hx hb dX11_awake_24 ?_
          refine lv_goto (tgt := 29) hx hb dX11_awake_25 (by decide) ?_
          exact hJ29 _ ls ((if_neg c3)).symm (lv_sub hl [0, 1, 3] rfl)
  obtain ⟨y4, e4, h⟩ := bd_some h
  refine hL4 1000 ((0 : Int32), (0 : Int32), v_length, v_top, v_at, v_wrong, v_isAsked, v_asked) y4 u0_7 H locs ls e4 hS (lv_sub hl [2, 3, 1, 0] rfl) (fun rw4_0 H locs ls hS hl => ?_)
  refine lv_iload_n hx hb dX11_awake_37 rfl (lv_at hl 0 rfl) ?_
  obtain rfl := Option.some.inj h
  exact rt_i E hQ (.null) hS dX11_awake_38
def X11_unmet_s5 (v_people : Int32) (nw1_ : Nat) (w1_ : Nat → Int32) (p2 : Int32) (x5 : Int32 × Int32) : Option ((Int32 × Int32) ⊕ (Int32)) :=
  if v_people ≤ x5.2 then (some (.inr x5.1)) else (gi ((28 : Int32) + x5.2) nw1_ (if (w1_ ((28 : Int32) + x5.2).toNatClampNeg) = 0 then (some (.inl ((x5.1 + (0 : Int32)), (x5.2 + (1 : Int32))))) else (gi ((28 : Int32) + x5.2) nw1_ (if ((w1_ ((28 : Int32) + x5.2).toNatClampNeg) &&& p2) = 0 then (some (.inl ((x5.1 + (1 : Int32)), (x5.2 + (1 : Int32))))) else (some (.inl ((x5.1 + (0 : Int32)), (x5.2 + (1 : Int32)))))))))
def X11_unmet (v_people : Int32) (nw1_ : Nat) (w1_ : Nat → Int32) (p2 : Int32) : Option (Int32) :=
  (lp (fun x5 => X11_unmet_s5 v_people nw1_ w1_ p2 x5) 1000 ((0 : Int32), (0 : Int32))).bind fun y5 => some y5
set_option maxHeartbeats 4000000 in
set_option maxRecDepth 100000 in
theorem c_X11_unmet {l : Launch} {D : va_G} {cy : Nat → ClassId} (q0 : Nat) (q1 : Nat) (u0_0 : Value) (u0_2 : Value) (u0_3 : Value) (u0_4 : Value) (u0_5 : Value) (u0_6 : Value) (u0_7 : Value) (u0_8 : Value) (u0_9 : Value) (u0_10 : Value) (u0_11 : Value) (u0_12 : Value) (u0_13 : Value) (u0_14 : Value) (u0_15 : Value) (u0_16 : Value) (u0_17 : Value) (u0_18 : Value) (u0_19 : Value) (u0_20 : Value) (u0_21 : Value) (u0_22 : Value) (u0_23 : Value) (u0_24 : Value) (u0_25 : Value) (u0_26 : Value) (u0_27 : Value) (u0_28 : Value) (u0_29 : Value) (u0_30 : Value) (u0_31 : Value) (u0_32 : Value) (u0_33 : Value) (u0_34 : Value) (u0_35 : Value) (u0_36 : Value) (u0_37 : Value) (u0_38 : Value) (u0_39 : Value) (u0_40 : Value) (v_people : Int32) (nw1_ : Nat) (w1_ : Nat → Int32) (p2 : Int32) (r : Int32) (h : X11_unmet v_people nw1_ w1_ p2 = some r) : Ct l yX11_unmet cX11_unmet 5 (some .int) 0 0 D cy [.ref q0, .ref q1, .int p2] [oX11 q0 u0_0 (.int v_people) u0_2 u0_3 u0_4 u0_5 u0_6 u0_7 u0_8 u0_9 u0_10 u0_11 u0_12 u0_13 u0_14 u0_15 u0_16 u0_17 u0_18 u0_19 u0_20 u0_21 u0_22 u0_23 u0_24 u0_25 u0_26 u0_27 u0_28 u0_29 u0_30 u0_31 u0_32 u0_33 u0_34 u0_35 u0_36 u0_37 u0_38 u0_39 u0_40, aI cy q1 nw1_ w1_] (fun _ => [oX11 q0 u0_0 (.int v_people) u0_2 u0_3 u0_4 u0_5 u0_6 u0_7 u0_8 u0_9 u0_10 u0_11 u0_12 u0_13 u0_14 u0_15 u0_16 u0_17 u0_18 u0_19 u0_20 u0_21 u0_22 u0_23 u0_24 u0_25 u0_26 u0_27 u0_28 u0_29 u0_30 u0_31 u0_32 u0_33 u0_34 u0_35 u0_36 u0_37 u0_38 u0_39 u0_40, aI cy q1 nw1_ w1_]) (some (.int r)) := by
  refine Ct.mk kX11_unmet (by decide +kernel) (Nat.le_of_ble_eq_true rfl) ?_
  intro p e s m below meth c A ls args R Q hRf hRl hQ E H locs hS hl
  have hx := E.x
  have hb := E.b
  have hl : lv_has ls 5 [(0, .ref q0), (1, .ref q1), (2, .int p2)] := hl
  unfold X11_unmet at h
  refine lv_iconst (v := 0) hx hb dX11_unmet_0 (by decide) ?_
  refine lv_istore_n (lv' := [(3, .int (0 : Int32)), (0, .ref q0), (1, .ref q1), (2, .int p2)]) hx hb dX11_unmet_1 rfl hl (by decide) rfl (fun ls hl => ?_)
  refine lv_iconst (v := 0) hx hb dX11_unmet_2 (by decide) ?_
  refine lv_istore (lv' := [(4, .int (0 : Int32)), (3, .int (0 : Int32)), (0, .ref q0), (1, .ref q1), (2, .int p2)]) hx hb dX11_unmet_3 hl (by decide) rfl (fun ls hl => ?_)
  have hL5 : ∀ (n : Nat) (x5 : Int32 × Int32) (y5 : Int32) (H : Heap) (locs : List Loc) (ls : Array Slot), lp (fun x5 => X11_unmet_s5 v_people nw1_ w1_ p2 x5) n x5 = some y5 → Sv D A s.heap [oX11 q0 u0_0 (.int v_people) u0_2 u0_3 u0_4 u0_5 u0_6 u0_7 u0_8 u0_9 u0_10 u0_11 u0_12 u0_13 u0_14 u0_15 u0_16 u0_17 u0_18 u0_19 u0_20 u0_21 u0_22 u0_23 u0_24 u0_25 u0_26 u0_27 u0_28 u0_29 u0_30 u0_31 u0_32 u0_33 u0_34 u0_35 u0_36 u0_37 u0_38 u0_39 u0_40, aI cy q1 nw1_ w1_] H locs → lv_has ls 5 [(0, .ref q0), (1, .ref q1), (2, .int p2), (3, .int x5.1), (4, .int x5.2)] → (∀ (H : Heap) (locs : List Loc) (ls : Array Slot), Sv D A s.heap [oX11 q0 u0_0 (.int v_people) u0_2 u0_3 u0_4 u0_5 u0_6 u0_7 u0_8 u0_9 u0_10 u0_11 u0_12 u0_13 u0_14 u0_15 u0_16 u0_17 u0_18 u0_19 u0_20 u0_21 u0_22 u0_23 u0_24 u0_25 u0_26 u0_27 u0_28 u0_29 u0_30 u0_31 u0_32 u0_33 u0_34 u0_35 u0_36 u0_37 u0_38 u0_39 u0_40, aI cy q1 nw1_ w1_] H locs → lv_has ls 5 [(3, .int y5)] → W p l e R s m args below meth c H locs 0 0 Q (F0 m 50 ls [])) → W p l e R s m args below meth c H locs 0 0 Q (F0 m 5 ls []) := by
    intro n
    induction n with
    | zero =>
      intro x5 y5 H locs ls h
      exact lp_zero h
    | succ n ih5 =>
      intro x5 y5 H locs ls h hS hl hk5_0
      obtain ⟨z5, h, hz5a, hz5b⟩ := lp_succ h
      have h : X11_unmet_s5 v_people nw1_ w1_ p2 x5 = some z5 := h
      unfold X11_unmet_s5 at h
      refine lv_iload hx hb dX11_unmet_5 (lv_at hl 4 rfl) ?_
      refine lv_aload_n hx hb dX11_unmet_7 rfl (lv_at hl 0 rfl) ?_
      refine r_get E frX11_92 hS 0 rfl rfl dX11_unmet_8 ?_
      refine lv_icmp_ge (tgt := 50) hx hb dX11_unmet_11 (by decide) (fun c1 => ?_) (fun c1 => ?_)
      · have h := it_pos c1 h
        obtain rfl := hz5b _ (Option.some.inj h).symm
        exact hk5_0  H locs ls hS (lv_sub hl [3] rfl)
      · have h := it_neg c1 h
        refine lv_iload_n hx hb dX11_unmet_14 rfl (lv_at hl 3 rfl) ?_
        refine lv_aload_n hx hb dX11_unmet_15 rfl (lv_at hl 1 rfl) ?_
        refine lv_bipush (v := 28) hx hb dX11_unmet_16 (by decide) ?_
        refine lv_iload hx hb dX11_unmet_18 (lv_at hl 4 rfl) ?_
        refine lv_iadd hx hb dX11_unmet_20 ?_
        obtain ⟨g2, h⟩ := gi_some h
        refine r_iald E hS 1 rfl g2 dX11_unmet_21 ?_
        refine lv_if_eq (tgt := 41) hx hb dX11_unmet_22 (by decide) (fun c3 => ?_) (fun c3 => ?_)
        · have h := it_pos c3 h
          refine lv_iconst (v := 0) hx hb dX11_unmet_41 (by decide) ?_
          refine lv_iadd hx hb dX11_unmet_42 ?_
          refine lv_istore_n (lv' := [(3, .int (x5.1 + (0 : Int32))), (0, .ref q0), (1, .ref q1), (2, .int p2), (4, .int x5.2)]) hx hb dX11_unmet_43 rfl hl (by decide) rfl (fun ls hl => ?_)
          refine lv_iinc (v := (x5.2 + (1 : Int32))) (lv' := [(4, .int (x5.2 + (1 : Int32))), (3, .int (x5.1 + (0 : Int32))), (0, .ref q0), (1, .ref q1), (2, .int p2)]) hx hb dX11_unmet_44 hl (k := 4) rfl rfl (by decide) rfl (fun ls hl => ?_)
          refine lv_goto (tgt := 5) hx hb dX11_unmet_47 (by decide) ?_
          exact ih5 ((x5.1 + (0 : Int32)), (x5.2 + (1 : Int32))) y5  H locs ls (hz5a _ (Option.some.inj h).symm) hS (lv_sub hl [2, 3, 4, 1, 0] rfl) hk5_0
        · have h := it_neg c3 h
          refine lv_aload_n hx hb dX11_unmet_25 rfl (lv_at hl 1 rfl) ?_
          refine lv_bipush (v := 28) hx hb dX11_unmet_26 (by decide) ?_
          refine lv_iload hx hb dX11_unmet_28 (lv_at hl 4 rfl) ?_
          refine lv_iadd hx hb dX11_unmet_30 ?_
          obtain ⟨g4, h⟩ := gi_some h
          refine r_iald E hS 1 rfl g4 dX11_unmet_31 ?_
          refine lv_iload_n hx hb dX11_unmet_32 rfl (lv_at hl 2 rfl) ?_
          refine lv_iand hx hb dX11_unmet_33 ?_
          refine lv_if_ne (tgt := 41) hx hb dX11_unmet_34 (by decide) (fun c5 => ?_) (fun c5 => ?_)
          · have h := it_neg c5 h
            refine lv_iconst (v := 0) hx hb dX11_unmet_41 (by decide) ?_
            refine lv_iadd hx hb dX11_unmet_42 ?_
            refine lv_istore_n (lv' := [(3, .int (x5.1 + (0 : Int32))), (0, .ref q0), (1, .ref q1), (2, .int p2), (4, .int x5.2)]) hx hb dX11_unmet_43 rfl hl (by decide) rfl (fun ls hl => ?_)
            refine lv_iinc (v := (x5.2 + (1 : Int32))) (lv' := [(4, .int (x5.2 + (1 : Int32))), (3, .int (x5.1 + (0 : Int32))), (0, .ref q0), (1, .ref q1), (2, .int p2)]) hx hb dX11_unmet_44 hl (k := 4) rfl rfl (by decide) rfl (fun ls hl => ?_)
            refine lv_goto (tgt := 5) hx hb dX11_unmet_47 (by decide) ?_
            exact ih5 ((x5.1 + (0 : Int32)), (x5.2 + (1 : Int32))) y5  H locs ls (hz5a _ (Option.some.inj h).symm) hS (lv_sub hl [2, 3, 4, 1, 0] rfl) hk5_0
          · have h := it_pos c5 h
            refine lv_iconst (v := 1) hx hb dX11_unmet_37 (by decide) ?_
            refine lv_goto (tgt := 42) hx hb dX11_unmet_38 (by decide) ?_
            refine lv_iadd hx hb dX11_unmet_42 ?_
            refine lv_istore_n (lv' := [(3, .int (x5.1 + (1 : Int32))), (0, .ref q0), (1, .ref q1), (2, .int p2), (4, .int x5.2)]) hx hb dX11_unmet_43 rfl hl (by decide) rfl (fun ls hl => ?_)
            refine lv_iinc (v := (x5.2 + (1 : Int32))) (lv' := [(4, .int (x5.2 + (1 : Int32))), (3, .int (x5.1 + (1 : Int32))), (0, .ref q0), (1, .ref q1), (2, .int p2)]) hx hb dX11_unmet_44 hl (k := 4) rfl rfl (by decide) rfl (fun ls hl => ?_)
            refine lv_goto (tgt := 5) hx hb dX11_unmet_47 (by decide) ?_
            exact ih5 ((x5.1 + (1 : Int32)), (x5.2 + (1 : Int32))) y5  H locs ls (hz5a _ (Option.some.inj h).symm) hS (lv_sub hl [2, 3, 4, 1, 0] rfl) hk5_0
  obtain ⟨y5, e5, h⟩ := bd_some h
  refine hL5 1000 ((0 : Int32), (0 : Int32)) y5  H locs ls e5 hS (lv_sub hl [2, 3, 4, 1, 0] rfl) (fun H locs ls hS hl => ?_)
  refine lv_iload_n hx hb dX11_unmet_50 rfl (lv_at hl 0 rfl) ?_
  obtain rfl := Option.some.inj h
  exact rt_i E hQ (.null) hS dX11_unmet_51
def X11_one_k23 (v_length : Int32) (v_top : Int32) (v_at : Int32) (v_wrong : Int32) (v_isAsked : Int32) (v_asked : Nat → Int32) : Option (Int32 × Int32 × Int32 × Int32 × Int32 × Int32 × Int32 × (Nat → Int32)) :=
  some (X11_lost.1, X11_lost.2, v_length, v_top, v_at, v_wrong, v_isAsked, v_asked)
def X11_one (v_people : Int32) (v_length : Int32) (v_top : Int32) (v_at : Int32) (v_wrong : Int32) (v_ruleSize : Int32) (v_isAsked : Int32) (v_now : Nat → Int32) (v_rule : Nat → Int32) (v_asked : Nat → Int32) (p1 : Int32) (p2 : Int32) : Option (Int32 × Int32 × Int32 × Int32 × Int32 × Int32 × Int32 × (Nat → Int32)) :=
  (X11_isOne v_people p1).bind fun y7 => if y7 = 0 then (X11_one_k23 v_length v_top v_at v_wrong v_isAsked v_asked) else (if (X11_in p2 (0 : Int32) (6 : Int32)) = 0 then (X11_one_k23 v_length v_top v_at v_wrong v_isAsked v_asked) else (if (5 : Int32) ≤ p2 then (if p2 = (5 : Int32) then ((X11_wantedBy v_people 37 v_now p1).bind fun y58 => some (y58, (0 : Int32), v_length, v_top, v_at, v_wrong, v_isAsked, v_asked)) else ((X11_neededBy v_people v_length v_top v_at v_wrong v_ruleSize v_isAsked v_rule v_asked 37 v_now p1).bind fun y70 => some (y70.1, (0 : Int32), y70.2.1, y70.2.2.1, y70.2.2.2.1, y70.2.2.2.2.1, y70.2.2.2.2.2.1, y70.2.2.2.2.2.2))) else (gi (((7 : Int32) * p2) + p1) 37 (some ((v_now (((7 : Int32) * p2) + p1).toNatClampNeg), (0 : Int32), v_length, v_top, v_at, v_wrong, v_isAsked, v_asked)))))
set_option maxHeartbeats 4000000 in
set_option maxRecDepth 100000 in
theorem c_X11_one {l : Launch} {D : va_G} {cy : Nat → ClassId} (q0 : Nat) (q1 : Nat) (q2 : Nat) (q3 : Nat) (u0_2 : Value) (u0_3 : Value) (u0_4 : Value) (u0_5 : Value) (u0_7 : Value) (u0_12 : Value) (u0_14 : Value) (u0_18 : Value) (u0_19 : Value) (u0_20 : Value) (u0_21 : Value) (u0_22 : Value) (u0_23 : Value) (u0_24 : Value) (u0_25 : Value) (u0_26 : Value) (u0_27 : Value) (u0_28 : Value) (u0_29 : Value) (u0_30 : Value) (u0_31 : Value) (u0_32 : Value) (u0_33 : Value) (u0_34 : Value) (u0_35 : Value) (u0_36 : Value) (u0_37 : Value) (u0_38 : Value) (u0_39 : Value) (u0_40 : Value) (v_people : Int32) (v_thrown : Int32) (v_length : Int32) (v_top : Int32) (v_at : Int32) (v_wrong : Int32) (v_ruleSize : Int32) (v_isAsked : Int32) (v_now : Nat → Int32) (v_rule : Nat → Int32) (v_asked : Nat → Int32) (p1 : Int32) (p2 : Int32) (r : Int32 × Int32 × Int32 × Int32 × Int32 × Int32 × Int32 × (Nat → Int32)) (h : X11_one v_people v_length v_top v_at v_wrong v_ruleSize v_isAsked v_now v_rule v_asked p1 p2 = some r) : Ct l yX11_one cX11_one 3 (some .int) 107 2558 D cy [.ref q0, .int p1, .int p2] [oX11 q0 (.ref q1) (.int v_people) u0_2 u0_3 u0_4 u0_5 (.int v_thrown) u0_7 (.int v_length) (.int v_top) (.int v_at) (.int v_wrong) u0_12 (.ref q2) u0_14 (.int v_ruleSize) (.int v_isAsked) (.ref q3) u0_18 u0_19 u0_20 u0_21 u0_22 u0_23 u0_24 u0_25 u0_26 u0_27 u0_28 u0_29 u0_30 u0_31 u0_32 u0_33 u0_34 u0_35 u0_36 u0_37 u0_38 u0_39 u0_40, aI cy q1 37 v_now, aB cy q2 40 v_rule, aI cy q3 7 v_asked] (fun _ => [oX11 q0 (.ref q1) (.int v_people) u0_2 u0_3 u0_4 u0_5 (.int r.2.1) (.ref q2) (.int r.2.2.1) (.int r.2.2.2.1) (.int r.2.2.2.2.1) (.int r.2.2.2.2.2.1) u0_12 (.ref q2) u0_14 (.int v_ruleSize) (.int r.2.2.2.2.2.2.1) (.ref q3) u0_18 u0_19 u0_20 u0_21 u0_22 u0_23 u0_24 u0_25 u0_26 u0_27 u0_28 u0_29 u0_30 u0_31 u0_32 u0_33 u0_34 u0_35 u0_36 u0_37 u0_38 u0_39 u0_40, aI cy q1 37 v_now, aB cy q2 40 v_rule, aI cy q3 7 r.2.2.2.2.2.2.2]) (some (.int r.1)) := by
  refine Ct.mk kX11_one (by decide +kernel) (Nat.le_of_ble_eq_true rfl) ?_
  intro p e s m below meth c A ls args R Q hRf hRl hQ E H locs hS hl
  have hx := E.x
  have hb := E.b
  have hl : lv_has ls 3 [(0, .ref q0), (1, .int p1), (2, .int p2)] := hl
  unfold X11_one at h
  refine lv_aload_n hx hb dX11_one_0 rfl (lv_at hl 0 rfl) ?_
  refine lv_iconst (v := 0) hx hb dX11_one_1 (by decide) ?_
  refine r_put (ws' := [oX11 q0 (.ref q1) (.int v_people) u0_2 u0_3 u0_4 u0_5 (.int (0 : Int32)) u0_7 (.int v_length) (.int v_top) (.int v_at) (.int v_wrong) u0_12 (.ref q2) u0_14 (.int v_ruleSize) (.int v_isAsked) (.ref q3) u0_18 u0_19 u0_20 u0_21 u0_22 u0_23 u0_24 u0_25 u0_26 u0_27 u0_28 u0_29 u0_30 u0_31 u0_32 u0_33 u0_34 u0_35 u0_36 u0_37 u0_38 u0_39 u0_40, aI cy q1 37 v_now, aB cy q2 40 v_rule, aI cy q3 7 v_asked]) E frX11_85 hS 0 rfl (Nat.le_of_ble_eq_true rfl) rfl rfl rfl rfl dX11_one_2 (fun H locs hS => ?_)
  refine lv_aload_n hx hb dX11_one_5 rfl (lv_at hl 0 rfl) ?_
  refine lv_iload_n hx hb dX11_one_6 rfl (lv_at hl 1 rfl) ?_
  obtain ⟨y7, e1, h⟩ := bd_some h
  refine ct_V (ws' := fun _ => [oX11 q0 (.ref q1) (.int v_people) u0_2 u0_3 u0_4 u0_5 (.int (0 : Int32)) u0_7 (.int v_length) (.int v_top) (.int v_at) (.int v_wrong) u0_12 (.ref q2) u0_14 (.int v_ruleSize) (.int v_isAsked) (.ref q3) u0_18 u0_19 u0_20 u0_21 u0_22 u0_23 u0_24 u0_25 u0_26 u0_27 u0_28 u0_29 u0_30 u0_31 u0_32 u0_33 u0_34 u0_35 u0_36 u0_37 u0_38 u0_39 u0_40, aI cy q1 37 v_now, aB cy q2 40 v_rule, aI cy q3 7 v_asked]) (st' := [.int y7]) (rest := []) E hS vlX11_99 (c_X11_isOne (l := l) (D := D) (cy := cy) (q0 := q0) (u0_0 := .ref q1) (u0_2 := u0_2) (u0_3 := u0_3) (u0_4 := u0_4) (u0_5 := u0_5) (u0_6 := .int (0 : Int32)) (u0_7 := u0_7) (u0_8 := .int v_length) (u0_9 := .int v_top) (u0_10 := .int v_at) (u0_11 := .int v_wrong) (u0_12 := u0_12) (u0_13 := .ref q2) (u0_14 := u0_14) (u0_15 := .int v_ruleSize) (u0_16 := .int v_isAsked) (u0_17 := .ref q3) (u0_18 := u0_18) (u0_19 := u0_19) (u0_20 := u0_20) (u0_21 := u0_21) (u0_22 := u0_22) (u0_23 := u0_23) (u0_24 := u0_24) (u0_25 := u0_25) (u0_26 := u0_26) (u0_27 := u0_27) (u0_28 := u0_28) (u0_29 := u0_29) (u0_30 := u0_30) (u0_31 := u0_31) (u0_32 := u0_32) (u0_33 := u0_33) (u0_34 := u0_34) (u0_35 := u0_35) (u0_36 := u0_36) (u0_37 := u0_37) (u0_38 := u0_38) (u0_39 := u0_39) (u0_40 := u0_40) (v_people := v_people) (p1 := p1) (r := y7) e1) [0] rfl rfl (fun _ => rfl) (fun _ => rfl) rfl rfl rfl rfl (Nat.le_of_ble_eq_true rfl) hl.1 (by rw [hRf]; exact Nat.le_of_ble_eq_true rfl) (by rw [hRl]; exact Nat.le_of_ble_eq_true rfl) ⟨Nat.zero_le _, Nat.zero_le _⟩ dX11_one_7 rfl (fun H locs _ hS => ?_)
  have hJ23 : ∀ (H : Heap) (locs : List Loc) (ls : Array Slot), X11_one_k23 v_length v_top v_at v_wrong v_isAsked v_asked = some r → Sv D A s.heap [oX11 q0 (.ref q1) (.int v_people) u0_2 u0_3 u0_4 u0_5 (.int (0 : Int32)) u0_7 (.int v_length) (.int v_top) (.int v_at) (.int v_wrong) u0_12 (.ref q2) u0_14 (.int v_ruleSize) (.int v_isAsked) (.ref q3) u0_18 u0_19 u0_20 u0_21 u0_22 u0_23 u0_24 u0_25 u0_26 u0_27 u0_28 u0_29 u0_30 u0_31 u0_32 u0_33 u0_34 u0_35 u0_36 u0_37 u0_38 u0_39 u0_40, aI cy q1 37 v_now, aB cy q2 40 v_rule, aI cy q3 7 v_asked] H locs → lv_has ls 3 [(0, .ref q0)] → W p l e R s m args below meth c H locs 0 0 Q (F0 m 23 ls []) := by
    intro H locs ls h hS hl
    unfold X11_one_k23 at h
    refine lv_aload_n hx hb dX11_one_23 rfl (lv_at hl 0 rfl) ?_
    refine ct_V (ws' := fun _ => [oX11 q0 (.ref q1) (.int v_people) u0_2 u0_3 u0_4 u0_5 (.int X11_lost.2) u0_7 (.int v_length) (.int v_top) (.int v_at) (.int v_wrong) u0_12 (.ref q2) u0_14 (.int v_ruleSize) (.int v_isAsked) (.ref q3) u0_18 u0_19 u0_20 u0_21 u0_22 u0_23 u0_24 u0_25 u0_26 u0_27 u0_28 u0_29 u0_30 u0_31 u0_32 u0_33 u0_34 u0_35 u0_36 u0_37 u0_38 u0_39 u0_40, aI cy q1 37 v_now, aB cy q2 40 v_rule, aI cy q3 7 v_asked]) (st' := [.int X11_lost.1]) (rest := []) E hS vlX11_220 (c_X11_lost (l := l) (D := D) (cy := cy) (q0 := q0) (u0_0 := .ref q1) (u0_1 := .int v_people) (u0_2 := u0_2) (u0_3 := u0_3) (u0_4 := u0_4) (u0_5 := u0_5) (u0_7 := u0_7) (u0_8 := .int v_length) (u0_9 := .int v_top) (u0_10 := .int v_at) (u0_11 := .int v_wrong) (u0_12 := u0_12) (u0_13 := .ref q2) (u0_14 := u0_14) (u0_15 := .int v_ruleSize) (u0_16 := .int v_isAsked) (u0_17 := .ref q3) (u0_18 := u0_18) (u0_19 := u0_19) (u0_20 := u0_20) (u0_21 := u0_21) (u0_22 := u0_22) (u0_23 := u0_23) (u0_24 := u0_24) (u0_25 := u0_25) (u0_26 := u0_26) (u0_27 := u0_27) (u0_28 := u0_28) (u0_29 := u0_29) (u0_30 := u0_30) (u0_31 := u0_31) (u0_32 := u0_32) (u0_33 := u0_33) (u0_34 := u0_34) (u0_35 := u0_35) (u0_36 := u0_36) (u0_37 := u0_37) (u0_38 := u0_38) (u0_39 := u0_39) (u0_40 := u0_40) (v_thrown := (0 : Int32)) (r := X11_lost) rfl) [0] rfl rfl (fun _ => rfl) (fun _ => rfl) rfl rfl rfl rfl (Nat.le_of_ble_eq_true rfl) hl.1 (by rw [hRf]; exact Nat.le_of_ble_eq_true rfl) (by rw [hRl]; exact Nat.le_of_ble_eq_true rfl) ⟨Nat.zero_le _, Nat.zero_le _⟩ dX11_one_24 rfl (fun H locs _ hS => ?_)
    obtain rfl := Option.some.inj h
    exact rt_i E hQ (.null) hS dX11_one_27
  refine lv_if_eq (tgt := 23) hx hb dX11_one_10 (by decide) (fun c2 => ?_) (fun c2 => ?_)
  · have h := it_pos c2 h
    exact hJ23   H locs ls h hS (lv_sub hl [0] rfl)
  · have h := it_neg c2 h
    refine lv_iload_n hx hb dX11_one_13 rfl (lv_at hl 2 rfl) ?_
    refine lv_iconst (v := 0) hx hb dX11_one_14 (by decide) ?_
    refine lv_bipush (v := 6) hx hb dX11_one_15 (by decide) ?_
    refine ct_S (ws' := fun _ => [oX11 q0 (.ref q1) (.int v_people) u0_2 u0_3 u0_4 u0_5 (.int (0 : Int32)) u0_7 (.int v_length) (.int v_top) (.int v_at) (.int v_wrong) u0_12 (.ref q2) u0_14 (.int v_ruleSize) (.int v_isAsked) (.ref q3) u0_18 u0_19 u0_20 u0_21 u0_22 u0_23 u0_24 u0_25 u0_26 u0_27 u0_28 u0_29 u0_30 u0_31 u0_32 u0_33 u0_34 u0_35 u0_36 u0_37 u0_38 u0_39 u0_40, aI cy q1 37 v_now, aB cy q2 40 v_rule, aI cy q3 7 v_asked]) (st' := [.int (X11_in p2 (0 : Int32) (6 : Int32))]) (rest := []) E hS slX11_95 (c_X11_in (l := l) (D := D) (cy := cy) (p0 := p2) (p1 := (0 : Int32)) (p2 := (6 : Int32)) (r := (X11_in p2 (0 : Int32) (6 : Int32))) rfl) [] rfl rfl (fun _ => rfl) (fun _ => rfl) rfl rfl (Nat.le_of_ble_eq_true rfl) hl.1 (by rw [hRf]; exact Nat.le_of_ble_eq_true rfl) (by rw [hRl]; exact Nat.le_of_ble_eq_true rfl) ⟨Nat.zero_le _, Nat.zero_le _⟩ dX11_one_17 rfl (fun H locs _ hS => ?_)
    refine lv_if_ne (tgt := 28) hx hb dX11_one_20 (by decide) (fun c3 => ?_) (fun c3 => ?_)
    · have h := it_neg c3 h
      refine lv_iload_n hx hb dX11_one_28 rfl (lv_at hl 2 rfl) ?_
      refine lv_iconst (v := 5) hx hb dX11_one_29 (by decide) ?_
      refine lv_icmp_ge (tgt := 47) hx hb dX11_one_30 (by decide) (fun c4 => ?_) (fun c4 => ?_)
      · have h := it_pos c4 h
        refine lv_iload_n hx hb dX11_one_47 rfl (lv_at hl 2 rfl) ?_
        refine lv_iconst (v := 5) hx hb dX11_one_48 (by decide) ?_
        refine lv_icmp_ne (tgt := 64) hx hb dX11_one_49 (by decide) (fun c5 => ?_) (fun c5 => ?_)
        · have h := it_neg c5 h
          refine lv_aload_n hx hb dX11_one_64 rfl (lv_at hl 0 rfl) ?_
          refine lv_aload_n hx hb dX11_one_65 rfl (lv_at hl 0 rfl) ?_
          refine r_get E frX11_9 hS 0 rfl rfl dX11_one_66 ?_
          refine lv_iload_n hx hb dX11_one_69 rfl (lv_at hl 1 rfl) ?_
          obtain ⟨y70, e6, h⟩ := bd_some h
          refine ct_V (ws' := fun _ => [oX11 q0 (.ref q1) (.int v_people) u0_2 u0_3 u0_4 u0_5 (.int (0 : Int32)) (.ref q2) (.int y70.2.1) (.int y70.2.2.1) (.int y70.2.2.2.1) (.int y70.2.2.2.2.1) u0_12 (.ref q2) u0_14 (.int v_ruleSize) (.int y70.2.2.2.2.2.1) (.ref q3) u0_18 u0_19 u0_20 u0_21 u0_22 u0_23 u0_24 u0_25 u0_26 u0_27 u0_28 u0_29 u0_30 u0_31 u0_32 u0_33 u0_34 u0_35 u0_36 u0_37 u0_38 u0_39 u0_40, aI cy q1 37 v_now, aB cy q2 40 v_rule, aI cy q3 7 y70.2.2.2.2.2.2]) (st' := [.int y70.1]) (rest := []) E hS vlX11_213 (c_X11_neededBy (l := l) (D := D) (cy := cy) (q0 := q0) (q1 := q2) (q2 := q3) (q3 := q1) (u0_0 := .ref q1) (u0_2 := u0_2) (u0_3 := u0_3) (u0_4 := u0_4) (u0_5 := u0_5) (u0_6 := .int (0 : Int32)) (u0_7 := u0_7) (u0_12 := u0_12) (u0_14 := u0_14) (u0_18 := u0_18) (u0_19 := u0_19) (u0_20 := u0_20) (u0_21 := u0_21) (u0_22 := u0_22) (u0_23 := u0_23) (u0_24 := u0_24) (u0_25 := u0_25) (u0_26 := u0_26) (u0_27 := u0_27) (u0_28 := u0_28) (u0_29 := u0_29) (u0_30 := u0_30) (u0_31 := u0_31) (u0_32 := u0_32) (u0_33 := u0_33) (u0_34 := u0_34) (u0_35 := u0_35) (u0_36 := u0_36) (u0_37 := u0_37) (u0_38 := u0_38) (u0_39 := u0_39) (u0_40 := u0_40) (v_people := v_people) (v_length := v_length) (v_top := v_top) (v_at := v_at) (v_wrong := v_wrong) (v_ruleSize := v_ruleSize) (v_isAsked := v_isAsked) (v_rule := v_rule) (v_asked := v_asked) (nw1_ := 37) (w1_ := v_now) (p2 := p1) (r := y70) e6) [0, 2, 3, 1] rfl rfl (fun _ => rfl) (fun _ => rfl) rfl rfl rfl rfl (Nat.le_of_ble_eq_true rfl) hl.1 (by rw [hRf]; exact Nat.le_of_ble_eq_true rfl) (by rw [hRl]; exact Nat.le_of_ble_eq_true rfl) ⟨Nat.zero_le _, Nat.zero_le _⟩ dX11_one_70 rfl (fun H locs _ hS => ?_)
          obtain rfl := Option.some.inj h
          exact rt_i E hQ (.null) hS dX11_one_73
        · have h := it_pos c5 h
          refine lv_aload_n hx hb dX11_one_52 rfl (lv_at hl 0 rfl) ?_
          refine lv_aload_n hx hb dX11_one_53 rfl (lv_at hl 0 rfl) ?_
          refine r_get E frX11_9 hS 0 rfl rfl dX11_one_54 ?_
          refine lv_iload_n hx hb dX11_one_57 rfl (lv_at hl 1 rfl) ?_
          obtain ⟨y58, e7, h⟩ := bd_some h
          refine ct_V (ws' := fun _ => [oX11 q0 (.ref q1) (.int v_people) u0_2 u0_3 u0_4 u0_5 (.int (0 : Int32)) u0_7 (.int v_length) (.int v_top) (.int v_at) (.int v_wrong) u0_12 (.ref q2) u0_14 (.int v_ruleSize) (.int v_isAsked) (.ref q3) u0_18 u0_19 u0_20 u0_21 u0_22 u0_23 u0_24 u0_25 u0_26 u0_27 u0_28 u0_29 u0_30 u0_31 u0_32 u0_33 u0_34 u0_35 u0_36 u0_37 u0_38 u0_39 u0_40, aI cy q1 37 v_now, aB cy q2 40 v_rule, aI cy q3 7 v_asked]) (st' := [.int y58]) (rest := []) E hS vlX11_200 (c_X11_wantedBy (l := l) (D := D) (cy := cy) (q0 := q0) (q1 := q1) (u0_0 := .ref q1) (u0_2 := u0_2) (u0_3 := u0_3) (u0_4 := u0_4) (u0_5 := u0_5) (u0_6 := .int (0 : Int32)) (u0_7 := u0_7) (u0_8 := .int v_length) (u0_9 := .int v_top) (u0_10 := .int v_at) (u0_11 := .int v_wrong) (u0_12 := u0_12) (u0_13 := .ref q2) (u0_14 := u0_14) (u0_15 := .int v_ruleSize) (u0_16 := .int v_isAsked) (u0_17 := .ref q3) (u0_18 := u0_18) (u0_19 := u0_19) (u0_20 := u0_20) (u0_21 := u0_21) (u0_22 := u0_22) (u0_23 := u0_23) (u0_24 := u0_24) (u0_25 := u0_25) (u0_26 := u0_26) (u0_27 := u0_27) (u0_28 := u0_28) (u0_29 := u0_29) (u0_30 := u0_30) (u0_31 := u0_31) (u0_32 := u0_32) (u0_33 := u0_33) (u0_34 := u0_34) (u0_35 := u0_35) (u0_36 := u0_36) (u0_37 := u0_37) (u0_38 := u0_38) (u0_39 := u0_39) (u0_40 := u0_40) (v_people := v_people) (nw1_ := 37) (w1_ := v_now) (p2 := p1) (r := y58) e7) [0, 1] rfl rfl (fun _ => rfl) (fun _ => rfl) rfl rfl rfl rfl (Nat.le_of_ble_eq_true rfl) hl.1 (by rw [hRf]; exact Nat.le_of_ble_eq_true rfl) (by rw [hRl]; exact Nat.le_of_ble_eq_true rfl) ⟨Nat.zero_le _, Nat.zero_le _⟩ dX11_one_58 rfl (fun H locs _ hS => ?_)
          refine lv_goto (tgt := 73) hx hb dX11_one_61 (by decide) ?_
          obtain rfl := Option.some.inj h
          exact rt_i E hQ (.null) hS dX11_one_73
      · have h := it_neg c4 h
        refine lv_aload_n hx hb dX11_one_33 rfl (lv_at hl 0 rfl) ?_
        refine r_get E frX11_9 hS 0 rfl rfl dX11_one_34 ?_
        refine lv_bipush (v := 7) hx hb dX11_one_37 (by decide) ?_
        refine lv_iload_n hx hb dX11_one_39 rfl (lv_at hl 2 rfl) ?_
        refine lv_imul hx hb dX11_one_40 ?_
        refine lv_iload_n hx hb dX11_one_41 rfl (lv_at hl 1 rfl) ?_
        refine lv_iadd hx hb dX11_one_42 ?_
        obtain ⟨g8, h⟩ := gi_some h
        refine r_iald E hS 1 rfl g8 dX11_one_43 ?_
        refine lv_goto (tgt := 73) hx hb dX11_one_44 (by decide) ?_
        obtain rfl := Option.some.inj h
        exact rt_i E hQ (.null) hS dX11_one_73
    · have h := it_pos c3 h
      exact hJ23   H locs ls h hS (lv_sub hl [0] rfl)
def X11_sumOf_s5 (v_people : Int32) (nw1_ : Nat) (w1_ : Nat → Int32) (p2 : Int32) (x5 : Int32 × Int32) : Option ((Int32 × Int32) ⊕ (Int32)) :=
  if v_people ≤ x5.2 then (some (.inr x5.1)) else (gi (p2 + x5.2) nw1_ (some (.inl ((x5.1 + (w1_ (p2 + x5.2).toNatClampNeg)), (x5.2 + (1 : Int32))))))
def X11_sumOf (v_people : Int32) (nw1_ : Nat) (w1_ : Nat → Int32) (p2 : Int32) : Option (Int32) :=
  (lp (fun x5 => X11_sumOf_s5 v_people nw1_ w1_ p2 x5) 1000 ((0 : Int32), (0 : Int32))).bind fun y5 => some y5
set_option maxHeartbeats 4000000 in
set_option maxRecDepth 100000 in
theorem c_X11_sumOf {l : Launch} {D : va_G} {cy : Nat → ClassId} (q0 : Nat) (q1 : Nat) (u0_0 : Value) (u0_2 : Value) (u0_3 : Value) (u0_4 : Value) (u0_5 : Value) (u0_6 : Value) (u0_7 : Value) (u0_8 : Value) (u0_9 : Value) (u0_10 : Value) (u0_11 : Value) (u0_12 : Value) (u0_13 : Value) (u0_14 : Value) (u0_15 : Value) (u0_16 : Value) (u0_17 : Value) (u0_18 : Value) (u0_19 : Value) (u0_20 : Value) (u0_21 : Value) (u0_22 : Value) (u0_23 : Value) (u0_24 : Value) (u0_25 : Value) (u0_26 : Value) (u0_27 : Value) (u0_28 : Value) (u0_29 : Value) (u0_30 : Value) (u0_31 : Value) (u0_32 : Value) (u0_33 : Value) (u0_34 : Value) (u0_35 : Value) (u0_36 : Value) (u0_37 : Value) (u0_38 : Value) (u0_39 : Value) (u0_40 : Value) (v_people : Int32) (nw1_ : Nat) (w1_ : Nat → Int32) (p2 : Int32) (r : Int32) (h : X11_sumOf v_people nw1_ w1_ p2 = some r) : Ct l yX11_sumOf cX11_sumOf 5 (some .int) 0 0 D cy [.ref q0, .ref q1, .int p2] [oX11 q0 u0_0 (.int v_people) u0_2 u0_3 u0_4 u0_5 u0_6 u0_7 u0_8 u0_9 u0_10 u0_11 u0_12 u0_13 u0_14 u0_15 u0_16 u0_17 u0_18 u0_19 u0_20 u0_21 u0_22 u0_23 u0_24 u0_25 u0_26 u0_27 u0_28 u0_29 u0_30 u0_31 u0_32 u0_33 u0_34 u0_35 u0_36 u0_37 u0_38 u0_39 u0_40, aI cy q1 nw1_ w1_] (fun _ => [oX11 q0 u0_0 (.int v_people) u0_2 u0_3 u0_4 u0_5 u0_6 u0_7 u0_8 u0_9 u0_10 u0_11 u0_12 u0_13 u0_14 u0_15 u0_16 u0_17 u0_18 u0_19 u0_20 u0_21 u0_22 u0_23 u0_24 u0_25 u0_26 u0_27 u0_28 u0_29 u0_30 u0_31 u0_32 u0_33 u0_34 u0_35 u0_36 u0_37 u0_38 u0_39 u0_40, aI cy q1 nw1_ w1_]) (some (.int r)) := by
  refine Ct.mk kX11_sumOf (by decide +kernel) (Nat.le_of_ble_eq_true rfl) ?_
  intro p e s m below meth c A ls args R Q hRf hRl hQ E H locs hS hl
  have hx := E.x
  have hb := E.b
  have hl : lv_has ls 5 [(0, .ref q0), (1, .ref q1), (2, .int p2)] := hl
  unfold X11_sumOf at h
  refine lv_iconst (v := 0) hx hb dX11_sumOf_0 (by decide) ?_
  refine lv_istore_n (lv' := [(3, .int (0 : Int32)), (0, .ref q0), (1, .ref q1), (2, .int p2)]) hx hb dX11_sumOf_1 rfl hl (by decide) rfl (fun ls hl => ?_)
  refine lv_iconst (v := 0) hx hb dX11_sumOf_2 (by decide) ?_
  refine lv_istore (lv' := [(4, .int (0 : Int32)), (3, .int (0 : Int32)), (0, .ref q0), (1, .ref q1), (2, .int p2)]) hx hb dX11_sumOf_3 hl (by decide) rfl (fun ls hl => ?_)
  have hL5 : ∀ (n : Nat) (x5 : Int32 × Int32) (y5 : Int32) (H : Heap) (locs : List Loc) (ls : Array Slot), lp (fun x5 => X11_sumOf_s5 v_people nw1_ w1_ p2 x5) n x5 = some y5 → Sv D A s.heap [oX11 q0 u0_0 (.int v_people) u0_2 u0_3 u0_4 u0_5 u0_6 u0_7 u0_8 u0_9 u0_10 u0_11 u0_12 u0_13 u0_14 u0_15 u0_16 u0_17 u0_18 u0_19 u0_20 u0_21 u0_22 u0_23 u0_24 u0_25 u0_26 u0_27 u0_28 u0_29 u0_30 u0_31 u0_32 u0_33 u0_34 u0_35 u0_36 u0_37 u0_38 u0_39 u0_40, aI cy q1 nw1_ w1_] H locs → lv_has ls 5 [(0, .ref q0), (1, .ref q1), (2, .int p2), (3, .int x5.1), (4, .int x5.2)] → (∀ (H : Heap) (locs : List Loc) (ls : Array Slot), Sv D A s.heap [oX11 q0 u0_0 (.int v_people) u0_2 u0_3 u0_4 u0_5 u0_6 u0_7 u0_8 u0_9 u0_10 u0_11 u0_12 u0_13 u0_14 u0_15 u0_16 u0_17 u0_18 u0_19 u0_20 u0_21 u0_22 u0_23 u0_24 u0_25 u0_26 u0_27 u0_28 u0_29 u0_30 u0_31 u0_32 u0_33 u0_34 u0_35 u0_36 u0_37 u0_38 u0_39 u0_40, aI cy q1 nw1_ w1_] H locs → lv_has ls 5 [(3, .int y5)] → W p l e R s m args below meth c H locs 0 0 Q (F0 m 29 ls [])) → W p l e R s m args below meth c H locs 0 0 Q (F0 m 5 ls []) := by
    intro n
    induction n with
    | zero =>
      intro x5 y5 H locs ls h
      exact lp_zero h
    | succ n ih5 =>
      intro x5 y5 H locs ls h hS hl hk5_0
      obtain ⟨z5, h, hz5a, hz5b⟩ := lp_succ h
      have h : X11_sumOf_s5 v_people nw1_ w1_ p2 x5 = some z5 := h
      unfold X11_sumOf_s5 at h
      refine lv_iload hx hb dX11_sumOf_5 (lv_at hl 4 rfl) ?_
      refine lv_aload_n hx hb dX11_sumOf_7 rfl (lv_at hl 0 rfl) ?_
      refine r_get E frX11_92 hS 0 rfl rfl dX11_sumOf_8 ?_
      refine lv_icmp_ge (tgt := 29) hx hb dX11_sumOf_11 (by decide) (fun c1 => ?_) (fun c1 => ?_)
      · have h := it_pos c1 h
        obtain rfl := hz5b _ (Option.some.inj h).symm
        exact hk5_0  H locs ls hS (lv_sub hl [3] rfl)
      · have h := it_neg c1 h
        refine lv_iload_n hx hb dX11_sumOf_14 rfl (lv_at hl 3 rfl) ?_
        refine lv_aload_n hx hb dX11_sumOf_15 rfl (lv_at hl 1 rfl) ?_
        refine lv_iload_n hx hb dX11_sumOf_16 rfl (lv_at hl 2 rfl) ?_
        refine lv_iload hx hb dX11_sumOf_17 (lv_at hl 4 rfl) ?_
        refine lv_iadd hx hb dX11_sumOf_19 ?_
        obtain ⟨g2, h⟩ := gi_some h
        refine r_iald E hS 1 rfl g2 dX11_sumOf_20 ?_
        refine lv_iadd hx hb dX11_sumOf_21 ?_
        refine lv_istore_n (lv' := [(3, .int (x5.1 + (w1_ (p2 + x5.2).toNatClampNeg))), (0, .ref q0), (1, .ref q1), (2, .int p2), (4, .int x5.2)]) hx hb dX11_sumOf_22 rfl hl (by decide) rfl (fun ls hl => ?_)
        refine lv_iinc (v := (x5.2 + (1 : Int32))) (lv' := [(4, .int (x5.2 + (1 : Int32))), (3, .int (x5.1 + (w1_ (p2 + x5.2).toNatClampNeg))), (0, .ref q0), (1, .ref q1), (2, .int p2)]) hx hb dX11_sumOf_23 hl (k := 4) rfl rfl (by decide) rfl (fun ls hl => ?_)
        refine lv_goto (tgt := 5) hx hb dX11_sumOf_26 (by decide) ?_
        exact ih5 ((x5.1 + (w1_ (p2 + x5.2).toNatClampNeg)), (x5.2 + (1 : Int32))) y5  H locs ls (hz5a _ (Option.some.inj h).symm) hS (lv_sub hl [2, 3, 4, 1, 0] rfl) hk5_0
  obtain ⟨y5, e5, h⟩ := bd_some h
  refine hL5 1000 ((0 : Int32), (0 : Int32)) y5  H locs ls e5 hS (lv_sub hl [2, 3, 4, 1, 0] rfl) (fun H locs ls hS hl => ?_)
  refine lv_iload_n hx hb dX11_sumOf_29 rfl (lv_at hl 0 rfl) ?_
  obtain rfl := Option.some.inj h
  exact rt_i E hQ (.null) hS dX11_sumOf_30
def X11_sheet_s40 (v_people : Int32) (p1 : Int32) (p2 : Int32) (p4 : Int32) (x40 : Int32 × Int32 × (Nat → Int32)) : Option ((Int32 × Int32 × (Nat → Int32)) ⊕ ((Nat → Int32))) :=
  if v_people ≤ x40.2.1 then (some (.inr x40.2.2)) else (if p1 = (3 : Int32) then (gi x40.2.1 37 (some (.inl ((x40.1 + p4), (x40.2.1 + (1 : Int32)), (upd x40.2.2 x40.2.1.toNatClampNeg (0 : Int32)))))) else (if x40.2.1 < p2 then (gi x40.2.1 37 (some (.inl ((x40.1 + p4), (x40.2.1 + (1 : Int32)), (upd x40.2.2 x40.2.1.toNatClampNeg (J9_max_7cf53 (0 : Int32) (J9_min_7cf53 (9 : Int32) (if p1 = 0 then (x40.1.toInt8.toInt32) else (if p1 = (1 : Int32) then (x40.1.toInt16.toInt32) else x40.1))))))))) else (gi x40.2.1 37 (some (.inl ((x40.1 + p4), (x40.2.1 + (1 : Int32)), (upd x40.2.2 x40.2.1.toNatClampNeg (0 : Int32))))))))
def X11_sheet_k34 (v_people : Int32) (v_now : Nat → Int32) (p1 : Int32) (p2 : Int32) (p3 : Int32) (p4 : Int32) : Option (Int32 × Int32 × (Nat → Int32)) :=
  (lp (fun x40 => X11_sheet_s40 v_people p1 p2 p4 x40) 1000 (p3, (0 : Int32), v_now)).bind fun y40 => if p1 = (3 : Int32) then (some ((-3 : Int32), (0 : Int32), y40)) else ((X11_sumOf v_people 37 y40 (0 : Int32)).bind fun y136 => some (y136, (0 : Int32), y40))
def X11_sheet (v_people : Int32) (v_now : Nat → Int32) (p1 : Int32) (p2 : Int32) (p3 : Int32) (p4 : Int32) : Option (Int32 × Int32 × (Nat → Int32)) :=
  if (X11_in p1 (0 : Int32) (3 : Int32)) = 0 then (some ((-1 : Int32), (0 : Int32), v_now)) else (if p2 ≤ (7 : Int32) then (if (3 : Int32) ≤ p1 then (X11_sheet_k34 v_people v_now p1 p2 p3 p4) else (if 0 ≤ p2 then (X11_sheet_k34 v_people v_now p1 p2 p3 p4) else (some ((-2 : Int32), (0 : Int32), v_now)))) else (some ((-1 : Int32), (0 : Int32), v_now)))
set_option maxHeartbeats 4000000 in
set_option maxRecDepth 100000 in
theorem c_X11_sheet {l : Launch} {D : va_G} {cy : Nat → ClassId} (q0 : Nat) (q1 : Nat) (u0_2 : Value) (u0_3 : Value) (u0_4 : Value) (u0_5 : Value) (u0_7 : Value) (u0_8 : Value) (u0_9 : Value) (u0_10 : Value) (u0_11 : Value) (u0_12 : Value) (u0_13 : Value) (u0_14 : Value) (u0_15 : Value) (u0_16 : Value) (u0_17 : Value) (u0_18 : Value) (u0_19 : Value) (u0_20 : Value) (u0_21 : Value) (u0_22 : Value) (u0_23 : Value) (u0_24 : Value) (u0_25 : Value) (u0_26 : Value) (u0_27 : Value) (u0_28 : Value) (u0_29 : Value) (u0_30 : Value) (u0_31 : Value) (u0_32 : Value) (u0_33 : Value) (u0_34 : Value) (u0_35 : Value) (u0_36 : Value) (u0_37 : Value) (u0_38 : Value) (u0_39 : Value) (u0_40 : Value) (v_people : Int32) (v_thrown : Int32) (v_now : Nat → Int32) (p1 : Int32) (p2 : Int32) (p3 : Int32) (p4 : Int32) (r : Int32 × Int32 × (Nat → Int32)) (h : X11_sheet v_people v_now p1 p2 p3 p4 = some r) : Ct l yX11_sheet cX11_sheet 8 (some .int) 1 24 D cy [.ref q0, .int p1, .int p2, .int p3, .int p4] [oX11 q0 (.ref q1) (.int v_people) u0_2 u0_3 u0_4 u0_5 (.int v_thrown) u0_7 u0_8 u0_9 u0_10 u0_11 u0_12 u0_13 u0_14 u0_15 u0_16 u0_17 u0_18 u0_19 u0_20 u0_21 u0_22 u0_23 u0_24 u0_25 u0_26 u0_27 u0_28 u0_29 u0_30 u0_31 u0_32 u0_33 u0_34 u0_35 u0_36 u0_37 u0_38 u0_39 u0_40, aI cy q1 37 v_now] (fun _ => [oX11 q0 (.ref q1) (.int v_people) u0_2 u0_3 u0_4 u0_5 (.int r.2.1) u0_7 u0_8 u0_9 u0_10 u0_11 u0_12 u0_13 u0_14 u0_15 u0_16 u0_17 u0_18 u0_19 u0_20 u0_21 u0_22 u0_23 u0_24 u0_25 u0_26 u0_27 u0_28 u0_29 u0_30 u0_31 u0_32 u0_33 u0_34 u0_35 u0_36 u0_37 u0_38 u0_39 u0_40, aI cy q1 37 r.2.2]) (some (.int r.1)) := by
  refine Ct.mk kX11_sheet (by decide +kernel) (Nat.le_of_ble_eq_true rfl) ?_
  intro p e s m below meth c A ls args R Q hRf hRl hQ E H locs hS hl
  have hx := E.x
  have hb := E.b
  have hl : lv_has ls 8 [(0, .ref q0), (1, .int p1), (2, .int p2), (3, .int p3), (4, .int p4)] := hl
  unfold X11_sheet at h
  refine lv_aload_n hx hb dX11_sheet_0 rfl (lv_at hl 0 rfl) ?_
  refine lv_iconst (v := 0) hx hb dX11_sheet_1 (by decide) ?_
  refine r_put (ws' := [oX11 q0 (.ref q1) (.int v_people) u0_2 u0_3 u0_4 u0_5 (.int (0 : Int32)) u0_7 u0_8 u0_9 u0_10 u0_11 u0_12 u0_13 u0_14 u0_15 u0_16 u0_17 u0_18 u0_19 u0_20 u0_21 u0_22 u0_23 u0_24 u0_25 u0_26 u0_27 u0_28 u0_29 u0_30 u0_31 u0_32 u0_33 u0_34 u0_35 u0_36 u0_37 u0_38 u0_39 u0_40, aI cy q1 37 v_now]) E frX11_85 hS 0 rfl (Nat.le_of_ble_eq_true rfl) rfl rfl rfl rfl dX11_sheet_2 (fun H locs hS => ?_)
  refine lv_iload_n hx hb dX11_sheet_5 rfl (lv_at hl 1 rfl) ?_
  refine lv_iconst (v := 0) hx hb dX11_sheet_6 (by decide) ?_
  refine lv_iconst (v := 3) hx hb dX11_sheet_7 (by decide) ?_
  refine ct_S (ws' := fun _ => [oX11 q0 (.ref q1) (.int v_people) u0_2 u0_3 u0_4 u0_5 (.int (0 : Int32)) u0_7 u0_8 u0_9 u0_10 u0_11 u0_12 u0_13 u0_14 u0_15 u0_16 u0_17 u0_18 u0_19 u0_20 u0_21 u0_22 u0_23 u0_24 u0_25 u0_26 u0_27 u0_28 u0_29 u0_30 u0_31 u0_32 u0_33 u0_34 u0_35 u0_36 u0_37 u0_38 u0_39 u0_40, aI cy q1 37 v_now]) (st' := [.int (X11_in p1 (0 : Int32) (3 : Int32))]) (rest := []) E hS slX11_95 (c_X11_in (l := l) (D := D) (cy := cy) (p0 := p1) (p1 := (0 : Int32)) (p2 := (3 : Int32)) (r := (X11_in p1 (0 : Int32) (3 : Int32))) rfl) [] rfl rfl (fun _ => rfl) (fun _ => rfl) rfl rfl (Nat.le_of_ble_eq_true rfl) hl.1 (by rw [hRf]; exact Nat.le_of_ble_eq_true rfl) (by rw [hRl]; exact Nat.le_of_ble_eq_true rfl) ⟨Nat.zero_le _, Nat.zero_le _⟩ dX11_sheet_8 rfl (fun H locs _ hS => ?_)
  refine lv_if_eq (tgt := 20) hx hb dX11_sheet_11 (by decide) (fun c1 => ?_) (fun c1 => ?_)
  · have h := it_pos c1 h
    refine lv_iconst (v := -1) hx hb dX11_sheet_20 (by decide) ?_
    obtain rfl := Option.some.inj h
    exact rt_i E hQ (.null) hS dX11_sheet_21
  · have h := it_neg c1 h
    refine lv_iload_n hx hb dX11_sheet_14 rfl (lv_at hl 2 rfl) ?_
    refine lv_bipush (v := 7) hx hb dX11_sheet_15 (by decide) ?_
    refine lv_icmp_le (tgt := 22) hx hb dX11_sheet_17 (by decide) (fun c2 => ?_) (fun c2 => ?_)
    · have h := it_pos c2 h
      refine lv_iload_n hx hb dX11_sheet_22 rfl (lv_at hl 1 rfl) ?_
      refine lv_iconst (v := 3) hx hb dX11_sheet_23 (by decide) ?_
      have hJ34 : ∀ (H : Heap) (locs : List Loc) (ls : Array Slot), X11_sheet_k34 v_people v_now p1 p2 p3 p4 = some r → Sv D A s.heap [oX11 q0 (.ref q1) (.int v_people) u0_2 u0_3 u0_4 u0_5 (.int (0 : Int32)) u0_7 u0_8 u0_9 u0_10 u0_11 u0_12 u0_13 u0_14 u0_15 u0_16 u0_17 u0_18 u0_19 u0_20 u0_21 u0_22 u0_23 u0_24 u0_25 u0_26 u0_27 u0_28 u0_29 u0_30 u0_31 u0_32 u0_33 u0_34 u0_35 u0_36 u0_37 u0_38 u0_39 u0_40, aI cy q1 37 v_now] H locs → lv_has ls 8 [(0, .ref q0), (1, .int p1), (2, .int p2), (3, .int p3), (4, .int p4)] → W p l e R s m args below meth c H locs 0 0 Q (F0 m 34 ls []) := by
        intro H locs ls h hS hl
        unfold X11_sheet_k34 at h
        refine lv_iload_n hx hb dX11_sheet_34 rfl (lv_at hl 3 rfl) ?_
        refine lv_istore (lv' := [(5, .int p3), (0, .ref q0), (1, .int p1), (2, .int p2), (3, .int p3), (4, .int p4)]) hx hb dX11_sheet_35 hl (by decide) rfl (fun ls hl => ?_)
        refine lv_iconst (v := 0) hx hb dX11_sheet_37 (by decide) ?_
        refine lv_istore (lv' := [(6, .int (0 : Int32)), (5, .int p3), (0, .ref q0), (1, .int p1), (2, .int p2), (3, .int p3), (4, .int p4)]) hx hb dX11_sheet_38 hl (by decide) rfl (fun ls hl => ?_)
        have hL40 : ∀ (n : Nat) (x40 : Int32 × Int32 × (Nat → Int32)) (y40 : (Nat → Int32)) (H : Heap) (locs : List Loc) (ls : Array Slot), lp (fun x40 => X11_sheet_s40 v_people p1 p2 p4 x40) n x40 = some y40 → Sv D A s.heap [oX11 q0 (.ref q1) (.int v_people) u0_2 u0_3 u0_4 u0_5 (.int (0 : Int32)) u0_7 u0_8 u0_9 u0_10 u0_11 u0_12 u0_13 u0_14 u0_15 u0_16 u0_17 u0_18 u0_19 u0_20 u0_21 u0_22 u0_23 u0_24 u0_25 u0_26 u0_27 u0_28 u0_29 u0_30 u0_31 u0_32 u0_33 u0_34 u0_35 u0_36 u0_37 u0_38 u0_39 u0_40, aI cy q1 37 x40.2.2] H locs → lv_has ls 8 [(0, .ref q0), (1, .int p1), (2, .int p2), (4, .int p4), (5, .int x40.1), (6, .int x40.2.1)] → (∀ (H : Heap) (locs : List Loc) (ls : Array Slot), Sv D A s.heap [oX11 q0 (.ref q1) (.int v_people) u0_2 u0_3 u0_4 u0_5 (.int (0 : Int32)) u0_7 u0_8 u0_9 u0_10 u0_11 u0_12 u0_13 u0_14 u0_15 u0_16 u0_17 u0_18 u0_19 u0_20 u0_21 u0_22 u0_23 u0_24 u0_25 u0_26 u0_27 u0_28 u0_29 u0_30 u0_31 u0_32 u0_33 u0_34 u0_35 u0_36 u0_37 u0_38 u0_39 u0_40, aI cy q1 37 y40] H locs → lv_has ls 8 [(0, .ref q0), (1, .int p1)] → W p l e R s m args below meth c H locs 0 0 Q (F0 m 120 ls [])) → W p l e R s m args below meth c H locs 0 0 Q (F0 m 40 ls []) := by
          intro n
          induction n with
          | zero =>
            intro x40 y40 H locs ls h
            exact lp_zero h
          | succ n ih40 =>
            intro x40 y40 H locs ls h hS hl hk40_0
            obtain ⟨z40, h, hz40a, hz40b⟩ := lp_succ h
            have h : X11_sheet_s40 v_people p1 p2 p4 x40 = some z40 := h
            unfold X11_sheet_s40 at h
            refine lv_iload hx hb dX11_sheet_40 (lv_at hl 5 rfl) ?_
            refine lv_aload_n hx hb dX11_sheet_42 rfl (lv_at hl 0 rfl) ?_
            refine r_get E frX11_92 hS 0 rfl rfl dX11_sheet_43 ?_
            refine lv_icmp_ge (tgt := 120) hx hb dX11_sheet_46 (by decide) (fun c3 => ?_) (fun c3 => ?_)
            · have h := it_pos c3 h
              obtain rfl := hz40b _ (Option.some.inj h).symm
              exact hk40_0  H locs ls hS (lv_sub hl [0, 1] rfl)
            · have h := it_neg c3 h
              refine lv_iload_n hx hb dX11_sheet_49 rfl (lv_at hl 1 rfl) ?_
              have hJ72 : ∀ (s72_0 : Int32) (ls : Array Slot), s72_0 = (if p1 = 0 then (x40.1.toInt8.toInt32) else (if p1 = (1 : Int32) then (x40.1.toInt16.toInt32) else x40.1)) → lv_has ls 8 [(0, .ref q0), (1, .int p1), (2, .int p2), (4, .int p4), (5, .int x40.1), (6, .int x40.2.1)] → W p l e R s m args below meth c H locs 0 0 Q (F0 m 72 ls [.int s72_0]) := by
                intro s72_0 ls es72_0 hl
                subst es72_0
                refine lv_istore (lv' := [(7, .int (if p1 = 0 then (x40.1.toInt8.toInt32) else (if p1 = (1 : Int32) then (x40.1.toInt16.toInt32) else x40.1))), (0, .ref q0), (1, .int p1), (2, .int p2), (4, .int p4), (5, .int x40.1), (6, .int x40.2.1)]) hx hb dX11_sheet_72 hl (by decide) rfl (fun ls hl => ?_)
                refine lv_aload_n hx hb dX11_sheet_74 rfl (lv_at hl 1 rfl) ?_
                refine r_get E frX11_9 hS 0 rfl rfl dX11_sheet_75 ?_
                refine lv_iload hx hb dX11_sheet_78 (lv_at hl 6 rfl) ?_
                refine lv_iload_n hx hb dX11_sheet_80 rfl (lv_at hl 2 rfl) ?_
                refine lv_iconst (v := 3) hx hb dX11_sheet_81 (by decide) ?_
                refine lv_icmp_eq (tgt := 91) hx hb dX11_sheet_82 (by decide) (fun c4 => ?_) (fun c4 => ?_)
                · have h := it_pos c4 h
                  refine lv_iconst (v := 0) hx hb dX11_sheet_91 (by decide) ?_
                  refine lv_goto (tgt := 106) hx hb dX11_sheet_92 (by decide) ?_
                  obtain ⟨g5, h⟩ := gi_some h
                  refine r_iast (ws' := [oX11 q0 (.ref q1) (.int v_people) u0_2 u0_3 u0_4 u0_5 (.int (0 : Int32)) u0_7 u0_8 u0_9 u0_10 u0_11 u0_12 u0_13 u0_14 u0_15 u0_16 u0_17 u0_18 u0_19 u0_20 u0_21 u0_22 u0_23 u0_24 u0_25 u0_26 u0_27 u0_28 u0_29 u0_30 u0_31 u0_32 u0_33 u0_34 u0_35 u0_36 u0_37 u0_38 u0_39 u0_40, aI cy q1 37 (upd x40.2.2 x40.2.1.toNatClampNeg (0 : Int32))]) E hS 1 rfl g5 rfl dX11_sheet_106 (fun H locs hS => ?_)
                  refine lv_iload hx hb dX11_sheet_107 (lv_at hl 5 rfl) ?_
                  refine lv_iload hx hb dX11_sheet_109 (lv_at hl 4 rfl) ?_
                  refine lv_iadd hx hb dX11_sheet_111 ?_
                  refine lv_istore (lv' := [(5, .int (x40.1 + p4)), (7, .int (if p1 = 0 then (x40.1.toInt8.toInt32) else (if p1 = (1 : Int32) then (x40.1.toInt16.toInt32) else x40.1))), (0, .ref q0), (1, .int p1), (2, .int p2), (4, .int p4), (6, .int x40.2.1)]) hx hb dX11_sheet_112 hl (by decide) rfl (fun ls hl => ?_)
                  refine lv_iinc (v := (x40.2.1 + (1 : Int32))) (lv' := [(6, .int (x40.2.1 + (1 : Int32))), (5, .int (x40.1 + p4)), (7, .int (if p1 = 0 then (x40.1.toInt8.toInt32) else (if p1 = (1 : Int32) then (x40.1.toInt16.toInt32) else x40.1))), (0, .ref q0), (1, .int p1), (2, .int p2), (4, .int p4)]) hx hb dX11_sheet_114 hl (k := 6) rfl rfl (by decide) rfl (fun ls hl => ?_)
                  refine lv_goto (tgt := 40) hx hb dX11_sheet_117 (by decide) ?_
                  exact ih40 ((x40.1 + p4), (x40.2.1 + (1 : Int32)), (upd x40.2.2 x40.2.1.toNatClampNeg (0 : Int32))) y40  H locs ls (hz40a _ (Option.some.inj h).symm) hS (lv_sub hl [3, 4, 5, 6, 1, 0] rfl) hk40_0
                · have h := it_neg c4 h
                  refine lv_iload hx hb dX11_sheet_85 (lv_at hl 6 rfl) ?_
                  refine lv_iload_n hx hb dX11_sheet_87 rfl (lv_at hl 3 rfl) ?_
                  refine lv_icmp_lt (tgt := 95) hx hb dX11_sheet_88 (by decide) (fun c6 => ?_) (fun c6 => ?_)
                  · have h := it_pos c6 h
                    refine lv_iconst (v := 0) hx hb dX11_sheet_95 (by decide) ?_
                    refine lv_bipush (v := 9) hx hb dX11_sheet_96 (by decide) ?_
                    refine lv_iload hx hb dX11_sheet_98 (lv_at hl 0 rfl) ?_
                    refine ct_S (ws' := fun _ => [oX11 q0 (.ref q1) (.int v_people) u0_2 u0_3 u0_4 u0_5 (.int (0 : Int32)) u0_7 u0_8 u0_9 u0_10 u0_11 u0_12 u0_13 u0_14 u0_15 u0_16 u0_17 u0_18 u0_19 u0_20 u0_21 u0_22 u0_23 u0_24 u0_25 u0_26 u0_27 u0_28 u0_29 u0_30 u0_31 u0_32 u0_33 u0_34 u0_35 u0_36 u0_37 u0_38 u0_39 u0_40, aI cy q1 37 x40.2.2]) (st' := [.int (J9_min_7cf53 (9 : Int32) (if p1 = 0 then (x40.1.toInt8.toInt32) else (if p1 = (1 : Int32) then (x40.1.toInt16.toInt32) else x40.1))), .int (0 : Int32), .int x40.2.1, .ref q1]) (rest := [.int (0 : Int32), .int x40.2.1, .ref q1]) E hS slX11_223 (c_J9_min_7cf53 (l := l) (D := D) (cy := cy) (p0 := (9 : Int32)) (p1 := (if p1 = 0 then (x40.1.toInt8.toInt32) else (if p1 = (1 : Int32) then (x40.1.toInt16.toInt32) else x40.1))) (r := (J9_min_7cf53 (9 : Int32) (if p1 = 0 then (x40.1.toInt8.toInt32) else (if p1 = (1 : Int32) then (x40.1.toInt16.toInt32) else x40.1)))) rfl) [] rfl rfl (fun _ => rfl) (fun _ => rfl) rfl rfl (Nat.le_of_ble_eq_true rfl) hl.1 (by rw [hRf]; exact Nat.le_of_ble_eq_true rfl) (by rw [hRl]; exact Nat.le_of_ble_eq_true rfl) ⟨Nat.zero_le _, Nat.zero_le _⟩ dX11_sheet_100 rfl (fun H locs _ hS => ?_)
                    refine ct_S (ws' := fun _ => [oX11 q0 (.ref q1) (.int v_people) u0_2 u0_3 u0_4 u0_5 (.int (0 : Int32)) u0_7 u0_8 u0_9 u0_10 u0_11 u0_12 u0_13 u0_14 u0_15 u0_16 u0_17 u0_18 u0_19 u0_20 u0_21 u0_22 u0_23 u0_24 u0_25 u0_26 u0_27 u0_28 u0_29 u0_30 u0_31 u0_32 u0_33 u0_34 u0_35 u0_36 u0_37 u0_38 u0_39 u0_40, aI cy q1 37 x40.2.2]) (st' := [.int (J9_max_7cf53 (0 : Int32) (J9_min_7cf53 (9 : Int32) (if p1 = 0 then (x40.1.toInt8.toInt32) else (if p1 = (1 : Int32) then (x40.1.toInt16.toInt32) else x40.1)))), .int x40.2.1, .ref q1]) (rest := [.int x40.2.1, .ref q1]) E hS slX11_229 (c_J9_max_7cf53 (l := l) (D := D) (cy := cy) (p0 := (0 : Int32)) (p1 := (J9_min_7cf53 (9 : Int32) (if p1 = 0 then (x40.1.toInt8.toInt32) else (if p1 = (1 : Int32) then (x40.1.toInt16.toInt32) else x40.1)))) (r := (J9_max_7cf53 (0 : Int32) (J9_min_7cf53 (9 : Int32) (if p1 = 0 then (x40.1.toInt8.toInt32) else (if p1 = (1 : Int32) then (x40.1.toInt16.toInt32) else x40.1))))) rfl) [] rfl rfl (fun _ => rfl) (fun _ => rfl) rfl rfl (Nat.le_of_ble_eq_true rfl) hl.1 (by rw [hRf]; exact Nat.le_of_ble_eq_true rfl) (by rw [hRl]; exact Nat.le_of_ble_eq_true rfl) ⟨Nat.zero_le _, Nat.zero_le _⟩ dX11_sheet_103 rfl (fun H locs _ hS => ?_)
                    obtain ⟨g7, h⟩ := gi_some h
                    refine r_iast (ws' := [oX11 q0 (.ref q1) (.int v_people) u0_2 u0_3 u0_4 u0_5 (.int (0 : Int32)) u0_7 u0_8 u0_9 u0_10 u0_11 u0_12 u0_13 u0_14 u0_15 u0_16 u0_17 u0_18 u0_19 u0_20 u0_21 u0_22 u0_23 u0_24 u0_25 u0_26 u0_27 u0_28 u0_29 u0_30 u0_31 u0_32 u0_33 u0_34 u0_35 u0_36 u0_37 u0_38 u0_39 u0_40, aI cy q1 37 (upd x40.2.2 x40.2.1.toNatClampNeg (J9_max_7cf53 (0 : Int32) (J9_min_7cf53 (9 : Int32) (if p1 = 0 then (x40.1.toInt8.toInt32) else (if p1 = (1 : Int32) then (x40.1.toInt16.toInt32) else x40.1)))))]) E hS 1 rfl g7 rfl dX11_sheet_106 (fun H locs hS => ?_)
                    refine lv_iload hx hb dX11_sheet_107 (lv_at hl 5 rfl) ?_
                    refine lv_iload hx hb dX11_sheet_109 (lv_at hl 4 rfl) ?_
                    refine lv_iadd hx hb dX11_sheet_111 ?_
                    refine lv_istore (lv' := [(5, .int (x40.1 + p4)), (7, .int (if p1 = 0 then (x40.1.toInt8.toInt32) else (if p1 = (1 : Int32) then (x40.1.toInt16.toInt32) else x40.1))), (0, .ref q0), (1, .int p1), (2, .int p2), (4, .int p4), (6, .int x40.2.1)]) hx hb dX11_sheet_112 hl (by decide) rfl (fun ls hl => ?_)
                    refine lv_iinc (v := (x40.2.1 + (1 : Int32))) (lv' := [(6, .int (x40.2.1 + (1 : Int32))), (5, .int (x40.1 + p4)), (7, .int (if p1 = 0 then (x40.1.toInt8.toInt32) else (if p1 = (1 : Int32) then (x40.1.toInt16.toInt32) else x40.1))), (0, .ref q0), (1, .int p1), (2, .int p2), (4, .int p4)]) hx hb dX11_sheet_114 hl (k := 6) rfl rfl (by decide) rfl (fun ls hl => ?_)
                    refine lv_goto (tgt := 40) hx hb dX11_sheet_117 (by decide) ?_
                    exact ih40 ((x40.1 + p4), (x40.2.1 + (1 : Int32)), (upd x40.2.2 x40.2.1.toNatClampNeg (J9_max_7cf53 (0 : Int32) (J9_min_7cf53 (9 : Int32) (if p1 = 0 then (x40.1.toInt8.toInt32) else (if p1 = (1 : Int32) then (x40.1.toInt16.toInt32) else x40.1)))))) y40  H locs ls (hz40a _ (Option.some.inj h).symm) hS (lv_sub hl [3, 4, 5, 6, 1, 0] rfl) hk40_0
                  · have h := it_neg c6 h
                    refine lv_iconst (v := 0) hx hb dX11_sheet_91 (by decide) ?_
                    refine lv_goto (tgt := 106) hx hb dX11_sheet_92 (by decide) ?_
                    obtain ⟨g8, h⟩ := gi_some h
                    refine r_iast (ws' := [oX11 q0 (.ref q1) (.int v_people) u0_2 u0_3 u0_4 u0_5 (.int (0 : Int32)) u0_7 u0_8 u0_9 u0_10 u0_11 u0_12 u0_13 u0_14 u0_15 u0_16 u0_17 u0_18 u0_19 u0_20 u0_21 u0_22 u0_23 u0_24 u0_25 u0_26 u0_27 u0_28 u0_29 u0_30 u0_31 u0_32 u0_33 u0_34 u0_35 u0_36 u0_37 u0_38 u0_39 u0_40, aI cy q1 37 (upd x40.2.2 x40.2.1.toNatClampNeg (0 : Int32))]) E hS 1 rfl g8 rfl dX11_sheet_106 (fun H locs hS => ?_)
                    refine lv_iload hx hb dX11_sheet_107 (lv_at hl 5 rfl) ?_
                    refine lv_iload hx hb dX11_sheet_109 (lv_at hl 4 rfl) ?_
                    refine lv_iadd hx hb dX11_sheet_111 ?_
                    refine lv_istore (lv' := [(5, .int (x40.1 + p4)), (7, .int (if p1 = 0 then (x40.1.toInt8.toInt32) else (if p1 = (1 : Int32) then (x40.1.toInt16.toInt32) else x40.1))), (0, .ref q0), (1, .int p1), (2, .int p2), (4, .int p4), (6, .int x40.2.1)]) hx hb dX11_sheet_112 hl (by decide) rfl (fun ls hl => ?_)
                    refine lv_iinc (v := (x40.2.1 + (1 : Int32))) (lv' := [(6, .int (x40.2.1 + (1 : Int32))), (5, .int (x40.1 + p4)), (7, .int (if p1 = 0 then (x40.1.toInt8.toInt32) else (if p1 = (1 : Int32) then (x40.1.toInt16.toInt32) else x40.1))), (0, .ref q0), (1, .int p1), (2, .int p2), (4, .int p4)]) hx hb dX11_sheet_114 hl (k := 6) rfl rfl (by decide) rfl (fun ls hl => ?_)
                    refine lv_goto (tgt := 40) hx hb dX11_sheet_117 (by decide) ?_
                    exact ih40 ((x40.1 + p4), (x40.2.1 + (1 : Int32)), (upd x40.2.2 x40.2.1.toNatClampNeg (0 : Int32))) y40  H locs ls (hz40a _ (Option.some.inj h).symm) hS (lv_sub hl [3, 4, 5, 6, 1, 0] rfl) hk40_0
              refine lv_if_ne (tgt := 59) hx hb dX11_sheet_50 (by decide) (fun c9 => ?_) (fun c9 => ?_)
              · refine lv_iload_n hx hb dX11_sheet_59 rfl (lv_at hl 1 rfl) ?_
                refine lv_iconst (v := 1) hx hb dX11_sheet_60 (by decide) ?_
                refine lv_icmp_ne (tgt := 70) hx hb dX11_sheet_61 (by decide) (fun c10 => ?_) (fun c10 => ?_)
                · refine lv_iload hx hb dX11_sheet_70 (lv_at hl 4 rfl) ?_
                  exact hJ72 _ ls (((if_neg c9).trans (if_neg c10))).symm (lv_sub hl [0, 1, 2, 3, 4, 5] rfl)
                · refine lv_iload hx hb dX11_sheet_64 (lv_at hl 4 rfl) ?_
                  refine lv_i2s (v := (x40.1.toInt16.toInt32)) hx hb dX11_sheet_66 rfl ?_
                  refine lv_goto (tgt := 72) hx hb dX11_sheet_67 (by decide) ?_
                  exact hJ72 _ ls (((if_neg c9).trans (if_pos c10))).symm (lv_sub hl [0, 1, 2, 3, 4, 5] rfl)
              · refine lv_iload hx hb dX11_sheet_53 (lv_at hl 4 rfl) ?_
                refine lv_i2b (v := (x40.1.toInt8.toInt32)) hx hb dX11_sheet_55 rfl ?_
                refine lv_goto (tgt := 72) hx hb dX11_sheet_56 (by decide) ?_
                exact hJ72 _ ls ((if_pos c9)).symm (lv_sub hl [0, 1, 2, 3, 4, 5] rfl)
        obtain ⟨y40, e40, h⟩ := bd_some h
        refine hL40 1000 (p3, (0 : Int32), v_now) y40  H locs ls e40 hS (lv_sub hl [2, 3, 4, 6, 1, 0] rfl) (fun H locs ls hS hl => ?_)
        refine lv_iload_n hx hb dX11_sheet_120 rfl (lv_at hl 1 rfl) ?_
        refine lv_iconst (v := 3) hx hb dX11_sheet_121 (by decide) ?_
        refine lv_icmp_ne (tgt := 130) hx hb dX11_sheet_122 (by decide) (fun c11 => ?_) (fun c11 => ?_)
        · have h := it_neg c11 h
          refine lv_aload_n hx hb dX11_sheet_130 rfl (lv_at hl 0 rfl) ?_
          refine lv_aload_n hx hb dX11_sheet_131 rfl (lv_at hl 0 rfl) ?_
          refine r_get E frX11_9 hS 0 rfl rfl dX11_sheet_132 ?_
          refine lv_iconst (v := 0) hx hb dX11_sheet_135 (by decide) ?_
          obtain ⟨y136, e12, h⟩ := bd_some h
          refine ct_V (ws' := fun _ => [oX11 q0 (.ref q1) (.int v_people) u0_2 u0_3 u0_4 u0_5 (.int (0 : Int32)) u0_7 u0_8 u0_9 u0_10 u0_11 u0_12 u0_13 u0_14 u0_15 u0_16 u0_17 u0_18 u0_19 u0_20 u0_21 u0_22 u0_23 u0_24 u0_25 u0_26 u0_27 u0_28 u0_29 u0_30 u0_31 u0_32 u0_33 u0_34 u0_35 u0_36 u0_37 u0_38 u0_39 u0_40, aI cy q1 37 y40]) (st' := [.int y136]) (rest := []) E hS vlX11_232 (c_X11_sumOf (l := l) (D := D) (cy := cy) (q0 := q0) (q1 := q1) (u0_0 := .ref q1) (u0_2 := u0_2) (u0_3 := u0_3) (u0_4 := u0_4) (u0_5 := u0_5) (u0_6 := .int (0 : Int32)) (u0_7 := u0_7) (u0_8 := u0_8) (u0_9 := u0_9) (u0_10 := u0_10) (u0_11 := u0_11) (u0_12 := u0_12) (u0_13 := u0_13) (u0_14 := u0_14) (u0_15 := u0_15) (u0_16 := u0_16) (u0_17 := u0_17) (u0_18 := u0_18) (u0_19 := u0_19) (u0_20 := u0_20) (u0_21 := u0_21) (u0_22 := u0_22) (u0_23 := u0_23) (u0_24 := u0_24) (u0_25 := u0_25) (u0_26 := u0_26) (u0_27 := u0_27) (u0_28 := u0_28) (u0_29 := u0_29) (u0_30 := u0_30) (u0_31 := u0_31) (u0_32 := u0_32) (u0_33 := u0_33) (u0_34 := u0_34) (u0_35 := u0_35) (u0_36 := u0_36) (u0_37 := u0_37) (u0_38 := u0_38) (u0_39 := u0_39) (u0_40 := u0_40) (v_people := v_people) (nw1_ := 37) (w1_ := y40) (p2 := (0 : Int32)) (r := y136) e12) [0, 1] rfl rfl (fun _ => rfl) (fun _ => rfl) rfl rfl rfl rfl (Nat.le_of_ble_eq_true rfl) hl.1 (by rw [hRf]; exact Nat.le_of_ble_eq_true rfl) (by rw [hRl]; exact Nat.le_of_ble_eq_true rfl) ⟨Nat.zero_le _, Nat.zero_le _⟩ dX11_sheet_136 rfl (fun H locs _ hS => ?_)
          obtain rfl := Option.some.inj h
          exact rt_i E hQ (.null) hS dX11_sheet_139
        · have h := it_pos c11 h
          refine lv_bipush (v := -3) hx hb dX11_sheet_125 (by decide) ?_
          refine lv_goto (tgt := 139) hx hb dX11_sheet_127 (by decide) ?_
          obtain rfl := Option.some.inj h
          exact rt_i E hQ (.null) hS dX11_sheet_139
      refine lv_icmp_ge (tgt := 34) hx hb dX11_sheet_24 (by decide) (fun c13 => ?_) (fun c13 => ?_)
      · have h := it_pos c13 h
        exact hJ34   H locs ls h hS (lv_sub hl [0, 1, 2, 3, 4] rfl)
      · have h := it_neg c13 h
        refine lv_iload_n hx hb dX11_sheet_27 rfl (lv_at hl 2 rfl) ?_
        refine lv_if_ge (tgt := 34) hx hb dX11_sheet_28 (by decide) (fun c14 => ?_) (fun c14 => ?_)
        · have h := it_pos c14 h
          exact hJ34   H locs ls h hS (lv_sub hl [0, 1, 2, 3, 4] rfl)
        · have h := it_neg c14 h
          refine lv_bipush (v := -2) hx hb dX11_sheet_31 (by decide) ?_
          obtain rfl := Option.some.inj h
          exact rt_i E hQ (.null) hS dX11_sheet_33
    · have h := it_neg c2 h
      refine lv_iconst (v := -1) hx hb dX11_sheet_20 (by decide) ?_
      obtain rfl := Option.some.inj h
      exact rt_i E hQ (.null) hS dX11_sheet_21
def X11_lay_s2 (nw1_ : Nat) (w1_ : Nat → Int32) (nw2_ : Nat) (p2 : Int32) (x2 : Int32 × (Nat → Int32)) : Option ((Int32 × (Nat → Int32)) ⊕ ((Nat → Int32))) :=
  if (37 : Int32) ≤ x2.1 then (some (.inr x2.2)) else (gi x2.1 nw1_ (gi (p2 + x2.1) nw2_ (some (.inl ((x2.1 + (1 : Int32)), (upd x2.2 (p2 + x2.1).toNatClampNeg (w1_ x2.1.toNatClampNeg)))))))
def X11_lay (nw1_ : Nat) (w1_ : Nat → Int32) (nw2_ : Nat) (w2_ : Nat → Int32) (p2 : Int32) : Option ((Nat → Int32)) :=
  (lp (fun x2 => X11_lay_s2 nw1_ w1_ nw2_ p2 x2) 1000 ((0 : Int32), w2_)).bind fun y2 => some y2
set_option maxHeartbeats 4000000 in
set_option maxRecDepth 100000 in
theorem c_X11_lay {l : Launch} {D : va_G} {cy : Nat → ClassId} (q0 : Nat) (q1 : Nat) (nw1_ : Nat) (w1_ : Nat → Int32) (nw2_ : Nat) (w2_ : Nat → Int32) (p2 : Int32) (r : (Nat → Int32)) (h : X11_lay nw1_ w1_ nw2_ w2_ p2 = some r) : Ct l yX11_lay cX11_lay 4 none 0 0 D cy [.ref q0, .ref q1, .int p2] [aI cy q0 nw1_ w1_, aI cy q1 nw2_ w2_] (fun _ => [aI cy q0 nw1_ w1_, aI cy q1 nw2_ r]) (none) := by
  refine Ct.mk kX11_lay (by decide +kernel) (Nat.le_of_ble_eq_true rfl) ?_
  intro p e s m below meth c A ls args R Q hRf hRl hQ E H locs hS hl
  have hx := E.x
  have hb := E.b
  have hl : lv_has ls 4 [(0, .ref q0), (1, .ref q1), (2, .int p2)] := hl
  unfold X11_lay at h
  refine lv_iconst (v := 0) hx hb dX11_lay_0 (by decide) ?_
  refine lv_istore_n (lv' := [(3, .int (0 : Int32)), (0, .ref q0), (1, .ref q1), (2, .int p2)]) hx hb dX11_lay_1 rfl hl (by decide) rfl (fun ls hl => ?_)
  have hL2 : ∀ (n : Nat) (x2 : Int32 × (Nat → Int32)) (y2 : (Nat → Int32)) (H : Heap) (locs : List Loc) (ls : Array Slot), lp (fun x2 => X11_lay_s2 nw1_ w1_ nw2_ p2 x2) n x2 = some y2 → Sv D A s.heap [aI cy q0 nw1_ w1_, aI cy q1 nw2_ x2.2] H locs → lv_has ls 4 [(0, .ref q0), (1, .ref q1), (2, .int p2), (3, .int x2.1)] → (∀ (H : Heap) (locs : List Loc) (ls : Array Slot), Sv D A s.heap [aI cy q0 nw1_ w1_, aI cy q1 nw2_ y2] H locs → lv_has ls 4 [] → W p l e R s m args below meth c H locs 0 0 Q (F0 m 22 ls [])) → W p l e R s m args below meth c H locs 0 0 Q (F0 m 2 ls []) := by
    intro n
    induction n with
    | zero =>
      intro x2 y2 H locs ls h
      exact lp_zero h
    | succ n ih2 =>
      intro x2 y2 H locs ls h hS hl hk2_0
      obtain ⟨z2, h, hz2a, hz2b⟩ := lp_succ h
      have h : X11_lay_s2 nw1_ w1_ nw2_ p2 x2 = some z2 := h
      unfold X11_lay_s2 at h
      refine lv_iload_n hx hb dX11_lay_2 rfl (lv_at hl 3 rfl) ?_
      refine lv_bipush (v := 37) hx hb dX11_lay_3 (by decide) ?_
      refine lv_icmp_ge (tgt := 22) hx hb dX11_lay_5 (by decide) (fun c1 => ?_) (fun c1 => ?_)
      · have h := it_pos c1 h
        obtain rfl := hz2b _ (Option.some.inj h).symm
        exact hk2_0  H locs ls hS (lv_sub hl [] rfl)
      · have h := it_neg c1 h
        refine lv_aload_n hx hb dX11_lay_8 rfl (lv_at hl 1 rfl) ?_
        refine lv_iload_n hx hb dX11_lay_9 rfl (lv_at hl 2 rfl) ?_
        refine lv_iload_n hx hb dX11_lay_10 rfl (lv_at hl 3 rfl) ?_
        refine lv_iadd hx hb dX11_lay_11 ?_
        refine lv_aload_n hx hb dX11_lay_12 rfl (lv_at hl 0 rfl) ?_
        refine lv_iload_n hx hb dX11_lay_13 rfl (lv_at hl 3 rfl) ?_
        obtain ⟨g2, h⟩ := gi_some h
        refine r_iald E hS 0 rfl g2 dX11_lay_14 ?_
        obtain ⟨g3, h⟩ := gi_some h
        refine r_iast (ws' := [aI cy q0 nw1_ w1_, aI cy q1 nw2_ (upd x2.2 (p2 + x2.1).toNatClampNeg (w1_ x2.1.toNatClampNeg))]) E hS 1 rfl g3 rfl dX11_lay_15 (fun H locs hS => ?_)
        refine lv_iinc (v := (x2.1 + (1 : Int32))) (lv' := [(3, .int (x2.1 + (1 : Int32))), (0, .ref q0), (1, .ref q1), (2, .int p2)]) hx hb dX11_lay_16 hl (k := 3) rfl rfl (by decide) rfl (fun ls hl => ?_)
        refine lv_goto (tgt := 2) hx hb dX11_lay_19 (by decide) ?_
        exact ih2 ((x2.1 + (1 : Int32)), (upd x2.2 (p2 + x2.1).toNatClampNeg (w1_ x2.1.toNatClampNeg))) y2  H locs ls (hz2a _ (Option.some.inj h).symm) hS (lv_sub hl [1, 2, 3, 0] rfl) hk2_0
  obtain ⟨y2, e2, h⟩ := bd_some h
  refine hL2 1000 ((0 : Int32), w2_) y2  H locs ls e2 hS (lv_sub hl [1, 2, 3, 0] rfl) (fun H locs ls hS hl => ?_)
  obtain rfl := Option.some.inj h
  exact rt_v E hQ (.null) hS dX11_lay_22
