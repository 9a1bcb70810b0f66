def X11_years_k72 (v_people : Int32) (x39 : Int32 × Int32 × Int32 × Int32 × Int32 × Int32 × Int32 × Int32 × (Nat → Int32) × (Nat → Int32)) (y47 : Int32 × Int32) (j72_l3 : Int32) (j72_v_length : Int32) (j72_v_top : Int32) (j72_v_at : Int32) (j72_v_wrong : Int32) (j72_v_isAsked : Int32) (j72_v_asked : Nat → Int32) (j72_v_then : Nat → Int32) : Option ((Int32 × Int32 × Int32 × Int32 × Int32 × Int32 × Int32 × Int32 × (Nat → Int32) × (Nat → Int32)) ⊕ (Int32 × Int32 × Int32 × Int32 × Int32 × Int32 × Int32 × (Nat → Int32) × (Nat → Int32))) :=
  if y47.1 < (2 : Int32) then (some (.inl (j72_l3, (x39.2.1 + (1 : Int32)), j72_v_length, j72_v_top, j72_v_at, j72_v_wrong, j72_v_isAsked, y47.2, j72_v_asked, j72_v_then))) else (if v_people = 0 then (some (.inl (j72_l3, (x39.2.1 + (1 : Int32)), j72_v_length, j72_v_top, j72_v_at, j72_v_wrong, j72_v_isAsked, y47.2, j72_v_asked, j72_v_then))) else ((X11_draw y47.2 v_people).bind fun y93 => (X11_draw y93.2 (if y47.1 = (2 : Int32) then v_people else (10 : Int32))).bind fun y114 => if y47.1 = (3 : Int32) then (gi y93.1 37 (some (.inl (j72_l3, (x39.2.1 + (1 : Int32)), j72_v_length, j72_v_top, j72_v_at, j72_v_wrong, j72_v_isAsked, y114.2, j72_v_asked, (upd j72_v_then y93.1.toNatClampNeg y114.1))))) else (if y93.1 = y114.1 then (some (.inl (j72_l3, (x39.2.1 + (1 : Int32)), j72_v_length, j72_v_top, j72_v_at, j72_v_wrong, j72_v_isAsked, y114.2, j72_v_asked, j72_v_then))) else (gi ((28 : Int32) + y93.1) 37 (gi ((28 : Int32) + y93.1) 37 (some (.inl (j72_l3, (x39.2.1 + (1 : Int32)), j72_v_length, j72_v_top, j72_v_at, j72_v_wrong, j72_v_isAsked, y114.2, j72_v_asked, (upd j72_v_then ((28 : Int32) + y93.1).toNatClampNeg ((j72_v_then ((28 : Int32) + y93.1).toNatClampNeg) ^^^ ((1 : Int32) <<< (y114.1 &&& 31))))))))))))
def X11_years_s39 (v_people : Int32) (v_ruleSize : Int32) (v_rule : Nat → Int32) (p2 : Int32) (x39 : Int32 × Int32 × Int32 × Int32 × Int32 × Int32 × Int32 × Int32 × (Nat → Int32) × (Nat → Int32)) : Option ((Int32 × Int32 × Int32 × Int32 × Int32 × Int32 × Int32 × Int32 × (Nat → Int32) × (Nat → Int32)) ⊕ (Int32 × Int32 × Int32 × Int32 × Int32 × Int32 × Int32 × (Nat → Int32) × (Nat → Int32))) :=
  if p2 ≤ x39.2.1 then (some (.inr (x39.1, x39.2.2.1, x39.2.2.2.1, x39.2.2.2.2.1, x39.2.2.2.2.2.1, x39.2.2.2.2.2.2.1, x39.2.2.2.2.2.2.2.1, x39.2.2.2.2.2.2.2.2.1, x39.2.2.2.2.2.2.2.2.2))) else ((X11_draw x39.2.2.2.2.2.2.2.1 (4 : Int32)).bind fun y47 => if (2 : Int32) ≤ y47.1 then (X11_years_k72 v_people x39 y47 x39.1 x39.2.2.1 x39.2.2.2.1 x39.2.2.2.2.1 x39.2.2.2.2.2.1 x39.2.2.2.2.2.2.1 x39.2.2.2.2.2.2.2.2.1 x39.2.2.2.2.2.2.2.2.2) else ((X11_goMorning v_people x39.2.2.1 x39.2.2.2.1 x39.2.2.2.2.1 x39.2.2.2.2.2.1 v_ruleSize x39.2.2.2.2.2.2.1 v_rule x39.2.2.2.2.2.2.2.2.1 37 x39.2.2.2.2.2.2.2.2.2).bind fun y64 => X11_years_k72 v_people x39 y47 (x39.1 + (J6_bitCount_0f7a4 y64.1)) y64.2.1 y64.2.2.1 y64.2.2.2.1 y64.2.2.2.2.1 y64.2.2.2.2.2.1 y64.2.2.2.2.2.2.1 y64.2.2.2.2.2.2.2))
def X11_years (v_people : Int32) (v_rowMany : Int32) (v_length : Int32) (v_top : Int32) (v_at : Int32) (v_wrong : Int32) (v_ruleSize : Int32) (v_isAsked : Int32) (v_drawn : Int32) (v_now : Nat → Int32) (v_row : Nat → Int64) (v_rule : Nat → Int32) (v_asked : Nat → Int32) (v_then : Nat → Int32) (p1 : Int32) (p2 : Int32) : Option (Int32 × Int32 × Int32 × Int32 × Int32 × Int32 × Int32 × Int32 × Int32 × (Nat → Int64) × (Nat → Int32) × (Nat → Int32)) :=
  if (X11_in p2 (1 : Int32) (60 : Int32)) = 0 then (some ((-1 : Int32), v_rowMany, (0 : Int32), v_length, v_top, v_at, v_wrong, v_isAsked, v_drawn, v_row, v_asked, v_then)) else ((X11_lay 37 v_now 37 v_then (0 : Int32)).bind fun y33 => (lp (fun x39 => X11_years_s39 v_people v_ruleSize v_rule p2 x39) 1000 ((0 : Int32), (0 : Int32), v_length, v_top, v_at, v_wrong, v_isAsked, p1, v_asked, y33)).bind fun y39 => gi (36 : Int32) 37 (gi (36 : Int32) 37 ((X11_tell (0 : Int32) v_row (((y39.2.2.2.2.2.2.2.2 (36 : Int32).toNatClampNeg) - (v_now (36 : Int32).toNatClampNeg)).toInt64)).bind fun y189 => (X11_awake v_people y39.2.1 y39.2.2.1 y39.2.2.2.1 y39.2.2.2.2.1 v_ruleSize y39.2.2.2.2.2.1 v_rule y39.2.2.2.2.2.2.2.1 37 y39.2.2.2.2.2.2.2.2).bind fun y198 => (X11_tell y189.1 y189.2 (y198.1.toInt64)).bind fun y202 => some (y39.1, y202.1, (0 : Int32), y198.2.1, y198.2.2.1, y198.2.2.2.1, y198.2.2.2.2.1, y198.2.2.2.2.2.1, y39.2.2.2.2.2.2.1, y202.2, y198.2.2.2.2.2.2, y39.2.2.2.2.2.2.2.2))))
set_option maxHeartbeats 4000000 in
set_option maxRecDepth 100000 in
theorem c_X11_years {l : Launch} {D : va_G} {cy : Nat → ClassId} (q0 : Nat) (q1 : Nat) (q2 : Nat) (q3 : Nat) (q4 : Nat) (q5 : Nat) (u0_2 : Value) (u0_3 : Value) (u0_7 : Value) (u0_12 : Value) (u0_14 : Value) (u0_18 : Value) (u0_19 : Value) (u0_20 : Value) (u0_22 : Value) (u0_23 : Value) (u0_24 : Value) (u0_25 : Value) (u0_26 : Value) (u0_27 : Value) (u0_28 : Value) (u0_29 : Value) (u0_30 : Value) (u0_31 : Value) (u0_32 : Value) (u0_33 : Value) (u0_34 : Value) (u0_35 : Value) (u0_37 : Value) (u0_38 : Value) (u0_39 : Value) (u0_40 : Value) (v_people : Int32) (v_rowMany : Int32) (v_thrown : Int32) (v_length : Int32) (v_top : Int32) (v_at : Int32) (v_wrong : Int32) (v_ruleSize : Int32) (v_isAsked : Int32) (v_drawn : Int32) (v_now : Nat → Int32) (v_row : Nat → Int64) (v_rule : Nat → Int32) (v_asked : Nat → Int32) (v_then : Nat → Int32) (p1 : Int32) (p2 : Int32) (r : Int32 × Int32 × Int32 × Int32 × Int32 × Int32 × Int32 × Int32 × Int32 × (Nat → Int64) × (Nat → Int32) × (Nat → Int32)) (h : X11_years v_people v_rowMany v_length v_top v_at v_wrong v_ruleSize v_isAsked v_drawn v_now v_row v_rule v_asked v_then p1 p2 = some r) : Ct l yX11_years cX11_years 8 (some .int) 110 2626 D cy [.ref q0, .int p1, .int p2] [oX11 q0 (.ref q1) (.int v_people) u0_2 u0_3 (.ref q2) (.int v_rowMany) (.int v_thrown) u0_7 (.int v_length) (.int v_top) (.int v_at) (.int v_wrong) u0_12 (.ref q3) u0_14 (.int v_ruleSize) (.int v_isAsked) (.ref q4) u0_18 u0_19 u0_20 (.ref q5) u0_22 u0_23 u0_24 u0_25 u0_26 u0_27 u0_28 u0_29 u0_30 u0_31 u0_32 u0_33 u0_34 u0_35 (.int v_drawn) u0_37 u0_38 u0_39 u0_40, aI cy q1 37 v_now, aJ cy q2 16 v_row, aB cy q3 40 v_rule, aI cy q4 7 v_asked, aI cy q5 37 v_then] (fun _ => [oX11 q0 (.ref q1) (.int v_people) u0_2 u0_3 (.ref q2) (.int r.2.1) (.int r.2.2.1) (.ref q3) (.int r.2.2.2.1) (.int r.2.2.2.2.1) (.int r.2.2.2.2.2.1) (.int r.2.2.2.2.2.2.1) u0_12 (.ref q3) u0_14 (.int v_ruleSize) (.int r.2.2.2.2.2.2.2.1) (.ref q4) u0_18 u0_19 u0_20 (.ref q5) u0_22 u0_23 u0_24 u0_25 u0_26 u0_27 u0_28 u0_29 u0_30 u0_31 u0_32 u0_33 u0_34 u0_35 (.int r.2.2.2.2.2.2.2.2.1) u0_37 u0_38 u0_39 u0_40, aI cy q1 37 v_now, aJ cy q2 16 r.2.2.2.2.2.2.2.2.2.1, aB cy q3 40 v_rule, aI cy q4 7 r.2.2.2.2.2.2.2.2.2.2.1, aI cy q5 37 r.2.2.2.2.2.2.2.2.2.2.2]) (some (.int r.1)) := by
  refine Ct.mk kX11_years (by decide +kernel) (Nat.le_of_ble_eq_true rfl) ?_
  intro p e s m below meth c A ls args R Q hRf hRl hQ E H locs hS hl
  have hx := E.x
  have hb := E.b
  have hl : lv_has ls 8 [(0, .ref q0), (1, .int p1), (2, .int p2)] := hl
  unfold X11_years at h
  refine lv_aload_n hx hb dX11_years_0 rfl (lv_at hl 0 rfl) ?_
  refine lv_iconst (v := 0) hx hb dX11_years_1 (by decide) ?_
  refine r_put (ws' := [oX11 q0 (.ref q1) (.int v_people) u0_2 u0_3 (.ref q2) (.int v_rowMany) (.int (0 : Int32)) u0_7 (.int v_length) (.int v_top) (.int v_at) (.int v_wrong) u0_12 (.ref q3) u0_14 (.int v_ruleSize) (.int v_isAsked) (.ref q4) u0_18 u0_19 u0_20 (.ref q5) u0_22 u0_23 u0_24 u0_25 u0_26 u0_27 u0_28 u0_29 u0_30 u0_31 u0_32 u0_33 u0_34 u0_35 (.int v_drawn) u0_37 u0_38 u0_39 u0_40, aI cy q1 37 v_now, aJ cy q2 16 v_row, aB cy q3 40 v_rule, aI cy q4 7 v_asked, aI cy q5 37 v_then]) E frX11_85 hS 0 rfl (Nat.le_of_ble_eq_true rfl) rfl rfl rfl rfl dX11_years_2 (fun H locs hS => ?_)
  refine lv_iload_n hx hb dX11_years_5 rfl (lv_at hl 2 rfl) ?_
  refine lv_iconst (v := 1) hx hb dX11_years_6 (by decide) ?_
  refine lv_bipush (v := 60) hx hb dX11_years_7 (by decide) ?_
  refine ct_S (ws' := fun _ => [oX11 q0 (.ref q1) (.int v_people) u0_2 u0_3 (.ref q2) (.int v_rowMany) (.int (0 : Int32)) u0_7 (.int v_length) (.int v_top) (.int v_at) (.int v_wrong) u0_12 (.ref q3) u0_14 (.int v_ruleSize) (.int v_isAsked) (.ref q4) u0_18 u0_19 u0_20 (.ref q5) u0_22 u0_23 u0_24 u0_25 u0_26 u0_27 u0_28 u0_29 u0_30 u0_31 u0_32 u0_33 u0_34 u0_35 (.int v_drawn) u0_37 u0_38 u0_39 u0_40, aI cy q1 37 v_now, aJ cy q2 16 v_row, aB cy q3 40 v_rule, aI cy q4 7 v_asked, aI cy q5 37 v_then]) (st' := [.int (X11_in p2 (1 : Int32) (60 : Int32))]) (rest := []) E hS slX11_95 (c_X11_in (l := l) (D := D) (cy := cy) (p0 := p2) (p1 := (1 : Int32)) (p2 := (60 : Int32)) (r := (X11_in p2 (1 : Int32) (60 : Int32))) rfl) [] rfl rfl (fun _ => rfl) (fun _ => rfl) rfl rfl (Nat.le_of_ble_eq_true rfl) hl.1 (by rw [hRf]; exact Nat.le_of_ble_eq_true rfl) (by rw [hRl]; exact Nat.le_of_ble_eq_true rfl) ⟨Nat.zero_le _, Nat.zero_le _⟩ dX11_years_9 rfl (fun H locs _ hS => ?_)
  refine lv_if_ne (tgt := 17) hx hb dX11_years_12 (by decide) (fun c1 => ?_) (fun c1 => ?_)
  · have h := it_neg c1 h
    refine lv_aload_n hx hb dX11_years_17 rfl (lv_at hl 0 rfl) ?_
    refine lv_iload_n hx hb dX11_years_18 rfl (lv_at hl 1 rfl) ?_
    refine r_put (ws' := [oX11 q0 (.ref q1) (.int v_people) u0_2 u0_3 (.ref q2) (.int v_rowMany) (.int (0 : Int32)) u0_7 (.int v_length) (.int v_top) (.int v_at) (.int v_wrong) u0_12 (.ref q3) u0_14 (.int v_ruleSize) (.int v_isAsked) (.ref q4) u0_18 u0_19 u0_20 (.ref q5) u0_22 u0_23 u0_24 u0_25 u0_26 u0_27 u0_28 u0_29 u0_30 u0_31 u0_32 u0_33 u0_34 u0_35 (.int p1) u0_37 u0_38 u0_39 u0_40, aI cy q1 37 v_now, aJ cy q2 16 v_row, aB cy q3 40 v_rule, aI cy q4 7 v_asked, aI cy q5 37 v_then]) E frX11_363 hS 0 rfl (Nat.le_of_ble_eq_true rfl) rfl rfl rfl rfl dX11_years_19 (fun H locs hS => ?_)
    refine lv_iconst (v := 0) hx hb dX11_years_22 (by decide) ?_
    refine lv_istore_n (lv' := [(3, .int (0 : Int32)), (0, .ref q0), (1, .int p1), (2, .int p2)]) hx hb dX11_years_23 rfl hl (by decide) rfl (fun ls hl => ?_)
    refine lv_aload_n hx hb dX11_years_24 rfl (lv_at hl 1 rfl) ?_
    refine r_get E frX11_9 hS 0 rfl rfl dX11_years_25 ?_
    refine lv_aload_n hx hb dX11_years_28 rfl (lv_at hl 1 rfl) ?_
    refine r_get E frX11_39 hS 0 rfl rfl dX11_years_29 ?_
    refine lv_iconst (v := 0) hx hb dX11_years_32 (by decide) ?_
    obtain ⟨y33, e2, h⟩ := bd_some h
    refine ct_S (ws' := fun _ => [oX11 q0 (.ref q1) (.int v_people) u0_2 u0_3 (.ref q2) (.int v_rowMany) (.int (0 : Int32)) u0_7 (.int v_length) (.int v_top) (.int v_at) (.int v_wrong) u0_12 (.ref q3) u0_14 (.int v_ruleSize) (.int v_isAsked) (.ref q4) u0_18 u0_19 u0_20 (.ref q5) u0_22 u0_23 u0_24 u0_25 u0_26 u0_27 u0_28 u0_29 u0_30 u0_31 u0_32 u0_33 u0_34 u0_35 (.int p1) u0_37 u0_38 u0_39 u0_40, aI cy q1 37 v_now, aJ cy q2 16 v_row, aB cy q3 40 v_rule, aI cy q4 7 v_asked, aI cy q5 37 y33]) (st' := []) (rest := []) E hS slX11_235 (c_X11_lay (l := l) (D := D) (cy := cy) (q0 := q1) (q1 := q5) (nw1_ := 37) (w1_ := v_now) (nw2_ := 37) (w2_ := v_then) (p2 := (0 : Int32)) (r := y33) e2) [1, 5] rfl rfl (fun _ => rfl) (fun _ => rfl) rfl rfl (Nat.le_of_ble_eq_true rfl) hl.1 (by rw [hRf]; exact Nat.le_of_ble_eq_true rfl) (by rw [hRl]; exact Nat.le_of_ble_eq_true rfl) ⟨Nat.zero_le _, Nat.zero_le _⟩ dX11_years_33 rfl (fun H locs _ hS => ?_)
    refine lv_iconst (v := 0) hx hb dX11_years_36 (by decide) ?_
    refine lv_istore (lv' := [(4, .int (0 : Int32)), (3, .int (0 : Int32)), (0, .ref q0), (1, .int p1), (2, .int p2)]) hx hb dX11_years_37 hl (by decide) rfl (fun ls hl => ?_)
    have hL39 : ∀ (n : Nat) (x39 : Int32 × Int32 × Int32 × Int32 × Int32 × Int32 × Int32 × Int32 × (Nat → Int32) × (Nat → Int32)) (y39 : Int32 × Int32 × Int32 × Int32 × Int32 × Int32 × Int32 × (Nat → Int32) × (Nat → Int32)) (rv39_0 : Value) (H : Heap) (locs : List Loc) (ls : Array Slot), lp (fun x39 => X11_years_s39 v_people v_ruleSize v_rule p2 x39) n x39 = some y39 → Sv D A s.heap [oX11 q0 (.ref q1) (.int v_people) u0_2 u0_3 (.ref q2) (.int v_rowMany) (.int (0 : Int32)) rv39_0 (.int x39.2.2.1) (.int x39.2.2.2.1) (.int x39.2.2.2.2.1) (.int x39.2.2.2.2.2.1) u0_12 (.ref q3) u0_14 (.int v_ruleSize) (.int x39.2.2.2.2.2.2.1) (.ref q4) u0_18 u0_19 u0_20 (.ref q5) u0_22 u0_23 u0_24 u0_25 u0_26 u0_27 u0_28 u0_29 u0_30 u0_31 u0_32 u0_33 u0_34 u0_35 (.int x39.2.2.2.2.2.2.2.1) u0_37 u0_38 u0_39 u0_40, aI cy q1 37 v_now, aJ cy q2 16 v_row, aB cy q3 40 v_rule, aI cy q4 7 x39.2.2.2.2.2.2.2.2.1, aI cy q5 37 x39.2.2.2.2.2.2.2.2.2] H locs → lv_has ls 8 [(0, .ref q0), (2, .int p2), (3, .int x39.1), (4, .int x39.2.1)] → (∀ (rv39_0 : Value) (H : Heap) (locs : List Loc) (ls : Array Slot), Sv D A s.heap [oX11 q0 (.ref q1) (.int v_people) u0_2 u0_3 (.ref q2) (.int v_rowMany) (.int (0 : Int32)) rv39_0 (.int y39.2.1) (.int y39.2.2.1) (.int y39.2.2.2.1) (.int y39.2.2.2.2.1) u0_12 (.ref q3) u0_14 (.int v_ruleSize) (.int y39.2.2.2.2.2.1) (.ref q4) u0_18 u0_19 u0_20 (.ref q5) u0_22 u0_23 u0_24 u0_25 u0_26 u0_27 u0_28 u0_29 u0_30 u0_31 u0_32 u0_33 u0_34 u0_35 (.int y39.2.2.2.2.2.2.1) u0_37 u0_38 u0_39 u0_40, aI cy q1 37 v_now, aJ cy q2 16 v_row, aB cy q3 40 v_rule, aI cy q4 7 y39.2.2.2.2.2.2.2.1, aI cy q5 37 y39.2.2.2.2.2.2.2.2] H locs → lv_has ls 8 [(0, .ref q0), (3, .int y39.1)] → W p l e R s m args below meth c H locs 0 0 Q (F0 m 167 ls [])) → W p l e R s m args below meth c H locs 0 0 Q (F0 m 39 ls []) := by
      intro n
      induction n with
      | zero =>
        intro x39 y39 rv39_0 H locs ls h
        exact lp_zero h
      | succ n ih39 =>
        intro x39 y39 rv39_0 H locs ls h hS hl hk39_0
        obtain ⟨z39, h, hz39a, hz39b⟩ := lp_succ h
        have h : X11_years_s39 v_people v_ruleSize v_rule p2 x39 = some z39 := h
        unfold X11_years_s39 at h
        refine lv_iload hx hb dX11_years_39 (lv_at hl 3 rfl) ?_
        refine lv_iload_n hx hb dX11_years_41 rfl (lv_at hl 1 rfl) ?_
        refine lv_icmp_ge (tgt := 167) hx hb dX11_years_42 (by decide) (fun c3 => ?_) (fun c3 => ?_)
        · have h := it_pos c3 h
          obtain rfl := hz39b _ (Option.some.inj h).symm
          exact hk39_0 rv39_0 H locs ls hS (lv_sub hl [0, 2] rfl)
        · have h := it_neg c3 h
          refine lv_aload_n hx hb dX11_years_45 rfl (lv_at hl 0 rfl) ?_
          refine lv_iconst (v := 4) hx hb dX11_years_46 (by decide) ?_
          obtain ⟨y47, e4, h⟩ := bd_some h
          refine ct_V (ws' := fun _ => [oX11 q0 (.ref q1) (.int v_people) u0_2 u0_3 (.ref q2) (.int v_rowMany) (.int (0 : Int32)) rv39_0 (.int x39.2.2.1) (.int x39.2.2.2.1) (.int x39.2.2.2.2.1) (.int x39.2.2.2.2.2.1) u0_12 (.ref q3) u0_14 (.int v_ruleSize) (.int x39.2.2.2.2.2.2.1) (.ref q4) u0_18 u0_19 u0_20 (.ref q5) u0_22 u0_23 u0_24 u0_25 u0_26 u0_27 u0_28 u0_29 u0_30 u0_31 u0_32 u0_33 u0_34 u0_35 (.int y47.2) u0_37 u0_38 u0_39 u0_40, aI cy q1 37 v_now, aJ cy q2 16 v_row, aB cy q3 40 v_rule, aI cy q4 7 x39.2.2.2.2.2.2.2.2.1, aI cy q5 37 x39.2.2.2.2.2.2.2.2.2]) (st' := [.int y47.1]) (rest := []) E hS vlX11_367 (c_X11_draw (l := l) (D := D) (cy := cy) (q0 := q0) (u0_0 := .ref q1) (u0_1 := .int v_people) (u0_2 := u0_2) (u0_3 := u0_3) (u0_4 := .ref q2) (u0_5 := .int v_rowMany) (u0_6 := .int (0 : Int32)) (u0_7 := rv39_0) (u0_8 := .int x39.2.2.1) (u0_9 := .int x39.2.2.2.1) (u0_10 := .int x39.2.2.2.2.1) (u0_11 := .int x39.2.2.2.2.2.1) (u0_12 := u0_12) (u0_13 := .ref q3) (u0_14 := u0_14) (u0_15 := .int v_ruleSize) (u0_16 := .int x39.2.2.2.2.2.2.1) (u0_17 := .ref q4) (u0_18 := u0_18) (u0_19 := u0_19) (u0_20 := u0_20) (u0_21 := .ref q5) (u0_22 := u0_22) (u0_23 := u0_23) (u0_24 := u0_24) (u0_25 := u0_25) (u0_26 := u0_26) (u0_27 := u0_27) (u0_28 := u0_28) (u0_29 := u0_29) (u0_30 := u0_30) (u0_31 := u0_31) (u0_32 := u0_32) (u0_33 := u0_33) (u0_34 := u0_34) (u0_35 := u0_35) (u0_37 := u0_37) (u0_38 := u0_38) (u0_39 := u0_39) (u0_40 := u0_40) (v_drawn := x39.2.2.2.2.2.2.2.1) (p1 := (4 : Int32)) (r := y47) e4) [0] rfl rfl (fun _ => rfl) (fun _ => rfl) rfl rfl rfl rfl (Nat.le_of_ble_eq_true rfl) hl.1 (by rw [hRf]; exact Nat.le_of_ble_eq_true rfl) (by rw [hRl]; exact Nat.le_of_ble_eq_true rfl) ⟨Nat.zero_le _, Nat.zero_le _⟩ dX11_years_47 rfl (fun H locs _ hS => ?_)
          refine lv_istore (lv' := [(5, .int y47.1), (0, .ref q0), (2, .int p2), (3, .int x39.1), (4, .int x39.2.1)]) hx hb dX11_years_50 hl (by decide) rfl (fun ls hl => ?_)
          refine lv_iload hx hb dX11_years_52 (lv_at hl 0 rfl) ?_
          refine lv_iconst (v := 2) hx hb dX11_years_54 (by decide) ?_
          have hJ72 : ∀ (j72_l3 : Int32) (j72_v_length : Int32) (j72_v_top : Int32) (j72_v_at : Int32) (j72_v_wrong : Int32) (j72_v_isAsked : Int32) (j72_v_asked : Nat → Int32) (j72_v_then : Nat → Int32) (rj72_0 : Value) (H : Heap) (locs : List Loc) (ls : Array Slot), X11_years_k72 v_people x39 y47 j72_l3 j72_v_length j72_v_top j72_v_at j72_v_wrong j72_v_isAsked j72_v_asked j72_v_then = some z39 → Sv D A s.heap [oX11 q0 (.ref q1) (.int v_people) u0_2 u0_3 (.ref q2) (.int v_rowMany) (.int (0 : Int32)) rj72_0 (.int j72_v_length) (.int j72_v_top) (.int j72_v_at) (.int j72_v_wrong) u0_12 (.ref q3) u0_14 (.int v_ruleSize) (.int j72_v_isAsked) (.ref q4) u0_18 u0_19 u0_20 (.ref q5) u0_22 u0_23 u0_24 u0_25 u0_26 u0_27 u0_28 u0_29 u0_30 u0_31 u0_32 u0_33 u0_34 u0_35 (.int y47.2) u0_37 u0_38 u0_39 u0_40, aI cy q1 37 v_now, aJ cy q2 16 v_row, aB cy q3 40 v_rule, aI cy q4 7 j72_v_asked, aI cy q5 37 j72_v_then] H locs → lv_has ls 8 [(0, .ref q0), (2, .int p2), (3, .int j72_l3), (4, .int x39.2.1), (5, .int y47.1)] → W p l e R s m args below meth c H locs 0 0 Q (F0 m 72 ls []) := by
            intro j72_l3 j72_v_length j72_v_top j72_v_at j72_v_wrong j72_v_isAsked j72_v_asked j72_v_then rj72_0 H locs ls h hS hl
            unfold X11_years_k72 at h
            refine lv_iload hx hb dX11_years_72 (lv_at hl 4 rfl) ?_
            refine lv_iconst (v := 2) hx hb dX11_years_74 (by decide) ?_
            refine lv_icmp_lt (tgt := 161) hx hb dX11_years_75 (by decide) (fun c5 => ?_) (fun c5 => ?_)
            · have h := it_pos c5 h
              refine lv_iinc (v := (x39.2.1 + (1 : Int32))) (lv' := [(4, .int (x39.2.1 + (1 : Int32))), (0, .ref q0), (2, .int p2), (3, .int j72_l3), (5, .int y47.1)]) hx hb dX11_years_161 hl (k := 3) rfl rfl (by decide) rfl (fun ls hl => ?_)
              refine lv_goto (tgt := 39) hx hb dX11_years_164 (by decide) ?_
              exact ih39 (j72_l3, (x39.2.1 + (1 : Int32)), j72_v_length, j72_v_top, j72_v_at, j72_v_wrong, j72_v_isAsked, y47.2, j72_v_asked, j72_v_then) y39 rj72_0 H locs ls (hz39a _ (Option.some.inj h).symm) hS (lv_sub hl [1, 2, 3, 0] rfl) hk39_0
            · have h := it_neg c5 h
              refine lv_aload_n hx hb dX11_years_78 rfl (lv_at hl 0 rfl) ?_
              refine r_get E frX11_92 hS 0 rfl rfl dX11_years_79 ?_
              refine lv_if_ne (tgt := 88) hx hb dX11_years_82 (by decide) (fun c6 => ?_) (fun c6 => ?_)
              · have h := it_neg c6 h
                refine lv_aload_n hx hb dX11_years_88 rfl (lv_at hl 0 rfl) ?_
                refine lv_aload_n hx hb dX11_years_89 rfl (lv_at hl 0 rfl) ?_
                refine r_get E frX11_92 hS 0 rfl rfl dX11_years_90 ?_
                obtain ⟨y93, e7, h⟩ := bd_some h
                refine ct_V (ws' := fun _ => [oX11 q0 (.ref q1) (.int v_people) u0_2 u0_3 (.ref q2) (.int v_rowMany) (.int (0 : Int32)) rj72_0 (.int j72_v_length) (.int j72_v_top) (.int j72_v_at) (.int j72_v_wrong) u0_12 (.ref q3) u0_14 (.int v_ruleSize) (.int j72_v_isAsked) (.ref q4) u0_18 u0_19 u0_20 (.ref q5) u0_22 u0_23 u0_24 u0_25 u0_26 u0_27 u0_28 u0_29 u0_30 u0_31 u0_32 u0_33 u0_34 u0_35 (.int y93.2) u0_37 u0_38 u0_39 u0_40, aI cy q1 37 v_now, aJ cy q2 16 v_row, aB cy q3 40 v_rule, aI cy q4 7 j72_v_asked, aI cy q5 37 j72_v_then]) (st' := [.int y93.1]) (rest := []) E hS vlX11_367 (c_X11_draw (l := l) (D := D) (cy := cy) (q0 := q0) (u0_0 := .ref q1) (u0_1 := .int v_people) (u0_2 := u0_2) (u0_3 := u0_3) (u0_4 := .ref q2) (u0_5 := .int v_rowMany) (u0_6 := .int (0 : Int32)) (u0_7 := rj72_0) (u0_8 := .int j72_v_length) (u0_9 := .int j72_v_top) (u0_10 := .int j72_v_at) (u0_11 := .int j72_v_wrong) (u0_12 := u0_12) (u0_13 := .ref q3) (u0_14 := u0_14) (u0_15 := .int v_ruleSize) (u0_16 := .int j72_v_isAsked) (u0_17 := .ref q4) (u0_18 := u0_18) (u0_19 := u0_19) (u0_20 := u0_20) (u0_21 := .ref q5) (u0_22 := u0_22) (u0_23 := u0_23) (u0_24 := u0_24) (u0_25 := u0_25) (u0_26 := u0_26) (u0_27 := u0_27) (u0_28 := u0_28) (u0_29 := u0_29) (u0_30 := u0_30) (u0_31 := u0_31) (u0_32 := u0_32) (u0_33 := u0_33) (u0_34 := u0_34) (u0_35 := u0_35) (u0_37 := u0_37) (u0_38 := u0_38) (u0_39 := u0_39) (u0_40 := u0_40) (v_drawn := y47.2) (p1 := v_people) (r := y93) e7) [0] rfl rfl (fun _ => rfl) (fun _ => rfl) rfl rfl rfl rfl (Nat.le_of_ble_eq_true rfl) hl.1 (by rw [hRf]; exact Nat.le_of_ble_eq_true rfl) (by rw [hRl]; exact Nat.le_of_ble_eq_true rfl) ⟨Nat.zero_le _, Nat.zero_le _⟩ dX11_years_93 rfl (fun H locs _ hS => ?_)
                refine lv_istore (lv' := [(6, .int y93.1), (0, .ref q0), (2, .int p2), (3, .int j72_l3), (4, .int x39.2.1), (5, .int y47.1)]) hx hb dX11_years_96 hl (by decide) rfl (fun ls hl => ?_)
                refine lv_aload_n hx hb dX11_years_98 rfl (lv_at hl 1 rfl) ?_
                refine lv_iload hx hb dX11_years_99 (lv_at hl 5 rfl) ?_
                refine lv_iconst (v := 2) hx hb dX11_years_101 (by decide) ?_
                have hJ114 : ∀ (s114_1 : Int32) (ls : Array Slot), s114_1 = (if y47.1 = (2 : Int32) then v_people else (10 : Int32)) → lv_has ls 8 [(0, .ref q0), (2, .int p2), (3, .int j72_l3), (4, .int x39.2.1), (5, .int y47.1), (6, .int y93.1)] → W p l e R s m args below meth c H locs 0 0 Q (F0 m 114 ls [.int s114_1, .ref q0]) := by
                  intro s114_1 ls es114_1 hl
                  subst es114_1
                  obtain ⟨y114, e8, h⟩ := bd_some h
                  refine ct_V (ws' := fun _ => [oX11 q0 (.ref q1) (.int v_people) u0_2 u0_3 (.ref q2) (.int v_rowMany) (.int (0 : Int32)) rj72_0 (.int j72_v_length) (.int j72_v_top) (.int j72_v_at) (.int j72_v_wrong) u0_12 (.ref q3) u0_14 (.int v_ruleSize) (.int j72_v_isAsked) (.ref q4) u0_18 u0_19 u0_20 (.ref q5) u0_22 u0_23 u0_24 u0_25 u0_26 u0_27 u0_28 u0_29 u0_30 u0_31 u0_32 u0_33 u0_34 u0_35 (.int y114.2) u0_37 u0_38 u0_39 u0_40, aI cy q1 37 v_now, aJ cy q2 16 v_row, aB cy q3 40 v_rule, aI cy q4 7 j72_v_asked, aI cy q5 37 j72_v_then]) (st' := [.int y114.1]) (rest := []) E hS vlX11_367 (c_X11_draw (l := l) (D := D) (cy := cy) (q0 := q0) (u0_0 := .ref q1) (u0_1 := .int v_people) (u0_2 := u0_2) (u0_3 := u0_3) (u0_4 := .ref q2) (u0_5 := .int v_rowMany) (u0_6 := .int (0 : Int32)) (u0_7 := rj72_0) (u0_8 := .int j72_v_length) (u0_9 := .int j72_v_top) (u0_10 := .int j72_v_at) (u0_11 := .int j72_v_wrong) (u0_12 := u0_12) (u0_13 := .ref q3) (u0_14 := u0_14) (u0_15 := .int v_ruleSize) (u0_16 := .int j72_v_isAsked) (u0_17 := .ref q4) (u0_18 := u0_18) (u0_19 := u0_19) (u0_20 := u0_20) (u0_21 := .ref q5) (u0_22 := u0_22) (u0_23 := u0_23) (u0_24 := u0_24) (u0_25 := u0_25) (u0_26 := u0_26) (u0_27 := u0_27) (u0_28 := u0_28) (u0_29 := u0_29) (u0_30 := u0_30) (u0_31 := u0_31) (u0_32 := u0_32) (u0_33 := u0_33) (u0_34 := u0_34) (u0_35 := u0_35) (u0_37 := u0_37) (u0_38 := u0_38) (u0_39 := u0_39) (u0_40 := u0_40) (v_drawn := y93.2) (p1 := (if y47.1 = (2 : Int32) then v_people else (10 : Int32))) (r := y114) e8) [0] rfl rfl (fun _ => rfl) (fun _ => rfl) rfl rfl rfl rfl (Nat.le_of_ble_eq_true rfl) hl.1 (by rw [hRf]; exact Nat.le_of_ble_eq_true rfl) (by rw [hRl]; exact Nat.le_of_ble_eq_true rfl) ⟨Nat.zero_le _, Nat.zero_le _⟩ dX11_years_114 rfl (fun H locs _ hS => ?_)
                  refine lv_istore (lv' := [(7, .int y114.1), (0, .ref q0), (2, .int p2), (3, .int j72_l3), (4, .int x39.2.1), (5, .int y47.1), (6, .int y93.1)]) hx hb dX11_years_117 hl (by decide) rfl (fun ls hl => ?_)
                  refine lv_iload hx hb dX11_years_119 (lv_at hl 5 rfl) ?_
                  refine lv_iconst (v := 3) hx hb dX11_years_121 (by decide) ?_
                  refine lv_icmp_ne (tgt := 137) hx hb dX11_years_122 (by decide) (fun c9 => ?_) (fun c9 => ?_)
                  · have h := it_neg c9 h
                    refine lv_iload hx hb dX11_years_137 (lv_at hl 6 rfl) ?_
                    refine lv_iload hx hb dX11_years_139 (lv_at hl 0 rfl) ?_
                    refine lv_icmp_eq (tgt := 161) hx hb dX11_years_141 (by decide) (fun c10 => ?_) (fun c10 => ?_)
                    · have h := it_pos c10 h
                      refine lv_iinc (v := (x39.2.1 + (1 : Int32))) (lv' := [(4, .int (x39.2.1 + (1 : Int32))), (7, .int y114.1), (0, .ref q0), (2, .int p2), (3, .int j72_l3), (5, .int y47.1), (6, .int y93.1)]) hx hb dX11_years_161 hl (k := 4) rfl rfl (by decide) rfl (fun ls hl => ?_)
                      refine lv_goto (tgt := 39) hx hb dX11_years_164 (by decide) ?_
                      exact ih39 (j72_l3, (x39.2.1 + (1 : Int32)), j72_v_length, j72_v_top, j72_v_at, j72_v_wrong, j72_v_isAsked, y114.2, j72_v_asked, j72_v_then) y39 rj72_0 H locs ls (hz39a _ (Option.some.inj h).symm) hS (lv_sub hl [2, 3, 4, 0] rfl) hk39_0
                    · have h := it_neg c10 h
                      refine lv_aload_n hx hb dX11_years_144 rfl (lv_at hl 1 rfl) ?_
                      refine r_get E frX11_39 hS 0 rfl rfl dX11_years_145 ?_
                      refine lv_bipush (v := 28) hx hb dX11_years_148 (by decide) ?_
                      refine lv_iload hx hb dX11_years_150 (lv_at hl 6 rfl) ?_
                      refine lv_iadd hx hb dX11_years_152 ?_
                      refine lv_dup2_11 hx hb dX11_years_153 rfl rfl ?_
                      obtain ⟨g11, h⟩ := gi_some h
                      refine r_iald E hS 5 rfl g11 dX11_years_154 ?_
                      refine lv_iconst (v := 1) hx hb dX11_years_155 (by decide) ?_
                      refine lv_iload hx hb dX11_years_156 (lv_at hl 0 rfl) ?_
                      refine lv_ishl hx hb dX11_years_158 ?_
                      refine lv_ixor hx hb dX11_years_159 ?_
                      obtain ⟨g12, h⟩ := gi_some h
                      refine r_iast (ws' := [oX11 q0 (.ref q1) (.int v_people) u0_2 u0_3 (.ref q2) (.int v_rowMany) (.int (0 : Int32)) rj72_0 (.int j72_v_length) (.int j72_v_top) (.int j72_v_at) (.int j72_v_wrong) u0_12 (.ref q3) u0_14 (.int v_ruleSize) (.int j72_v_isAsked) (.ref q4) u0_18 u0_19 u0_20 (.ref q5) u0_22 u0_23 u0_24 u0_25 u0_26 u0_27 u0_28 u0_29 u0_30 u0_31 u0_32 u0_33 u0_34 u0_35 (.int y114.2) u0_37 u0_38 u0_39 u0_40, aI cy q1 37 v_now, aJ cy q2 16 v_row, aB cy q3 40 v_rule, aI cy q4 7 j72_v_asked, aI cy q5 37 (upd j72_v_then ((28 : Int32) + y93.1).toNatClampNeg ((j72_v_then ((28 : Int32) + y93.1).toNatClampNeg) ^^^ ((1 : Int32) <<< (y114.1 &&& 31))))]) E hS 5 rfl g12 rfl dX11_years_160 (fun H locs hS => ?_)
                      refine lv_iinc (v := (x39.2.1 + (1 : Int32))) (lv' := [(4, .int (x39.2.1 + (1 : Int32))), (7, .int y114.1), (0, .ref q0), (2, .int p2), (3, .int j72_l3), (5, .int y47.1), (6, .int y93.1)]) hx hb dX11_years_161 hl (k := 4) rfl rfl (by decide) rfl (fun ls hl => ?_)
                      refine lv_goto (tgt := 39) hx hb dX11_years_164 (by decide) ?_
                      exact ih39 (j72_l3, (x39.2.1 + (1 : Int32)), j72_v_length, j72_v_top, j72_v_at, j72_v_wrong, j72_v_isAsked, y114.2, j72_v_asked, (upd j72_v_then ((28 : Int32) + y93.1).toNatClampNeg ((j72_v_then ((28 : Int32) + y93.1).toNatClampNeg) ^^^ ((1 : Int32) <<< (y114.1 &&& 31))))) y39 rj72_0 H locs ls (hz39a _ (Option.some.inj h).symm) hS (lv_sub hl [2, 3, 4, 0] rfl) hk39_0
                  · have h := it_pos c9 h
                    refine lv_aload_n hx hb dX11_years_125 rfl (lv_at hl 1 rfl) ?_
                    refine r_get E frX11_39 hS 0 rfl rfl dX11_years_126 ?_
                    refine lv_iload hx hb dX11_years_129 (lv_at hl 6 rfl) ?_
                    refine lv_iload hx hb dX11_years_131 (lv_at hl 0 rfl) ?_
                    obtain ⟨g13, h⟩ := gi_some h
                    refine r_iast (ws' := [oX11 q0 (.ref q1) (.int v_people) u0_2 u0_3 (.ref q2) (.int v_rowMany) (.int (0 : Int32)) rj72_0 (.int j72_v_length) (.int j72_v_top) (.int j72_v_at) (.int j72_v_wrong) u0_12 (.ref q3) u0_14 (.int v_ruleSize) (.int j72_v_isAsked) (.ref q4) u0_18 u0_19 u0_20 (.ref q5) u0_22 u0_23 u0_24 u0_25 u0_26 u0_27 u0_28 u0_29 u0_30 u0_31 u0_32 u0_33 u0_34 u0_35 (.int y114.2) u0_37 u0_38 u0_39 u0_40, aI cy q1 37 v_now, aJ cy q2 16 v_row, aB cy q3 40 v_rule, aI cy q4 7 j72_v_asked, aI cy q5 37 (upd j72_v_then y93.1.toNatClampNeg y114.1)]) E hS 5 rfl g13 rfl dX11_years_133 (fun H locs hS => ?_)
                    refine lv_goto (tgt := 161) hx hb dX11_years_134 (by decide) ?_
                    refine lv_iinc (v := (x39.2.1 + (1 : Int32))) (lv' := [(4, .int (x39.2.1 + (1 : Int32))), (7, .int y114.1), (0, .ref q0), (2, .int p2), (3, .int j72_l3), (5, .int y47.1), (6, .int y93.1)]) hx hb dX11_years_161 hl (k := 4) rfl rfl (by decide) rfl (fun ls hl => ?_)
                    refine lv_goto (tgt := 39) hx hb dX11_years_164 (by decide) ?_
                    exact ih39 (j72_l3, (x39.2.1 + (1 : Int32)), j72_v_length, j72_v_top, j72_v_at, j72_v_wrong, j72_v_isAsked, y114.2, j72_v_asked, (upd j72_v_then y93.1.toNatClampNeg y114.1)) y39 rj72_0 H locs ls (hz39a _ (Option.some.inj h).symm) hS (lv_sub hl [2, 3, 4, 0] rfl) hk39_0
                refine lv_icmp_ne (tgt := 112) hx hb dX11_years_102 (by decide) (fun c14 => ?_) (fun c14 => ?_)
                · refine lv_bipush (v := 10) hx hb dX11_years_112 (by decide) ?_
                  exact hJ114 _ ls ((if_neg c14)).symm (lv_sub hl [1, 2, 3, 4, 5, 0] rfl)
                · refine lv_aload_n hx hb dX11_years_105 rfl (lv_at hl 1 rfl) ?_
                  refine r_get E frX11_92 hS 0 rfl rfl dX11_years_106 ?_
                  refine lv_goto (tgt := 114) hx hb dX11_years_109 (by decide) ?_
                  exact hJ114 _ ls ((if_pos c14)).symm (lv_sub hl [1, 2, 3, 4, 5, 0] rfl)
              · have h := it_pos c6 h
                refine lv_goto (tgt := 161) hx hb dX11_years_85 (by decide) ?_
                refine lv_iinc (v := (x39.2.1 + (1 : Int32))) (lv' := [(4, .int (x39.2.1 + (1 : Int32))), (0, .ref q0), (2, .int p2), (3, .int j72_l3), (5, .int y47.1)]) hx hb dX11_years_161 hl (k := 3) rfl rfl (by decide) rfl (fun ls hl => ?_)
                refine lv_goto (tgt := 39) hx hb dX11_years_164 (by decide) ?_
                exact ih39 (j72_l3, (x39.2.1 + (1 : Int32)), j72_v_length, j72_v_top, j72_v_at, j72_v_wrong, j72_v_isAsked, y47.2, j72_v_asked, j72_v_then) y39 rj72_0 H locs ls (hz39a _ (Option.some.inj h).symm) hS (lv_sub hl [1, 2, 3, 0] rfl) hk39_0
          refine lv_icmp_ge (tgt := 72) hx hb dX11_years_55 (by decide) (fun c15 => ?_) (fun c15 => ?_)
          · have h := it_pos c15 h
            exact hJ72 x39.1 x39.2.2.1 x39.2.2.2.1 x39.2.2.2.2.1 x39.2.2.2.2.2.1 x39.2.2.2.2.2.2.1 x39.2.2.2.2.2.2.2.2.1 x39.2.2.2.2.2.2.2.2.2 rv39_0 H locs ls h hS (lv_sub hl [1, 2, 3, 4, 0] rfl)
          · have h := it_neg c15 h
            refine lv_iload_n hx hb dX11_years_58 rfl (lv_at hl 3 rfl) ?_
            refine lv_aload_n hx hb dX11_years_59 rfl (lv_at hl 1 rfl) ?_
            refine lv_aload_n hx hb dX11_years_60 rfl (lv_at hl 1 rfl) ?_
            refine r_get E frX11_39 hS 0 rfl rfl dX11_years_61 ?_
            obtain ⟨y64, e16, h⟩ := bd_some h
            refine ct_V (ws' := fun _ => [oX11 q0 (.ref q1) (.int v_people) u0_2 u0_3 (.ref q2) (.int v_rowMany) (.int (0 : Int32)) (.ref q3) (.int y64.2.1) (.int y64.2.2.1) (.int y64.2.2.2.1) (.int y64.2.2.2.2.1) u0_12 (.ref q3) u0_14 (.int v_ruleSize) (.int y64.2.2.2.2.2.1) (.ref q4) u0_18 u0_19 u0_20 (.ref q5) u0_22 u0_23 u0_24 u0_25 u0_26 u0_27 u0_28 u0_29 u0_30 u0_31 u0_32 u0_33 u0_34 u0_35 (.int y47.2) u0_37 u0_38 u0_39 u0_40, aI cy q1 37 v_now, aJ cy q2 16 v_row, aB cy q3 40 v_rule, aI cy q4 7 y64.2.2.2.2.2.2.1, aI cy q5 37 y64.2.2.2.2.2.2.2]) (st' := [.int y64.1, .int x39.1]) (rest := [.int x39.1]) E hS vlX11_246 (c_X11_goMorning (l := l) (D := D) (cy := cy) (q0 := q0) (q1 := q3) (q2 := q4) (q3 := q5) (u0_0 := .ref q1) (u0_2 := u0_2) (u0_3 := u0_3) (u0_4 := .ref q2) (u0_5 := .int v_rowMany) (u0_6 := .int (0 : Int32)) (u0_7 := rv39_0) (u0_12 := u0_12) (u0_14 := u0_14) (u0_18 := u0_18) (u0_19 := u0_19) (u0_20 := u0_20) (u0_21 := .ref q5) (u0_22 := u0_22) (u0_23 := u0_23) (u0_24 := u0_24) (u0_25 := u0_25) (u0_26 := u0_26) (u0_27 := u0_27) (u0_28 := u0_28) (u0_29 := u0_29) (u0_30 := u0_30) (u0_31 := u0_31) (u0_32 := u0_32) (u0_33 := u0_33) (u0_34 := u0_34) (u0_35 := u0_35) (u0_36 := .int y47.2) (u0_37 := u0_37) (u0_38 := u0_38) (u0_39 := u0_39) (u0_40 := u0_40) (v_people := v_people) (v_length := x39.2.2.1) (v_top := x39.2.2.2.1) (v_at := x39.2.2.2.2.1) (v_wrong := x39.2.2.2.2.2.1) (v_ruleSize := v_ruleSize) (v_isAsked := x39.2.2.2.2.2.2.1) (v_rule := v_rule) (v_asked := x39.2.2.2.2.2.2.2.2.1) (nw1_ := 37) (w1_ := x39.2.2.2.2.2.2.2.2.2) (r := y64) e16) [0, 3, 4, 5] rfl rfl (fun _ => rfl) (fun _ => rfl) rfl rfl rfl rfl (Nat.le_of_ble_eq_true rfl) hl.1 (by rw [hRf]; exact Nat.le_of_ble_eq_true rfl) (by rw [hRl]; exact Nat.le_of_ble_eq_true rfl) ⟨Nat.zero_le _, Nat.zero_le _⟩ dX11_years_64 rfl (fun H locs _ hS => ?_)
            refine ct_S (ws' := fun _ => [oX11 q0 (.ref q1) (.int v_people) u0_2 u0_3 (.ref q2) (.int v_rowMany) (.int (0 : Int32)) (.ref q3) (.int y64.2.1) (.int y64.2.2.1) (.int y64.2.2.2.1) (.int y64.2.2.2.2.1) u0_12 (.ref q3) u0_14 (.int v_ruleSize) (.int y64.2.2.2.2.2.1) (.ref q4) u0_18 u0_19 u0_20 (.ref q5) u0_22 u0_23 u0_24 u0_25 u0_26 u0_27 u0_28 u0_29 u0_30 u0_31 u0_32 u0_33 u0_34 u0_35 (.int y47.2) u0_37 u0_38 u0_39 u0_40, aI cy q1 37 v_now, aJ cy q2 16 v_row, aB cy q3 40 v_rule, aI cy q4 7 y64.2.2.2.2.2.2.1, aI cy q5 37 y64.2.2.2.2.2.2.2]) (st' := [.int (J6_bitCount_0f7a4 y64.1), .int x39.1]) (rest := [.int x39.1]) E hS slX11_204 (c_J6_bitCount_0f7a4 (l := l) (D := D) (cy := cy) (p0 := y64.1) (r := (J6_bitCount_0f7a4 y64.1)) rfl) [] rfl rfl (fun _ => rfl) (fun _ => rfl) rfl rfl (Nat.le_of_ble_eq_true rfl) hl.1 (by rw [hRf]; exact Nat.le_of_ble_eq_true rfl) (by rw [hRl]; exact Nat.le_of_ble_eq_true rfl) ⟨Nat.zero_le _, Nat.zero_le _⟩ dX11_years_67 rfl (fun H locs _ hS => ?_)
            refine lv_iadd hx hb dX11_years_70 ?_
            refine lv_istore_n (lv' := [(3, .int (x39.1 + (J6_bitCount_0f7a4 y64.1))), (5, .int y47.1), (0, .ref q0), (2, .int p2), (4, .int x39.2.1)]) hx hb dX11_years_71 rfl hl (by decide) rfl (fun ls hl => ?_)
            exact hJ72 (x39.1 + (J6_bitCount_0f7a4 y64.1)) y64.2.1 y64.2.2.1 y64.2.2.2.1 y64.2.2.2.2.1 y64.2.2.2.2.2.1 y64.2.2.2.2.2.2.1 y64.2.2.2.2.2.2.2 (.ref q3) H locs ls h hS (lv_sub hl [2, 3, 0, 4, 1] rfl)
    obtain ⟨y39, e39, h⟩ := bd_some h
    refine hL39 1000 ((0 : Int32), (0 : Int32), v_length, v_top, v_at, v_wrong, v_isAsked, p1, v_asked, y33) y39 u0_7 H locs ls e39 hS (lv_sub hl [2, 4, 1, 0] rfl) (fun rw39_0 H locs ls hS hl => ?_)
    refine lv_aload_n hx hb dX11_years_167 rfl (lv_at hl 0 rfl) ?_
    refine lv_iconst (v := 0) hx hb dX11_years_168 (by decide) ?_
    refine r_put (ws' := [oX11 q0 (.ref q1) (.int v_people) u0_2 u0_3 (.ref q2) (.int (0 : Int32)) (.int (0 : Int32)) rw39_0 (.int y39.2.1) (.int y39.2.2.1) (.int y39.2.2.2.1) (.int y39.2.2.2.2.1) u0_12 (.ref q3) u0_14 (.int v_ruleSize) (.int y39.2.2.2.2.2.1) (.ref q4) u0_18 u0_19 u0_20 (.ref q5) u0_22 u0_23 u0_24 u0_25 u0_26 u0_27 u0_28 u0_29 u0_30 u0_31 u0_32 u0_33 u0_34 u0_35 (.int y39.2.2.2.2.2.2.1) u0_37 u0_38 u0_39 u0_40, aI cy q1 37 v_now, aJ cy q2 16 v_row, aB cy q3 40 v_rule, aI cy q4 7 y39.2.2.2.2.2.2.2.1, aI cy q5 37 y39.2.2.2.2.2.2.2.2]) E frX11_89 hS 0 rfl (Nat.le_of_ble_eq_true rfl) rfl rfl rfl rfl dX11_years_169 (fun H locs hS => ?_)
    refine lv_aload_n hx hb dX11_years_172 rfl (lv_at hl 0 rfl) ?_
    refine lv_aload_n hx hb dX11_years_173 rfl (lv_at hl 0 rfl) ?_
    refine r_get E frX11_39 hS 0 rfl rfl dX11_years_174 ?_
    refine lv_bipush (v := 36) hx hb dX11_years_177 (by decide) ?_
    obtain ⟨g17, h⟩ := gi_some h
    refine r_iald E hS 5 rfl g17 dX11_years_179 ?_
    refine lv_aload_n hx hb dX11_years_180 rfl (lv_at hl 0 rfl) ?_
    refine r_get E frX11_9 hS 0 rfl rfl dX11_years_181 ?_
    refine lv_bipush (v := 36) hx hb dX11_years_184 (by decide) ?_
    obtain ⟨g18, h⟩ := gi_some h
    refine r_iald E hS 1 rfl g18 dX11_years_186 ?_
    refine lv_isub hx hb dX11_years_187 ?_
    refine lv_i2l (v := (((y39.2.2.2.2.2.2.2.2 (36 : Int32).toNatClampNeg) - (v_now (36 : Int32).toNatClampNeg)).toInt64)) hx hb dX11_years_188 rfl ?_
    obtain ⟨y189, e19, h⟩ := bd_some h
    refine ct_V (ws' := fun _ => [oX11 q0 (.ref q1) (.int v_people) u0_2 u0_3 (.ref q2) (.int y189.1) (.int (0 : Int32)) rw39_0 (.int y39.2.1) (.int y39.2.2.1) (.int y39.2.2.2.1) (.int y39.2.2.2.2.1) u0_12 (.ref q3) u0_14 (.int v_ruleSize) (.int y39.2.2.2.2.2.1) (.ref q4) u0_18 u0_19 u0_20 (.ref q5) u0_22 u0_23 u0_24 u0_25 u0_26 u0_27 u0_28 u0_29 u0_30 u0_31 u0_32 u0_33 u0_34 u0_35 (.int y39.2.2.2.2.2.2.1) u0_37 u0_38 u0_39 u0_40, aI cy q1 37 v_now, aJ cy q2 16 y189.2, aB cy q3 40 v_rule, aI cy q4 7 y39.2.2.2.2.2.2.2.1, aI cy q5 37 y39.2.2.2.2.2.2.2.2]) (st' := []) (rest := []) E hS vlX11_256 (c_X11_tell (l := l) (D := D) (cy := cy) (q0 := q0) (q1 := q2) (u0_0 := .ref q1) (u0_1 := .int v_people) (u0_2 := u0_2) (u0_3 := u0_3) (u0_6 := .int (0 : Int32)) (u0_7 := rw39_0) (u0_8 := .int y39.2.1) (u0_9 := .int y39.2.2.1) (u0_10 := .int y39.2.2.2.1) (u0_11 := .int y39.2.2.2.2.1) (u0_12 := u0_12) (u0_13 := .ref q3) (u0_14 := u0_14) (u0_15 := .int v_ruleSize) (u0_16 := .int y39.2.2.2.2.2.1) (u0_17 := .ref q4) (u0_18 := u0_18) (u0_19 := u0_19) (u0_20 := u0_20) (u0_21 := .ref q5) (u0_22 := u0_22) (u0_23 := u0_23) (u0_24 := u0_24) (u0_25 := u0_25) (u0_26 := u0_26) (u0_27 := u0_27) (u0_28 := u0_28) (u0_29 := u0_29) (u0_30 := u0_30) (u0_31 := u0_31) (u0_32 := u0_32) (u0_33 := u0_33) (u0_34 := u0_34) (u0_35 := u0_35) (u0_36 := .int y39.2.2.2.2.2.2.1) (u0_37 := u0_37) (u0_38 := u0_38) (u0_39 := u0_39) (u0_40 := u0_40) (v_rowMany := (0 : Int32)) (v_row := v_row) (p1 := (((y39.2.2.2.2.2.2.2.2 (36 : Int32).toNatClampNeg) - (v_now (36 : Int32).toNatClampNeg)).toInt64)) (r := y189) e19) [0, 2] rfl rfl (fun _ => rfl) (fun _ => rfl) rfl rfl rfl rfl (Nat.le_of_ble_eq_true rfl) hl.1 (by rw [hRf]; exact Nat.le_of_ble_eq_true rfl) (by rw [hRl]; exact Nat.le_of_ble_eq_true rfl) ⟨Nat.zero_le _, Nat.zero_le _⟩ dX11_years_189 rfl (fun H locs _ hS => ?_)
    refine lv_aload_n hx hb dX11_years_192 rfl (lv_at hl 0 rfl) ?_
    refine lv_aload_n hx hb dX11_years_193 rfl (lv_at hl 0 rfl) ?_
    refine lv_aload_n hx hb dX11_years_194 rfl (lv_at hl 0 rfl) ?_
    refine r_get E frX11_39 hS 0 rfl rfl dX11_years_195 ?_
    obtain ⟨y198, e20, h⟩ := bd_some h
    refine ct_V (ws' := fun _ => [oX11 q0 (.ref q1) (.int v_people) u0_2 u0_3 (.ref q2) (.int y189.1) (.int (0 : Int32)) (.ref q3) (.int y198.2.1) (.int y198.2.2.1) (.int y198.2.2.2.1) (.int y198.2.2.2.2.1) u0_12 (.ref q3) u0_14 (.int v_ruleSize) (.int y198.2.2.2.2.2.1) (.ref q4) u0_18 u0_19 u0_20 (.ref q5) u0_22 u0_23 u0_24 u0_25 u0_26 u0_27 u0_28 u0_29 u0_30 u0_31 u0_32 u0_33 u0_34 u0_35 (.int y39.2.2.2.2.2.2.1) u0_37 u0_38 u0_39 u0_40, aI cy q1 37 v_now, aJ cy q2 16 y189.2, aB cy q3 40 v_rule, aI cy q4 7 y198.2.2.2.2.2.2, aI cy q5 37 y39.2.2.2.2.2.2.2.2]) (st' := [.int y198.1, .ref q0]) (rest := [.ref q0]) E hS vlX11_239 (c_X11_awake (l := l) (D := D) (cy := cy) (q0 := q0) (q1 := q3) (q2 := q4) (q3 := q5) (u0_0 := .ref q1) (u0_2 := u0_2) (u0_3 := u0_3) (u0_4 := .ref q2) (u0_5 := .int y189.1) (u0_6 := .int (0 : Int32)) (u0_7 := rw39_0) (u0_12 := u0_12) (u0_14 := u0_14) (u0_18 := u0_18) (u0_19 := u0_19) (u0_20 := u0_20) (u0_21 := .ref q5) (u0_22 := u0_22) (u0_23 := u0_23) (u0_24 := u0_24) (u0_25 := u0_25) (u0_26 := u0_26) (u0_27 := u0_27) (u0_28 := u0_28) (u0_29 := u0_29) (u0_30 := u0_30) (u0_31 := u0_31) (u0_32 := u0_32) (u0_33 := u0_33) (u0_34 := u0_34) (u0_35 := u0_35) (u0_36 := .int y39.2.2.2.2.2.2.1) (u0_37 := u0_37) (u0_38 := u0_38) (u0_39 := u0_39) (u0_40 := u0_40) (v_people := v_people) (v_length := y39.2.1) (v_top := y39.2.2.1) (v_at := y39.2.2.2.1) (v_wrong := y39.2.2.2.2.1) (v_ruleSize := v_ruleSize) (v_isAsked := y39.2.2.2.2.2.1) (v_rule := v_rule) (v_asked := y39.2.2.2.2.2.2.2.1) (nw1_ := 37) (w1_ := y39.2.2.2.2.2.2.2.2) (r := y198) e20) [0, 3, 4, 5] rfl rfl (fun _ => rfl) (fun _ => rfl) rfl rfl rfl rfl (Nat.le_of_ble_eq_true rfl) hl.1 (by rw [hRf]; exact Nat.le_of_ble_eq_true rfl) (by rw [hRl]; exact Nat.le_of_ble_eq_true rfl) ⟨Nat.zero_le _, Nat.zero_le _⟩ dX11_years_198 rfl (fun H locs _ hS => ?_)
    refine lv_i2l (v := (y198.1.toInt64)) hx hb dX11_years_201 rfl ?_
    obtain ⟨y202, e21, h⟩ := bd_some h
    refine ct_V (ws' := fun _ => [oX11 q0 (.ref q1) (.int v_people) u0_2 u0_3 (.ref q2) (.int y202.1) (.int (0 : Int32)) (.ref q3) (.int y198.2.1) (.int y198.2.2.1) (.int y198.2.2.2.1) (.int y198.2.2.2.2.1) u0_12 (.ref q3) u0_14 (.int v_ruleSize) (.int y198.2.2.2.2.2.1) (.ref q4) u0_18 u0_19 u0_20 (.ref q5) u0_22 u0_23 u0_24 u0_25 u0_26 u0_27 u0_28 u0_29 u0_30 u0_31 u0_32 u0_33 u0_34 u0_35 (.int y39.2.2.2.2.2.2.1) u0_37 u0_38 u0_39 u0_40, aI cy q1 37 v_now, aJ cy q2 16 y202.2, aB cy q3 40 v_rule, aI cy q4 7 y198.2.2.2.2.2.2, aI cy q5 37 y39.2.2.2.2.2.2.2.2]) (st' := []) (rest := []) E hS vlX11_256 (c_X11_tell (l := l) (D := D) (cy := cy) (q0 := q0) (q1 := q2) (u0_0 := .ref q1) (u0_1 := .int v_people) (u0_2 := u0_2) (u0_3 := u0_3) (u0_6 := .int (0 : Int32)) (u0_7 := .ref q3) (u0_8 := .int y198.2.1) (u0_9 := .int y198.2.2.1) (u0_10 := .int y198.2.2.2.1) (u0_11 := .int y198.2.2.2.2.1) (u0_12 := u0_12) (u0_13 := .ref q3) (u0_14 := u0_14) (u0_15 := .int v_ruleSize) (u0_16 := .int y198.2.2.2.2.2.1) (u0_17 := .ref q4) (u0_18 := u0_18) (u0_19 := u0_19) (u0_20 := u0_20) (u0_21 := .ref q5) (u0_22 := u0_22) (u0_23 := u0_23) (u0_24 := u0_24) (u0_25 := u0_25) (u0_26 := u0_26) (u0_27 := u0_27) (u0_28 := u0_28) (u0_29 := u0_29) (u0_30 := u0_30) (u0_31 := u0_31) (u0_32 := u0_32) (u0_33 := u0_33) (u0_34 := u0_34) (u0_35 := u0_35) (u0_36 := .int y39.2.2.2.2.2.2.1) (u0_37 := u0_37) (u0_38 := u0_38) (u0_39 := u0_39) (u0_40 := u0_40) (v_rowMany := y189.1) (v_row := y189.2) (p1 := (y198.1.toInt64)) (r := y202) e21) [0, 2] rfl rfl (fun _ => rfl) (fun _ => rfl) rfl rfl rfl rfl (Nat.le_of_ble_eq_true rfl) hl.1 (by rw [hRf]; exact Nat.le_of_ble_eq_true rfl) (by rw [hRl]; exact Nat.le_of_ble_eq_true rfl) ⟨Nat.zero_le _, Nat.zero_le _⟩ dX11_years_202 rfl (fun H locs _ hS => ?_)
    refine lv_iload_n hx hb dX11_years_205 rfl (lv_at hl 1 rfl) ?_
    obtain rfl := Option.some.inj h
    exact rt_i E hQ (.null) hS dX11_years_206
  · have h := it_pos c1 h
    refine lv_iconst (v := -1) hx hb dX11_years_15 (by decide) ?_
    obtain rfl := Option.some.inj h
    exact rt_i E hQ (.null) hS dX11_years_16
def X11_keep (v_came : Int32) (v_now : Nat → Int32) (v_kept : Nat → Int32) (v_isKept : Nat → Int32) (v_keptCame : Nat → Int32) (p1 : Int32) : Option (Int32 × Int32 × (Nat → Int32) × (Nat → Int32) × (Nat → Int32)) :=
  if (X11_in p1 (0 : Int32) (1 : Int32)) = 0 then (some ((0 : Int32), (0 : Int32), v_kept, v_isKept, v_keptCame)) else (gi p1 2 (gi p1 2 ((X11_lay 37 v_now 74 v_kept ((37 : Int32) * p1)).bind fun y45 => some ((1 : Int32), (0 : Int32), y45, (upd v_isKept p1.toNatClampNeg (vp_nar .boolean (1 : Int32))), (upd v_keptCame p1.toNatClampNeg v_came)))))
set_option maxHeartbeats 4000000 in
set_option maxRecDepth 100000 in
theorem c_X11_keep {l : Launch} {D : va_G} {cy : Nat → ClassId} (q0 : Nat) (q1 : Nat) (q2 : Nat) (q3 : Nat) (q4 : Nat) (u0_1 : Value) (u0_2 : Value) (u0_3 : Value) (u0_4 : Value) (u0_5 : Value) (u0_7 : Value) (u0_8 : Value) (u0_9 : Value) (u0_10 : Value) (u0_11 : Value) (u0_12 : Value) (u0_13 : Value) (u0_14 : Value) (u0_15 : Value) (u0_16 : Value) (u0_17 : Value) (u0_18 : Value) (u0_19 : Value) (u0_20 : Value) (u0_21 : Value) (u0_22 : Value) (u0_23 : Value) (u0_24 : Value) (u0_25 : Value) (u0_26 : Value) (u0_27 : Value) (u0_28 : Value) (u0_29 : Value) (u0_30 : Value) (u0_31 : Value) (u0_32 : Value) (u0_33 : Value) (u0_34 : Value) (u0_35 : Value) (u0_36 : Value) (v_thrown : Int32) (v_came : Int32) (v_now : Nat → Int32) (v_kept : Nat → Int32) (v_isKept : Nat → Int32) (v_keptCame : Nat → Int32) (p1 : Int32) (r : Int32 × Int32 × (Nat → Int32) × (Nat → Int32) × (Nat → Int32)) (h : X11_keep v_came v_now v_kept v_isKept v_keptCame p1 = some r) : Ct l yX11_keep cX11_keep 2 (some .boolean) 1 23 D cy [.ref q0, .int p1] [oX11 q0 (.ref q1) u0_1 u0_2 u0_3 u0_4 u0_5 (.int v_thrown) u0_7 u0_8 u0_9 u0_10 u0_11 u0_12 u0_13 u0_14 u0_15 u0_16 u0_17 u0_18 u0_19 u0_20 u0_21 u0_22 u0_23 u0_24 u0_25 u0_26 u0_27 u0_28 u0_29 u0_30 u0_31 u0_32 u0_33 u0_34 u0_35 u0_36 (.int v_came) (.ref q2) (.ref q3) (.ref q4), aI cy q1 37 v_now, aI cy q2 74 v_kept, aZ cy q3 2 v_isKept, aI cy q4 2 v_keptCame] (fun _ => [oX11 q0 (.ref q1) u0_1 u0_2 u0_3 u0_4 u0_5 (.int r.2.1) u0_7 u0_8 u0_9 u0_10 u0_11 u0_12 u0_13 u0_14 u0_15 u0_16 u0_17 u0_18 u0_19 u0_20 u0_21 u0_22 u0_23 u0_24 u0_25 u0_26 u0_27 u0_28 u0_29 u0_30 u0_31 u0_32 u0_33 u0_34 u0_35 u0_36 (.int v_came) (.ref q2) (.ref q3) (.ref q4), aI cy q1 37 v_now, aI cy q2 74 r.2.2.1, aZ cy q3 2 r.2.2.2.1, aI cy q4 2 r.2.2.2.2]) (some (.int r.1)) := by
  refine Ct.mk kX11_keep (by decide +kernel) (Nat.le_of_ble_eq_true rfl) ?_
  intro p e s m below meth c A ls args R Q hRf hRl hQ E H locs hS hl
  have hx := E.x
  have hb := E.b
  have hl : lv_has ls 2 [(0, .ref q0), (1, .int p1)] := hl
  unfold X11_keep at h
  refine lv_aload_n hx hb dX11_keep_0 rfl (lv_at hl 0 rfl) ?_
  refine lv_iconst (v := 0) hx hb dX11_keep_1 (by decide) ?_
  refine r_put (ws' := [oX11 q0 (.ref q1) u0_1 u0_2 u0_3 u0_4 u0_5 (.int (0 : Int32)) u0_7 u0_8 u0_9 u0_10 u0_11 u0_12 u0_13 u0_14 u0_15 u0_16 u0_17 u0_18 u0_19 u0_20 u0_21 u0_22 u0_23 u0_24 u0_25 u0_26 u0_27 u0_28 u0_29 u0_30 u0_31 u0_32 u0_33 u0_34 u0_35 u0_36 (.int v_came) (.ref q2) (.ref q3) (.ref q4), aI cy q1 37 v_now, aI cy q2 74 v_kept, aZ cy q3 2 v_isKept, aI cy q4 2 v_keptCame]) E frX11_85 hS 0 rfl (Nat.le_of_ble_eq_true rfl) rfl rfl rfl rfl dX11_keep_2 (fun H locs hS => ?_)
  refine lv_iload_n hx hb dX11_keep_5 rfl (lv_at hl 1 rfl) ?_
  refine lv_iconst (v := 0) hx hb dX11_keep_6 (by decide) ?_
  refine lv_iconst (v := 1) hx hb dX11_keep_7 (by decide) ?_
  refine ct_S (ws' := fun _ => [oX11 q0 (.ref q1) u0_1 u0_2 u0_3 u0_4 u0_5 (.int (0 : Int32)) u0_7 u0_8 u0_9 u0_10 u0_11 u0_12 u0_13 u0_14 u0_15 u0_16 u0_17 u0_18 u0_19 u0_20 u0_21 u0_22 u0_23 u0_24 u0_25 u0_26 u0_27 u0_28 u0_29 u0_30 u0_31 u0_32 u0_33 u0_34 u0_35 u0_36 (.int v_came) (.ref q2) (.ref q3) (.ref q4), aI cy q1 37 v_now, aI cy q2 74 v_kept, aZ cy q3 2 v_isKept, aI cy q4 2 v_keptCame]) (st' := [.int (X11_in p1 (0 : Int32) (1 : Int32))]) (rest := []) E hS slX11_95 (c_X11_in (l := l) (D := D) (cy := cy) (p0 := p1) (p1 := (0 : Int32)) (p2 := (1 : Int32)) (r := (X11_in p1 (0 : Int32) (1 : Int32))) rfl) [] rfl rfl (fun _ => rfl) (fun _ => rfl) rfl rfl (Nat.le_of_ble_eq_true rfl) hl.1 (by rw [hRf]; exact Nat.le_of_ble_eq_true rfl) (by rw [hRl]; exact Nat.le_of_ble_eq_true rfl) ⟨Nat.zero_le _, Nat.zero_le _⟩ dX11_keep_8 rfl (fun H locs _ hS => ?_)
  refine lv_if_ne (tgt := 16) hx hb dX11_keep_11 (by decide) (fun c1 => ?_) (fun c1 => ?_)
  · have h := it_neg c1 h
    refine lv_aload_n hx hb dX11_keep_16 rfl (lv_at hl 0 rfl) ?_
    refine r_get E frX11_79 hS 0 rfl rfl dX11_keep_17 ?_
    refine lv_iload_n hx hb dX11_keep_20 rfl (lv_at hl 1 rfl) ?_
    refine lv_iconst (v := 1) hx hb dX11_keep_21 (by decide) ?_
    obtain ⟨g2, h⟩ := gi_some h
    refine r_zast (ws' := [oX11 q0 (.ref q1) u0_1 u0_2 u0_3 u0_4 u0_5 (.int (0 : Int32)) u0_7 u0_8 u0_9 u0_10 u0_11 u0_12 u0_13 u0_14 u0_15 u0_16 u0_17 u0_18 u0_19 u0_20 u0_21 u0_22 u0_23 u0_24 u0_25 u0_26 u0_27 u0_28 u0_29 u0_30 u0_31 u0_32 u0_33 u0_34 u0_35 u0_36 (.int v_came) (.ref q2) (.ref q3) (.ref q4), aI cy q1 37 v_now, aI cy q2 74 v_kept, aZ cy q3 2 (upd v_isKept p1.toNatClampNeg (vp_nar .boolean (1 : Int32))), aI cy q4 2 v_keptCame]) E hS 3 rfl g2 rfl dX11_keep_22 (fun H locs hS => ?_)
    refine lv_aload_n hx hb dX11_keep_23 rfl (lv_at hl 0 rfl) ?_
    refine r_get E frX11_82 hS 0 rfl rfl dX11_keep_24 ?_
    refine lv_iload_n hx hb dX11_keep_27 rfl (lv_at hl 1 rfl) ?_
    refine lv_aload_n hx hb dX11_keep_28 rfl (lv_at hl 0 rfl) ?_
    refine r_get E frX11_148 hS 0 rfl rfl dX11_keep_29 ?_
    obtain ⟨g3, h⟩ := gi_some h
    refine r_iast (ws' := [oX11 q0 (.ref q1) u0_1 u0_2 u0_3 u0_4 u0_5 (.int (0 : Int32)) u0_7 u0_8 u0_9 u0_10 u0_11 u0_12 u0_13 u0_14 u0_15 u0_16 u0_17 u0_18 u0_19 u0_20 u0_21 u0_22 u0_23 u0_24 u0_25 u0_26 u0_27 u0_28 u0_29 u0_30 u0_31 u0_32 u0_33 u0_34 u0_35 u0_36 (.int v_came) (.ref q2) (.ref q3) (.ref q4), aI cy q1 37 v_now, aI cy q2 74 v_kept, aZ cy q3 2 (upd v_isKept p1.toNatClampNeg (vp_nar .boolean (1 : Int32))), aI cy q4 2 (upd v_keptCame p1.toNatClampNeg v_came)]) E hS 4 rfl g3 rfl dX11_keep_32 (fun H locs hS => ?_)
    refine lv_aload_n hx hb dX11_keep_33 rfl (lv_at hl 0 rfl) ?_
    refine r_get E frX11_9 hS 0 rfl rfl dX11_keep_34 ?_
    refine lv_aload_n hx hb dX11_keep_37 rfl (lv_at hl 0 rfl) ?_
    refine r_get E frX11_76 hS 0 rfl rfl dX11_keep_38 ?_
    refine lv_bipush (v := 37) hx hb dX11_keep_41 (by decide) ?_
    refine lv_iload_n hx hb dX11_keep_43 rfl (lv_at hl 1 rfl) ?_
    refine lv_imul hx hb dX11_keep_44 ?_
    obtain ⟨y45, e4, h⟩ := bd_some h
    refine ct_S (ws' := fun _ => [oX11 q0 (.ref q1) u0_1 u0_2 u0_3 u0_4 u0_5 (.int (0 : Int32)) u0_7 u0_8 u0_9 u0_10 u0_11 u0_12 u0_13 u0_14 u0_15 u0_16 u0_17 u0_18 u0_19 u0_20 u0_21 u0_22 u0_23 u0_24 u0_25 u0_26 u0_27 u0_28 u0_29 u0_30 u0_31 u0_32 u0_33 u0_34 u0_35 u0_36 (.int v_came) (.ref q2) (.ref q3) (.ref q4), aI cy q1 37 v_now, aI cy q2 74 y45, aZ cy q3 2 (upd v_isKept p1.toNatClampNeg (vp_nar .boolean (1 : Int32))), aI cy q4 2 (upd v_keptCame p1.toNatClampNeg v_came)]) (st' := []) (rest := []) E hS slX11_235 (c_X11_lay (l := l) (D := D) (cy := cy) (q0 := q1) (q1 := q2) (nw1_ := 37) (w1_ := v_now) (nw2_ := 74) (w2_ := v_kept) (p2 := ((37 : Int32) * p1)) (r := y45) e4) [1, 2] rfl rfl (fun _ => rfl) (fun _ => rfl) rfl rfl (Nat.le_of_ble_eq_true rfl) hl.1 (by rw [hRf]; exact Nat.le_of_ble_eq_true rfl) (by rw [hRl]; exact Nat.le_of_ble_eq_true rfl) ⟨Nat.zero_le _, Nat.zero_le _⟩ dX11_keep_45 rfl (fun H locs _ hS => ?_)
    refine lv_iconst (v := 1) hx hb dX11_keep_48 (by decide) ?_
    obtain rfl := Option.some.inj h
    exact rt_n E rfl hQ (.null) hS dX11_keep_49
  · have h := it_pos c1 h
    refine lv_iconst (v := 0) hx hb dX11_keep_14 (by decide) ?_
    obtain rfl := Option.some.inj h
    exact rt_n E rfl hQ (.null) hS dX11_keep_15
def X11_again_s40 (v_kept : Nat → Int32) (p1 : Int32) (x40 : Int32 × (Nat → Int32)) : Option ((Int32 × (Nat → Int32)) ⊕ ((Nat → Int32))) :=
  if (37 : Int32) ≤ x40.1 then (some (.inr x40.2)) else (gi (((37 : Int32) * p1) + x40.1) 74 (gi x40.1 37 (some (.inl ((x40.1 + (1 : Int32)), (upd x40.2 x40.1.toNatClampNeg (v_kept (((37 : Int32) * p1) + x40.1).toNatClampNeg)))))))
def X11_again (v_undoMany : Int32) (v_came : Int32) (v_now : Nat → Int32) (v_kept : Nat → Int32) (v_isKept : Nat → Int32) (v_keptCame : Nat → Int32) (p1 : Int32) : Option (Int32 × Int32 × Int32 × (Nat → Int32)) :=
  if (X11_in p1 (0 : Int32) (1 : Int32)) = 0 then (some ((0 : Int32), (0 : Int32), v_undoMany, v_now)) else (gi p1 2 (if (v_isKept p1.toNatClampNeg) = 0 then (some ((0 : Int32), (0 : Int32), v_undoMany, v_now)) else (gi p1 2 (if (v_keptCame p1.toNatClampNeg) = v_came then ((lp (fun x40 => X11_again_s40 v_kept p1 x40) 1000 ((0 : Int32), v_now)).bind fun y40 => some ((1 : Int32), (0 : Int32), (0 : Int32), y40)) else (some ((0 : Int32), (0 : Int32), v_undoMany, v_now))))))
set_option maxHeartbeats 4000000 in
set_option maxRecDepth 100000 in
theorem c_X11_again {l : Launch} {D : va_G} {cy : Nat → ClassId} (q0 : Nat) (q1 : Nat) (q2 : Nat) (q3 : Nat) (q4 : Nat) (u0_1 : Value) (u0_2 : Value) (u0_3 : Value) (u0_4 : Value) (u0_5 : Value) (u0_7 : Value) (u0_8 : Value) (u0_9 : Value) (u0_10 : Value) (u0_11 : Value) (u0_12 : Value) (u0_13 : Value) (u0_14 : Value) (u0_15 : Value) (u0_16 : Value) (u0_17 : Value) (u0_18 : Value) (u0_20 : Value) (u0_21 : Value) (u0_22 : Value) (u0_23 : Value) (u0_24 : Value) (u0_25 : Value) (u0_26 : Value) (u0_27 : Value) (u0_28 : Value) (u0_29 : Value) (u0_30 : Value) (u0_31 : Value) (u0_32 : Value) (u0_33 : Value) (u0_34 : Value) (u0_35 : Value) (u0_36 : Value) (v_thrown : Int32) (v_undoMany : Int32) (v_came : Int32) (v_now : Nat → Int32) (v_kept : Nat → Int32) (v_isKept : Nat → Int32) (v_keptCame : Nat → Int32) (p1 : Int32) (r : Int32 × Int32 × Int32 × (Nat → Int32)) (h : X11_again v_undoMany v_came v_now v_kept v_isKept v_keptCame p1 = some r) : Ct l yX11_again cX11_again 3 (some .boolean) 1 22 D cy [.ref q0, .int p1] [oX11 q0 (.ref q1) u0_1 u0_2 u0_3 u0_4 u0_5 (.int v_thrown) u0_7 u0_8 u0_9 u0_10 u0_11 u0_12 u0_13 u0_14 u0_15 u0_16 u0_17 u0_18 (.int v_undoMany) u0_20 u0_21 u0_22 u0_23 u0_24 u0_25 u0_26 u0_27 u0_28 u0_29 u0_30 u0_31 u0_32 u0_33 u0_34 u0_35 u0_36 (.int v_came) (.ref q2) (.ref q3) (.ref q4), aI cy q1 37 v_now, aI cy q2 74 v_kept, aZ cy q3 2 v_isKept, aI cy q4 2 v_keptCame] (fun _ => [oX11 q0 (.ref q1) u0_1 u0_2 u0_3 u0_4 u0_5 (.int r.2.1) u0_7 u0_8 u0_9 u0_10 u0_11 u0_12 u0_13 u0_14 u0_15 u0_16 u0_17 u0_18 (.int r.2.2.1) u0_20 u0_21 u0_22 u0_23 u0_24 u0_25 u0_26 u0_27 u0_28 u0_29 u0_30 u0_31 u0_32 u0_33 u0_34 u0_35 u0_36 (.int v_came) (.ref q2) (.ref q3) (.ref q4), aI cy q1 37 r.2.2.2, aI cy q2 74 v_kept, aZ cy q3 2 v_isKept, aI cy q4 2 v_keptCame]) (some (.int r.1)) := by
  refine Ct.mk kX11_again (by decide +kernel) (Nat.le_of_ble_eq_true rfl) ?_
  intro p e s m below meth c A ls args R Q hRf hRl hQ E H locs hS hl
  have hx := E.x
  have hb := E.b
  have hl : lv_has ls 3 [(0, .ref q0), (1, .int p1)] := hl
  unfold X11_again at h
  refine lv_aload_n hx hb dX11_again_0 rfl (lv_at hl 0 rfl) ?_
  refine lv_iconst (v := 0) hx hb dX11_again_1 (by decide) ?_
  refine r_put (ws' := [oX11 q0 (.ref q1) u0_1 u0_2 u0_3 u0_4 u0_5 (.int (0 : Int32)) u0_7 u0_8 u0_9 u0_10 u0_11 u0_12 u0_13 u0_14 u0_15 u0_16 u0_17 u0_18 (.int v_undoMany) u0_20 u0_21 u0_22 u0_23 u0_24 u0_25 u0_26 u0_27 u0_28 u0_29 u0_30 u0_31 u0_32 u0_33 u0_34 u0_35 u0_36 (.int v_came) (.ref q2) (.ref q3) (.ref q4), aI cy q1 37 v_now, aI cy q2 74 v_kept, aZ cy q3 2 v_isKept, aI cy q4 2 v_keptCame]) E frX11_85 hS 0 rfl (Nat.le_of_ble_eq_true rfl) rfl rfl rfl rfl dX11_again_2 (fun H locs hS => ?_)
  refine lv_iload_n hx hb dX11_again_5 rfl (lv_at hl 1 rfl) ?_
  refine lv_iconst (v := 0) hx hb dX11_again_6 (by decide) ?_
  refine lv_iconst (v := 1) hx hb dX11_again_7 (by decide) ?_
  refine ct_S (ws' := fun _ => [oX11 q0 (.ref q1) u0_1 u0_2 u0_3 u0_4 u0_5 (.int (0 : Int32)) u0_7 u0_8 u0_9 u0_10 u0_11 u0_12 u0_13 u0_14 u0_15 u0_16 u0_17 u0_18 (.int v_undoMany) u0_20 u0_21 u0_22 u0_23 u0_24 u0_25 u0_26 u0_27 u0_28 u0_29 u0_30 u0_31 u0_32 u0_33 u0_34 u0_35 u0_36 (.int v_came) (.ref q2) (.ref q3) (.ref q4), aI cy q1 37 v_now, aI cy q2 74 v_kept, aZ cy q3 2 v_isKept, aI cy q4 2 v_keptCame]) (st' := [.int (X11_in p1 (0 : Int32) (1 : Int32))]) (rest := []) E hS slX11_95 (c_X11_in (l := l) (D := D) (cy := cy) (p0 := p1) (p1 := (0 : Int32)) (p2 := (1 : Int32)) (r := (X11_in p1 (0 : Int32) (1 : Int32))) rfl) [] rfl rfl (fun _ => rfl) (fun _ => rfl) rfl rfl (Nat.le_of_ble_eq_true rfl) hl.1 (by rw [hRf]; exact Nat.le_of_ble_eq_true rfl) (by rw [hRl]; exact Nat.le_of_ble_eq_true rfl) ⟨Nat.zero_le _, Nat.zero_le _⟩ dX11_again_8 rfl (fun H locs _ hS => ?_)
  refine lv_if_eq (tgt := 36) hx hb dX11_again_11 (by decide) (fun c1 => ?_) (fun c1 => ?_)
  · have h := it_pos c1 h
    refine lv_iconst (v := 0) hx hb dX11_again_36 (by decide) ?_
    obtain rfl := Option.some.inj h
    exact rt_n E rfl hQ (.null) hS dX11_again_37
  · have h := it_neg c1 h
    refine lv_aload_n hx hb dX11_again_14 rfl (lv_at hl 0 rfl) ?_
    refine r_get E frX11_79 hS 0 rfl rfl dX11_again_15 ?_
    refine lv_iload_n hx hb dX11_again_18 rfl (lv_at hl 1 rfl) ?_
    obtain ⟨g2, h⟩ := gi_some h
    refine r_zald E hS 3 rfl g2 dX11_again_19 ?_
    refine lv_if_eq (tgt := 36) hx hb dX11_again_20 (by decide) (fun c3 => ?_) (fun c3 => ?_)
    · have h := it_pos c3 h
      refine lv_iconst (v := 0) hx hb dX11_again_36 (by decide) ?_
      obtain rfl := Option.some.inj h
      exact rt_n E rfl hQ (.null) hS dX11_again_37
    · have h := it_neg c3 h
      refine lv_aload_n hx hb dX11_again_23 rfl (lv_at hl 0 rfl) ?_
      refine r_get E frX11_82 hS 0 rfl rfl dX11_again_24 ?_
      refine lv_iload_n hx hb dX11_again_27 rfl (lv_at hl 1 rfl) ?_
      obtain ⟨g4, h⟩ := gi_some h
      refine r_iald E hS 4 rfl g4 dX11_again_28 ?_
      refine lv_aload_n hx hb dX11_again_29 rfl (lv_at hl 0 rfl) ?_
      refine r_get E frX11_148 hS 0 rfl rfl dX11_again_30 ?_
      refine lv_icmp_eq (tgt := 38) hx hb dX11_again_33 (by decide) (fun c5 => ?_) (fun c5 => ?_)
      · have h := it_pos c5 h
        refine lv_iconst (v := 0) hx hb dX11_again_38 (by decide) ?_
        refine lv_istore_n (lv' := [(2, .int (0 : Int32)), (0, .ref q0), (1, .int p1)]) hx hb dX11_again_39 rfl hl (by decide) rfl (fun ls hl => ?_)
        have hL40 : ∀ (n : Nat) (x40 : Int32 × (Nat → Int32)) (y40 : (Nat → Int32)) (H : Heap) (locs : List Loc) (ls : Array Slot), lp (fun x40 => X11_again_s40 v_kept p1 x40) n x40 = some y40 → Sv D A s.heap [oX11 q0 (.ref q1) u0_1 u0_2 u0_3 u0_4 u0_5 (.int (0 : Int32)) u0_7 u0_8 u0_9 u0_10 u0_11 u0_12 u0_13 u0_14 u0_15 u0_16 u0_17 u0_18 (.int v_undoMany) u0_20 u0_21 u0_22 u0_23 u0_24 u0_25 u0_26 u0_27 u0_28 u0_29 u0_30 u0_31 u0_32 u0_33 u0_34 u0_35 u0_36 (.int v_came) (.ref q2) (.ref q3) (.ref q4), aI cy q1 37 x40.2, aI cy q2 74 v_kept, aZ cy q3 2 v_isKept, aI cy q4 2 v_keptCame] H locs → lv_has ls 3 [(0, .ref q0), (1, .int p1), (2, .int x40.1)] → (∀ (H : Heap) (locs : List Loc) (ls : Array Slot), Sv D A s.heap [oX11 q0 (.ref q1) u0_1 u0_2 u0_3 u0_4 u0_5 (.int (0 : Int32)) u0_7 u0_8 u0_9 u0_10 u0_11 u0_12 u0_13 u0_14 u0_15 u0_16 u0_17 u0_18 (.int v_undoMany) u0_20 u0_21 u0_22 u0_23 u0_24 u0_25 u0_26 u0_27 u0_28 u0_29 u0_30 u0_31 u0_32 u0_33 u0_34 u0_35 u0_36 (.int v_came) (.ref q2) (.ref q3) (.ref q4), aI cy q1 37 y40, aI cy q2 74 v_kept, aZ cy q3 2 v_isKept, aI cy q4 2 v_keptCame] H locs → lv_has ls 3 [(0, .ref q0)] → W p l e R s m args below meth c H locs 0 0 Q (F0 m 69 ls [])) → W p l e R s m args below meth c H locs 0 0 Q (F0 m 40 ls []) := by
          intro n
          induction n with
          | zero =>
            intro x40 y40 H locs ls h
            exact lp_zero h
          | succ n ih40 =>
            intro x40 y40 H locs ls h hS hl hk40_0
            obtain ⟨z40, h, hz40a, hz40b⟩ := lp_succ h
            have h : X11_again_s40 v_kept p1 x40 = some z40 := h
            unfold X11_again_s40 at h
            refine lv_iload_n hx hb dX11_again_40 rfl (lv_at hl 2 rfl) ?_
            refine lv_bipush (v := 37) hx hb dX11_again_41 (by decide) ?_
            refine lv_icmp_ge (tgt := 69) hx hb dX11_again_43 (by decide) (fun c6 => ?_) (fun c6 => ?_)
            · have h := it_pos c6 h
              obtain rfl := hz40b _ (Option.some.inj h).symm
              exact hk40_0  H locs ls hS (lv_sub hl [0] rfl)
            · have h := it_neg c6 h
              refine lv_aload_n hx hb dX11_again_46 rfl (lv_at hl 0 rfl) ?_
              refine r_get E frX11_9 hS 0 rfl rfl dX11_again_47 ?_
              refine lv_iload_n hx hb dX11_again_50 rfl (lv_at hl 2 rfl) ?_
              refine lv_aload_n hx hb dX11_again_51 rfl (lv_at hl 0 rfl) ?_
              refine r_get E frX11_76 hS 0 rfl rfl dX11_again_52 ?_
              refine lv_bipush (v := 37) hx hb dX11_again_55 (by decide) ?_
              refine lv_iload_n hx hb dX11_again_57 rfl (lv_at hl 1 rfl) ?_
              refine lv_imul hx hb dX11_again_58 ?_
              refine lv_iload_n hx hb dX11_again_59 rfl (lv_at hl 2 rfl) ?_
              refine lv_iadd hx hb dX11_again_60 ?_
              obtain ⟨g7, h⟩ := gi_some h
              refine r_iald E hS 2 rfl g7 dX11_again_61 ?_
              obtain ⟨g8, h⟩ := gi_some h
              refine r_iast (ws' := [oX11 q0 (.ref q1) u0_1 u0_2 u0_3 u0_4 u0_5 (.int (0 : Int32)) u0_7 u0_8 u0_9 u0_10 u0_11 u0_12 u0_13 u0_14 u0_15 u0_16 u0_17 u0_18 (.int v_undoMany) u0_20 u0_21 u0_22 u0_23 u0_24 u0_25 u0_26 u0_27 u0_28 u0_29 u0_30 u0_31 u0_32 u0_33 u0_34 u0_35 u0_36 (.int v_came) (.ref q2) (.ref q3) (.ref q4), aI cy q1 37 (upd x40.2 x40.1.toNatClampNeg (v_kept (((37 : Int32) * p1) + x40.1).toNatClampNeg)), aI cy q2 74 v_kept, aZ cy q3 2 v_isKept, aI cy q4 2 v_keptCame]) E hS 1 rfl g8 rfl dX11_again_62 (fun H locs hS => ?_)
              refine lv_iinc (v := (x40.1 + (1 : Int32))) (lv' := [(2, .int (x40.1 + (1 : Int32))), (0, .ref q0), (1, .int p1)]) hx hb dX11_again_63 hl (k := 2) rfl rfl (by decide) rfl (fun ls hl => ?_)
              refine lv_goto (tgt := 40) hx hb dX11_again_66 (by decide) ?_
              exact ih40 ((x40.1 + (1 : Int32)), (upd x40.2 x40.1.toNatClampNeg (v_kept (((37 : Int32) * p1) + x40.1).toNatClampNeg))) y40  H locs ls (hz40a _ (Option.some.inj h).symm) hS (lv_sub hl [1, 2, 0] rfl) hk40_0
        obtain ⟨y40, e40, h⟩ := bd_some h
        refine hL40 1000 ((0 : Int32), v_now) y40  H locs ls e40 hS (lv_sub hl [1, 2, 0] rfl) (fun H locs ls hS hl => ?_)
        refine lv_aload_n hx hb dX11_again_69 rfl (lv_at hl 0 rfl) ?_
        refine lv_iconst (v := 0) hx hb dX11_again_70 (by decide) ?_
        refine r_put (ws' := [oX11 q0 (.ref q1) u0_1 u0_2 u0_3 u0_4 u0_5 (.int (0 : Int32)) u0_7 u0_8 u0_9 u0_10 u0_11 u0_12 u0_13 u0_14 u0_15 u0_16 u0_17 u0_18 (.int (0 : Int32)) u0_20 u0_21 u0_22 u0_23 u0_24 u0_25 u0_26 u0_27 u0_28 u0_29 u0_30 u0_31 u0_32 u0_33 u0_34 u0_35 u0_36 (.int v_came) (.ref q2) (.ref q3) (.ref q4), aI cy q1 37 y40, aI cy q2 74 v_kept, aZ cy q3 2 v_isKept, aI cy q4 2 v_keptCame]) E frX11_145 hS 0 rfl (Nat.le_of_ble_eq_true rfl) rfl rfl rfl rfl dX11_again_71 (fun H locs hS => ?_)
        refine lv_iconst (v := 1) hx hb dX11_again_74 (by decide) ?_
        obtain rfl := Option.some.inj h
        exact rt_n E rfl hQ (.null) hS dX11_again_75
      · have h := it_neg c5 h
        refine lv_iconst (v := 0) hx hb dX11_again_36 (by decide) ?_
        obtain rfl := Option.some.inj h
        exact rt_n E rfl hQ (.null) hS dX11_again_37
def X11_allWants_s4 (v_people : Int32) (v_now : Nat → Int32) (x4 : Int32 × Int32) : Option ((Int32 × Int32) ⊕ (Int32)) :=
  if v_people ≤ x4.2 then (some (.inr x4.1)) else (gi ((28 : Int32) + x4.2) 37 (some (.inl ((x4.1 + (J6_bitCount_0f7a4 (v_now ((28 : Int32) + x4.2).toNatClampNeg))), (x4.2 + (1 : Int32))))))
def X11_allWants (v_people : Int32) (v_now : Nat → Int32) : Option (Int32) :=
  (lp (fun x4 => X11_allWants_s4 v_people v_now x4) 1000 ((0 : Int32), (0 : Int32))).bind fun y4 => some y4
set_option maxHeartbeats 4000000 in
set_option maxRecDepth 100000 in
theorem c_X11_allWants {l : Launch} {D : va_G} {cy : Nat → ClassId} (q0 : Nat) (q1 : Nat) (u0_2 : Value) (u0_3 : Value) (u0_4 : Value) (u0_5 : Value) (u0_6 : Value) (u0_7 : Value) (u0_8 : Value) (u0_9 : Value) (u0_10 : Value) (u0_11 : Value) (u0_12 : Value) (u0_13 : Value) (u0_14 : Value) (u0_15 : Value) (u0_16 : Value) (u0_17 : Value) (u0_18 : Value) (u0_19 : Value) (u0_20 : Value) (u0_21 : Value) (u0_22 : Value) (u0_23 : Value) (u0_24 : Value) (u0_25 : Value) (u0_26 : Value) (u0_27 : Value) (u0_28 : Value) (u0_29 : Value) (u0_30 : Value) (u0_31 : Value) (u0_32 : Value) (u0_33 : Value) (u0_34 : Value) (u0_35 : Value) (u0_36 : Value) (u0_37 : Value) (u0_38 : Value) (u0_39 : Value) (u0_40 : Value) (v_people : Int32) (v_now : Nat → Int32) (r : Int32) (h : X11_allWants v_people v_now = some r) : Ct l yX11_allWants cX11_allWants 3 (some .int) 1 20 D cy [.ref q0] [oX11 q0 (.ref q1) (.int v_people) u0_2 u0_3 u0_4 u0_5 u0_6 u0_7 u0_8 u0_9 u0_10 u0_11 u0_12 u0_13 u0_14 u0_15 u0_16 u0_17 u0_18 u0_19 u0_20 u0_21 u0_22 u0_23 u0_24 u0_25 u0_26 u0_27 u0_28 u0_29 u0_30 u0_31 u0_32 u0_33 u0_34 u0_35 u0_36 u0_37 u0_38 u0_39 u0_40, aI cy q1 37 v_now] (fun _ => [oX11 q0 (.ref q1) (.int v_people) u0_2 u0_3 u0_4 u0_5 u0_6 u0_7 u0_8 u0_9 u0_10 u0_11 u0_12 u0_13 u0_14 u0_15 u0_16 u0_17 u0_18 u0_19 u0_20 u0_21 u0_22 u0_23 u0_24 u0_25 u0_26 u0_27 u0_28 u0_29 u0_30 u0_31 u0_32 u0_33 u0_34 u0_35 u0_36 u0_37 u0_38 u0_39 u0_40, aI cy q1 37 v_now]) (some (.int r)) := by
  refine Ct.mk kX11_allWants (by decide +kernel) (Nat.le_of_ble_eq_true rfl) ?_
  intro p e s m below meth c A ls args R Q hRf hRl hQ E H locs hS hl
  have hx := E.x
  have hb := E.b
  have hl : lv_has ls 3 [(0, .ref q0)] := hl
  unfold X11_allWants at h
  refine lv_iconst (v := 0) hx hb dX11_allWants_0 (by decide) ?_
  refine lv_istore_n (lv' := [(1, .int (0 : Int32)), (0, .ref q0)]) hx hb dX11_allWants_1 rfl hl (by decide) rfl (fun ls hl => ?_)
  refine lv_iconst (v := 0) hx hb dX11_allWants_2 (by decide) ?_
  refine lv_istore_n (lv' := [(2, .int (0 : Int32)), (1, .int (0 : Int32)), (0, .ref q0)]) hx hb dX11_allWants_3 rfl hl (by decide) rfl (fun ls hl => ?_)
  have hL4 : ∀ (n : Nat) (x4 : Int32 × Int32) (y4 : Int32) (H : Heap) (locs : List Loc) (ls : Array Slot), lp (fun x4 => X11_allWants_s4 v_people v_now x4) n x4 = some y4 → Sv D A s.heap [oX11 q0 (.ref q1) (.int v_people) u0_2 u0_3 u0_4 u0_5 u0_6 u0_7 u0_8 u0_9 u0_10 u0_11 u0_12 u0_13 u0_14 u0_15 u0_16 u0_17 u0_18 u0_19 u0_20 u0_21 u0_22 u0_23 u0_24 u0_25 u0_26 u0_27 u0_28 u0_29 u0_30 u0_31 u0_32 u0_33 u0_34 u0_35 u0_36 u0_37 u0_38 u0_39 u0_40, aI cy q1 37 v_now] H locs → lv_has ls 3 [(0, .ref q0), (1, .int x4.1), (2, .int x4.2)] → (∀ (H : Heap) (locs : List Loc) (ls : Array Slot), Sv D A s.heap [oX11 q0 (.ref q1) (.int v_people) u0_2 u0_3 u0_4 u0_5 u0_6 u0_7 u0_8 u0_9 u0_10 u0_11 u0_12 u0_13 u0_14 u0_15 u0_16 u0_17 u0_18 u0_19 u0_20 u0_21 u0_22 u0_23 u0_24 u0_25 u0_26 u0_27 u0_28 u0_29 u0_30 u0_31 u0_32 u0_33 u0_34 u0_35 u0_36 u0_37 u0_38 u0_39 u0_40, aI cy q1 37 v_now] H locs → lv_has ls 3 [(1, .int y4)] → W p l e R s m args below meth c H locs 0 0 Q (F0 m 33 ls [])) → W p l e R s m args below meth c H locs 0 0 Q (F0 m 4 ls []) := by
    intro n
    induction n with
    | zero =>
      intro x4 y4 H locs ls h
      exact lp_zero h
    | succ n ih4 =>
      intro x4 y4 H locs ls h hS hl hk4_0
      obtain ⟨z4, h, hz4a, hz4b⟩ := lp_succ h
      have h : X11_allWants_s4 v_people v_now x4 = some z4 := h
      unfold X11_allWants_s4 at h
      refine lv_iload_n hx hb dX11_allWants_4 rfl (lv_at hl 2 rfl) ?_
      refine lv_aload_n hx hb dX11_allWants_5 rfl (lv_at hl 0 rfl) ?_
      refine r_get E frX11_92 hS 0 rfl rfl dX11_allWants_6 ?_
      refine lv_icmp_ge (tgt := 33) hx hb dX11_allWants_9 (by decide) (fun c1 => ?_) (fun c1 => ?_)
      · have h := it_pos c1 h
        obtain rfl := hz4b _ (Option.some.inj h).symm
        exact hk4_0  H locs ls hS (lv_sub hl [1] rfl)
      · have h := it_neg c1 h
        refine lv_iload_n hx hb dX11_allWants_12 rfl (lv_at hl 1 rfl) ?_
        refine lv_aload_n hx hb dX11_allWants_13 rfl (lv_at hl 0 rfl) ?_
        refine r_get E frX11_9 hS 0 rfl rfl dX11_allWants_14 ?_
        refine lv_bipush (v := 28) hx hb dX11_allWants_17 (by decide) ?_
        refine lv_iload_n hx hb dX11_allWants_19 rfl (lv_at hl 2 rfl) ?_
        refine lv_iadd hx hb dX11_allWants_20 ?_
        obtain ⟨g2, h⟩ := gi_some h
        refine r_iald E hS 1 rfl g2 dX11_allWants_21 ?_
        refine ct_S (ws' := fun _ => [oX11 q0 (.ref q1) (.int v_people) u0_2 u0_3 u0_4 u0_5 u0_6 u0_7 u0_8 u0_9 u0_10 u0_11 u0_12 u0_13 u0_14 u0_15 u0_16 u0_17 u0_18 u0_19 u0_20 u0_21 u0_22 u0_23 u0_24 u0_25 u0_26 u0_27 u0_28 u0_29 u0_30 u0_31 u0_32 u0_33 u0_34 u0_35 u0_36 u0_37 u0_38 u0_39 u0_40, aI cy q1 37 v_now]) (st' := [.int (J6_bitCount_0f7a4 (v_now ((28 : Int32) + x4.2).toNatClampNeg)), .int x4.1]) (rest := [.int x4.1]) E hS slX11_204 (c_J6_bitCount_0f7a4 (l := l) (D := D) (cy := cy) (p0 := (v_now ((28 : Int32) + x4.2).toNatClampNeg)) (r := (J6_bitCount_0f7a4 (v_now ((28 : Int32) + x4.2).toNatClampNeg))) rfl) [] rfl rfl (fun _ => rfl) (fun _ => rfl) rfl rfl (Nat.le_of_ble_eq_true rfl) hl.1 (by rw [hRf]; exact Nat.le_of_ble_eq_true rfl) (by rw [hRl]; exact Nat.le_of_ble_eq_true rfl) ⟨Nat.zero_le _, Nat.zero_le _⟩ dX11_allWants_22 rfl (fun H locs _ hS => ?_)
        refine lv_iadd hx hb dX11_allWants_25 ?_
        refine lv_istore_n (lv' := [(1, .int (x4.1 + (J6_bitCount_0f7a4 (v_now ((28 : Int32) + x4.2).toNatClampNeg)))), (0, .ref q0), (2, .int x4.2)]) hx hb dX11_allWants_26 rfl hl (by decide) rfl (fun ls hl => ?_)
        refine lv_iinc (v := (x4.2 + (1 : Int32))) (lv' := [(2, .int (x4.2 + (1 : Int32))), (1, .int (x4.1 + (J6_bitCount_0f7a4 (v_now ((28 : Int32) + x4.2).toNatClampNeg)))), (0, .ref q0)]) hx hb dX11_allWants_27 hl (k := 2) rfl rfl (by decide) rfl (fun ls hl => ?_)
        refine lv_goto (tgt := 4) hx hb dX11_allWants_30 (by decide) ?_
        exact ih4 ((x4.1 + (J6_bitCount_0f7a4 (v_now ((28 : Int32) + x4.2).toNatClampNeg))), (x4.2 + (1 : Int32))) y4  H locs ls (hz4a _ (Option.some.inj h).symm) hS (lv_sub hl [2, 1, 0] rfl) hk4_0
  obtain ⟨y4, e4, h⟩ := bd_some h
  refine hL4 1000 ((0 : Int32), (0 : Int32)) y4  H locs ls e4 hS (lv_sub hl [2, 1, 0] rfl) (fun H locs ls hS hl => ?_)
  refine lv_iload_n hx hb dX11_allWants_33 rfl (lv_at hl 0 rfl) ?_
  obtain rfl := Option.some.inj h
  exact rt_i E hQ (.null) hS dX11_allWants_34
def X11_count (v_people : Int32) (v_typed : Int32) (v_rowMany : Int32) (v_undoMany : Int32) (v_heardMany : Int32) (v_sawMany : Int32) (v_now : Nat → Int32) (p1 : Int32) : Option (Int32 × Int32) :=
  if p1 = 0 then (some (v_people, (0 : Int32))) else (if p1 = 1 then (gi (35 : Int32) 37 (some ((v_now (35 : Int32).toNatClampNeg), (0 : Int32)))) else (if p1 = 2 then (gi (36 : Int32) 37 (some ((v_now (36 : Int32).toNatClampNeg), (0 : Int32)))) else (if p1 = 3 then ((X11_allWants v_people v_now).bind fun y94 => some (y94, (0 : Int32))) else (if p1 = 4 then ((X11_sumOf v_people 37 v_now (0 : Int32)).bind fun y104 => some (y104, (0 : Int32))) else (if p1 = 5 then ((X11_sumOf v_people 37 v_now (7 : Int32)).bind fun y115 => some (y115, (0 : Int32))) else (if p1 = 6 then ((X11_sumOf v_people 37 v_now (14 : Int32)).bind fun y126 => some (y126, (0 : Int32))) else (if p1 = 7 then ((X11_sumOf v_people 37 v_now (21 : Int32)).bind fun y137 => some (y137, (0 : Int32))) else (if p1 = 8 then (some (v_heardMany, (0 : Int32))) else (if p1 = 9 then (some (v_sawMany, (0 : Int32))) else (if p1 = 10 then (some (v_undoMany, (0 : Int32))) else (if p1 = 11 then (some (v_rowMany, (0 : Int32))) else (if p1 = 12 then (some (v_typed, (0 : Int32))) else (some ((-1 : Int32), (0 : Int32)))))))))))))))
set_option maxHeartbeats 4000000 in
set_option maxRecDepth 100000 in
theorem c_X11_count {l : Launch} {D : va_G} {cy : Nat → ClassId} (q0 : Nat) (q1 : Nat) (u0_2 : Value) (u0_4 : Value) (u0_7 : Value) (u0_8 : Value) (u0_9 : Value) (u0_10 : Value) (u0_11 : Value) (u0_12 : Value) (u0_13 : Value) (u0_14 : Value) (u0_15 : Value) (u0_16 : Value) (u0_17 : Value) (u0_18 : Value) (u0_20 : Value) (u0_21 : Value) (u0_22 : Value) (u0_23 : Value) (u0_24 : Value) (u0_25 : Value) (u0_26 : Value) (u0_27 : Value) (u0_28 : Value) (u0_29 : Value) (u0_30 : Value) (u0_32 : Value) (u0_33 : Value) (u0_35 : Value) (u0_36 : Value) (u0_37 : Value) (u0_38 : Value) (u0_39 : Value) (u0_40 : Value) (v_people : Int32) (v_typed : Int32) (v_rowMany : Int32) (v_thrown : Int32) (v_undoMany : Int32) (v_heardMany : Int32) (v_sawMany : Int32) (v_now : Nat → Int32) (p1 : Int32) (r : Int32 × Int32) (h : X11_count v_people v_typed v_rowMany v_undoMany v_heardMany v_sawMany v_now p1 = some r) : Ct l yX11_count cX11_count 2 (some .int) 2 42 D cy [.ref q0, .int p1] [oX11 q0 (.ref q1) (.int v_people) u0_2 (.int v_typed) u0_4 (.int v_rowMany) (.int v_thrown) u0_7 u0_8 u0_9 u0_10 u0_11 u0_12 u0_13 u0_14 u0_15 u0_16 u0_17 u0_18 (.int v_undoMany) u0_20 u0_21 u0_22 u0_23 u0_24 u0_25 u0_26 u0_27 u0_28 u0_29 u0_30 (.int v_heardMany) u0_32 u0_33 (.int v_sawMany) u0_35 u0_36 u0_37 u0_38 u0_39 u0_40, aI cy q1 37 v_now] (fun _ => [oX11 q0 (.ref q1) (.int v_people) u0_2 (.int v_typed) u0_4 (.int v_rowMany) (.int r.2) u0_7 u0_8 u0_9 u0_10 u0_11 u0_12 u0_13 u0_14 u0_15 u0_16 u0_17 u0_18 (.int v_undoMany) u0_20 u0_21 u0_22 u0_23 u0_24 u0_25 u0_26 u0_27 u0_28 u0_29 u0_30 (.int v_heardMany) u0_32 u0_33 (.int v_sawMany) u0_35 u0_36 u0_37 u0_38 u0_39 u0_40, aI cy q1 37 v_now]) (some (.int r.1)) := by
  refine Ct.mk kX11_count (by decide +kernel) (Nat.le_of_ble_eq_true rfl) ?_
  intro p e s m below meth c A ls args R Q hRf hRl hQ E H locs hS hl
  have hx := E.x
  have hb := E.b
  have hl : lv_has ls 2 [(0, .ref q0), (1, .int p1)] := hl
  unfold X11_count at h
  refine lv_aload_n hx hb dX11_count_0 rfl (lv_at hl 0 rfl) ?_
  refine lv_iconst (v := 0) hx hb dX11_count_1 (by decide) ?_
  refine r_put (ws' := [oX11 q0 (.ref q1) (.int v_people) u0_2 (.int v_typed) u0_4 (.int v_rowMany) (.int (0 : Int32)) u0_7 u0_8 u0_9 u0_10 u0_11 u0_12 u0_13 u0_14 u0_15 u0_16 u0_17 u0_18 (.int v_undoMany) u0_20 u0_21 u0_22 u0_23 u0_24 u0_25 u0_26 u0_27 u0_28 u0_29 u0_30 (.int v_heardMany) u0_32 u0_33 (.int v_sawMany) u0_35 u0_36 u0_37 u0_38 u0_39 u0_40, aI cy q1 37 v_now]) E frX11_85 hS 0 rfl (Nat.le_of_ble_eq_true rfl) rfl rfl rfl rfl dX11_count_2 (fun H locs hS => ?_)
  refine lv_iload_n hx hb dX11_count_5 rfl (lv_at hl 1 rfl) ?_
  rcases Decidable.em (p1 = 0) with c1 | c1
  · have h := it_pos c1 h
    refine lv_tableIn (off := 66) (tgt := 72) hx hb dX11_count_6 (by rw [c1]; decide) (by rw [c1]; decide) (by rw [c1]; rfl) (by decide) ?_
    refine lv_aload_n hx hb dX11_count_72 rfl (lv_at hl 0 rfl) ?_
    refine r_get E frX11_92 hS 0 rfl rfl dX11_count_73 ?_
    obtain rfl := Option.some.inj h
    exact rt_i E hQ (.null) hS dX11_count_76
  · have h := it_neg c1 h
    rcases Decidable.em (p1 = 1) with c2 | c2
    · have h := it_pos c2 h
      refine lv_tableIn (off := 71) (tgt := 77) hx hb dX11_count_6 (by rw [c2]; decide) (by rw [c2]; decide) (by rw [c2]; rfl) (by decide) ?_
      refine lv_aload_n hx hb dX11_count_77 rfl (lv_at hl 0 rfl) ?_
      refine r_get E frX11_9 hS 0 rfl rfl dX11_count_78 ?_
      refine lv_bipush (v := 35) hx hb dX11_count_81 (by decide) ?_
      obtain ⟨g3, h⟩ := gi_some h
      refine r_iald E hS 1 rfl g3 dX11_count_83 ?_
      obtain rfl := Option.some.inj h
      exact rt_i E hQ (.null) hS dX11_count_84
    · have h := it_neg c2 h
      rcases Decidable.em (p1 = 2) with c4 | c4
      · have h := it_pos c4 h
        refine lv_tableIn (off := 79) (tgt := 85) hx hb dX11_count_6 (by rw [c4]; decide) (by rw [c4]; decide) (by rw [c4]; rfl) (by decide) ?_
        refine lv_aload_n hx hb dX11_count_85 rfl (lv_at hl 0 rfl) ?_
        refine r_get E frX11_9 hS 0 rfl rfl dX11_count_86 ?_
        refine lv_bipush (v := 36) hx hb dX11_count_89 (by decide) ?_
        obtain ⟨g5, h⟩ := gi_some h
        refine r_iald E hS 1 rfl g5 dX11_count_91 ?_
        obtain rfl := Option.some.inj h
        exact rt_i E hQ (.null) hS dX11_count_92
      · have h := it_neg c4 h
        rcases Decidable.em (p1 = 3) with c6 | c6
        · have h := it_pos c6 h
          refine lv_tableIn (off := 87) (tgt := 93) hx hb dX11_count_6 (by rw [c6]; decide) (by rw [c6]; decide) (by rw [c6]; rfl) (by decide) ?_
          refine lv_aload_n hx hb dX11_count_93 rfl (lv_at hl 0 rfl) ?_
          obtain ⟨y94, e7, h⟩ := bd_some h
          refine ct_V (ws' := fun _ => [oX11 q0 (.ref q1) (.int v_people) u0_2 (.int v_typed) u0_4 (.int v_rowMany) (.int (0 : Int32)) u0_7 u0_8 u0_9 u0_10 u0_11 u0_12 u0_13 u0_14 u0_15 u0_16 u0_17 u0_18 (.int v_undoMany) u0_20 u0_21 u0_22 u0_23 u0_24 u0_25 u0_26 u0_27 u0_28 u0_29 u0_30 (.int v_heardMany) u0_32 u0_33 (.int v_sawMany) u0_35 u0_36 u0_37 u0_38 u0_39 u0_40, aI cy q1 37 v_now]) (st' := [.int y94]) (rest := []) E hS vlX11_370 (c_X11_allWants (l := l) (D := D) (cy := cy) (q0 := q0) (q1 := q1) (u0_2 := u0_2) (u0_3 := .int v_typed) (u0_4 := u0_4) (u0_5 := .int v_rowMany) (u0_6 := .int (0 : Int32)) (u0_7 := u0_7) (u0_8 := u0_8) (u0_9 := u0_9) (u0_10 := u0_10) (u0_11 := u0_11) (u0_12 := u0_12) (u0_13 := u0_13) (u0_14 := u0_14) (u0_15 := u0_15) (u0_16 := u0_16) (u0_17 := u0_17) (u0_18 := u0_18) (u0_19 := .int v_undoMany) (u0_20 := u0_20) (u0_21 := u0_21) (u0_22 := u0_22) (u0_23 := u0_23) (u0_24 := u0_24) (u0_25 := u0_25) (u0_26 := u0_26) (u0_27 := u0_27) (u0_28 := u0_28) (u0_29 := u0_29) (u0_30 := u0_30) (u0_31 := .int v_heardMany) (u0_32 := u0_32) (u0_33 := u0_33) (u0_34 := .int v_sawMany) (u0_35 := u0_35) (u0_36 := u0_36) (u0_37 := u0_37) (u0_38 := u0_38) (u0_39 := u0_39) (u0_40 := u0_40) (v_people := v_people) (v_now := v_now) (r := y94) e7) [0, 1] rfl rfl (fun _ => rfl) (fun _ => rfl) rfl rfl rfl rfl (Nat.le_of_ble_eq_true rfl) hl.1 (by rw [hRf]; exact Nat.le_of_ble_eq_true rfl) (by rw [hRl]; exact Nat.le_of_ble_eq_true rfl) ⟨Nat.zero_le _, Nat.zero_le _⟩ dX11_count_94 rfl (fun H locs _ hS => ?_)
          obtain rfl := Option.some.inj h
          exact rt_i E hQ (.null) hS dX11_count_97
        · have h := it_neg c6 h
          rcases Decidable.em (p1 = 4) with c8 | c8
          · have h := it_pos c8 h
            refine lv_tableIn (off := 92) (tgt := 98) hx hb dX11_count_6 (by rw [c8]; decide) (by rw [c8]; decide) (by rw [c8]; rfl) (by decide) ?_
            refine lv_aload_n hx hb dX11_count_98 rfl (lv_at hl 0 rfl) ?_
            refine lv_aload_n hx hb dX11_count_99 rfl (lv_at hl 0 rfl) ?_
            refine r_get E frX11_9 hS 0 rfl rfl dX11_count_100 ?_
            refine lv_iconst (v := 0) hx hb dX11_count_103 (by decide) ?_
            obtain ⟨y104, e9, h⟩ := bd_some h
            refine ct_V (ws' := fun _ => [oX11 q0 (.ref q1) (.int v_people) u0_2 (.int v_typed) u0_4 (.int v_rowMany) (.int (0 : Int32)) u0_7 u0_8 u0_9 u0_10 u0_11 u0_12 u0_13 u0_14 u0_15 u0_16 u0_17 u0_18 (.int v_undoMany) u0_20 u0_21 u0_22 u0_23 u0_24 u0_25 u0_26 u0_27 u0_28 u0_29 u0_30 (.int v_heardMany) u0_32 u0_33 (.int v_sawMany) u0_35 u0_36 u0_37 u0_38 u0_39 u0_40, aI cy q1 37 v_now]) (st' := [.int y104]) (rest := []) E hS vlX11_232 (c_X11_sumOf (l := l) (D := D) (cy := cy) (q0 := q0) (q1 := q1) (u0_0 := .ref q1) (u0_2 := u0_2) (u0_3 := .int v_typed) (u0_4 := u0_4) (u0_5 := .int v_rowMany) (u0_6 := .int (0 : Int32)) (u0_7 := u0_7) (u0_8 := u0_8) (u0_9 := u0_9) (u0_10 := u0_10) (u0_11 := u0_11) (u0_12 := u0_12) (u0_13 := u0_13) (u0_14 := u0_14) (u0_15 := u0_15) (u0_16 := u0_16) (u0_17 := u0_17) (u0_18 := u0_18) (u0_19 := .int v_undoMany) (u0_20 := u0_20) (u0_21 := u0_21) (u0_22 := u0_22) (u0_23 := u0_23) (u0_24 := u0_24) (u0_25 := u0_25) (u0_26 := u0_26) (u0_27 := u0_27) (u0_28 := u0_28) (u0_29 := u0_29) (u0_30 := u0_30) (u0_31 := .int v_heardMany) (u0_32 := u0_32) (u0_33 := u0_33) (u0_34 := .int v_sawMany) (u0_35 := u0_35) (u0_36 := u0_36) (u0_37 := u0_37) (u0_38 := u0_38) (u0_39 := u0_39) (u0_40 := u0_40) (v_people := v_people) (nw1_ := 37) (w1_ := v_now) (p2 := (0 : Int32)) (r := y104) e9) [0, 1] rfl rfl (fun _ => rfl) (fun _ => rfl) rfl rfl rfl rfl (Nat.le_of_ble_eq_true rfl) hl.1 (by rw [hRf]; exact Nat.le_of_ble_eq_true rfl) (by rw [hRl]; exact Nat.le_of_ble_eq_true rfl) ⟨Nat.zero_le _, Nat.zero_le _⟩ dX11_count_104 rfl (fun H locs _ hS => ?_)
            obtain rfl := Option.some.inj h
            exact rt_i E hQ (.null) hS dX11_count_107
          · have h := it_neg c8 h
            rcases Decidable.em (p1 = 5) with c10 | c10
            · have h := it_pos c10 h
              refine lv_tableIn (off := 102) (tgt := 108) hx hb dX11_count_6 (by rw [c10]; decide) (by rw [c10]; decide) (by rw [c10]; rfl) (by decide) ?_
              refine lv_aload_n hx hb dX11_count_108 rfl (lv_at hl 0 rfl) ?_
              refine lv_aload_n hx hb dX11_count_109 rfl (lv_at hl 0 rfl) ?_
              refine r_get E frX11_9 hS 0 rfl rfl dX11_count_110 ?_
              refine lv_bipush (v := 7) hx hb dX11_count_113 (by decide) ?_
              obtain ⟨y115, e11, h⟩ := bd_some h
              refine ct_V (ws' := fun _ => [oX11 q0 (.ref q1) (.int v_people) u0_2 (.int v_typed) u0_4 (.int v_rowMany) (.int (0 : Int32)) u0_7 u0_8 u0_9 u0_10 u0_11 u0_12 u0_13 u0_14 u0_15 u0_16 u0_17 u0_18 (.int v_undoMany) u0_20 u0_21 u0_22 u0_23 u0_24 u0_25 u0_26 u0_27 u0_28 u0_29 u0_30 (.int v_heardMany) u0_32 u0_33 (.int v_sawMany) u0_35 u0_36 u0_37 u0_38 u0_39 u0_40, aI cy q1 37 v_now]) (st' := [.int y115]) (rest := []) E hS vlX11_232 (c_X11_sumOf (l := l) (D := D) (cy := cy) (q0 := q0) (q1 := q1) (u0_0 := .ref q1) (u0_2 := u0_2) (u0_3 := .int v_typed) (u0_4 := u0_4) (u0_5 := .int v_rowMany) (u0_6 := .int (0 : Int32)) (u0_7 := u0_7) (u0_8 := u0_8) (u0_9 := u0_9) (u0_10 := u0_10) (u0_11 := u0_11) (u0_12 := u0_12) (u0_13 := u0_13) (u0_14 := u0_14) (u0_15 := u0_15) (u0_16 := u0_16) (u0_17 := u0_17) (u0_18 := u0_18) (u0_19 := .int v_undoMany) (u0_20 := u0_20) (u0_21 := u0_21) (u0_22 := u0_22) (u0_23 := u0_23) (u0_24 := u0_24) (u0_25 := u0_25) (u0_26 := u0_26) (u0_27 := u0_27) (u0_28 := u0_28) (u0_29 := u0_29) (u0_30 := u0_30) (u0_31 := .int v_heardMany) (u0_32 := u0_32) (u0_33 := u0_33) (u0_34 := .int v_sawMany) (u0_35 := u0_35) (u0_36 := u0_36) (u0_37 := u0_37) (u0_38 := u0_38) (u0_39 := u0_39) (u0_40 := u0_40) (v_people := v_people) (nw1_ := 37) (w1_ := v_now) (p2 := (7 : Int32)) (r := y115) e11) [0, 1] rfl rfl (fun _ => rfl) (fun _ => rfl) rfl rfl rfl rfl (Nat.le_of_ble_eq_true rfl) hl.1 (by rw [hRf]; exact Nat.le_of_ble_eq_true rfl) (by rw [hRl]; exact Nat.le_of_ble_eq_true rfl) ⟨Nat.zero_le _, Nat.zero_le _⟩ dX11_count_115 rfl (fun H locs _ hS => ?_)
              obtain rfl := Option.some.inj h
              exact rt_i E hQ (.null) hS dX11_count_118
            · have h := it_neg c10 h
              rcases Decidable.em (p1 = 6) with c12 | c12
              · have h := it_pos c12 h
                refine lv_tableIn (off := 113) (tgt := 119) hx hb dX11_count_6 (by rw [c12]; decide) (by rw [c12]; decide) (by rw [c12]; rfl) (by decide) ?_
                refine lv_aload_n hx hb dX11_count_119 rfl (lv_at hl 0 rfl) ?_
                refine lv_aload_n hx hb dX11_count_120 rfl (lv_at hl 0 rfl) ?_
                refine r_get E frX11_9 hS 0 rfl rfl dX11_count_121 ?_
                refine lv_bipush (v := 14) hx hb dX11_count_124 (by decide) ?_
                obtain ⟨y126, e13, h⟩ := bd_some h
                refine ct_V (ws' := fun _ => [oX11 q0 (.ref q1) (.int v_people) u0_2 (.int v_typed) u0_4 (.int v_rowMany) (.int (0 : Int32)) u0_7 u0_8 u0_9 u0_10 u0_11 u0_12 u0_13 u0_14 u0_15 u0_16 u0_17 u0_18 (.int v_undoMany) u0_20 u0_21 u0_22 u0_23 u0_24 u0_25 u0_26 u0_27 u0_28 u0_29 u0_30 (.int v_heardMany) u0_32 u0_33 (.int v_sawMany) u0_35 u0_36 u0_37 u0_38 u0_39 u0_40, aI cy q1 37 v_now]) (st' := [.int y126]) (rest := []) E hS vlX11_232 (c_X11_sumOf (l := l) (D := D) (cy := cy) (q0 := q0) (q1 := q1) (u0_0 := .ref q1) (u0_2 := u0_2) (u0_3 := .int v_typed) (u0_4 := u0_4) (u0_5 := .int v_rowMany) (u0_6 := .int (0 : Int32)) (u0_7 := u0_7) (u0_8 := u0_8) (u0_9 := u0_9) (u0_10 := u0_10) (u0_11 := u0_11) (u0_12 := u0_12) (u0_13 := u0_13) (u0_14 := u0_14) (u0_15 := u0_15) (u0_16 := u0_16) (u0_17 := u0_17) (u0_18 := u0_18) (u0_19 := .int v_undoMany) (u0_20 := u0_20) (u0_21 := u0_21) (u0_22 := u0_22) (u0_23 := u0_23) (u0_24 := u0_24) (u0_25 := u0_25) (u0_26 := u0_26) (u0_27 := u0_27) (u0_28 := u0_28) (u0_29 := u0_29) (u0_30 := u0_30) (u0_31 := .int v_heardMany) (u0_32 := u0_32) (u0_33 := u0_33) (u0_34 := .int v_sawMany) (u0_35 := u0_35) (u0_36 := u0_36) (u0_37 := u0_37) (u0_38 := u0_38) (u0_39 := u0_39) (u0_40 := u0_40) (v_people := v_people) (nw1_ := 37) (w1_ := v_now) (p2 := (14 : Int32)) (r := y126) e13) [0, 1] rfl rfl (fun _ => rfl) (fun _ => rfl) rfl rfl rfl rfl (Nat.le_of_ble_eq_true rfl) hl.1 (by rw [hRf]; exact Nat.le_of_ble_eq_true rfl) (by rw [hRl]; exact Nat.le_of_ble_eq_true rfl) ⟨Nat.zero_le _, Nat.zero_le _⟩ dX11_count_126 rfl (fun H locs _ hS => ?_)
                obtain rfl := Option.some.inj h
                exact rt_i E hQ (.null) hS dX11_count_129
              · have h := it_neg c12 h
                rcases Decidable.em (p1 = 7) with c14 | c14
                · have h := it_pos c14 h
                  refine lv_tableIn (off := 124) (tgt := 130) hx hb dX11_count_6 (by rw [c14]; decide) (by rw [c14]; decide) (by rw [c14]; rfl) (by decide) ?_
                  refine lv_aload_n hx hb dX11_count_130 rfl (lv_at hl 0 rfl) ?_
                  refine lv_aload_n hx hb dX11_count_131 rfl (lv_at hl 0 rfl) ?_
                  refine r_get E frX11_9 hS 0 rfl rfl dX11_count_132 ?_
                  refine lv_bipush (v := 21) hx hb dX11_count_135 (by decide) ?_
                  obtain ⟨y137, e15, h⟩ := bd_some h
                  refine ct_V (ws' := fun _ => [oX11 q0 (.ref q1) (.int v_people) u0_2 (.int v_typed) u0_4 (.int v_rowMany) (.int (0 : Int32)) u0_7 u0_8 u0_9 u0_10 u0_11 u0_12 u0_13 u0_14 u0_15 u0_16 u0_17 u0_18 (.int v_undoMany) u0_20 u0_21 u0_22 u0_23 u0_24 u0_25 u0_26 u0_27 u0_28 u0_29 u0_30 (.int v_heardMany) u0_32 u0_33 (.int v_sawMany) u0_35 u0_36 u0_37 u0_38 u0_39 u0_40, aI cy q1 37 v_now]) (st' := [.int y137]) (rest := []) E hS vlX11_232 (c_X11_sumOf (l := l) (D := D) (cy := cy) (q0 := q0) (q1 := q1) (u0_0 := .ref q1) (u0_2 := u0_2) (u0_3 := .int v_typed) (u0_4 := u0_4) (u0_5 := .int v_rowMany) (u0_6 := .int (0 : Int32)) (u0_7 := u0_7) (u0_8 := u0_8) (u0_9 := u0_9) (u0_10 := u0_10) (u0_11 := u0_11) (u0_12 := u0_12) (u0_13 := u0_13) (u0_14 := u0_14) (u0_15 := u0_15) (u0_16 := u0_16) (u0_17 := u0_17) (u0_18 := u0_18) (u0_19 := .int v_undoMany) (u0_20 := u0_20) (u0_21 := u0_21) (u0_22 := u0_22) (u0_23 := u0_23) (u0_24 := u0_24) (u0_25 := u0_25) (u0_26 := u0_26) (u0_27 := u0_27) (u0_28 := u0_28) (u0_29 := u0_29) (u0_30 := u0_30) (u0_31 := .int v_heardMany) (u0_32 := u0_32) (u0_33 := u0_33) (u0_34 := .int v_sawMany) (u0_35 := u0_35) (u0_36 := u0_36) (u0_37 := u0_37) (u0_38 := u0_38) (u0_39 := u0_39) (u0_40 := u0_40) (v_people := v_people) (nw1_ := 37) (w1_ := v_now) (p2 := (21 : Int32)) (r := y137) e15) [0, 1] rfl rfl (fun _ => rfl) (fun _ => rfl) rfl rfl rfl rfl (Nat.le_of_ble_eq_true rfl) hl.1 (by rw [hRf]; exact Nat.le_of_ble_eq_true rfl) (by rw [hRl]; exact Nat.le_of_ble_eq_true rfl) ⟨Nat.zero_le _, Nat.zero_le _⟩ dX11_count_137 rfl (fun H locs _ hS => ?_)
                  obtain rfl := Option.some.inj h
                  exact rt_i E hQ (.null) hS dX11_count_140
                · have h := it_neg c14 h
                  rcases Decidable.em (p1 = 8) with c16 | c16
                  · have h := it_pos c16 h
                    refine lv_tableIn (off := 135) (tgt := 141) hx hb dX11_count_6 (by rw [c16]; decide) (by rw [c16]; decide) (by rw [c16]; rfl) (by decide) ?_
                    refine lv_aload_n hx hb dX11_count_141 rfl (lv_at hl 0 rfl) ?_
                    refine r_get E frX11_326 hS 0 rfl rfl dX11_count_142 ?_
                    obtain rfl := Option.some.inj h
                    exact rt_i E hQ (.null) hS dX11_count_145
                  · have h := it_neg c16 h
                    rcases Decidable.em (p1 = 9) with c17 | c17
                    · have h := it_pos c17 h
                      refine lv_tableIn (off := 140) (tgt := 146) hx hb dX11_count_6 (by rw [c17]; decide) (by rw [c17]; decide) (by rw [c17]; rfl) (by decide) ?_
                      refine lv_aload_n hx hb dX11_count_146 rfl (lv_at hl 0 rfl) ?_
                      refine r_get E frX11_335 hS 0 rfl rfl dX11_count_147 ?_
                      obtain rfl := Option.some.inj h
                      exact rt_i E hQ (.null) hS dX11_count_150
                    · have h := it_neg c17 h
                      rcases Decidable.em (p1 = 10) with c18 | c18
                      · have h := it_pos c18 h
                        refine lv_tableIn (off := 145) (tgt := 151) hx hb dX11_count_6 (by rw [c18]; decide) (by rw [c18]; decide) (by rw [c18]; rfl) (by decide) ?_
                        refine lv_aload_n hx hb dX11_count_151 rfl (lv_at hl 0 rfl) ?_
                        refine r_get E frX11_145 hS 0 rfl rfl dX11_count_152 ?_
                        obtain rfl := Option.some.inj h
                        exact rt_i E hQ (.null) hS dX11_count_155
                      · have h := it_neg c18 h
                        rcases Decidable.em (p1 = 11) with c19 | c19
                        · have h := it_pos c19 h
                          refine lv_tableIn (off := 150) (tgt := 156) hx hb dX11_count_6 (by rw [c19]; decide) (by rw [c19]; decide) (by rw [c19]; rfl) (by decide) ?_
                          refine lv_aload_n hx hb dX11_count_156 rfl (lv_at hl 0 rfl) ?_
                          refine r_get E frX11_89 hS 0 rfl rfl dX11_count_157 ?_
                          obtain rfl := Option.some.inj h
                          exact rt_i E hQ (.null) hS dX11_count_160
                        · have h := it_neg c19 h
                          rcases Decidable.em (p1 = 12) with c20 | c20
                          · have h := it_pos c20 h
                            refine lv_tableIn (off := 155) (tgt := 161) hx hb dX11_count_6 (by rw [c20]; decide) (by rw [c20]; decide) (by rw [c20]; rfl) (by decide) ?_
                            refine lv_aload_n hx hb dX11_count_161 rfl (lv_at hl 0 rfl) ?_
                            refine r_get E frX11_103 hS 0 rfl rfl dX11_count_162 ?_
                            obtain rfl := Option.some.inj h
                            exact rt_i E hQ (.null) hS dX11_count_165
                          · have h := it_neg c20 h
                            have ht : p1.toInt < 0 ∨ (12 : Int) < p1.toInt := by
                              refine tb_neg (fun k h1 h2 => ?_)
                              have hh : k = 0 ∨ k = 1 ∨ k = 2 ∨ k = 3 ∨ k = 4 ∨ k = 5 ∨ k = 6 ∨ k = 7 ∨ k = 8 ∨ k = 9 ∨ k = 10 ∨ k = 11 ∨ k = 12 := by omega
                              rcases hh with rfl | rfl | rfl | rfl | rfl | rfl | rfl | rfl | rfl | rfl | rfl | rfl | rfl
                              · exact c1
                              · exact c2
                              · exact c4
                              · exact c6
                              · exact c8
                              · exact c10
                              · exact c12
                              · exact c14
                              · exact c16
                              · exact c17
                              · exact c18
                              · exact c19
                              · exact c20
                            refine lv_tableOut (tgt := 166) hx hb dX11_count_6 ht (by decide) ?_
                            refine lv_iconst (v := -1) hx hb dX11_count_166 (by decide) ?_
                            obtain rfl := Option.some.inj h
                            exact rt_i E hQ (.null) hS dX11_count_167
def X11_row (v_rowMany : Int32) (v_row : Nat → Int64) (p1 : Int32) : Option (Int64 × Int32) :=
  if (X11_in p1 (0 : Int32) (v_rowMany - (1 : Int32))) = 0 then (some ((X11_lost.1.toInt64), X11_lost.2)) else (gi p1 16 (some ((v_row p1.toNatClampNeg), (0 : Int32))))
set_option maxHeartbeats 4000000 in
set_option maxRecDepth 100000 in
theorem c_X11_row {l : Launch} {D : va_G} {cy : Nat → ClassId} (q0 : Nat) (q1 : Nat) (u0_0 : Value) (u0_1 : Value) (u0_2 : Value) (u0_3 : Value) (u0_7 : Value) (u0_8 : Value) (u0_9 : Value) (u0_10 : Value) (u0_11 : Value) (u0_12 : Value) (u0_13 : Value) (u0_14 : Value) (u0_15 : Value) (u0_16 : Value) (u0_17 : Value) (u0_18 : Value) (u0_19 : Value) (u0_20 : Value) (u0_21 : Value) (u0_22 : Value) (u0_23 : Value) (u0_24 : Value) (u0_25 : Value) (u0_26 : Value) (u0_27 : Value) (u0_28 : Value) (u0_29 : Value) (u0_30 : Value) (u0_31 : Value) (u0_32 : Value) (u0_33 : Value) (u0_34 : Value) (u0_35 : Value) (u0_36 : Value) (u0_37 : Value) (u0_38 : Value) (u0_39 : Value) (u0_40 : Value) (v_rowMany : Int32) (v_thrown : Int32) (v_row : Nat → Int64) (p1 : Int32) (r : Int64 × Int32) (h : X11_row v_rowMany v_row p1 = some r) : Ct l yX11_row cX11_row 2 (some .long) 1 22 D cy [.ref q0, .int p1] [oX11 q0 u0_0 u0_1 u0_2 u0_3 (.ref q1) (.int v_rowMany) (.int v_thrown) u0_7 u0_8 u0_9 u0_10 u0_11 u0_12 u0_13 u0_14 u0_15 u0_16 u0_17 u0_18 u0_19 u0_20 u0_21 u0_22 u0_23 u0_24 u0_25 u0_26 u0_27 u0_28 u0_29 u0_30 u0_31 u0_32 u0_33 u0_34 u0_35 u0_36 u0_37 u0_38 u0_39 u0_40, aJ cy q1 16 v_row] (fun _ => [oX11 q0 u0_0 u0_1 u0_2 u0_3 (.ref q1) (.int v_rowMany) (.int r.2) u0_7 u0_8 u0_9 u0_10 u0_11 u0_12 u0_13 u0_14 u0_15 u0_16 u0_17 u0_18 u0_19 u0_20 u0_21 u0_22 u0_23 u0_24 u0_25 u0_26 u0_27 u0_28 u0_29 u0_30 u0_31 u0_32 u0_33 u0_34 u0_35 u0_36 u0_37 u0_38 u0_39 u0_40, aJ cy q1 16 v_row]) (some (.long r.1)) := by
  refine Ct.mk kX11_row (by decide +kernel) (Nat.le_of_ble_eq_true rfl) ?_
  intro p e s m below meth c A ls args R Q hRf hRl hQ E H locs hS hl
  have hx := E.x
  have hb := E.b
  have hl : lv_has ls 2 [(0, .ref q0), (1, .int p1)] := hl
  unfold X11_row at h
  refine lv_aload_n hx hb dX11_row_0 rfl (lv_at hl 0 rfl) ?_
  refine lv_iconst (v := 0) hx hb dX11_row_1 (by decide) ?_
  refine r_put (ws' := [oX11 q0 u0_0 u0_1 u0_2 u0_3 (.ref q1) (.int v_rowMany) (.int (0 : Int32)) u0_7 u0_8 u0_9 u0_10 u0_11 u0_12 u0_13 u0_14 u0_15 u0_16 u0_17 u0_18 u0_19 u0_20 u0_21 u0_22 u0_23 u0_24 u0_25 u0_26 u0_27 u0_28 u0_29 u0_30 u0_31 u0_32 u0_33 u0_34 u0_35 u0_36 u0_37 u0_38 u0_39 u0_40, aJ cy q1 16 v_row]) E frX11_85 hS 0 rfl (Nat.le_of_ble_eq_true rfl) rfl rfl rfl rfl dX11_row_2 (fun H locs hS => ?_)
  refine lv_iload_n hx hb dX11_row_5 rfl (lv_at hl 1 rfl) ?_
  refine lv_iconst (v := 0) hx hb dX11_row_6 (by decide) ?_
  refine lv_aload_n hx hb dX11_row_7 rfl (lv_at hl 0 rfl) ?_
  refine r_get E frX11_89 hS 0 rfl rfl dX11_row_8 ?_
  refine lv_iconst (v := 1) hx hb dX11_row_11 (by decide) ?_
  refine lv_isub hx hb dX11_row_12 ?_
  refine ct_S (ws' := fun _ => [oX11 q0 u0_0 u0_1 u0_2 u0_3 (.ref q1) (.int v_rowMany) (.int (0 : Int32)) u0_7 u0_8 u0_9 u0_10 u0_11 u0_12 u0_13 u0_14 u0_15 u0_16 u0_17 u0_18 u0_19 u0_20 u0_21 u0_22 u0_23 u0_24 u0_25 u0_26 u0_27 u0_28 u0_29 u0_30 u0_31 u0_32 u0_33 u0_34 u0_35 u0_36 u0_37 u0_38 u0_39 u0_40, aJ cy q1 16 v_row]) (st' := [.int (X11_in p1 (0 : Int32) (v_rowMany - (1 : Int32)))]) (rest := []) E hS slX11_95 (c_X11_in (l := l) (D := D) (cy := cy) (p0 := p1) (p1 := (0 : Int32)) (p2 := (v_rowMany - (1 : Int32))) (r := (X11_in p1 (0 : Int32) (v_rowMany - (1 : Int32)))) rfl) [] rfl rfl (fun _ => rfl) (fun _ => rfl) rfl rfl (Nat.le_of_ble_eq_true rfl) hl.1 (by rw [hRf]; exact Nat.le_of_ble_eq_true rfl) (by rw [hRl]; exact Nat.le_of_ble_eq_true rfl) ⟨Nat.zero_le _, Nat.zero_le _⟩ dX11_row_13 rfl (fun H locs _ hS => ?_)
  refine lv_if_eq (tgt := 28) hx hb dX11_row_16 (by decide) (fun c1 => ?_) (fun c1 => ?_)
  · have h := it_pos c1 h
    refine lv_aload_n hx hb dX11_row_28 rfl (lv_at hl 0 rfl) ?_
    refine ct_V (ws' := fun _ => [oX11 q0 u0_0 u0_1 u0_2 u0_3 (.ref q1) (.int v_rowMany) (.int X11_lost.2) u0_7 u0_8 u0_9 u0_10 u0_11 u0_12 u0_13 u0_14 u0_15 u0_16 u0_17 u0_18 u0_19 u0_20 u0_21 u0_22 u0_23 u0_24 u0_25 u0_26 u0_27 u0_28 u0_29 u0_30 u0_31 u0_32 u0_33 u0_34 u0_35 u0_36 u0_37 u0_38 u0_39 u0_40, aJ cy q1 16 v_row]) (st' := [.int X11_lost.1]) (rest := []) E hS vlX11_220 (c_X11_lost (l := l) (D := D) (cy := cy) (q0 := q0) (u0_0 := u0_0) (u0_1 := u0_1) (u0_2 := u0_2) (u0_3 := u0_3) (u0_4 := .ref q1) (u0_5 := .int v_rowMany) (u0_7 := u0_7) (u0_8 := u0_8) (u0_9 := u0_9) (u0_10 := u0_10) (u0_11 := u0_11) (u0_12 := u0_12) (u0_13 := u0_13) (u0_14 := u0_14) (u0_15 := u0_15) (u0_16 := u0_16) (u0_17 := u0_17) (u0_18 := u0_18) (u0_19 := u0_19) (u0_20 := u0_20) (u0_21 := u0_21) (u0_22 := u0_22) (u0_23 := u0_23) (u0_24 := u0_24) (u0_25 := u0_25) (u0_26 := u0_26) (u0_27 := u0_27) (u0_28 := u0_28) (u0_29 := u0_29) (u0_30 := u0_30) (u0_31 := u0_31) (u0_32 := u0_32) (u0_33 := u0_33) (u0_34 := u0_34) (u0_35 := u0_35) (u0_36 := u0_36) (u0_37 := u0_37) (u0_38 := u0_38) (u0_39 := u0_39) (u0_40 := u0_40) (v_thrown := (0 : Int32)) (r := X11_lost) rfl) [0] rfl rfl (fun _ => rfl) (fun _ => rfl) rfl rfl rfl rfl (Nat.le_of_ble_eq_true rfl) hl.1 (by rw [hRf]; exact Nat.le_of_ble_eq_true rfl) (by rw [hRl]; exact Nat.le_of_ble_eq_true rfl) ⟨Nat.zero_le _, Nat.zero_le _⟩ dX11_row_29 rfl (fun H locs _ hS => ?_)
    refine lv_i2l (v := (X11_lost.1.toInt64)) hx hb dX11_row_32 rfl ?_
    obtain rfl := Option.some.inj h
    exact rt_l E hQ (.null) hS dX11_row_33
  · have h := it_neg c1 h
    refine lv_aload_n hx hb dX11_row_19 rfl (lv_at hl 0 rfl) ?_
    refine r_get E frX11_17 hS 0 rfl rfl dX11_row_20 ?_
    refine lv_iload_n hx hb dX11_row_23 rfl (lv_at hl 1 rfl) ?_
    obtain ⟨g2, h⟩ := gi_some h
    refine r_lald E hS 1 rfl g2 dX11_row_24 ?_
    refine lv_goto (tgt := 33) hx hb dX11_row_25 (by decide) ?_
    obtain rfl := Option.some.inj h
    exact rt_l E hQ (.null) hS dX11_row_33
