def X11_remember_k49 (nw1_ : Nat) (w1_ : Nat → Int32) (j49_v_undoMany : Int32) (j49_v_undos : Nat → Int32) : Option (Int32 × (Nat → Int32)) :=
  (X11_lay nw1_ w1_ 444 j49_v_undos ((37 : Int32) * j49_v_undoMany)).bind fun y61 => some ((j49_v_undoMany + (1 : Int32)), y61)
def X11_remember_s11  (x11 : Int32 × (Nat → Int32)) : Option ((Int32 × (Nat → Int32)) ⊕ ((Nat → Int32))) :=
  if (407 : Int32) ≤ x11.1 then (some (.inr x11.2)) else (gi (x11.1 + (37 : Int32)) 444 (gi x11.1 444 (some (.inl ((x11.1 + (1 : Int32)), (upd x11.2 x11.1.toNatClampNeg (x11.2 (x11.1 + (37 : Int32)).toNatClampNeg)))))))
def X11_remember (v_undoMany : Int32) (v_undos : Nat → Int32) (nw1_ : Nat) (w1_ : Nat → Int32) : Option (Int32 × (Nat → Int32)) :=
  if v_undoMany = (12 : Int32) then ((lp X11_remember_s11 1000 ((0 : Int32), v_undos)).bind fun y11 => X11_remember_k49 nw1_ w1_ (v_undoMany - (1 : Int32)) y11) else (X11_remember_k49 nw1_ w1_ v_undoMany v_undos)
set_option maxHeartbeats 4000000 in
set_option maxRecDepth 100000 in
theorem c_X11_remember {l : Launch} {D : va_G} {cy : Nat → ClassId} (q0 : Nat) (q1 : Nat) (q2 : Nat) (u0_0 : Value) (u0_1 : Value) (u0_2 : Value) (u0_3 : Value) (u0_4 : Value) (u0_5 : Value) (u0_6 : Value) (u0_7 : Value) (u0_8 : Value) (u0_9 : Value) (u0_10 : Value) (u0_11 : Value) (u0_12 : Value) (u0_13 : Value) (u0_14 : Value) (u0_15 : Value) (u0_16 : Value) (u0_17 : Value) (u0_20 : Value) (u0_21 : Value) (u0_22 : Value) (u0_23 : Value) (u0_24 : Value) (u0_25 : Value) (u0_26 : Value) (u0_27 : Value) (u0_28 : Value) (u0_29 : Value) (u0_30 : Value) (u0_31 : Value) (u0_32 : Value) (u0_33 : Value) (u0_34 : Value) (u0_35 : Value) (u0_36 : Value) (u0_37 : Value) (u0_38 : Value) (u0_39 : Value) (u0_40 : Value) (v_undoMany : Int32) (v_undos : Nat → Int32) (nw1_ : Nat) (w1_ : Nat → Int32) (r : Int32 × (Nat → Int32)) (h : X11_remember v_undoMany v_undos nw1_ w1_ = some r) : Ct l yX11_remember cX11_remember 3 none 1 23 D cy [.ref q0, .ref q2] [oX11 q0 u0_0 u0_1 u0_2 u0_3 u0_4 u0_5 u0_6 u0_7 u0_8 u0_9 u0_10 u0_11 u0_12 u0_13 u0_14 u0_15 u0_16 u0_17 (.ref q1) (.int v_undoMany) u0_20 u0_21 u0_22 u0_23 u0_24 u0_25 u0_26 u0_27 u0_28 u0_29 u0_30 u0_31 u0_32 u0_33 u0_34 u0_35 u0_36 u0_37 u0_38 u0_39 u0_40, aI cy q1 444 v_undos, aI cy q2 nw1_ w1_] (fun _ => [oX11 q0 u0_0 u0_1 u0_2 u0_3 u0_4 u0_5 u0_6 u0_7 u0_8 u0_9 u0_10 u0_11 u0_12 u0_13 u0_14 u0_15 u0_16 u0_17 (.ref q1) (.int r.1) u0_20 u0_21 u0_22 u0_23 u0_24 u0_25 u0_26 u0_27 u0_28 u0_29 u0_30 u0_31 u0_32 u0_33 u0_34 u0_35 u0_36 u0_37 u0_38 u0_39 u0_40, aI cy q1 444 r.2, aI cy q2 nw1_ w1_]) (none) := by
  refine Ct.mk kX11_remember (by decide +kernel) (Nat.le_of_ble_eq_true rfl) ?_
  intro p e s m below meth c A ls args R Q hRf hRl hQ E H locs hS hl
  have hx := E.x
  have hb := E.b
  have hl : lv_has ls 3 [(0, .ref q0), (1, .ref q2)] := hl
  unfold X11_remember at h
  refine lv_aload_n hx hb dX11_remember_0 rfl (lv_at hl 0 rfl) ?_
  refine r_get E frX11_145 hS 0 rfl rfl dX11_remember_1 ?_
  refine lv_bipush (v := 12) hx hb dX11_remember_4 (by decide) ?_
  have hJ49 : ∀ (j49_v_undoMany : Int32) (j49_v_undos : Nat → Int32) (H : Heap) (locs : List Loc) (ls : Array Slot), X11_remember_k49 nw1_ w1_ j49_v_undoMany j49_v_undos = some r → Sv D A s.heap [oX11 q0 u0_0 u0_1 u0_2 u0_3 u0_4 u0_5 u0_6 u0_7 u0_8 u0_9 u0_10 u0_11 u0_12 u0_13 u0_14 u0_15 u0_16 u0_17 (.ref q1) (.int j49_v_undoMany) u0_20 u0_21 u0_22 u0_23 u0_24 u0_25 u0_26 u0_27 u0_28 u0_29 u0_30 u0_31 u0_32 u0_33 u0_34 u0_35 u0_36 u0_37 u0_38 u0_39 u0_40, aI cy q1 444 j49_v_undos, aI cy q2 nw1_ w1_] H locs → lv_has ls 3 [(0, .ref q0), (1, .ref q2)] → W p l e R s m args below meth c H locs 0 0 Q (F0 m 49 ls []) := by
    intro j49_v_undoMany j49_v_undos H locs ls h hS hl
    unfold X11_remember_k49 at h
    refine lv_aload_n hx hb dX11_remember_49 rfl (lv_at hl 1 rfl) ?_
    refine lv_aload_n hx hb dX11_remember_50 rfl (lv_at hl 0 rfl) ?_
    refine r_get E frX11_33 hS 0 rfl rfl dX11_remember_51 ?_
    refine lv_bipush (v := 37) hx hb dX11_remember_54 (by decide) ?_
    refine lv_aload_n hx hb dX11_remember_56 rfl (lv_at hl 0 rfl) ?_
    refine r_get E frX11_145 hS 0 rfl rfl dX11_remember_57 ?_
    refine lv_imul hx hb dX11_remember_60 ?_
    obtain ⟨y61, e1, h⟩ := bd_some h
    refine ct_S (ws' := fun _ => [oX11 q0 u0_0 u0_1 u0_2 u0_3 u0_4 u0_5 u0_6 u0_7 u0_8 u0_9 u0_10 u0_11 u0_12 u0_13 u0_14 u0_15 u0_16 u0_17 (.ref q1) (.int j49_v_undoMany) u0_20 u0_21 u0_22 u0_23 u0_24 u0_25 u0_26 u0_27 u0_28 u0_29 u0_30 u0_31 u0_32 u0_33 u0_34 u0_35 u0_36 u0_37 u0_38 u0_39 u0_40, aI cy q1 444 y61, aI cy q2 nw1_ w1_]) (st' := []) (rest := []) E hS slX11_235 (c_X11_lay (l := l) (D := D) (cy := cy) (q0 := q2) (q1 := q1) (nw1_ := nw1_) (w1_ := w1_) (nw2_ := 444) (w2_ := j49_v_undos) (p2 := ((37 : Int32) * j49_v_undoMany)) (r := y61) e1) [2, 1] rfl rfl (fun _ => rfl) (fun _ => rfl) rfl rfl (Nat.le_of_ble_eq_true rfl) hl.1 (by rw [hRf]; exact Nat.le_of_ble_eq_true rfl) (by rw [hRl]; exact Nat.le_of_ble_eq_true rfl) ⟨Nat.zero_le _, Nat.zero_le _⟩ dX11_remember_61 rfl (fun H locs _ hS => ?_)
    refine lv_aload_n hx hb dX11_remember_64 rfl (lv_at hl 0 rfl) ?_
    refine lv_dup hx hb dX11_remember_65 rfl ?_
    refine r_get E frX11_145 hS 0 rfl rfl dX11_remember_66 ?_
    refine lv_iconst (v := 1) hx hb dX11_remember_69 (by decide) ?_
    refine lv_iadd hx hb dX11_remember_70 ?_
    refine r_put (ws' := [oX11 q0 u0_0 u0_1 u0_2 u0_3 u0_4 u0_5 u0_6 u0_7 u0_8 u0_9 u0_10 u0_11 u0_12 u0_13 u0_14 u0_15 u0_16 u0_17 (.ref q1) (.int (j49_v_undoMany + (1 : Int32))) u0_20 u0_21 u0_22 u0_23 u0_24 u0_25 u0_26 u0_27 u0_28 u0_29 u0_30 u0_31 u0_32 u0_33 u0_34 u0_35 u0_36 u0_37 u0_38 u0_39 u0_40, aI cy q1 444 y61, aI cy q2 nw1_ w1_]) E frX11_145 hS 0 rfl (Nat.le_of_ble_eq_true rfl) rfl rfl rfl rfl dX11_remember_71 (fun H locs hS => ?_)
    obtain rfl := Option.some.inj h
    exact rt_v E hQ (.null) hS dX11_remember_74
  refine lv_icmp_ne (tgt := 49) hx hb dX11_remember_6 (by decide) (fun c2 => ?_) (fun c2 => ?_)
  · have h := it_neg c2 h
    exact hJ49 v_undoMany v_undos  H locs ls h hS (lv_sub hl [0, 1] rfl)
  · have h := it_pos c2 h
    refine lv_iconst (v := 0) hx hb dX11_remember_9 (by decide) ?_
    refine lv_istore_n (lv' := [(2, .int (0 : Int32)), (0, .ref q0), (1, .ref q2)]) hx hb dX11_remember_10 rfl hl (by decide) rfl (fun ls hl => ?_)
    have hL11 : ∀ (n : Nat) (x11 : Int32 × (Nat → Int32)) (y11 : (Nat → Int32)) (H : Heap) (locs : List Loc) (ls : Array Slot), lp X11_remember_s11 n x11 = some y11 → Sv D A s.heap [oX11 q0 u0_0 u0_1 u0_2 u0_3 u0_4 u0_5 u0_6 u0_7 u0_8 u0_9 u0_10 u0_11 u0_12 u0_13 u0_14 u0_15 u0_16 u0_17 (.ref q1) (.int v_undoMany) u0_20 u0_21 u0_22 u0_23 u0_24 u0_25 u0_26 u0_27 u0_28 u0_29 u0_30 u0_31 u0_32 u0_33 u0_34 u0_35 u0_36 u0_37 u0_38 u0_39 u0_40, aI cy q1 444 x11.2, aI cy q2 nw1_ w1_] H locs → lv_has ls 3 [(0, .ref q0), (1, .ref q2), (2, .int x11.1)] → (∀ (H : Heap) (locs : List Loc) (ls : Array Slot), Sv D A s.heap [oX11 q0 u0_0 u0_1 u0_2 u0_3 u0_4 u0_5 u0_6 u0_7 u0_8 u0_9 u0_10 u0_11 u0_12 u0_13 u0_14 u0_15 u0_16 u0_17 (.ref q1) (.int v_undoMany) u0_20 u0_21 u0_22 u0_23 u0_24 u0_25 u0_26 u0_27 u0_28 u0_29 u0_30 u0_31 u0_32 u0_33 u0_34 u0_35 u0_36 u0_37 u0_38 u0_39 u0_40, aI cy q1 444 y11, aI cy q2 nw1_ w1_] H locs → lv_has ls 3 [(0, .ref q0), (1, .ref q2)] → W p l e R s m args below meth c H locs 0 0 Q (F0 m 39 ls [])) → W p l e R s m args below meth c H locs 0 0 Q (F0 m 11 ls []) := by
      intro n
      induction n with
      | zero =>
        intro x11 y11 H locs ls h
        exact lp_zero h
      | succ n ih11 =>
        intro x11 y11 H locs ls h hS hl hk11_0
        obtain ⟨z11, h, hz11a, hz11b⟩ := lp_succ h
        have h : X11_remember_s11  x11 = some z11 := h
        unfold X11_remember_s11 at h
        refine lv_iload_n hx hb dX11_remember_11 rfl (lv_at hl 2 rfl) ?_
        refine lv_sipush (v := 407) hx hb dX11_remember_12 (by decide) ?_
        refine lv_icmp_ge (tgt := 39) hx hb dX11_remember_15 (by decide) (fun c3 => ?_) (fun c3 => ?_)
        · have h := it_pos c3 h
          obtain rfl := hz11b _ (Option.some.inj h).symm
          exact hk11_0  H locs ls hS (lv_sub hl [0, 1] rfl)
        · have h := it_neg c3 h
          refine lv_aload_n hx hb dX11_remember_18 rfl (lv_at hl 0 rfl) ?_
          refine r_get E frX11_33 hS 0 rfl rfl dX11_remember_19 ?_
          refine lv_iload_n hx hb dX11_remember_22 rfl (lv_at hl 2 rfl) ?_
          refine lv_aload_n hx hb dX11_remember_23 rfl (lv_at hl 0 rfl) ?_
          refine r_get E frX11_33 hS 0 rfl rfl dX11_remember_24 ?_
          refine lv_iload_n hx hb dX11_remember_27 rfl (lv_at hl 2 rfl) ?_
          refine lv_bipush (v := 37) hx hb dX11_remember_28 (by decide) ?_
          refine lv_iadd hx hb dX11_remember_30 ?_
          obtain ⟨g4, h⟩ := gi_some h
          refine r_iald E hS 1 rfl g4 dX11_remember_31 ?_
          obtain ⟨g5, h⟩ := gi_some h
          refine r_iast (ws' := [oX11 q0 u0_0 u0_1 u0_2 u0_3 u0_4 u0_5 u0_6 u0_7 u0_8 u0_9 u0_10 u0_11 u0_12 u0_13 u0_14 u0_15 u0_16 u0_17 (.ref q1) (.int v_undoMany) u0_20 u0_21 u0_22 u0_23 u0_24 u0_25 u0_26 u0_27 u0_28 u0_29 u0_30 u0_31 u0_32 u0_33 u0_34 u0_35 u0_36 u0_37 u0_38 u0_39 u0_40, aI cy q1 444 (upd x11.2 x11.1.toNatClampNeg (x11.2 (x11.1 + (37 : Int32)).toNatClampNeg)), aI cy q2 nw1_ w1_]) E hS 1 rfl g5 rfl dX11_remember_32 (fun H locs hS => ?_)
          refine lv_iinc (v := (x11.1 + (1 : Int32))) (lv' := [(2, .int (x11.1 + (1 : Int32))), (0, .ref q0), (1, .ref q2)]) hx hb dX11_remember_33 hl (k := 2) rfl rfl (by decide) rfl (fun ls hl => ?_)
          refine lv_goto (tgt := 11) hx hb dX11_remember_36 (by decide) ?_
          exact ih11 ((x11.1 + (1 : Int32)), (upd x11.2 x11.1.toNatClampNeg (x11.2 (x11.1 + (37 : Int32)).toNatClampNeg))) y11  H locs ls (hz11a _ (Option.some.inj h).symm) hS (lv_sub hl [1, 2, 0] rfl) hk11_0
    obtain ⟨y11, e11, h⟩ := bd_some h
    refine hL11 1000 ((0 : Int32), v_undos) y11  H locs ls e11 hS (lv_sub hl [1, 2, 0] rfl) (fun H locs ls hS hl => ?_)
    refine lv_aload_n hx hb dX11_remember_39 rfl (lv_at hl 0 rfl) ?_
    refine lv_dup hx hb dX11_remember_40 rfl ?_
    refine r_get E frX11_145 hS 0 rfl rfl dX11_remember_41 ?_
    refine lv_iconst (v := 1) hx hb dX11_remember_44 (by decide) ?_
    refine lv_isub hx hb dX11_remember_45 ?_
    refine r_put (ws' := [oX11 q0 u0_0 u0_1 u0_2 u0_3 u0_4 u0_5 u0_6 u0_7 u0_8 u0_9 u0_10 u0_11 u0_12 u0_13 u0_14 u0_15 u0_16 u0_17 (.ref q1) (.int (v_undoMany - (1 : Int32))) u0_20 u0_21 u0_22 u0_23 u0_24 u0_25 u0_26 u0_27 u0_28 u0_29 u0_30 u0_31 u0_32 u0_33 u0_34 u0_35 u0_36 u0_37 u0_38 u0_39 u0_40, aI cy q1 444 y11, aI cy q2 nw1_ w1_]) E frX11_145 hS 0 rfl (Nat.le_of_ble_eq_true rfl) rfl rfl rfl rfl dX11_remember_46 (fun H locs hS => ?_)
    exact hJ49 (v_undoMany - (1 : Int32)) y11  H locs ls h hS (lv_sub hl [0, 1] rfl)
def X11_goMorning_k95 (nw1_ : Nat) (x29 : Int32 × (Nat → Int32)) (j65_w1_ : Nat → Int32) (j95_t2 : Int32) : Option ((Int32 × (Nat → Int32)) ⊕ ((Nat → Int32))) :=
  gi ((14 : Int32) + x29.1) nw1_ (gi ((7 : Int32) + x29.1) nw1_ (gi ((7 : Int32) + x29.1) nw1_ (some (.inl ((x29.1 + (1 : Int32)), (upd (upd j65_w1_ ((14 : Int32) + x29.1).toNatClampNeg j95_t2) ((7 : Int32) + x29.1).toNatClampNeg (J9_max_7cf53 (0 : Int32) (((upd j65_w1_ ((14 : Int32) + x29.1).toNatClampNeg j95_t2) ((7 : Int32) + x29.1).toNatClampNeg) - (1 : Int32)))))))))
def X11_goMorning_k65 (nw1_ : Nat) (y2 : Int32 × Int32 × Int32 × Int32 × Int32 × Int32 × (Nat → Int32)) (x29 : Int32 × (Nat → Int32)) (j65_w1_ : Nat → Int32) : Option ((Int32 × (Nat → Int32)) ⊕ ((Nat → Int32))) :=
  if (X11_has y2.1 x29.1) = 0 then (gi ((14 : Int32) + x29.1) nw1_ (X11_goMorning_k95 nw1_ x29 j65_w1_ (J9_min_7cf53 (99 : Int32) ((j65_w1_ ((14 : Int32) + x29.1).toNatClampNeg) + (1 : Int32))))) else (X11_goMorning_k95 nw1_ x29 j65_w1_ (0 : Int32))
def X11_goMorning_s29 (v_people : Int32) (nw1_ : Nat) (y2 : Int32 × Int32 × Int32 × Int32 × Int32 × Int32 × (Nat → Int32)) (x29 : Int32 × (Nat → Int32)) : Option ((Int32 × (Nat → Int32)) ⊕ ((Nat → Int32))) :=
  if v_people ≤ x29.1 then (some (.inr x29.2)) else (if (X11_has y2.1 x29.1) = 0 then (X11_goMorning_k65 nw1_ y2 x29 x29.2) else (gi ((21 : Int32) + x29.1) nw1_ (gi ((21 : Int32) + x29.1) nw1_ (X11_goMorning_k65 nw1_ y2 x29 (upd x29.2 ((21 : Int32) + x29.1).toNatClampNeg (J9_min_7cf53 (999 : Int32) ((x29.2 ((21 : Int32) + x29.1).toNatClampNeg) + (1 : Int32))))))))
def X11_goMorning (v_people : Int32) (v_length : Int32) (v_top : Int32) (v_at : Int32) (v_wrong : Int32) (v_ruleSize : Int32) (v_isAsked : Int32) (v_rule : Nat → Int32) (v_asked : Nat → Int32) (nw1_ : Nat) (w1_ : Nat → Int32) : Option (Int32 × Int32 × Int32 × Int32 × Int32 × Int32 × (Nat → Int32) × (Nat → Int32)) :=
  (X11_awake v_people v_length v_top v_at v_wrong v_ruleSize v_isAsked v_rule v_asked nw1_ w1_).bind fun y2 => gi (36 : Int32) nw1_ ((X11_unmet v_people nw1_ w1_ y2.1).bind fun y19 => gi (36 : Int32) nw1_ ((lp (fun x29 => X11_goMorning_s29 v_people nw1_ y2 x29) 1000 ((0 : Int32), (upd w1_ (36 : Int32).toNatClampNeg (J9_min_7cf53 (9999 : Int32) ((w1_ (36 : Int32).toNatClampNeg) + y19))))).bind fun y29 => gi (35 : Int32) nw1_ (gi (35 : Int32) nw1_ (some (y2.1, y2.2.1, y2.2.2.1, y2.2.2.2.1, y2.2.2.2.2.1, y2.2.2.2.2.2.1, y2.2.2.2.2.2.2, (upd y29 (35 : Int32).toNatClampNeg ((y29 (35 : Int32).toNatClampNeg) + (1 : Int32))))))))
set_option maxHeartbeats 4000000 in
set_option maxRecDepth 100000 in
theorem c_X11_goMorning {l : Launch} {D : va_G} {cy : Nat → ClassId} (q0 : Nat) (q1 : Nat) (q2 : Nat) (q3 : Nat) (u0_0 : Value) (u0_2 : Value) (u0_3 : Value) (u0_4 : Value) (u0_5 : Value) (u0_6 : Value) (u0_7 : Value) (u0_12 : Value) (u0_14 : Value) (u0_18 : Value) (u0_19 : Value) (u0_20 : Value) (u0_21 : Value) (u0_22 : Value) (u0_23 : Value) (u0_24 : Value) (u0_25 : Value) (u0_26 : Value) (u0_27 : Value) (u0_28 : Value) (u0_29 : Value) (u0_30 : Value) (u0_31 : Value) (u0_32 : Value) (u0_33 : Value) (u0_34 : Value) (u0_35 : Value) (u0_36 : Value) (u0_37 : Value) (u0_38 : Value) (u0_39 : Value) (u0_40 : Value) (v_people : Int32) (v_length : Int32) (v_top : Int32) (v_at : Int32) (v_wrong : Int32) (v_ruleSize : Int32) (v_isAsked : Int32) (v_rule : Nat → Int32) (v_asked : Nat → Int32) (nw1_ : Nat) (w1_ : Nat → Int32) (r : Int32 × Int32 × Int32 × Int32 × Int32 × Int32 × (Nat → Int32) × (Nat → Int32)) (h : X11_goMorning v_people v_length v_top v_at v_wrong v_ruleSize v_isAsked v_rule v_asked nw1_ w1_ = some r) : Ct l yX11_goMorning cX11_goMorning 4 (some .int) 109 2603 D cy [.ref q0, .ref q3] [oX11 q0 u0_0 (.int v_people) u0_2 u0_3 u0_4 u0_5 u0_6 u0_7 (.int v_length) (.int v_top) (.int v_at) (.int v_wrong) u0_12 (.ref q1) u0_14 (.int v_ruleSize) (.int v_isAsked) (.ref q2) u0_18 u0_19 u0_20 u0_21 u0_22 u0_23 u0_24 u0_25 u0_26 u0_27 u0_28 u0_29 u0_30 u0_31 u0_32 u0_33 u0_34 u0_35 u0_36 u0_37 u0_38 u0_39 u0_40, aB cy q1 40 v_rule, aI cy q2 7 v_asked, aI cy q3 nw1_ w1_] (fun _ => [oX11 q0 u0_0 (.int v_people) u0_2 u0_3 u0_4 u0_5 u0_6 (.ref q1) (.int r.2.1) (.int r.2.2.1) (.int r.2.2.2.1) (.int r.2.2.2.2.1) u0_12 (.ref q1) u0_14 (.int v_ruleSize) (.int r.2.2.2.2.2.1) (.ref q2) u0_18 u0_19 u0_20 u0_21 u0_22 u0_23 u0_24 u0_25 u0_26 u0_27 u0_28 u0_29 u0_30 u0_31 u0_32 u0_33 u0_34 u0_35 u0_36 u0_37 u0_38 u0_39 u0_40, aB cy q1 40 v_rule, aI cy q2 7 r.2.2.2.2.2.2.1, aI cy q3 nw1_ r.2.2.2.2.2.2.2]) (some (.int r.1)) := by
  refine Ct.mk kX11_goMorning (by decide +kernel) (Nat.le_of_ble_eq_true rfl) ?_
  intro p e s m below meth c A ls args R Q hRf hRl hQ E H locs hS hl
  have hx := E.x
  have hb := E.b
  have hl : lv_has ls 4 [(0, .ref q0), (1, .ref q3)] := hl
  unfold X11_goMorning at h
  refine lv_aload_n hx hb dX11_goMorning_0 rfl (lv_at hl 0 rfl) ?_
  refine lv_aload_n hx hb dX11_goMorning_1 rfl (lv_at hl 1 rfl) ?_
  obtain ⟨y2, e1, h⟩ := bd_some h
  refine ct_V (ws' := fun _ => [oX11 q0 u0_0 (.int v_people) u0_2 u0_3 u0_4 u0_5 u0_6 (.ref q1) (.int y2.2.1) (.int y2.2.2.1) (.int y2.2.2.2.1) (.int y2.2.2.2.2.1) u0_12 (.ref q1) u0_14 (.int v_ruleSize) (.int y2.2.2.2.2.2.1) (.ref q2) u0_18 u0_19 u0_20 u0_21 u0_22 u0_23 u0_24 u0_25 u0_26 u0_27 u0_28 u0_29 u0_30 u0_31 u0_32 u0_33 u0_34 u0_35 u0_36 u0_37 u0_38 u0_39 u0_40, aB cy q1 40 v_rule, aI cy q2 7 y2.2.2.2.2.2.2, aI cy q3 nw1_ w1_]) (st' := [.int y2.1]) (rest := []) E hS vlX11_239 (c_X11_awake (l := l) (D := D) (cy := cy) (q0 := q0) (q1 := q1) (q2 := q2) (q3 := q3) (u0_0 := u0_0) (u0_2 := u0_2) (u0_3 := u0_3) (u0_4 := u0_4) (u0_5 := u0_5) (u0_6 := u0_6) (u0_7 := u0_7) (u0_12 := u0_12) (u0_14 := u0_14) (u0_18 := u0_18) (u0_19 := u0_19) (u0_20 := u0_20) (u0_21 := u0_21) (u0_22 := u0_22) (u0_23 := u0_23) (u0_24 := u0_24) (u0_25 := u0_25) (u0_26 := u0_26) (u0_27 := u0_27) (u0_28 := u0_28) (u0_29 := u0_29) (u0_30 := u0_30) (u0_31 := u0_31) (u0_32 := u0_32) (u0_33 := u0_33) (u0_34 := u0_34) (u0_35 := u0_35) (u0_36 := u0_36) (u0_37 := u0_37) (u0_38 := u0_38) (u0_39 := u0_39) (u0_40 := u0_40) (v_people := v_people) (v_length := v_length) (v_top := v_top) (v_at := v_at) (v_wrong := v_wrong) (v_ruleSize := v_ruleSize) (v_isAsked := v_isAsked) (v_rule := v_rule) (v_asked := v_asked) (nw1_ := nw1_) (w1_ := w1_) (r := y2) e1) [0, 1, 2, 3] rfl rfl (fun _ => rfl) (fun _ => rfl) rfl rfl rfl rfl (Nat.le_of_ble_eq_true rfl) hl.1 (by rw [hRf]; exact Nat.le_of_ble_eq_true rfl) (by rw [hRl]; exact Nat.le_of_ble_eq_true rfl) ⟨Nat.zero_le _, Nat.zero_le _⟩ dX11_goMorning_2 rfl (fun H locs _ hS => ?_)
  refine lv_istore_n (lv' := [(2, .int y2.1), (0, .ref q0), (1, .ref q3)]) hx hb dX11_goMorning_5 rfl hl (by decide) rfl (fun ls hl => ?_)
  refine lv_aload_n hx hb dX11_goMorning_6 rfl (lv_at hl 2 rfl) ?_
  refine lv_bipush (v := 36) hx hb dX11_goMorning_7 (by decide) ?_
  refine lv_sipush (v := 9999) hx hb dX11_goMorning_9 (by decide) ?_
  refine lv_aload_n hx hb dX11_goMorning_12 rfl (lv_at hl 2 rfl) ?_
  refine lv_bipush (v := 36) hx hb dX11_goMorning_13 (by decide) ?_
  obtain ⟨g2, h⟩ := gi_some h
  refine r_iald E hS 3 rfl g2 dX11_goMorning_15 ?_
  refine lv_aload_n hx hb dX11_goMorning_16 rfl (lv_at hl 1 rfl) ?_
  refine lv_aload_n hx hb dX11_goMorning_17 rfl (lv_at hl 2 rfl) ?_
  refine lv_iload_n hx hb dX11_goMorning_18 rfl (lv_at hl 0 rfl) ?_
  obtain ⟨y19, e3, h⟩ := bd_some h
  refine ct_V (ws' := fun _ => [oX11 q0 u0_0 (.int v_people) u0_2 u0_3 u0_4 u0_5 u0_6 (.ref q1) (.int y2.2.1) (.int y2.2.2.1) (.int y2.2.2.2.1) (.int y2.2.2.2.2.1) u0_12 (.ref q1) u0_14 (.int v_ruleSize) (.int y2.2.2.2.2.2.1) (.ref q2) u0_18 u0_19 u0_20 u0_21 u0_22 u0_23 u0_24 u0_25 u0_26 u0_27 u0_28 u0_29 u0_30 u0_31 u0_32 u0_33 u0_34 u0_35 u0_36 u0_37 u0_38 u0_39 u0_40, aB cy q1 40 v_rule, aI cy q2 7 y2.2.2.2.2.2.2, aI cy q3 nw1_ w1_]) (st' := [.int y19, .int (w1_ (36 : Int32).toNatClampNeg), .int (9999 : Int32), .int (36 : Int32), .ref q3]) (rest := [.int (w1_ (36 : Int32).toNatClampNeg), .int (9999 : Int32), .int (36 : Int32), .ref q3]) E hS vlX11_243 (c_X11_unmet (l := l) (D := D) (cy := cy) (q0 := q0) (q1 := q3) (u0_0 := u0_0) (u0_2 := u0_2) (u0_3 := u0_3) (u0_4 := u0_4) (u0_5 := u0_5) (u0_6 := u0_6) (u0_7 := .ref q1) (u0_8 := .int y2.2.1) (u0_9 := .int y2.2.2.1) (u0_10 := .int y2.2.2.2.1) (u0_11 := .int y2.2.2.2.2.1) (u0_12 := u0_12) (u0_13 := .ref q1) (u0_14 := u0_14) (u0_15 := .int v_ruleSize) (u0_16 := .int y2.2.2.2.2.2.1) (u0_17 := .ref q2) (u0_18 := u0_18) (u0_19 := u0_19) (u0_20 := u0_20) (u0_21 := u0_21) (u0_22 := u0_22) (u0_23 := u0_23) (u0_24 := u0_24) (u0_25 := u0_25) (u0_26 := u0_26) (u0_27 := u0_27) (u0_28 := u0_28) (u0_29 := u0_29) (u0_30 := u0_30) (u0_31 := u0_31) (u0_32 := u0_32) (u0_33 := u0_33) (u0_34 := u0_34) (u0_35 := u0_35) (u0_36 := u0_36) (u0_37 := u0_37) (u0_38 := u0_38) (u0_39 := u0_39) (u0_40 := u0_40) (v_people := v_people) (nw1_ := nw1_) (w1_ := w1_) (p2 := y2.1) (r := y19) e3) [0, 3] rfl rfl (fun _ => rfl) (fun _ => rfl) rfl rfl rfl rfl (Nat.le_of_ble_eq_true rfl) hl.1 (by rw [hRf]; exact Nat.le_of_ble_eq_true rfl) (by rw [hRl]; exact Nat.le_of_ble_eq_true rfl) ⟨Nat.zero_le _, Nat.zero_le _⟩ dX11_goMorning_19 rfl (fun H locs _ hS => ?_)
  refine lv_iadd hx hb dX11_goMorning_22 ?_
  refine ct_S (ws' := fun _ => [oX11 q0 u0_0 (.int v_people) u0_2 u0_3 u0_4 u0_5 u0_6 (.ref q1) (.int y2.2.1) (.int y2.2.2.1) (.int y2.2.2.2.1) (.int y2.2.2.2.2.1) u0_12 (.ref q1) u0_14 (.int v_ruleSize) (.int y2.2.2.2.2.2.1) (.ref q2) u0_18 u0_19 u0_20 u0_21 u0_22 u0_23 u0_24 u0_25 u0_26 u0_27 u0_28 u0_29 u0_30 u0_31 u0_32 u0_33 u0_34 u0_35 u0_36 u0_37 u0_38 u0_39 u0_40, aB cy q1 40 v_rule, aI cy q2 7 y2.2.2.2.2.2.2, aI cy q3 nw1_ w1_]) (st' := [.int (J9_min_7cf53 (9999 : Int32) ((w1_ (36 : Int32).toNatClampNeg) + y19)), .int (36 : Int32), .ref q3]) (rest := [.int (36 : Int32), .ref q3]) E hS slX11_223 (c_J9_min_7cf53 (l := l) (D := D) (cy := cy) (p0 := (9999 : Int32)) (p1 := ((w1_ (36 : Int32).toNatClampNeg) + y19)) (r := (J9_min_7cf53 (9999 : Int32) ((w1_ (36 : Int32).toNatClampNeg) + y19))) rfl) [] rfl rfl (fun _ => rfl) (fun _ => rfl) rfl rfl (Nat.le_of_ble_eq_true rfl) hl.1 (by rw [hRf]; exact Nat.le_of_ble_eq_true rfl) (by rw [hRl]; exact Nat.le_of_ble_eq_true rfl) ⟨Nat.zero_le _, Nat.zero_le _⟩ dX11_goMorning_23 rfl (fun H locs _ hS => ?_)
  obtain ⟨g4, h⟩ := gi_some h
  refine r_iast (ws' := [oX11 q0 u0_0 (.int v_people) u0_2 u0_3 u0_4 u0_5 u0_6 (.ref q1) (.int y2.2.1) (.int y2.2.2.1) (.int y2.2.2.2.1) (.int y2.2.2.2.2.1) u0_12 (.ref q1) u0_14 (.int v_ruleSize) (.int y2.2.2.2.2.2.1) (.ref q2) u0_18 u0_19 u0_20 u0_21 u0_22 u0_23 u0_24 u0_25 u0_26 u0_27 u0_28 u0_29 u0_30 u0_31 u0_32 u0_33 u0_34 u0_35 u0_36 u0_37 u0_38 u0_39 u0_40, aB cy q1 40 v_rule, aI cy q2 7 y2.2.2.2.2.2.2, aI cy q3 nw1_ (upd w1_ (36 : Int32).toNatClampNeg (J9_min_7cf53 (9999 : Int32) ((w1_ (36 : Int32).toNatClampNeg) + y19)))]) E hS 3 rfl g4 rfl dX11_goMorning_26 (fun H locs hS => ?_)
  refine lv_iconst (v := 0) hx hb dX11_goMorning_27 (by decide) ?_
  refine lv_istore_n (lv' := [(3, .int (0 : Int32)), (2, .int y2.1), (0, .ref q0), (1, .ref q3)]) hx hb dX11_goMorning_28 rfl hl (by decide) rfl (fun ls hl => ?_)
  have hL29 : ∀ (n : Nat) (x29 : Int32 × (Nat → Int32)) (y29 : (Nat → Int32)) (H : Heap) (locs : List Loc) (ls : Array Slot), lp (fun x29 => X11_goMorning_s29 v_people nw1_ y2 x29) n x29 = some y29 → Sv D A s.heap [oX11 q0 u0_0 (.int v_people) u0_2 u0_3 u0_4 u0_5 u0_6 (.ref q1) (.int y2.2.1) (.int y2.2.2.1) (.int y2.2.2.2.1) (.int y2.2.2.2.2.1) u0_12 (.ref q1) u0_14 (.int v_ruleSize) (.int y2.2.2.2.2.2.1) (.ref q2) u0_18 u0_19 u0_20 u0_21 u0_22 u0_23 u0_24 u0_25 u0_26 u0_27 u0_28 u0_29 u0_30 u0_31 u0_32 u0_33 u0_34 u0_35 u0_36 u0_37 u0_38 u0_39 u0_40, aB cy q1 40 v_rule, aI cy q2 7 y2.2.2.2.2.2.2, aI cy q3 nw1_ x29.2] H locs → lv_has ls 4 [(0, .ref q0), (1, .ref q3), (2, .int y2.1), (3, .int x29.1)] → (∀ (H : Heap) (locs : List Loc) (ls : Array Slot), Sv D A s.heap [oX11 q0 u0_0 (.int v_people) u0_2 u0_3 u0_4 u0_5 u0_6 (.ref q1) (.int y2.2.1) (.int y2.2.2.1) (.int y2.2.2.2.1) (.int y2.2.2.2.2.1) u0_12 (.ref q1) u0_14 (.int v_ruleSize) (.int y2.2.2.2.2.2.1) (.ref q2) u0_18 u0_19 u0_20 u0_21 u0_22 u0_23 u0_24 u0_25 u0_26 u0_27 u0_28 u0_29 u0_30 u0_31 u0_32 u0_33 u0_34 u0_35 u0_36 u0_37 u0_38 u0_39 u0_40, aB cy q1 40 v_rule, aI cy q2 7 y2.2.2.2.2.2.2, aI cy q3 nw1_ y29] H locs → lv_has ls 4 [(1, .ref q3), (2, .int y2.1)] → W p l e R s m args below meth c H locs 0 0 Q (F0 m 120 ls [])) → W p l e R s m args below meth c H locs 0 0 Q (F0 m 29 ls []) := by
    intro n
    induction n with
    | zero =>
      intro x29 y29 H locs ls h
      exact lp_zero h
    | succ n ih29 =>
      intro x29 y29 H locs ls h hS hl hk29_0
      obtain ⟨z29, h, hz29a, hz29b⟩ := lp_succ h
      have h : X11_goMorning_s29 v_people nw1_ y2 x29 = some z29 := h
      unfold X11_goMorning_s29 at h
      refine lv_iload_n hx hb dX11_goMorning_29 rfl (lv_at hl 3 rfl) ?_
      refine lv_aload_n hx hb dX11_goMorning_30 rfl (lv_at hl 0 rfl) ?_
      refine r_get E frX11_92 hS 0 rfl rfl dX11_goMorning_31 ?_
      refine lv_icmp_ge (tgt := 120) hx hb dX11_goMorning_34 (by decide) (fun c5 => ?_) (fun c5 => ?_)
      · have h := it_pos c5 h
        obtain rfl := hz29b _ (Option.some.inj h).symm
        exact hk29_0  H locs ls hS (lv_sub hl [1, 2] rfl)
      · have h := it_neg c5 h
        refine lv_iload_n hx hb dX11_goMorning_37 rfl (lv_at hl 2 rfl) ?_
        refine lv_iload_n hx hb dX11_goMorning_38 rfl (lv_at hl 3 rfl) ?_
        refine ct_S (ws' := fun _ => [oX11 q0 u0_0 (.int v_people) u0_2 u0_3 u0_4 u0_5 u0_6 (.ref q1) (.int y2.2.1) (.int y2.2.2.1) (.int y2.2.2.2.1) (.int y2.2.2.2.2.1) u0_12 (.ref q1) u0_14 (.int v_ruleSize) (.int y2.2.2.2.2.2.1) (.ref q2) u0_18 u0_19 u0_20 u0_21 u0_22 u0_23 u0_24 u0_25 u0_26 u0_27 u0_28 u0_29 u0_30 u0_31 u0_32 u0_33 u0_34 u0_35 u0_36 u0_37 u0_38 u0_39 u0_40, aB cy q1 40 v_rule, aI cy q2 7 y2.2.2.2.2.2.2, aI cy q3 nw1_ x29.2]) (st' := [.int (X11_has y2.1 x29.1)]) (rest := []) E hS slX11_196 (c_X11_has (l := l) (D := D) (cy := cy) (p0 := y2.1) (p1 := x29.1) (r := (X11_has y2.1 x29.1)) rfl) [] rfl rfl (fun _ => rfl) (fun _ => rfl) rfl rfl (Nat.le_of_ble_eq_true rfl) hl.1 (by rw [hRf]; exact Nat.le_of_ble_eq_true rfl) (by rw [hRl]; exact Nat.le_of_ble_eq_true rfl) ⟨Nat.zero_le _, Nat.zero_le _⟩ dX11_goMorning_39 rfl (fun H locs _ hS => ?_)
        have hJ65 : ∀ (j65_w1_ : Nat → Int32) (H : Heap) (locs : List Loc) (ls : Array Slot), X11_goMorning_k65 nw1_ y2 x29 j65_w1_ = some z29 → Sv D A s.heap [oX11 q0 u0_0 (.int v_people) u0_2 u0_3 u0_4 u0_5 u0_6 (.ref q1) (.int y2.2.1) (.int y2.2.2.1) (.int y2.2.2.2.1) (.int y2.2.2.2.2.1) u0_12 (.ref q1) u0_14 (.int v_ruleSize) (.int y2.2.2.2.2.2.1) (.ref q2) u0_18 u0_19 u0_20 u0_21 u0_22 u0_23 u0_24 u0_25 u0_26 u0_27 u0_28 u0_29 u0_30 u0_31 u0_32 u0_33 u0_34 u0_35 u0_36 u0_37 u0_38 u0_39 u0_40, aB cy q1 40 v_rule, aI cy q2 7 y2.2.2.2.2.2.2, aI cy q3 nw1_ j65_w1_] H locs → lv_has ls 4 [(0, .ref q0), (1, .ref q3), (2, .int y2.1), (3, .int x29.1)] → W p l e R s m args below meth c H locs 0 0 Q (F0 m 65 ls []) := by
          intro j65_w1_ H locs ls h hS hl
          unfold X11_goMorning_k65 at h
          refine lv_aload_n hx hb dX11_goMorning_65 rfl (lv_at hl 1 rfl) ?_
          refine lv_bipush (v := 14) hx hb dX11_goMorning_66 (by decide) ?_
          refine lv_iload_n hx hb dX11_goMorning_68 rfl (lv_at hl 3 rfl) ?_
          refine lv_iadd hx hb dX11_goMorning_69 ?_
          refine lv_iload_n hx hb dX11_goMorning_70 rfl (lv_at hl 2 rfl) ?_
          refine lv_iload_n hx hb dX11_goMorning_71 rfl (lv_at hl 3 rfl) ?_
          refine ct_S (ws' := fun _ => [oX11 q0 u0_0 (.int v_people) u0_2 u0_3 u0_4 u0_5 u0_6 (.ref q1) (.int y2.2.1) (.int y2.2.2.1) (.int y2.2.2.2.1) (.int y2.2.2.2.2.1) u0_12 (.ref q1) u0_14 (.int v_ruleSize) (.int y2.2.2.2.2.2.1) (.ref q2) u0_18 u0_19 u0_20 u0_21 u0_22 u0_23 u0_24 u0_25 u0_26 u0_27 u0_28 u0_29 u0_30 u0_31 u0_32 u0_33 u0_34 u0_35 u0_36 u0_37 u0_38 u0_39 u0_40, aB cy q1 40 v_rule, aI cy q2 7 y2.2.2.2.2.2.2, aI cy q3 nw1_ j65_w1_]) (st' := [.int (X11_has y2.1 x29.1), .int ((14 : Int32) + x29.1), .ref q3]) (rest := [.int ((14 : Int32) + x29.1), .ref q3]) E hS slX11_196 (c_X11_has (l := l) (D := D) (cy := cy) (p0 := y2.1) (p1 := x29.1) (r := (X11_has y2.1 x29.1)) rfl) [] rfl rfl (fun _ => rfl) (fun _ => rfl) rfl rfl (Nat.le_of_ble_eq_true rfl) hl.1 (by rw [hRf]; exact Nat.le_of_ble_eq_true rfl) (by rw [hRl]; exact Nat.le_of_ble_eq_true rfl) ⟨Nat.zero_le _, Nat.zero_le _⟩ dX11_goMorning_72 rfl (fun H locs _ hS => ?_)
          have hJ95 : ∀ (j95_t2 : Int32) (H : Heap) (locs : List Loc) (ls : Array Slot), X11_goMorning_k95 nw1_ x29 j65_w1_ j95_t2 = some z29 → Sv D A s.heap [oX11 q0 u0_0 (.int v_people) u0_2 u0_3 u0_4 u0_5 u0_6 (.ref q1) (.int y2.2.1) (.int y2.2.2.1) (.int y2.2.2.2.1) (.int y2.2.2.2.2.1) u0_12 (.ref q1) u0_14 (.int v_ruleSize) (.int y2.2.2.2.2.2.1) (.ref q2) u0_18 u0_19 u0_20 u0_21 u0_22 u0_23 u0_24 u0_25 u0_26 u0_27 u0_28 u0_29 u0_30 u0_31 u0_32 u0_33 u0_34 u0_35 u0_36 u0_37 u0_38 u0_39 u0_40, aB cy q1 40 v_rule, aI cy q2 7 y2.2.2.2.2.2.2, aI cy q3 nw1_ j65_w1_] H locs → lv_has ls 4 [(0, .ref q0), (1, .ref q3), (2, .int y2.1), (3, .int x29.1)] → W p l e R s m args below meth c H locs 0 0 Q (F0 m 95 ls [.int j95_t2, .int ((14 : Int32) + x29.1), .ref q3]) := by
            intro j95_t2 H locs ls h hS hl
            unfold X11_goMorning_k95 at h
            obtain ⟨g6, h⟩ := gi_some h
            refine r_iast (ws' := [oX11 q0 u0_0 (.int v_people) u0_2 u0_3 u0_4 u0_5 u0_6 (.ref q1) (.int y2.2.1) (.int y2.2.2.1) (.int y2.2.2.2.1) (.int y2.2.2.2.2.1) u0_12 (.ref q1) u0_14 (.int v_ruleSize) (.int y2.2.2.2.2.2.1) (.ref q2) u0_18 u0_19 u0_20 u0_21 u0_22 u0_23 u0_24 u0_25 u0_26 u0_27 u0_28 u0_29 u0_30 u0_31 u0_32 u0_33 u0_34 u0_35 u0_36 u0_37 u0_38 u0_39 u0_40, aB cy q1 40 v_rule, aI cy q2 7 y2.2.2.2.2.2.2, aI cy q3 nw1_ (upd j65_w1_ ((14 : Int32) + x29.1).toNatClampNeg j95_t2)]) E hS 3 rfl g6 rfl dX11_goMorning_95 (fun H locs hS => ?_)
            refine lv_aload_n hx hb dX11_goMorning_96 rfl (lv_at hl 1 rfl) ?_
            refine lv_bipush (v := 7) hx hb dX11_goMorning_97 (by decide) ?_
            refine lv_iload_n hx hb dX11_goMorning_99 rfl (lv_at hl 3 rfl) ?_
            refine lv_iadd hx hb dX11_goMorning_100 ?_
            refine lv_iconst (v := 0) hx hb dX11_goMorning_101 (by decide) ?_
            refine lv_aload_n hx hb dX11_goMorning_102 rfl (lv_at hl 1 rfl) ?_
            refine lv_bipush (v := 7) hx hb dX11_goMorning_103 (by decide) ?_
            refine lv_iload_n hx hb dX11_goMorning_105 rfl (lv_at hl 3 rfl) ?_
            refine lv_iadd hx hb dX11_goMorning_106 ?_
            obtain ⟨g7, h⟩ := gi_some h
            refine r_iald E hS 3 rfl g7 dX11_goMorning_107 ?_
            refine lv_iconst (v := 1) hx hb dX11_goMorning_108 (by decide) ?_
            refine lv_isub hx hb dX11_goMorning_109 ?_
            refine ct_S (ws' := fun _ => [oX11 q0 u0_0 (.int v_people) u0_2 u0_3 u0_4 u0_5 u0_6 (.ref q1) (.int y2.2.1) (.int y2.2.2.1) (.int y2.2.2.2.1) (.int y2.2.2.2.2.1) u0_12 (.ref q1) u0_14 (.int v_ruleSize) (.int y2.2.2.2.2.2.1) (.ref q2) u0_18 u0_19 u0_20 u0_21 u0_22 u0_23 u0_24 u0_25 u0_26 u0_27 u0_28 u0_29 u0_30 u0_31 u0_32 u0_33 u0_34 u0_35 u0_36 u0_37 u0_38 u0_39 u0_40, aB cy q1 40 v_rule, aI cy q2 7 y2.2.2.2.2.2.2, aI cy q3 nw1_ (upd j65_w1_ ((14 : Int32) + x29.1).toNatClampNeg j95_t2)]) (st' := [.int (J9_max_7cf53 (0 : Int32) (((upd j65_w1_ ((14 : Int32) + x29.1).toNatClampNeg j95_t2) ((7 : Int32) + x29.1).toNatClampNeg) - (1 : Int32))), .int ((7 : Int32) + x29.1), .ref q3]) (rest := [.int ((7 : Int32) + x29.1), .ref q3]) E hS slX11_229 (c_J9_max_7cf53 (l := l) (D := D) (cy := cy) (p0 := (0 : Int32)) (p1 := (((upd j65_w1_ ((14 : Int32) + x29.1).toNatClampNeg j95_t2) ((7 : Int32) + x29.1).toNatClampNeg) - (1 : Int32))) (r := (J9_max_7cf53 (0 : Int32) (((upd j65_w1_ ((14 : Int32) + x29.1).toNatClampNeg j95_t2) ((7 : Int32) + x29.1).toNatClampNeg) - (1 : Int32)))) rfl) [] rfl rfl (fun _ => rfl) (fun _ => rfl) rfl rfl (Nat.le_of_ble_eq_true rfl) hl.1 (by rw [hRf]; exact Nat.le_of_ble_eq_true rfl) (by rw [hRl]; exact Nat.le_of_ble_eq_true rfl) ⟨Nat.zero_le _, Nat.zero_le _⟩ dX11_goMorning_110 rfl (fun H locs _ hS => ?_)
            obtain ⟨g8, h⟩ := gi_some h
            refine r_iast (ws' := [oX11 q0 u0_0 (.int v_people) u0_2 u0_3 u0_4 u0_5 u0_6 (.ref q1) (.int y2.2.1) (.int y2.2.2.1) (.int y2.2.2.2.1) (.int y2.2.2.2.2.1) u0_12 (.ref q1) u0_14 (.int v_ruleSize) (.int y2.2.2.2.2.2.1) (.ref q2) u0_18 u0_19 u0_20 u0_21 u0_22 u0_23 u0_24 u0_25 u0_26 u0_27 u0_28 u0_29 u0_30 u0_31 u0_32 u0_33 u0_34 u0_35 u0_36 u0_37 u0_38 u0_39 u0_40, aB cy q1 40 v_rule, aI cy q2 7 y2.2.2.2.2.2.2, aI cy q3 nw1_ (upd (upd j65_w1_ ((14 : Int32) + x29.1).toNatClampNeg j95_t2) ((7 : Int32) + x29.1).toNatClampNeg (J9_max_7cf53 (0 : Int32) (((upd j65_w1_ ((14 : Int32) + x29.1).toNatClampNeg j95_t2) ((7 : Int32) + x29.1).toNatClampNeg) - (1 : Int32))))]) E hS 3 rfl g8 rfl dX11_goMorning_113 (fun H locs hS => ?_)
            refine lv_iinc (v := (x29.1 + (1 : Int32))) (lv' := [(3, .int (x29.1 + (1 : Int32))), (0, .ref q0), (1, .ref q3), (2, .int y2.1)]) hx hb dX11_goMorning_114 hl (k := 3) rfl rfl (by decide) rfl (fun ls hl => ?_)
            refine lv_goto (tgt := 29) hx hb dX11_goMorning_117 (by decide) ?_
            exact ih29 ((x29.1 + (1 : Int32)), (upd (upd j65_w1_ ((14 : Int32) + x29.1).toNatClampNeg j95_t2) ((7 : Int32) + x29.1).toNatClampNeg (J9_max_7cf53 (0 : Int32) (((upd j65_w1_ ((14 : Int32) + x29.1).toNatClampNeg j95_t2) ((7 : Int32) + x29.1).toNatClampNeg) - (1 : Int32))))) y29  H locs ls (hz29a _ (Option.some.inj h).symm) hS (lv_sub hl [1, 2, 3, 0] rfl) hk29_0
          refine lv_if_eq (tgt := 82) hx hb dX11_goMorning_75 (by decide) (fun c9 => ?_) (fun c9 => ?_)
          · have h := it_pos c9 h
            refine lv_bipush (v := 99) hx hb dX11_goMorning_82 (by decide) ?_
            refine lv_aload_n hx hb dX11_goMorning_84 rfl (lv_at hl 1 rfl) ?_
            refine lv_bipush (v := 14) hx hb dX11_goMorning_85 (by decide) ?_
            refine lv_iload_n hx hb dX11_goMorning_87 rfl (lv_at hl 3 rfl) ?_
            refine lv_iadd hx hb dX11_goMorning_88 ?_
            obtain ⟨g10, h⟩ := gi_some h
            refine r_iald E hS 3 rfl g10 dX11_goMorning_89 ?_
            refine lv_iconst (v := 1) hx hb dX11_goMorning_90 (by decide) ?_
            refine lv_iadd hx hb dX11_goMorning_91 ?_
            refine ct_S (ws' := fun _ => [oX11 q0 u0_0 (.int v_people) u0_2 u0_3 u0_4 u0_5 u0_6 (.ref q1) (.int y2.2.1) (.int y2.2.2.1) (.int y2.2.2.2.1) (.int y2.2.2.2.2.1) u0_12 (.ref q1) u0_14 (.int v_ruleSize) (.int y2.2.2.2.2.2.1) (.ref q2) u0_18 u0_19 u0_20 u0_21 u0_22 u0_23 u0_24 u0_25 u0_26 u0_27 u0_28 u0_29 u0_30 u0_31 u0_32 u0_33 u0_34 u0_35 u0_36 u0_37 u0_38 u0_39 u0_40, aB cy q1 40 v_rule, aI cy q2 7 y2.2.2.2.2.2.2, aI cy q3 nw1_ j65_w1_]) (st' := [.int (J9_min_7cf53 (99 : Int32) ((j65_w1_ ((14 : Int32) + x29.1).toNatClampNeg) + (1 : Int32))), .int ((14 : Int32) + x29.1), .ref q3]) (rest := [.int ((14 : Int32) + x29.1), .ref q3]) E hS slX11_223 (c_J9_min_7cf53 (l := l) (D := D) (cy := cy) (p0 := (99 : Int32)) (p1 := ((j65_w1_ ((14 : Int32) + x29.1).toNatClampNeg) + (1 : Int32))) (r := (J9_min_7cf53 (99 : Int32) ((j65_w1_ ((14 : Int32) + x29.1).toNatClampNeg) + (1 : Int32)))) rfl) [] rfl rfl (fun _ => rfl) (fun _ => rfl) rfl rfl (Nat.le_of_ble_eq_true rfl) hl.1 (by rw [hRf]; exact Nat.le_of_ble_eq_true rfl) (by rw [hRl]; exact Nat.le_of_ble_eq_true rfl) ⟨Nat.zero_le _, Nat.zero_le _⟩ dX11_goMorning_92 rfl (fun H locs _ hS => ?_)
            exact hJ95 (J9_min_7cf53 (99 : Int32) ((j65_w1_ ((14 : Int32) + x29.1).toNatClampNeg) + (1 : Int32)))  H locs ls h hS (lv_sub hl [0, 1, 2, 3] rfl)
          · have h := it_neg c9 h
            refine lv_iconst (v := 0) hx hb dX11_goMorning_78 (by decide) ?_
            refine lv_goto (tgt := 95) hx hb dX11_goMorning_79 (by decide) ?_
            exact hJ95 (0 : Int32)  H locs ls h hS (lv_sub hl [0, 1, 2, 3] rfl)
        refine lv_if_eq (tgt := 65) hx hb dX11_goMorning_42 (by decide) (fun c11 => ?_) (fun c11 => ?_)
        · have h := it_pos c11 h
          exact hJ65 x29.2  H locs ls h hS (lv_sub hl [0, 1, 2, 3] rfl)
        · have h := it_neg c11 h
          refine lv_aload_n hx hb dX11_goMorning_45 rfl (lv_at hl 1 rfl) ?_
          refine lv_bipush (v := 21) hx hb dX11_goMorning_46 (by decide) ?_
          refine lv_iload_n hx hb dX11_goMorning_48 rfl (lv_at hl 3 rfl) ?_
          refine lv_iadd hx hb dX11_goMorning_49 ?_
          refine lv_sipush (v := 999) hx hb dX11_goMorning_50 (by decide) ?_
          refine lv_aload_n hx hb dX11_goMorning_53 rfl (lv_at hl 1 rfl) ?_
          refine lv_bipush (v := 21) hx hb dX11_goMorning_54 (by decide) ?_
          refine lv_iload_n hx hb dX11_goMorning_56 rfl (lv_at hl 3 rfl) ?_
          refine lv_iadd hx hb dX11_goMorning_57 ?_
          obtain ⟨g12, h⟩ := gi_some h
          refine r_iald E hS 3 rfl g12 dX11_goMorning_58 ?_
          refine lv_iconst (v := 1) hx hb dX11_goMorning_59 (by decide) ?_
          refine lv_iadd hx hb dX11_goMorning_60 ?_
          refine ct_S (ws' := fun _ => [oX11 q0 u0_0 (.int v_people) u0_2 u0_3 u0_4 u0_5 u0_6 (.ref q1) (.int y2.2.1) (.int y2.2.2.1) (.int y2.2.2.2.1) (.int y2.2.2.2.2.1) u0_12 (.ref q1) u0_14 (.int v_ruleSize) (.int y2.2.2.2.2.2.1) (.ref q2) u0_18 u0_19 u0_20 u0_21 u0_22 u0_23 u0_24 u0_25 u0_26 u0_27 u0_28 u0_29 u0_30 u0_31 u0_32 u0_33 u0_34 u0_35 u0_36 u0_37 u0_38 u0_39 u0_40, aB cy q1 40 v_rule, aI cy q2 7 y2.2.2.2.2.2.2, aI cy q3 nw1_ x29.2]) (st' := [.int (J9_min_7cf53 (999 : Int32) ((x29.2 ((21 : Int32) + x29.1).toNatClampNeg) + (1 : Int32))), .int ((21 : Int32) + x29.1), .ref q3]) (rest := [.int ((21 : Int32) + x29.1), .ref q3]) E hS slX11_223 (c_J9_min_7cf53 (l := l) (D := D) (cy := cy) (p0 := (999 : Int32)) (p1 := ((x29.2 ((21 : Int32) + x29.1).toNatClampNeg) + (1 : Int32))) (r := (J9_min_7cf53 (999 : Int32) ((x29.2 ((21 : Int32) + x29.1).toNatClampNeg) + (1 : Int32)))) rfl) [] rfl rfl (fun _ => rfl) (fun _ => rfl) rfl rfl (Nat.le_of_ble_eq_true rfl) hl.1 (by rw [hRf]; exact Nat.le_of_ble_eq_true rfl) (by rw [hRl]; exact Nat.le_of_ble_eq_true rfl) ⟨Nat.zero_le _, Nat.zero_le _⟩ dX11_goMorning_61 rfl (fun H locs _ hS => ?_)
          obtain ⟨g13, h⟩ := gi_some h
          refine r_iast (ws' := [oX11 q0 u0_0 (.int v_people) u0_2 u0_3 u0_4 u0_5 u0_6 (.ref q1) (.int y2.2.1) (.int y2.2.2.1) (.int y2.2.2.2.1) (.int y2.2.2.2.2.1) u0_12 (.ref q1) u0_14 (.int v_ruleSize) (.int y2.2.2.2.2.2.1) (.ref q2) u0_18 u0_19 u0_20 u0_21 u0_22 u0_23 u0_24 u0_25 u0_26 u0_27 u0_28 u0_29 u0_30 u0_31 u0_32 u0_33 u0_34 u0_35 u0_36 u0_37 u0_38 u0_39 u0_40, aB cy q1 40 v_rule, aI cy q2 7 y2.2.2.2.2.2.2, aI cy q3 nw1_ (upd x29.2 ((21 : Int32) + x29.1).toNatClampNeg (J9_min_7cf53 (999 : Int32) ((x29.2 ((21 : Int32) + x29.1).toNatClampNeg) + (1 : Int32))))]) E hS 3 rfl g13 rfl dX11_goMorning_64 (fun H locs hS => ?_)
          exact hJ65 (upd x29.2 ((21 : Int32) + x29.1).toNatClampNeg (J9_min_7cf53 (999 : Int32) ((x29.2 ((21 : Int32) + x29.1).toNatClampNeg) + (1 : Int32))))  H locs ls h hS (lv_sub hl [0, 1, 2, 3] rfl)
  obtain ⟨y29, e29, h⟩ := bd_some h
  refine hL29 1000 ((0 : Int32), (upd w1_ (36 : Int32).toNatClampNeg (J9_min_7cf53 (9999 : Int32) ((w1_ (36 : Int32).toNatClampNeg) + y19)))) y29  H locs ls e29 hS (lv_sub hl [2, 3, 1, 0] rfl) (fun H locs ls hS hl => ?_)
  refine lv_aload_n hx hb dX11_goMorning_120 rfl (lv_at hl 0 rfl) ?_
  refine lv_bipush (v := 35) hx hb dX11_goMorning_121 (by decide) ?_
  refine lv_dup2_11 hx hb dX11_goMorning_123 rfl rfl ?_
  obtain ⟨g14, h⟩ := gi_some h
  refine r_iald E hS 3 rfl g14 dX11_goMorning_124 ?_
  refine lv_iconst (v := 1) hx hb dX11_goMorning_125 (by decide) ?_
  refine lv_iadd hx hb dX11_goMorning_126 ?_
  obtain ⟨g15, h⟩ := gi_some h
  refine r_iast (ws' := [oX11 q0 u0_0 (.int v_people) u0_2 u0_3 u0_4 u0_5 u0_6 (.ref q1) (.int y2.2.1) (.int y2.2.2.1) (.int y2.2.2.2.1) (.int y2.2.2.2.2.1) u0_12 (.ref q1) u0_14 (.int v_ruleSize) (.int y2.2.2.2.2.2.1) (.ref q2) u0_18 u0_19 u0_20 u0_21 u0_22 u0_23 u0_24 u0_25 u0_26 u0_27 u0_28 u0_29 u0_30 u0_31 u0_32 u0_33 u0_34 u0_35 u0_36 u0_37 u0_38 u0_39 u0_40, aB cy q1 40 v_rule, aI cy q2 7 y2.2.2.2.2.2.2, aI cy q3 nw1_ (upd y29 (35 : Int32).toNatClampNeg ((y29 (35 : Int32).toNatClampNeg) + (1 : Int32)))]) E hS 3 rfl g15 rfl dX11_goMorning_127 (fun H locs hS => ?_)
  refine lv_iload_n hx hb dX11_goMorning_128 rfl (lv_at hl 1 rfl) ?_
  obtain rfl := Option.some.inj h
  exact rt_i E hQ (.null) hS dX11_goMorning_129
def X11_goMornings_s5 (v_people : Int32) (v_ruleSize : Int32) (v_rule : Nat → Int32) (nw1_ : Nat) (p2 : Int32) (x5 : Int32 × Int32 × Int32 × Int32 × Int32 × Int32 × Int32 × (Nat → Int32) × (Nat → Int32)) : Option ((Int32 × Int32 × Int32 × Int32 × Int32 × Int32 × Int32 × (Nat → Int32) × (Nat → Int32)) ⊕ (Int32 × Int32 × Int32 × Int32 × Int32 × Int32 × (Nat → Int32) × (Nat → Int32))) :=
  if p2 ≤ x5.2.1 then (some (.inr (x5.1, x5.2.2.1, x5.2.2.2.1, x5.2.2.2.2.1, x5.2.2.2.2.2.1, x5.2.2.2.2.2.2.1, x5.2.2.2.2.2.2.2.1, x5.2.2.2.2.2.2.2.2))) else ((X11_goMorning v_people x5.2.2.1 x5.2.2.2.1 x5.2.2.2.2.1 x5.2.2.2.2.2.1 v_ruleSize x5.2.2.2.2.2.2.1 v_rule x5.2.2.2.2.2.2.2.1 nw1_ x5.2.2.2.2.2.2.2.2).bind fun y13 => some (.inl (y13.1, (x5.2.1 + (1 : Int32)), y13.2.1, y13.2.2.1, y13.2.2.2.1, y13.2.2.2.2.1, y13.2.2.2.2.2.1, y13.2.2.2.2.2.2.1, y13.2.2.2.2.2.2.2)))
def X11_goMornings (v_people : Int32) (v_length : Int32) (v_top : Int32) (v_at : Int32) (v_wrong : Int32) (v_ruleSize : Int32) (v_isAsked : Int32) (v_rule : Nat → Int32) (v_asked : Nat → Int32) (nw1_ : Nat) (w1_ : Nat → Int32) (p2 : Int32) : Option (Int32 × Int32 × Int32 × Int32 × Int32 × Int32 × (Nat → Int32) × (Nat → Int32)) :=
  (lp (fun x5 => X11_goMornings_s5 v_people v_ruleSize v_rule nw1_ p2 x5) 1000 ((0 : Int32), (0 : Int32), v_length, v_top, v_at, v_wrong, v_isAsked, v_asked, w1_)).bind fun y5 => some (y5.1, y5.2.1, y5.2.2.1, y5.2.2.2.1, y5.2.2.2.2.1, y5.2.2.2.2.2.1, y5.2.2.2.2.2.2.1, y5.2.2.2.2.2.2.2)
set_option maxHeartbeats 4000000 in
set_option maxRecDepth 100000 in
theorem c_X11_goMornings {l : Launch} {D : va_G} {cy : Nat → ClassId} (q0 : Nat) (q1 : Nat) (q2 : Nat) (q3 : Nat) (u0_0 : Value) (u0_2 : Value) (u0_3 : Value) (u0_4 : Value) (u0_5 : Value) (u0_6 : Value) (u0_7 : Value) (u0_12 : Value) (u0_14 : Value) (u0_18 : Value) (u0_19 : Value) (u0_20 : Value) (u0_21 : Value) (u0_22 : Value) (u0_23 : Value) (u0_24 : Value) (u0_25 : Value) (u0_26 : Value) (u0_27 : Value) (u0_28 : Value) (u0_29 : Value) (u0_30 : Value) (u0_31 : Value) (u0_32 : Value) (u0_33 : Value) (u0_34 : Value) (u0_35 : Value) (u0_36 : Value) (u0_37 : Value) (u0_38 : Value) (u0_39 : Value) (u0_40 : Value) (v_people : Int32) (v_length : Int32) (v_top : Int32) (v_at : Int32) (v_wrong : Int32) (v_ruleSize : Int32) (v_isAsked : Int32) (v_rule : Nat → Int32) (v_asked : Nat → Int32) (nw1_ : Nat) (w1_ : Nat → Int32) (p2 : Int32) (r : Int32 × Int32 × Int32 × Int32 × Int32 × Int32 × (Nat → Int32) × (Nat → Int32)) (h : X11_goMornings v_people v_length v_top v_at v_wrong v_ruleSize v_isAsked v_rule v_asked nw1_ w1_ p2 = some r) : Ct l yX11_goMornings cX11_goMornings 5 (some .int) 110 2626 D cy [.ref q0, .ref q3, .int p2] [oX11 q0 u0_0 (.int v_people) u0_2 u0_3 u0_4 u0_5 u0_6 u0_7 (.int v_length) (.int v_top) (.int v_at) (.int v_wrong) u0_12 (.ref q1) u0_14 (.int v_ruleSize) (.int v_isAsked) (.ref q2) u0_18 u0_19 u0_20 u0_21 u0_22 u0_23 u0_24 u0_25 u0_26 u0_27 u0_28 u0_29 u0_30 u0_31 u0_32 u0_33 u0_34 u0_35 u0_36 u0_37 u0_38 u0_39 u0_40, aB cy q1 40 v_rule, aI cy q2 7 v_asked, aI cy q3 nw1_ w1_] (fun _ => [oX11 q0 u0_0 (.int v_people) u0_2 u0_3 u0_4 u0_5 u0_6 (.ref q1) (.int r.2.1) (.int r.2.2.1) (.int r.2.2.2.1) (.int r.2.2.2.2.1) u0_12 (.ref q1) u0_14 (.int v_ruleSize) (.int r.2.2.2.2.2.1) (.ref q2) u0_18 u0_19 u0_20 u0_21 u0_22 u0_23 u0_24 u0_25 u0_26 u0_27 u0_28 u0_29 u0_30 u0_31 u0_32 u0_33 u0_34 u0_35 u0_36 u0_37 u0_38 u0_39 u0_40, aB cy q1 40 v_rule, aI cy q2 7 r.2.2.2.2.2.2.1, aI cy q3 nw1_ r.2.2.2.2.2.2.2]) (some (.int r.1)) := by
  refine Ct.mk kX11_goMornings (by decide +kernel) (Nat.le_of_ble_eq_true rfl) ?_
  intro p e s m below meth c A ls args R Q hRf hRl hQ E H locs hS hl
  have hx := E.x
  have hb := E.b
  have hl : lv_has ls 5 [(0, .ref q0), (1, .ref q3), (2, .int p2)] := hl
  unfold X11_goMornings at h
  refine lv_iconst (v := 0) hx hb dX11_goMornings_0 (by decide) ?_
  refine lv_istore_n (lv' := [(3, .int (0 : Int32)), (0, .ref q0), (1, .ref q3), (2, .int p2)]) hx hb dX11_goMornings_1 rfl hl (by decide) rfl (fun ls hl => ?_)
  refine lv_iconst (v := 0) hx hb dX11_goMornings_2 (by decide) ?_
  refine lv_istore (lv' := [(4, .int (0 : Int32)), (3, .int (0 : Int32)), (0, .ref q0), (1, .ref q3), (2, .int p2)]) hx hb dX11_goMornings_3 hl (by decide) rfl (fun ls hl => ?_)
  have hL5 : ∀ (n : Nat) (x5 : Int32 × Int32 × Int32 × Int32 × Int32 × Int32 × Int32 × (Nat → Int32) × (Nat → Int32)) (y5 : Int32 × Int32 × Int32 × Int32 × Int32 × Int32 × (Nat → Int32) × (Nat → Int32)) (rv5_0 : Value) (H : Heap) (locs : List Loc) (ls : Array Slot), lp (fun x5 => X11_goMornings_s5 v_people v_ruleSize v_rule nw1_ p2 x5) n x5 = some y5 → Sv D A s.heap [oX11 q0 u0_0 (.int v_people) u0_2 u0_3 u0_4 u0_5 u0_6 rv5_0 (.int x5.2.2.1) (.int x5.2.2.2.1) (.int x5.2.2.2.2.1) (.int x5.2.2.2.2.2.1) u0_12 (.ref q1) u0_14 (.int v_ruleSize) (.int x5.2.2.2.2.2.2.1) (.ref q2) u0_18 u0_19 u0_20 u0_21 u0_22 u0_23 u0_24 u0_25 u0_26 u0_27 u0_28 u0_29 u0_30 u0_31 u0_32 u0_33 u0_34 u0_35 u0_36 u0_37 u0_38 u0_39 u0_40, aB cy q1 40 v_rule, aI cy q2 7 x5.2.2.2.2.2.2.2.1, aI cy q3 nw1_ x5.2.2.2.2.2.2.2.2] H locs → lv_has ls 5 [(0, .ref q0), (1, .ref q3), (2, .int p2), (3, .int x5.1), (4, .int x5.2.1)] → (∀ (rv5_0 : Value) (H : Heap) (locs : List Loc) (ls : Array Slot), Sv D A s.heap [oX11 q0 u0_0 (.int v_people) u0_2 u0_3 u0_4 u0_5 u0_6 rv5_0 (.int y5.2.1) (.int y5.2.2.1) (.int y5.2.2.2.1) (.int y5.2.2.2.2.1) u0_12 (.ref q1) u0_14 (.int v_ruleSize) (.int y5.2.2.2.2.2.1) (.ref q2) u0_18 u0_19 u0_20 u0_21 u0_22 u0_23 u0_24 u0_25 u0_26 u0_27 u0_28 u0_29 u0_30 u0_31 u0_32 u0_33 u0_34 u0_35 u0_36 u0_37 u0_38 u0_39 u0_40, aB cy q1 40 v_rule, aI cy q2 7 y5.2.2.2.2.2.2.1, aI cy q3 nw1_ y5.2.2.2.2.2.2.2] H locs → lv_has ls 5 [(3, .int y5.1)] → W p l e R s m args below meth c H locs 0 0 Q (F0 m 23 ls [])) → W p l e R s m args below meth c H locs 0 0 Q (F0 m 5 ls []) := by
    intro n
    induction n with
    | zero =>
      intro x5 y5 rv5_0 H locs ls h
      exact lp_zero h
    | succ n ih5 =>
      intro x5 y5 rv5_0 H locs ls h hS hl hk5_0
      obtain ⟨z5, h, hz5a, hz5b⟩ := lp_succ h
      have h : X11_goMornings_s5 v_people v_ruleSize v_rule nw1_ p2 x5 = some z5 := h
      unfold X11_goMornings_s5 at h
      refine lv_iload hx hb dX11_goMornings_5 (lv_at hl 4 rfl) ?_
      refine lv_iload_n hx hb dX11_goMornings_7 rfl (lv_at hl 2 rfl) ?_
      refine lv_icmp_ge (tgt := 23) hx hb dX11_goMornings_8 (by decide) (fun c1 => ?_) (fun c1 => ?_)
      · have h := it_pos c1 h
        obtain rfl := hz5b _ (Option.some.inj h).symm
        exact hk5_0 rv5_0 H locs ls hS (lv_sub hl [3] rfl)
      · have h := it_neg c1 h
        refine lv_aload_n hx hb dX11_goMornings_11 rfl (lv_at hl 0 rfl) ?_
        refine lv_aload_n hx hb dX11_goMornings_12 rfl (lv_at hl 1 rfl) ?_
        obtain ⟨y13, e2, h⟩ := bd_some h
        refine ct_V (ws' := fun _ => [oX11 q0 u0_0 (.int v_people) u0_2 u0_3 u0_4 u0_5 u0_6 (.ref q1) (.int y13.2.1) (.int y13.2.2.1) (.int y13.2.2.2.1) (.int y13.2.2.2.2.1) u0_12 (.ref q1) u0_14 (.int v_ruleSize) (.int y13.2.2.2.2.2.1) (.ref q2) u0_18 u0_19 u0_20 u0_21 u0_22 u0_23 u0_24 u0_25 u0_26 u0_27 u0_28 u0_29 u0_30 u0_31 u0_32 u0_33 u0_34 u0_35 u0_36 u0_37 u0_38 u0_39 u0_40, aB cy q1 40 v_rule, aI cy q2 7 y13.2.2.2.2.2.2.1, aI cy q3 nw1_ y13.2.2.2.2.2.2.2]) (st' := [.int y13.1]) (rest := []) E hS vlX11_246 (c_X11_goMorning (l := l) (D := D) (cy := cy) (q0 := q0) (q1 := q1) (q2 := q2) (q3 := q3) (u0_0 := u0_0) (u0_2 := u0_2) (u0_3 := u0_3) (u0_4 := u0_4) (u0_5 := u0_5) (u0_6 := u0_6) (u0_7 := rv5_0) (u0_12 := u0_12) (u0_14 := u0_14) (u0_18 := u0_18) (u0_19 := u0_19) (u0_20 := u0_20) (u0_21 := u0_21) (u0_22 := u0_22) (u0_23 := u0_23) (u0_24 := u0_24) (u0_25 := u0_25) (u0_26 := u0_26) (u0_27 := u0_27) (u0_28 := u0_28) (u0_29 := u0_29) (u0_30 := u0_30) (u0_31 := u0_31) (u0_32 := u0_32) (u0_33 := u0_33) (u0_34 := u0_34) (u0_35 := u0_35) (u0_36 := u0_36) (u0_37 := u0_37) (u0_38 := u0_38) (u0_39 := u0_39) (u0_40 := u0_40) (v_people := v_people) (v_length := x5.2.2.1) (v_top := x5.2.2.2.1) (v_at := x5.2.2.2.2.1) (v_wrong := x5.2.2.2.2.2.1) (v_ruleSize := v_ruleSize) (v_isAsked := x5.2.2.2.2.2.2.1) (v_rule := v_rule) (v_asked := x5.2.2.2.2.2.2.2.1) (nw1_ := nw1_) (w1_ := x5.2.2.2.2.2.2.2.2) (r := y13) e2) [0, 1, 2, 3] rfl rfl (fun _ => rfl) (fun _ => rfl) rfl rfl rfl rfl (Nat.le_of_ble_eq_true rfl) hl.1 (by rw [hRf]; exact Nat.le_of_ble_eq_true rfl) (by rw [hRl]; exact Nat.le_of_ble_eq_true rfl) ⟨Nat.zero_le _, Nat.zero_le _⟩ dX11_goMornings_13 rfl (fun H locs _ hS => ?_)
        refine lv_istore_n (lv' := [(3, .int y13.1), (0, .ref q0), (1, .ref q3), (2, .int p2), (4, .int x5.2.1)]) hx hb dX11_goMornings_16 rfl hl (by decide) rfl (fun ls hl => ?_)
        refine lv_iinc (v := (x5.2.1 + (1 : Int32))) (lv' := [(4, .int (x5.2.1 + (1 : Int32))), (3, .int y13.1), (0, .ref q0), (1, .ref q3), (2, .int p2)]) hx hb dX11_goMornings_17 hl (k := 4) rfl rfl (by decide) rfl (fun ls hl => ?_)
        refine lv_goto (tgt := 5) hx hb dX11_goMornings_20 (by decide) ?_
        exact ih5 (y13.1, (x5.2.1 + (1 : Int32)), y13.2.1, y13.2.2.1, y13.2.2.2.1, y13.2.2.2.2.1, y13.2.2.2.2.2.1, y13.2.2.2.2.2.2.1, y13.2.2.2.2.2.2.2) y5 (.ref q1) H locs ls (hz5a _ (Option.some.inj h).symm) hS (lv_sub hl [2, 3, 4, 1, 0] rfl) hk5_0
  obtain ⟨y5, e5, h⟩ := bd_some h
  refine hL5 1000 ((0 : Int32), (0 : Int32), v_length, v_top, v_at, v_wrong, v_isAsked, v_asked, w1_) y5 u0_7 H locs ls e5 hS (lv_sub hl [2, 3, 4, 1, 0] rfl) (fun rw5_0 H locs ls hS hl => ?_)
  refine lv_iload_n hx hb dX11_goMornings_23 rfl (lv_at hl 0 rfl) ?_
  obtain rfl := Option.some.inj h
  exact rt_i E hQ (.null) hS dX11_goMornings_24
def X11_mornings_k29 (v_people : Int32) (v_length : Int32) (v_top : Int32) (v_at : Int32) (v_wrong : Int32) (v_ruleSize : Int32) (v_isAsked : Int32) (v_now : Nat → Int32) (v_row : Nat → Int64) (v_rule : Nat → Int32) (v_asked : Nat → Int32) (p1 : Int32) (j29_v_undoMany : Int32) (j29_v_undos : Nat → Int32) : Option (Int32 × Int32 × Int32 × Int32 × Int32 × Int32 × Int32 × Int32 × Int32 × (Nat → Int32) × (Nat → Int64) × (Nat → Int32) × (Nat → Int32)) :=
  gi (36 : Int32) 37 ((X11_goMornings v_people v_length v_top v_at v_wrong v_ruleSize v_isAsked v_rule v_asked 37 v_now p1).bind fun y43 => gi (36 : Int32) 37 ((X11_tell (0 : Int32) v_row (((y43.2.2.2.2.2.2.2 (36 : Int32).toNatClampNeg) - (v_now (36 : Int32).toNatClampNeg)).toInt64)).bind fun y63 => (X11_sumOf v_people 37 y43.2.2.2.2.2.2.2 (21 : Int32)).bind fun y74 => (X11_tell y63.1 y63.2 (y74.toInt64)).bind fun y78 => some (y43.1, y78.1, (0 : Int32), y43.2.1, y43.2.2.1, y43.2.2.2.1, y43.2.2.2.2.1, y43.2.2.2.2.2.1, j29_v_undoMany, y43.2.2.2.2.2.2.2, y78.2, y43.2.2.2.2.2.2.1, j29_v_undos)))
def X11_mornings (v_people : Int32) (v_rowMany : Int32) (v_length : Int32) (v_top : Int32) (v_at : Int32) (v_wrong : Int32) (v_ruleSize : Int32) (v_isAsked : Int32) (v_undoMany : Int32) (v_now : Nat → Int32) (v_row : Nat → Int64) (v_rule : Nat → Int32) (v_asked : Nat → Int32) (v_undos : Nat → Int32) (p1 : Int32) : Option (Int32 × Int32 × Int32 × Int32 × Int32 × Int32 × Int32 × Int32 × Int32 × (Nat → Int32) × (Nat → Int64) × (Nat → Int32) × (Nat → Int32)) :=
  if (X11_in p1 (0 : Int32) (60 : Int32)) = 0 then (some ((-1 : Int32), v_rowMany, (0 : Int32), v_length, v_top, v_at, v_wrong, v_isAsked, v_undoMany, v_now, v_row, v_asked, v_undos)) else (if p1 ≤ 0 then (X11_mornings_k29 v_people v_length v_top v_at v_wrong v_ruleSize v_isAsked v_now v_row v_rule v_asked p1 v_undoMany v_undos) else ((X11_remember v_undoMany v_undos 37 v_now).bind fun y26 => X11_mornings_k29 v_people v_length v_top v_at v_wrong v_ruleSize v_isAsked v_now v_row v_rule v_asked p1 y26.1 y26.2))
set_option maxHeartbeats 4000000 in
set_option maxRecDepth 100000 in
theorem c_X11_mornings {l : Launch} {D : va_G} {cy : Nat → ClassId} (q0 : Nat) (q1 : Nat) (q2 : Nat) (q3 : Nat) (q4 : Nat) (q5 : Nat) (u0_2 : Value) (u0_3 : Value) (u0_7 : Value) (u0_12 : Value) (u0_14 : Value) (u0_20 : Value) (u0_21 : Value) (u0_22 : Value) (u0_23 : Value) (u0_24 : Value) (u0_25 : Value) (u0_26 : Value) (u0_27 : Value) (u0_28 : Value) (u0_29 : Value) (u0_30 : Value) (u0_31 : Value) (u0_32 : Value) (u0_33 : Value) (u0_34 : Value) (u0_35 : Value) (u0_36 : Value) (u0_37 : Value) (u0_38 : Value) (u0_39 : Value) (u0_40 : Value) (v_people : Int32) (v_rowMany : Int32) (v_thrown : Int32) (v_length : Int32) (v_top : Int32) (v_at : Int32) (v_wrong : Int32) (v_ruleSize : Int32) (v_isAsked : Int32) (v_undoMany : Int32) (v_now : Nat → Int32) (v_row : Nat → Int64) (v_rule : Nat → Int32) (v_asked : Nat → Int32) (v_undos : Nat → Int32) (p1 : Int32) (r : Int32 × Int32 × Int32 × Int32 × Int32 × Int32 × Int32 × Int32 × Int32 × (Nat → Int32) × (Nat → Int64) × (Nat → Int32) × (Nat → Int32)) (h : X11_mornings v_people v_rowMany v_length v_top v_at v_wrong v_ruleSize v_isAsked v_undoMany v_now v_row v_rule v_asked v_undos p1 = some r) : Ct l yX11_mornings cX11_mornings 4 (some .int) 111 2650 D cy [.ref q0, .int p1] [oX11 q0 (.ref q1) (.int v_people) u0_2 u0_3 (.ref q2) (.int v_rowMany) (.int v_thrown) u0_7 (.int v_length) (.int v_top) (.int v_at) (.int v_wrong) u0_12 (.ref q3) u0_14 (.int v_ruleSize) (.int v_isAsked) (.ref q4) (.ref q5) (.int v_undoMany) u0_20 u0_21 u0_22 u0_23 u0_24 u0_25 u0_26 u0_27 u0_28 u0_29 u0_30 u0_31 u0_32 u0_33 u0_34 u0_35 u0_36 u0_37 u0_38 u0_39 u0_40, aI cy q1 37 v_now, aJ cy q2 16 v_row, aB cy q3 40 v_rule, aI cy q4 7 v_asked, aI cy q5 444 v_undos] (fun _ => [oX11 q0 (.ref q1) (.int v_people) u0_2 u0_3 (.ref q2) (.int r.2.1) (.int r.2.2.1) (.ref q3) (.int r.2.2.2.1) (.int r.2.2.2.2.1) (.int r.2.2.2.2.2.1) (.int r.2.2.2.2.2.2.1) u0_12 (.ref q3) u0_14 (.int v_ruleSize) (.int r.2.2.2.2.2.2.2.1) (.ref q4) (.ref q5) (.int r.2.2.2.2.2.2.2.2.1) u0_20 u0_21 u0_22 u0_23 u0_24 u0_25 u0_26 u0_27 u0_28 u0_29 u0_30 u0_31 u0_32 u0_33 u0_34 u0_35 u0_36 u0_37 u0_38 u0_39 u0_40, aI cy q1 37 r.2.2.2.2.2.2.2.2.2.1, aJ cy q2 16 r.2.2.2.2.2.2.2.2.2.2.1, aB cy q3 40 v_rule, aI cy q4 7 r.2.2.2.2.2.2.2.2.2.2.2.1, aI cy q5 444 r.2.2.2.2.2.2.2.2.2.2.2.2]) (some (.int r.1)) := by
  refine Ct.mk kX11_mornings (by decide +kernel) (Nat.le_of_ble_eq_true rfl) ?_
  intro p e s m below meth c A ls args R Q hRf hRl hQ E H locs hS hl
  have hx := E.x
  have hb := E.b
  have hl : lv_has ls 4 [(0, .ref q0), (1, .int p1)] := hl
  unfold X11_mornings at h
  refine lv_aload_n hx hb dX11_mornings_0 rfl (lv_at hl 0 rfl) ?_
  refine lv_iconst (v := 0) hx hb dX11_mornings_1 (by decide) ?_
  refine r_put (ws' := [oX11 q0 (.ref q1) (.int v_people) u0_2 u0_3 (.ref q2) (.int v_rowMany) (.int (0 : Int32)) u0_7 (.int v_length) (.int v_top) (.int v_at) (.int v_wrong) u0_12 (.ref q3) u0_14 (.int v_ruleSize) (.int v_isAsked) (.ref q4) (.ref q5) (.int v_undoMany) u0_20 u0_21 u0_22 u0_23 u0_24 u0_25 u0_26 u0_27 u0_28 u0_29 u0_30 u0_31 u0_32 u0_33 u0_34 u0_35 u0_36 u0_37 u0_38 u0_39 u0_40, aI cy q1 37 v_now, aJ cy q2 16 v_row, aB cy q3 40 v_rule, aI cy q4 7 v_asked, aI cy q5 444 v_undos]) E frX11_85 hS 0 rfl (Nat.le_of_ble_eq_true rfl) rfl rfl rfl rfl dX11_mornings_2 (fun H locs hS => ?_)
  refine lv_iload_n hx hb dX11_mornings_5 rfl (lv_at hl 1 rfl) ?_
  refine lv_iconst (v := 0) hx hb dX11_mornings_6 (by decide) ?_
  refine lv_bipush (v := 60) hx hb dX11_mornings_7 (by decide) ?_
  refine ct_S (ws' := fun _ => [oX11 q0 (.ref q1) (.int v_people) u0_2 u0_3 (.ref q2) (.int v_rowMany) (.int (0 : Int32)) u0_7 (.int v_length) (.int v_top) (.int v_at) (.int v_wrong) u0_12 (.ref q3) u0_14 (.int v_ruleSize) (.int v_isAsked) (.ref q4) (.ref q5) (.int v_undoMany) u0_20 u0_21 u0_22 u0_23 u0_24 u0_25 u0_26 u0_27 u0_28 u0_29 u0_30 u0_31 u0_32 u0_33 u0_34 u0_35 u0_36 u0_37 u0_38 u0_39 u0_40, aI cy q1 37 v_now, aJ cy q2 16 v_row, aB cy q3 40 v_rule, aI cy q4 7 v_asked, aI cy q5 444 v_undos]) (st' := [.int (X11_in p1 (0 : Int32) (60 : Int32))]) (rest := []) E hS slX11_95 (c_X11_in (l := l) (D := D) (cy := cy) (p0 := p1) (p1 := (0 : Int32)) (p2 := (60 : Int32)) (r := (X11_in p1 (0 : Int32) (60 : Int32))) rfl) [] rfl rfl (fun _ => rfl) (fun _ => rfl) rfl rfl (Nat.le_of_ble_eq_true rfl) hl.1 (by rw [hRf]; exact Nat.le_of_ble_eq_true rfl) (by rw [hRl]; exact Nat.le_of_ble_eq_true rfl) ⟨Nat.zero_le _, Nat.zero_le _⟩ dX11_mornings_9 rfl (fun H locs _ hS => ?_)
  refine lv_if_ne (tgt := 17) hx hb dX11_mornings_12 (by decide) (fun c1 => ?_) (fun c1 => ?_)
  · have h := it_neg c1 h
    refine lv_iload_n hx hb dX11_mornings_17 rfl (lv_at hl 1 rfl) ?_
    have hJ29 : ∀ (j29_v_undoMany : Int32) (j29_v_undos : Nat → Int32) (H : Heap) (locs : List Loc) (ls : Array Slot), X11_mornings_k29 v_people v_length v_top v_at v_wrong v_ruleSize v_isAsked v_now v_row v_rule v_asked p1 j29_v_undoMany j29_v_undos = some r → Sv D A s.heap [oX11 q0 (.ref q1) (.int v_people) u0_2 u0_3 (.ref q2) (.int v_rowMany) (.int (0 : Int32)) u0_7 (.int v_length) (.int v_top) (.int v_at) (.int v_wrong) u0_12 (.ref q3) u0_14 (.int v_ruleSize) (.int v_isAsked) (.ref q4) (.ref q5) (.int j29_v_undoMany) u0_20 u0_21 u0_22 u0_23 u0_24 u0_25 u0_26 u0_27 u0_28 u0_29 u0_30 u0_31 u0_32 u0_33 u0_34 u0_35 u0_36 u0_37 u0_38 u0_39 u0_40, aI cy q1 37 v_now, aJ cy q2 16 v_row, aB cy q3 40 v_rule, aI cy q4 7 v_asked, aI cy q5 444 j29_v_undos] H locs → lv_has ls 4 [(0, .ref q0), (1, .int p1)] → W p l e R s m args below meth c H locs 0 0 Q (F0 m 29 ls []) := by
      intro j29_v_undoMany j29_v_undos H locs ls h hS hl
      unfold X11_mornings_k29 at h
      refine lv_aload_n hx hb dX11_mornings_29 rfl (lv_at hl 0 rfl) ?_
      refine r_get E frX11_9 hS 0 rfl rfl dX11_mornings_30 ?_
      refine lv_bipush (v := 36) hx hb dX11_mornings_33 (by decide) ?_
      obtain ⟨g2, h⟩ := gi_some h
      refine r_iald E hS 1 rfl g2 dX11_mornings_35 ?_
      refine lv_istore_n (lv' := [(2, .int (v_now (36 : Int32).toNatClampNeg)), (0, .ref q0), (1, .int p1)]) hx hb dX11_mornings_36 rfl hl (by decide) rfl (fun ls hl => ?_)
      refine lv_aload_n hx hb dX11_mornings_37 rfl (lv_at hl 1 rfl) ?_
      refine lv_aload_n hx hb dX11_mornings_38 rfl (lv_at hl 1 rfl) ?_
      refine r_get E frX11_9 hS 0 rfl rfl dX11_mornings_39 ?_
      refine lv_iload_n hx hb dX11_mornings_42 rfl (lv_at hl 2 rfl) ?_
      obtain ⟨y43, e3, h⟩ := bd_some h
      refine ct_V (ws' := fun _ => [oX11 q0 (.ref q1) (.int v_people) u0_2 u0_3 (.ref q2) (.int v_rowMany) (.int (0 : Int32)) (.ref q3) (.int y43.2.1) (.int y43.2.2.1) (.int y43.2.2.2.1) (.int y43.2.2.2.2.1) u0_12 (.ref q3) u0_14 (.int v_ruleSize) (.int y43.2.2.2.2.2.1) (.ref q4) (.ref q5) (.int j29_v_undoMany) u0_20 u0_21 u0_22 u0_23 u0_24 u0_25 u0_26 u0_27 u0_28 u0_29 u0_30 u0_31 u0_32 u0_33 u0_34 u0_35 u0_36 u0_37 u0_38 u0_39 u0_40, aI cy q1 37 y43.2.2.2.2.2.2.2, aJ cy q2 16 v_row, aB cy q3 40 v_rule, aI cy q4 7 y43.2.2.2.2.2.2.1, aI cy q5 444 j29_v_undos]) (st' := [.int y43.1]) (rest := []) E hS vlX11_253 (c_X11_goMornings (l := l) (D := D) (cy := cy) (q0 := q0) (q1 := q3) (q2 := q4) (q3 := q1) (u0_0 := .ref q1) (u0_2 := u0_2) (u0_3 := u0_3) (u0_4 := .ref q2) (u0_5 := .int v_rowMany) (u0_6 := .int (0 : Int32)) (u0_7 := u0_7) (u0_12 := u0_12) (u0_14 := u0_14) (u0_18 := .ref q5) (u0_19 := .int j29_v_undoMany) (u0_20 := u0_20) (u0_21 := u0_21) (u0_22 := u0_22) (u0_23 := u0_23) (u0_24 := u0_24) (u0_25 := u0_25) (u0_26 := u0_26) (u0_27 := u0_27) (u0_28 := u0_28) (u0_29 := u0_29) (u0_30 := u0_30) (u0_31 := u0_31) (u0_32 := u0_32) (u0_33 := u0_33) (u0_34 := u0_34) (u0_35 := u0_35) (u0_36 := u0_36) (u0_37 := u0_37) (u0_38 := u0_38) (u0_39 := u0_39) (u0_40 := u0_40) (v_people := v_people) (v_length := v_length) (v_top := v_top) (v_at := v_at) (v_wrong := v_wrong) (v_ruleSize := v_ruleSize) (v_isAsked := v_isAsked) (v_rule := v_rule) (v_asked := v_asked) (nw1_ := 37) (w1_ := v_now) (p2 := p1) (r := y43) e3) [0, 3, 4, 1] rfl rfl (fun _ => rfl) (fun _ => rfl) rfl rfl rfl rfl (Nat.le_of_ble_eq_true rfl) hl.1 (by rw [hRf]; exact Nat.le_of_ble_eq_true rfl) (by rw [hRl]; exact Nat.le_of_ble_eq_true rfl) ⟨Nat.zero_le _, Nat.zero_le _⟩ dX11_mornings_43 rfl (fun H locs _ hS => ?_)
      refine lv_istore_n (lv' := [(3, .int y43.1), (2, .int (v_now (36 : Int32).toNatClampNeg)), (0, .ref q0), (1, .int p1)]) hx hb dX11_mornings_46 rfl hl (by decide) rfl (fun ls hl => ?_)
      refine lv_aload_n hx hb dX11_mornings_47 rfl (lv_at hl 2 rfl) ?_
      refine lv_iconst (v := 0) hx hb dX11_mornings_48 (by decide) ?_
      refine r_put (ws' := [oX11 q0 (.ref q1) (.int v_people) u0_2 u0_3 (.ref q2) (.int (0 : Int32)) (.int (0 : Int32)) (.ref q3) (.int y43.2.1) (.int y43.2.2.1) (.int y43.2.2.2.1) (.int y43.2.2.2.2.1) u0_12 (.ref q3) u0_14 (.int v_ruleSize) (.int y43.2.2.2.2.2.1) (.ref q4) (.ref q5) (.int j29_v_undoMany) u0_20 u0_21 u0_22 u0_23 u0_24 u0_25 u0_26 u0_27 u0_28 u0_29 u0_30 u0_31 u0_32 u0_33 u0_34 u0_35 u0_36 u0_37 u0_38 u0_39 u0_40, aI cy q1 37 y43.2.2.2.2.2.2.2, aJ cy q2 16 v_row, aB cy q3 40 v_rule, aI cy q4 7 y43.2.2.2.2.2.2.1, aI cy q5 444 j29_v_undos]) E frX11_89 hS 0 rfl (Nat.le_of_ble_eq_true rfl) rfl rfl rfl rfl dX11_mornings_49 (fun H locs hS => ?_)
      refine lv_aload_n hx hb dX11_mornings_52 rfl (lv_at hl 2 rfl) ?_
      refine lv_aload_n hx hb dX11_mornings_53 rfl (lv_at hl 2 rfl) ?_
      refine r_get E frX11_9 hS 0 rfl rfl dX11_mornings_54 ?_
      refine lv_bipush (v := 36) hx hb dX11_mornings_57 (by decide) ?_
      obtain ⟨g4, h⟩ := gi_some h
      refine r_iald E hS 1 rfl g4 dX11_mornings_59 ?_
      refine lv_iload_n hx hb dX11_mornings_60 rfl (lv_at hl 1 rfl) ?_
      refine lv_isub hx hb dX11_mornings_61 ?_
      refine lv_i2l (v := (((y43.2.2.2.2.2.2.2 (36 : Int32).toNatClampNeg) - (v_now (36 : Int32).toNatClampNeg)).toInt64)) hx hb dX11_mornings_62 rfl ?_
      obtain ⟨y63, e5, h⟩ := bd_some h
      refine ct_V (ws' := fun _ => [oX11 q0 (.ref q1) (.int v_people) u0_2 u0_3 (.ref q2) (.int y63.1) (.int (0 : Int32)) (.ref q3) (.int y43.2.1) (.int y43.2.2.1) (.int y43.2.2.2.1) (.int y43.2.2.2.2.1) u0_12 (.ref q3) u0_14 (.int v_ruleSize) (.int y43.2.2.2.2.2.1) (.ref q4) (.ref q5) (.int j29_v_undoMany) u0_20 u0_21 u0_22 u0_23 u0_24 u0_25 u0_26 u0_27 u0_28 u0_29 u0_30 u0_31 u0_32 u0_33 u0_34 u0_35 u0_36 u0_37 u0_38 u0_39 u0_40, aI cy q1 37 y43.2.2.2.2.2.2.2, aJ cy q2 16 y63.2, aB cy q3 40 v_rule, aI cy q4 7 y43.2.2.2.2.2.2.1, aI cy q5 444 j29_v_undos]) (st' := []) (rest := []) E hS vlX11_256 (c_X11_tell (l := l) (D := D) (cy := cy) (q0 := q0) (q1 := q2) (u0_0 := .ref q1) (u0_1 := .int v_people) (u0_2 := u0_2) (u0_3 := u0_3) (u0_6 := .int (0 : Int32)) (u0_7 := .ref q3) (u0_8 := .int y43.2.1) (u0_9 := .int y43.2.2.1) (u0_10 := .int y43.2.2.2.1) (u0_11 := .int y43.2.2.2.2.1) (u0_12 := u0_12) (u0_13 := .ref q3) (u0_14 := u0_14) (u0_15 := .int v_ruleSize) (u0_16 := .int y43.2.2.2.2.2.1) (u0_17 := .ref q4) (u0_18 := .ref q5) (u0_19 := .int j29_v_undoMany) (u0_20 := u0_20) (u0_21 := u0_21) (u0_22 := u0_22) (u0_23 := u0_23) (u0_24 := u0_24) (u0_25 := u0_25) (u0_26 := u0_26) (u0_27 := u0_27) (u0_28 := u0_28) (u0_29 := u0_29) (u0_30 := u0_30) (u0_31 := u0_31) (u0_32 := u0_32) (u0_33 := u0_33) (u0_34 := u0_34) (u0_35 := u0_35) (u0_36 := u0_36) (u0_37 := u0_37) (u0_38 := u0_38) (u0_39 := u0_39) (u0_40 := u0_40) (v_rowMany := (0 : Int32)) (v_row := v_row) (p1 := (((y43.2.2.2.2.2.2.2 (36 : Int32).toNatClampNeg) - (v_now (36 : Int32).toNatClampNeg)).toInt64)) (r := y63) e5) [0, 2] rfl rfl (fun _ => rfl) (fun _ => rfl) rfl rfl rfl rfl (Nat.le_of_ble_eq_true rfl) hl.1 (by rw [hRf]; exact Nat.le_of_ble_eq_true rfl) (by rw [hRl]; exact Nat.le_of_ble_eq_true rfl) ⟨Nat.zero_le _, Nat.zero_le _⟩ dX11_mornings_63 rfl (fun H locs _ hS => ?_)
      refine lv_aload_n hx hb dX11_mornings_66 rfl (lv_at hl 2 rfl) ?_
      refine lv_aload_n hx hb dX11_mornings_67 rfl (lv_at hl 2 rfl) ?_
      refine lv_aload_n hx hb dX11_mornings_68 rfl (lv_at hl 2 rfl) ?_
      refine r_get E frX11_9 hS 0 rfl rfl dX11_mornings_69 ?_
      refine lv_bipush (v := 21) hx hb dX11_mornings_72 (by decide) ?_
      obtain ⟨y74, e6, h⟩ := bd_some h
      refine ct_V (ws' := fun _ => [oX11 q0 (.ref q1) (.int v_people) u0_2 u0_3 (.ref q2) (.int y63.1) (.int (0 : Int32)) (.ref q3) (.int y43.2.1) (.int y43.2.2.1) (.int y43.2.2.2.1) (.int y43.2.2.2.2.1) u0_12 (.ref q3) u0_14 (.int v_ruleSize) (.int y43.2.2.2.2.2.1) (.ref q4) (.ref q5) (.int j29_v_undoMany) u0_20 u0_21 u0_22 u0_23 u0_24 u0_25 u0_26 u0_27 u0_28 u0_29 u0_30 u0_31 u0_32 u0_33 u0_34 u0_35 u0_36 u0_37 u0_38 u0_39 u0_40, aI cy q1 37 y43.2.2.2.2.2.2.2, aJ cy q2 16 y63.2, aB cy q3 40 v_rule, aI cy q4 7 y43.2.2.2.2.2.2.1, aI cy q5 444 j29_v_undos]) (st' := [.int y74, .ref q0]) (rest := [.ref q0]) E hS vlX11_232 (c_X11_sumOf (l := l) (D := D) (cy := cy) (q0 := q0) (q1 := q1) (u0_0 := .ref q1) (u0_2 := u0_2) (u0_3 := u0_3) (u0_4 := .ref q2) (u0_5 := .int y63.1) (u0_6 := .int (0 : Int32)) (u0_7 := .ref q3) (u0_8 := .int y43.2.1) (u0_9 := .int y43.2.2.1) (u0_10 := .int y43.2.2.2.1) (u0_11 := .int y43.2.2.2.2.1) (u0_12 := u0_12) (u0_13 := .ref q3) (u0_14 := u0_14) (u0_15 := .int v_ruleSize) (u0_16 := .int y43.2.2.2.2.2.1) (u0_17 := .ref q4) (u0_18 := .ref q5) (u0_19 := .int j29_v_undoMany) (u0_20 := u0_20) (u0_21 := u0_21) (u0_22 := u0_22) (u0_23 := u0_23) (u0_24 := u0_24) (u0_25 := u0_25) (u0_26 := u0_26) (u0_27 := u0_27) (u0_28 := u0_28) (u0_29 := u0_29) (u0_30 := u0_30) (u0_31 := u0_31) (u0_32 := u0_32) (u0_33 := u0_33) (u0_34 := u0_34) (u0_35 := u0_35) (u0_36 := u0_36) (u0_37 := u0_37) (u0_38 := u0_38) (u0_39 := u0_39) (u0_40 := u0_40) (v_people := v_people) (nw1_ := 37) (w1_ := y43.2.2.2.2.2.2.2) (p2 := (21 : Int32)) (r := y74) e6) [0, 1] rfl rfl (fun _ => rfl) (fun _ => rfl) rfl rfl rfl rfl (Nat.le_of_ble_eq_true rfl) hl.1 (by rw [hRf]; exact Nat.le_of_ble_eq_true rfl) (by rw [hRl]; exact Nat.le_of_ble_eq_true rfl) ⟨Nat.zero_le _, Nat.zero_le _⟩ dX11_mornings_74 rfl (fun H locs _ hS => ?_)
      refine lv_i2l (v := (y74.toInt64)) hx hb dX11_mornings_77 rfl ?_
      obtain ⟨y78, e7, h⟩ := bd_some h
      refine ct_V (ws' := fun _ => [oX11 q0 (.ref q1) (.int v_people) u0_2 u0_3 (.ref q2) (.int y78.1) (.int (0 : Int32)) (.ref q3) (.int y43.2.1) (.int y43.2.2.1) (.int y43.2.2.2.1) (.int y43.2.2.2.2.1) u0_12 (.ref q3) u0_14 (.int v_ruleSize) (.int y43.2.2.2.2.2.1) (.ref q4) (.ref q5) (.int j29_v_undoMany) u0_20 u0_21 u0_22 u0_23 u0_24 u0_25 u0_26 u0_27 u0_28 u0_29 u0_30 u0_31 u0_32 u0_33 u0_34 u0_35 u0_36 u0_37 u0_38 u0_39 u0_40, aI cy q1 37 y43.2.2.2.2.2.2.2, aJ cy q2 16 y78.2, aB cy q3 40 v_rule, aI cy q4 7 y43.2.2.2.2.2.2.1, aI cy q5 444 j29_v_undos]) (st' := []) (rest := []) E hS vlX11_256 (c_X11_tell (l := l) (D := D) (cy := cy) (q0 := q0) (q1 := q2) (u0_0 := .ref q1) (u0_1 := .int v_people) (u0_2 := u0_2) (u0_3 := u0_3) (u0_6 := .int (0 : Int32)) (u0_7 := .ref q3) (u0_8 := .int y43.2.1) (u0_9 := .int y43.2.2.1) (u0_10 := .int y43.2.2.2.1) (u0_11 := .int y43.2.2.2.2.1) (u0_12 := u0_12) (u0_13 := .ref q3) (u0_14 := u0_14) (u0_15 := .int v_ruleSize) (u0_16 := .int y43.2.2.2.2.2.1) (u0_17 := .ref q4) (u0_18 := .ref q5) (u0_19 := .int j29_v_undoMany) (u0_20 := u0_20) (u0_21 := u0_21) (u0_22 := u0_22) (u0_23 := u0_23) (u0_24 := u0_24) (u0_25 := u0_25) (u0_26 := u0_26) (u0_27 := u0_27) (u0_28 := u0_28) (u0_29 := u0_29) (u0_30 := u0_30) (u0_31 := u0_31) (u0_32 := u0_32) (u0_33 := u0_33) (u0_34 := u0_34) (u0_35 := u0_35) (u0_36 := u0_36) (u0_37 := u0_37) (u0_38 := u0_38) (u0_39 := u0_39) (u0_40 := u0_40) (v_rowMany := y63.1) (v_row := y63.2) (p1 := (y74.toInt64)) (r := y78) e7) [0, 2] rfl rfl (fun _ => rfl) (fun _ => rfl) rfl rfl rfl rfl (Nat.le_of_ble_eq_true rfl) hl.1 (by rw [hRf]; exact Nat.le_of_ble_eq_true rfl) (by rw [hRl]; exact Nat.le_of_ble_eq_true rfl) ⟨Nat.zero_le _, Nat.zero_le _⟩ dX11_mornings_78 rfl (fun H locs _ hS => ?_)
      refine lv_iload_n hx hb dX11_mornings_81 rfl (lv_at hl 0 rfl) ?_
      obtain rfl := Option.some.inj h
      exact rt_i E hQ (.null) hS dX11_mornings_82
    refine lv_if_le (tgt := 29) hx hb dX11_mornings_18 (by decide) (fun c8 => ?_) (fun c8 => ?_)
    · have h := it_pos c8 h
      exact hJ29 v_undoMany v_undos  H locs ls h hS (lv_sub hl [0, 1] rfl)
    · have h := it_neg c8 h
      refine lv_aload_n hx hb dX11_mornings_21 rfl (lv_at hl 0 rfl) ?_
      refine lv_aload_n hx hb dX11_mornings_22 rfl (lv_at hl 0 rfl) ?_
      refine r_get E frX11_9 hS 0 rfl rfl dX11_mornings_23 ?_
      obtain ⟨y26, e9, h⟩ := bd_some h
      refine ct_V (ws' := fun _ => [oX11 q0 (.ref q1) (.int v_people) u0_2 u0_3 (.ref q2) (.int v_rowMany) (.int (0 : Int32)) u0_7 (.int v_length) (.int v_top) (.int v_at) (.int v_wrong) u0_12 (.ref q3) u0_14 (.int v_ruleSize) (.int v_isAsked) (.ref q4) (.ref q5) (.int y26.1) u0_20 u0_21 u0_22 u0_23 u0_24 u0_25 u0_26 u0_27 u0_28 u0_29 u0_30 u0_31 u0_32 u0_33 u0_34 u0_35 u0_36 u0_37 u0_38 u0_39 u0_40, aI cy q1 37 v_now, aJ cy q2 16 v_row, aB cy q3 40 v_rule, aI cy q4 7 v_asked, aI cy q5 444 y26.2]) (st' := []) (rest := []) E hS vlX11_249 (c_X11_remember (l := l) (D := D) (cy := cy) (q0 := q0) (q1 := q5) (q2 := q1) (u0_0 := .ref q1) (u0_1 := .int v_people) (u0_2 := u0_2) (u0_3 := u0_3) (u0_4 := .ref q2) (u0_5 := .int v_rowMany) (u0_6 := .int (0 : Int32)) (u0_7 := u0_7) (u0_8 := .int v_length) (u0_9 := .int v_top) (u0_10 := .int v_at) (u0_11 := .int v_wrong) (u0_12 := u0_12) (u0_13 := .ref q3) (u0_14 := u0_14) (u0_15 := .int v_ruleSize) (u0_16 := .int v_isAsked) (u0_17 := .ref q4) (u0_20 := u0_20) (u0_21 := u0_21) (u0_22 := u0_22) (u0_23 := u0_23) (u0_24 := u0_24) (u0_25 := u0_25) (u0_26 := u0_26) (u0_27 := u0_27) (u0_28 := u0_28) (u0_29 := u0_29) (u0_30 := u0_30) (u0_31 := u0_31) (u0_32 := u0_32) (u0_33 := u0_33) (u0_34 := u0_34) (u0_35 := u0_35) (u0_36 := u0_36) (u0_37 := u0_37) (u0_38 := u0_38) (u0_39 := u0_39) (u0_40 := u0_40) (v_undoMany := v_undoMany) (v_undos := v_undos) (nw1_ := 37) (w1_ := v_now) (r := y26) e9) [0, 5, 1] rfl rfl (fun _ => rfl) (fun _ => rfl) rfl rfl rfl rfl (Nat.le_of_ble_eq_true rfl) hl.1 (by rw [hRf]; exact Nat.le_of_ble_eq_true rfl) (by rw [hRl]; exact Nat.le_of_ble_eq_true rfl) ⟨Nat.zero_le _, Nat.zero_le _⟩ dX11_mornings_26 rfl (fun H locs _ hS => ?_)
      exact hJ29 y26.1 y26.2  H locs ls h hS (lv_sub hl [0, 1] rfl)
  · have h := it_pos c1 h
    refine lv_iconst (v := -1) hx hb dX11_mornings_15 (by decide) ?_
    obtain rfl := Option.some.inj h
    exact rt_i E hQ (.null) hS dX11_mornings_16
def X11_wishes (v_people : Int32) (v_undoMany : Int32) (v_now : Nat → Int32) (v_undos : Nat → Int32) (p1 : Int32) (p2 : Int32) : Option (Int32 × Int32 × Int32 × (Nat → Int32) × (Nat → Int32)) :=
  (X11_areTwo v_people p1 p2).bind fun y8 => if y8 = 0 then (some ((-1 : Int32), (0 : Int32), v_undoMany, v_now, v_undos)) else ((X11_remember v_undoMany v_undos 37 v_now).bind fun y21 => gi ((28 : Int32) + p1) 37 (gi ((28 : Int32) + p1) 37 (gi ((28 : Int32) + p1) 37 (some (((upd v_now ((28 : Int32) + p1).toNatClampNeg ((v_now ((28 : Int32) + p1).toNatClampNeg) ^^^ ((1 : Int32) <<< (p2 &&& 31)))) ((28 : Int32) + p1).toNatClampNeg), (0 : Int32), y21.1, (upd v_now ((28 : Int32) + p1).toNatClampNeg ((v_now ((28 : Int32) + p1).toNatClampNeg) ^^^ ((1 : Int32) <<< (p2 &&& 31)))), y21.2)))))
set_option maxHeartbeats 4000000 in
set_option maxRecDepth 100000 in
theorem c_X11_wishes {l : Launch} {D : va_G} {cy : Nat → ClassId} (q0 : Nat) (q1 : Nat) (q2 : Nat) (u0_2 : Value) (u0_3 : Value) (u0_4 : Value) (u0_5 : Value) (u0_7 : Value) (u0_8 : Value) (u0_9 : Value) (u0_10 : Value) (u0_11 : Value) (u0_12 : Value) (u0_13 : Value) (u0_14 : Value) (u0_15 : Value) (u0_16 : Value) (u0_17 : Value) (u0_20 : Value) (u0_21 : Value) (u0_22 : Value) (u0_23 : Value) (u0_24 : Value) (u0_25 : Value) (u0_26 : Value) (u0_27 : Value) (u0_28 : Value) (u0_29 : Value) (u0_30 : Value) (u0_31 : Value) (u0_32 : Value) (u0_33 : Value) (u0_34 : Value) (u0_35 : Value) (u0_36 : Value) (u0_37 : Value) (u0_38 : Value) (u0_39 : Value) (u0_40 : Value) (v_people : Int32) (v_thrown : Int32) (v_undoMany : Int32) (v_now : Nat → Int32) (v_undos : Nat → Int32) (p1 : Int32) (p2 : Int32) (r : Int32 × Int32 × Int32 × (Nat → Int32) × (Nat → Int32)) (h : X11_wishes v_people v_undoMany v_now v_undos p1 p2 = some r) : Ct l yX11_wishes cX11_wishes 3 (some .int) 3 65 D cy [.ref q0, .int p1, .int p2] [oX11 q0 (.ref q1) (.int v_people) u0_2 u0_3 u0_4 u0_5 (.int v_thrown) u0_7 u0_8 u0_9 u0_10 u0_11 u0_12 u0_13 u0_14 u0_15 u0_16 u0_17 (.ref q2) (.int v_undoMany) u0_20 u0_21 u0_22 u0_23 u0_24 u0_25 u0_26 u0_27 u0_28 u0_29 u0_30 u0_31 u0_32 u0_33 u0_34 u0_35 u0_36 u0_37 u0_38 u0_39 u0_40, aI cy q1 37 v_now, aI cy q2 444 v_undos] (fun _ => [oX11 q0 (.ref q1) (.int v_people) u0_2 u0_3 u0_4 u0_5 (.int r.2.1) u0_7 u0_8 u0_9 u0_10 u0_11 u0_12 u0_13 u0_14 u0_15 u0_16 u0_17 (.ref q2) (.int r.2.2.1) u0_20 u0_21 u0_22 u0_23 u0_24 u0_25 u0_26 u0_27 u0_28 u0_29 u0_30 u0_31 u0_32 u0_33 u0_34 u0_35 u0_36 u0_37 u0_38 u0_39 u0_40, aI cy q1 37 r.2.2.2.1, aI cy q2 444 r.2.2.2.2]) (some (.int r.1)) := by
  refine Ct.mk kX11_wishes (by decide +kernel) (Nat.le_of_ble_eq_true rfl) ?_
  intro p e s m below meth c A ls args R Q hRf hRl hQ E H locs hS hl
  have hx := E.x
  have hb := E.b
  have hl : lv_has ls 3 [(0, .ref q0), (1, .int p1), (2, .int p2)] := hl
  unfold X11_wishes at h
  refine lv_aload_n hx hb dX11_wishes_0 rfl (lv_at hl 0 rfl) ?_
  refine lv_iconst (v := 0) hx hb dX11_wishes_1 (by decide) ?_
  refine r_put (ws' := [oX11 q0 (.ref q1) (.int v_people) u0_2 u0_3 u0_4 u0_5 (.int (0 : Int32)) u0_7 u0_8 u0_9 u0_10 u0_11 u0_12 u0_13 u0_14 u0_15 u0_16 u0_17 (.ref q2) (.int v_undoMany) u0_20 u0_21 u0_22 u0_23 u0_24 u0_25 u0_26 u0_27 u0_28 u0_29 u0_30 u0_31 u0_32 u0_33 u0_34 u0_35 u0_36 u0_37 u0_38 u0_39 u0_40, aI cy q1 37 v_now, aI cy q2 444 v_undos]) E frX11_85 hS 0 rfl (Nat.le_of_ble_eq_true rfl) rfl rfl rfl rfl dX11_wishes_2 (fun H locs hS => ?_)
  refine lv_aload_n hx hb dX11_wishes_5 rfl (lv_at hl 0 rfl) ?_
  refine lv_iload_n hx hb dX11_wishes_6 rfl (lv_at hl 1 rfl) ?_
  refine lv_iload_n hx hb dX11_wishes_7 rfl (lv_at hl 2 rfl) ?_
  obtain ⟨y8, e1, h⟩ := bd_some h
  refine ct_V (ws' := fun _ => [oX11 q0 (.ref q1) (.int v_people) u0_2 u0_3 u0_4 u0_5 (.int (0 : Int32)) u0_7 u0_8 u0_9 u0_10 u0_11 u0_12 u0_13 u0_14 u0_15 u0_16 u0_17 (.ref q2) (.int v_undoMany) u0_20 u0_21 u0_22 u0_23 u0_24 u0_25 u0_26 u0_27 u0_28 u0_29 u0_30 u0_31 u0_32 u0_33 u0_34 u0_35 u0_36 u0_37 u0_38 u0_39 u0_40, aI cy q1 37 v_now, aI cy q2 444 v_undos]) (st' := [.int y8]) (rest := []) E hS vlX11_260 (c_X11_areTwo (l := l) (D := D) (cy := cy) (q0 := q0) (u0_0 := .ref q1) (u0_2 := u0_2) (u0_3 := u0_3) (u0_4 := u0_4) (u0_5 := u0_5) (u0_6 := .int (0 : Int32)) (u0_7 := u0_7) (u0_8 := u0_8) (u0_9 := u0_9) (u0_10 := u0_10) (u0_11 := u0_11) (u0_12 := u0_12) (u0_13 := u0_13) (u0_14 := u0_14) (u0_15 := u0_15) (u0_16 := u0_16) (u0_17 := u0_17) (u0_18 := .ref q2) (u0_19 := .int v_undoMany) (u0_20 := u0_20) (u0_21 := u0_21) (u0_22 := u0_22) (u0_23 := u0_23) (u0_24 := u0_24) (u0_25 := u0_25) (u0_26 := u0_26) (u0_27 := u0_27) (u0_28 := u0_28) (u0_29 := u0_29) (u0_30 := u0_30) (u0_31 := u0_31) (u0_32 := u0_32) (u0_33 := u0_33) (u0_34 := u0_34) (u0_35 := u0_35) (u0_36 := u0_36) (u0_37 := u0_37) (u0_38 := u0_38) (u0_39 := u0_39) (u0_40 := u0_40) (v_people := v_people) (p1 := p1) (p2 := p2) (r := y8) e1) [0] rfl rfl (fun _ => rfl) (fun _ => rfl) rfl rfl rfl rfl (Nat.le_of_ble_eq_true rfl) hl.1 (by rw [hRf]; exact Nat.le_of_ble_eq_true rfl) (by rw [hRl]; exact Nat.le_of_ble_eq_true rfl) ⟨Nat.zero_le _, Nat.zero_le _⟩ dX11_wishes_8 rfl (fun H locs _ hS => ?_)
  refine lv_if_ne (tgt := 16) hx hb dX11_wishes_11 (by decide) (fun c2 => ?_) (fun c2 => ?_)
  · have h := it_neg c2 h
    refine lv_aload_n hx hb dX11_wishes_16 rfl (lv_at hl 0 rfl) ?_
    refine lv_aload_n hx hb dX11_wishes_17 rfl (lv_at hl 0 rfl) ?_
    refine r_get E frX11_9 hS 0 rfl rfl dX11_wishes_18 ?_
    obtain ⟨y21, e3, h⟩ := bd_some h
    refine ct_V (ws' := fun _ => [oX11 q0 (.ref q1) (.int v_people) u0_2 u0_3 u0_4 u0_5 (.int (0 : Int32)) u0_7 u0_8 u0_9 u0_10 u0_11 u0_12 u0_13 u0_14 u0_15 u0_16 u0_17 (.ref q2) (.int y21.1) u0_20 u0_21 u0_22 u0_23 u0_24 u0_25 u0_26 u0_27 u0_28 u0_29 u0_30 u0_31 u0_32 u0_33 u0_34 u0_35 u0_36 u0_37 u0_38 u0_39 u0_40, aI cy q1 37 v_now, aI cy q2 444 y21.2]) (st' := []) (rest := []) E hS vlX11_249 (c_X11_remember (l := l) (D := D) (cy := cy) (q0 := q0) (q1 := q2) (q2 := q1) (u0_0 := .ref q1) (u0_1 := .int v_people) (u0_2 := u0_2) (u0_3 := u0_3) (u0_4 := u0_4) (u0_5 := u0_5) (u0_6 := .int (0 : Int32)) (u0_7 := u0_7) (u0_8 := u0_8) (u0_9 := u0_9) (u0_10 := u0_10) (u0_11 := u0_11) (u0_12 := u0_12) (u0_13 := u0_13) (u0_14 := u0_14) (u0_15 := u0_15) (u0_16 := u0_16) (u0_17 := u0_17) (u0_20 := u0_20) (u0_21 := u0_21) (u0_22 := u0_22) (u0_23 := u0_23) (u0_24 := u0_24) (u0_25 := u0_25) (u0_26 := u0_26) (u0_27 := u0_27) (u0_28 := u0_28) (u0_29 := u0_29) (u0_30 := u0_30) (u0_31 := u0_31) (u0_32 := u0_32) (u0_33 := u0_33) (u0_34 := u0_34) (u0_35 := u0_35) (u0_36 := u0_36) (u0_37 := u0_37) (u0_38 := u0_38) (u0_39 := u0_39) (u0_40 := u0_40) (v_undoMany := v_undoMany) (v_undos := v_undos) (nw1_ := 37) (w1_ := v_now) (r := y21) e3) [0, 2, 1] rfl rfl (fun _ => rfl) (fun _ => rfl) rfl rfl rfl rfl (Nat.le_of_ble_eq_true rfl) hl.1 (by rw [hRf]; exact Nat.le_of_ble_eq_true rfl) (by rw [hRl]; exact Nat.le_of_ble_eq_true rfl) ⟨Nat.zero_le _, Nat.zero_le _⟩ dX11_wishes_21 rfl (fun H locs _ hS => ?_)
    refine lv_aload_n hx hb dX11_wishes_24 rfl (lv_at hl 0 rfl) ?_
    refine r_get E frX11_9 hS 0 rfl rfl dX11_wishes_25 ?_
    refine lv_bipush (v := 28) hx hb dX11_wishes_28 (by decide) ?_
    refine lv_iload_n hx hb dX11_wishes_30 rfl (lv_at hl 1 rfl) ?_
    refine lv_iadd hx hb dX11_wishes_31 ?_
    refine lv_dup2_11 hx hb dX11_wishes_32 rfl rfl ?_
    obtain ⟨g4, h⟩ := gi_some h
    refine r_iald E hS 1 rfl g4 dX11_wishes_33 ?_
    refine lv_iconst (v := 1) hx hb dX11_wishes_34 (by decide) ?_
    refine lv_iload_n hx hb dX11_wishes_35 rfl (lv_at hl 2 rfl) ?_
    refine lv_ishl hx hb dX11_wishes_36 ?_
    refine lv_ixor hx hb dX11_wishes_37 ?_
    obtain ⟨g5, h⟩ := gi_some h
    refine r_iast (ws' := [oX11 q0 (.ref q1) (.int v_people) u0_2 u0_3 u0_4 u0_5 (.int (0 : Int32)) u0_7 u0_8 u0_9 u0_10 u0_11 u0_12 u0_13 u0_14 u0_15 u0_16 u0_17 (.ref q2) (.int y21.1) u0_20 u0_21 u0_22 u0_23 u0_24 u0_25 u0_26 u0_27 u0_28 u0_29 u0_30 u0_31 u0_32 u0_33 u0_34 u0_35 u0_36 u0_37 u0_38 u0_39 u0_40, aI cy q1 37 (upd v_now ((28 : Int32) + p1).toNatClampNeg ((v_now ((28 : Int32) + p1).toNatClampNeg) ^^^ ((1 : Int32) <<< (p2 &&& 31)))), aI cy q2 444 y21.2]) E hS 1 rfl g5 rfl dX11_wishes_38 (fun H locs hS => ?_)
    refine lv_aload_n hx hb dX11_wishes_39 rfl (lv_at hl 0 rfl) ?_
    refine r_get E frX11_9 hS 0 rfl rfl dX11_wishes_40 ?_
    refine lv_bipush (v := 28) hx hb dX11_wishes_43 (by decide) ?_
    refine lv_iload_n hx hb dX11_wishes_45 rfl (lv_at hl 1 rfl) ?_
    refine lv_iadd hx hb dX11_wishes_46 ?_
    obtain ⟨g6, h⟩ := gi_some h
    refine r_iald E hS 1 rfl g6 dX11_wishes_47 ?_
    obtain rfl := Option.some.inj h
    exact rt_i E hQ (.null) hS dX11_wishes_48
  · have h := it_pos c2 h
    refine lv_iconst (v := -1) hx hb dX11_wishes_14 (by decide) ?_
    obtain rfl := Option.some.inj h
    exact rt_i E hQ (.null) hS dX11_wishes_15
def X11_refusesPills (v_people : Int32) (v_now : Nat → Int32) (p1 : Int32) (p2 : Int32) : Option (Int32) :=
  (X11_isOne v_people p1).bind fun y2 => if y2 = 0 then (some (-1 : Int32)) else (if (X11_in p2 (1 : Int32) (9 : Int32)) = 0 then (some (-1 : Int32)) else (gi ((7 : Int32) + p1) 37 (some (if ((v_now ((7 : Int32) + p1).toNatClampNeg) + p2) ≤ (9 : Int32) then (0 : Int32) else (-2 : Int32)))))
set_option maxHeartbeats 4000000 in
set_option maxRecDepth 100000 in
theorem c_X11_refusesPills {l : Launch} {D : va_G} {cy : Nat → ClassId} (q0 : Nat) (q1 : Nat) (u0_2 : Value) (u0_3 : Value) (u0_4 : Value) (u0_5 : Value) (u0_6 : Value) (u0_7 : Value) (u0_8 : Value) (u0_9 : Value) (u0_10 : Value) (u0_11 : Value) (u0_12 : Value) (u0_13 : Value) (u0_14 : Value) (u0_15 : Value) (u0_16 : Value) (u0_17 : Value) (u0_18 : Value) (u0_19 : Value) (u0_20 : Value) (u0_21 : Value) (u0_22 : Value) (u0_23 : Value) (u0_24 : Value) (u0_25 : Value) (u0_26 : Value) (u0_27 : Value) (u0_28 : Value) (u0_29 : Value) (u0_30 : Value) (u0_31 : Value) (u0_32 : Value) (u0_33 : Value) (u0_34 : Value) (u0_35 : Value) (u0_36 : Value) (u0_37 : Value) (u0_38 : Value) (u0_39 : Value) (u0_40 : Value) (v_people : Int32) (v_now : Nat → Int32) (p1 : Int32) (p2 : Int32) (r : Int32) (h : X11_refusesPills v_people v_now p1 p2 = some r) : Ct l yX11_refusesPills cX11_refusesPills 3 (some .int) 2 43 D cy [.ref q0, .int p1, .int p2] [oX11 q0 (.ref q1) (.int v_people) u0_2 u0_3 u0_4 u0_5 u0_6 u0_7 u0_8 u0_9 u0_10 u0_11 u0_12 u0_13 u0_14 u0_15 u0_16 u0_17 u0_18 u0_19 u0_20 u0_21 u0_22 u0_23 u0_24 u0_25 u0_26 u0_27 u0_28 u0_29 u0_30 u0_31 u0_32 u0_33 u0_34 u0_35 u0_36 u0_37 u0_38 u0_39 u0_40, aI cy q1 37 v_now] (fun _ => [oX11 q0 (.ref q1) (.int v_people) u0_2 u0_3 u0_4 u0_5 u0_6 u0_7 u0_8 u0_9 u0_10 u0_11 u0_12 u0_13 u0_14 u0_15 u0_16 u0_17 u0_18 u0_19 u0_20 u0_21 u0_22 u0_23 u0_24 u0_25 u0_26 u0_27 u0_28 u0_29 u0_30 u0_31 u0_32 u0_33 u0_34 u0_35 u0_36 u0_37 u0_38 u0_39 u0_40, aI cy q1 37 v_now]) (some (.int r)) := by
  refine Ct.mk kX11_refusesPills (by decide +kernel) (Nat.le_of_ble_eq_true rfl) ?_
  intro p e s m below meth c A ls args R Q hRf hRl hQ E H locs hS hl
  have hx := E.x
  have hb := E.b
  have hl : lv_has ls 3 [(0, .ref q0), (1, .int p1), (2, .int p2)] := hl
  unfold X11_refusesPills at h
  refine lv_aload_n hx hb dX11_refusesPills_0 rfl (lv_at hl 0 rfl) ?_
  refine lv_iload_n hx hb dX11_refusesPills_1 rfl (lv_at hl 1 rfl) ?_
  obtain ⟨y2, e1, h⟩ := bd_some h
  refine ct_V (ws' := fun _ => [oX11 q0 (.ref q1) (.int v_people) u0_2 u0_3 u0_4 u0_5 u0_6 u0_7 u0_8 u0_9 u0_10 u0_11 u0_12 u0_13 u0_14 u0_15 u0_16 u0_17 u0_18 u0_19 u0_20 u0_21 u0_22 u0_23 u0_24 u0_25 u0_26 u0_27 u0_28 u0_29 u0_30 u0_31 u0_32 u0_33 u0_34 u0_35 u0_36 u0_37 u0_38 u0_39 u0_40, aI cy q1 37 v_now]) (st' := [.int y2]) (rest := []) E hS vlX11_99 (c_X11_isOne (l := l) (D := D) (cy := cy) (q0 := q0) (u0_0 := .ref q1) (u0_2 := u0_2) (u0_3 := u0_3) (u0_4 := u0_4) (u0_5 := u0_5) (u0_6 := u0_6) (u0_7 := u0_7) (u0_8 := u0_8) (u0_9 := u0_9) (u0_10 := u0_10) (u0_11 := u0_11) (u0_12 := u0_12) (u0_13 := u0_13) (u0_14 := u0_14) (u0_15 := u0_15) (u0_16 := u0_16) (u0_17 := u0_17) (u0_18 := u0_18) (u0_19 := u0_19) (u0_20 := u0_20) (u0_21 := u0_21) (u0_22 := u0_22) (u0_23 := u0_23) (u0_24 := u0_24) (u0_25 := u0_25) (u0_26 := u0_26) (u0_27 := u0_27) (u0_28 := u0_28) (u0_29 := u0_29) (u0_30 := u0_30) (u0_31 := u0_31) (u0_32 := u0_32) (u0_33 := u0_33) (u0_34 := u0_34) (u0_35 := u0_35) (u0_36 := u0_36) (u0_37 := u0_37) (u0_38 := u0_38) (u0_39 := u0_39) (u0_40 := u0_40) (v_people := v_people) (p1 := p1) (r := y2) e1) [0] rfl rfl (fun _ => rfl) (fun _ => rfl) rfl rfl rfl rfl (Nat.le_of_ble_eq_true rfl) hl.1 (by rw [hRf]; exact Nat.le_of_ble_eq_true rfl) (by rw [hRl]; exact Nat.le_of_ble_eq_true rfl) ⟨Nat.zero_le _, Nat.zero_le _⟩ dX11_refusesPills_2 rfl (fun H locs _ hS => ?_)
  refine lv_if_eq (tgt := 18) hx hb dX11_refusesPills_5 (by decide) (fun c2 => ?_) (fun c2 => ?_)
  · have h := it_pos c2 h
    refine lv_iconst (v := -1) hx hb dX11_refusesPills_18 (by decide) ?_
    obtain rfl := Option.some.inj h
    exact rt_i E hQ (.null) hS dX11_refusesPills_19
  · have h := it_neg c2 h
    refine lv_iload_n hx hb dX11_refusesPills_8 rfl (lv_at hl 2 rfl) ?_
    refine lv_iconst (v := 1) hx hb dX11_refusesPills_9 (by decide) ?_
    refine lv_bipush (v := 9) hx hb dX11_refusesPills_10 (by decide) ?_
    refine ct_S (ws' := fun _ => [oX11 q0 (.ref q1) (.int v_people) u0_2 u0_3 u0_4 u0_5 u0_6 u0_7 u0_8 u0_9 u0_10 u0_11 u0_12 u0_13 u0_14 u0_15 u0_16 u0_17 u0_18 u0_19 u0_20 u0_21 u0_22 u0_23 u0_24 u0_25 u0_26 u0_27 u0_28 u0_29 u0_30 u0_31 u0_32 u0_33 u0_34 u0_35 u0_36 u0_37 u0_38 u0_39 u0_40, aI cy q1 37 v_now]) (st' := [.int (X11_in p2 (1 : Int32) (9 : Int32))]) (rest := []) E hS slX11_95 (c_X11_in (l := l) (D := D) (cy := cy) (p0 := p2) (p1 := (1 : Int32)) (p2 := (9 : Int32)) (r := (X11_in p2 (1 : Int32) (9 : Int32))) rfl) [] rfl rfl (fun _ => rfl) (fun _ => rfl) rfl rfl (Nat.le_of_ble_eq_true rfl) hl.1 (by rw [hRf]; exact Nat.le_of_ble_eq_true rfl) (by rw [hRl]; exact Nat.le_of_ble_eq_true rfl) ⟨Nat.zero_le _, Nat.zero_le _⟩ dX11_refusesPills_12 rfl (fun H locs _ hS => ?_)
    refine lv_if_ne (tgt := 20) hx hb dX11_refusesPills_15 (by decide) (fun c3 => ?_) (fun c3 => ?_)
    · have h := it_neg c3 h
      refine lv_aload_n hx hb dX11_refusesPills_20 rfl (lv_at hl 0 rfl) ?_
      refine r_get E frX11_9 hS 0 rfl rfl dX11_refusesPills_21 ?_
      refine lv_bipush (v := 7) hx hb dX11_refusesPills_24 (by decide) ?_
      refine lv_iload_n hx hb dX11_refusesPills_26 rfl (lv_at hl 1 rfl) ?_
      refine lv_iadd hx hb dX11_refusesPills_27 ?_
      obtain ⟨g4, h⟩ := gi_some h
      refine r_iald E hS 1 rfl g4 dX11_refusesPills_28 ?_
      refine lv_iload_n hx hb dX11_refusesPills_29 rfl (lv_at hl 2 rfl) ?_
      refine lv_iadd hx hb dX11_refusesPills_30 ?_
      refine lv_bipush (v := 9) hx hb dX11_refusesPills_31 (by decide) ?_
      have hJ42 : ∀ (s42_0 : Int32) (ls : Array Slot), s42_0 = (if ((v_now ((7 : Int32) + p1).toNatClampNeg) + p2) ≤ (9 : Int32) then (0 : Int32) else (-2 : Int32)) → lv_has ls 3 [] → W p l e R s m args below meth c H locs 0 0 Q (F0 m 42 ls [.int s42_0]) := by
        intro s42_0 ls es42_0 hl
        subst es42_0
        obtain rfl := Option.some.inj h
        exact rt_i E hQ (.null) hS dX11_refusesPills_42
      refine lv_icmp_le (tgt := 41) hx hb dX11_refusesPills_33 (by decide) (fun c5 => ?_) (fun c5 => ?_)
      · refine lv_iconst (v := 0) hx hb dX11_refusesPills_41 (by decide) ?_
        exact hJ42 _ ls ((if_pos c5)).symm (lv_sub hl [] rfl)
      · refine lv_bipush (v := -2) hx hb dX11_refusesPills_36 (by decide) ?_
        refine lv_goto (tgt := 42) hx hb dX11_refusesPills_38 (by decide) ?_
        exact hJ42 _ ls ((if_neg c5)).symm (lv_sub hl [] rfl)
    · have h := it_pos c3 h
      refine lv_iconst (v := -1) hx hb dX11_refusesPills_18 (by decide) ?_
      obtain rfl := Option.some.inj h
      exact rt_i E hQ (.null) hS dX11_refusesPills_19
def X11_pills (v_people : Int32) (v_undoMany : Int32) (v_now : Nat → Int32) (v_undos : Nat → Int32) (p1 : Int32) (p2 : Int32) : Option (Int32 × Int32 × Int32 × (Nat → Int32) × (Nat → Int32)) :=
  (X11_refusesPills v_people v_now p1 p2).bind fun y8 => if 0 ≤ y8 then ((X11_remember v_undoMany v_undos 37 v_now).bind fun y23 => gi ((7 : Int32) + p1) 37 (gi ((7 : Int32) + p1) 37 (gi ((7 : Int32) + p1) 37 (some (((upd v_now ((7 : Int32) + p1).toNatClampNeg ((v_now ((7 : Int32) + p1).toNatClampNeg) + p2)) ((7 : Int32) + p1).toNatClampNeg), (0 : Int32), y23.1, (upd v_now ((7 : Int32) + p1).toNatClampNeg ((v_now ((7 : Int32) + p1).toNatClampNeg) + p2)), y23.2))))) else (some (y8, (0 : Int32), v_undoMany, v_now, v_undos))
set_option maxHeartbeats 4000000 in
set_option maxRecDepth 100000 in
theorem c_X11_pills {l : Launch} {D : va_G} {cy : Nat → ClassId} (q0 : Nat) (q1 : Nat) (q2 : Nat) (u0_2 : Value) (u0_3 : Value) (u0_4 : Value) (u0_5 : Value) (u0_7 : Value) (u0_8 : Value) (u0_9 : Value) (u0_10 : Value) (u0_11 : Value) (u0_12 : Value) (u0_13 : Value) (u0_14 : Value) (u0_15 : Value) (u0_16 : Value) (u0_17 : Value) (u0_20 : Value) (u0_21 : Value) (u0_22 : Value) (u0_23 : Value) (u0_24 : Value) (u0_25 : Value) (u0_26 : Value) (u0_27 : Value) (u0_28 : Value) (u0_29 : Value) (u0_30 : Value) (u0_31 : Value) (u0_32 : Value) (u0_33 : Value) (u0_34 : Value) (u0_35 : Value) (u0_36 : Value) (u0_37 : Value) (u0_38 : Value) (u0_39 : Value) (u0_40 : Value) (v_people : Int32) (v_thrown : Int32) (v_undoMany : Int32) (v_now : Nat → Int32) (v_undos : Nat → Int32) (p1 : Int32) (p2 : Int32) (r : Int32 × Int32 × Int32 × (Nat → Int32) × (Nat → Int32)) (h : X11_pills v_people v_undoMany v_now v_undos p1 p2 = some r) : Ct l yX11_pills cX11_pills 4 (some .int) 3 65 D cy [.ref q0, .int p1, .int p2] [oX11 q0 (.ref q1) (.int v_people) u0_2 u0_3 u0_4 u0_5 (.int v_thrown) u0_7 u0_8 u0_9 u0_10 u0_11 u0_12 u0_13 u0_14 u0_15 u0_16 u0_17 (.ref q2) (.int v_undoMany) u0_20 u0_21 u0_22 u0_23 u0_24 u0_25 u0_26 u0_27 u0_28 u0_29 u0_30 u0_31 u0_32 u0_33 u0_34 u0_35 u0_36 u0_37 u0_38 u0_39 u0_40, aI cy q1 37 v_now, aI cy q2 444 v_undos] (fun _ => [oX11 q0 (.ref q1) (.int v_people) u0_2 u0_3 u0_4 u0_5 (.int r.2.1) u0_7 u0_8 u0_9 u0_10 u0_11 u0_12 u0_13 u0_14 u0_15 u0_16 u0_17 (.ref q2) (.int r.2.2.1) u0_20 u0_21 u0_22 u0_23 u0_24 u0_25 u0_26 u0_27 u0_28 u0_29 u0_30 u0_31 u0_32 u0_33 u0_34 u0_35 u0_36 u0_37 u0_38 u0_39 u0_40, aI cy q1 37 r.2.2.2.1, aI cy q2 444 r.2.2.2.2]) (some (.int r.1)) := by
  refine Ct.mk kX11_pills (by decide +kernel) (Nat.le_of_ble_eq_true rfl) ?_
  intro p e s m below meth c A ls args R Q hRf hRl hQ E H locs hS hl
  have hx := E.x
  have hb := E.b
  have hl : lv_has ls 4 [(0, .ref q0), (1, .int p1), (2, .int p2)] := hl
  unfold X11_pills at h
  refine lv_aload_n hx hb dX11_pills_0 rfl (lv_at hl 0 rfl) ?_
  refine lv_iconst (v := 0) hx hb dX11_pills_1 (by decide) ?_
  refine r_put (ws' := [oX11 q0 (.ref q1) (.int v_people) u0_2 u0_3 u0_4 u0_5 (.int (0 : Int32)) u0_7 u0_8 u0_9 u0_10 u0_11 u0_12 u0_13 u0_14 u0_15 u0_16 u0_17 (.ref q2) (.int v_undoMany) u0_20 u0_21 u0_22 u0_23 u0_24 u0_25 u0_26 u0_27 u0_28 u0_29 u0_30 u0_31 u0_32 u0_33 u0_34 u0_35 u0_36 u0_37 u0_38 u0_39 u0_40, aI cy q1 37 v_now, aI cy q2 444 v_undos]) E frX11_85 hS 0 rfl (Nat.le_of_ble_eq_true rfl) rfl rfl rfl rfl dX11_pills_2 (fun H locs hS => ?_)
  refine lv_aload_n hx hb dX11_pills_5 rfl (lv_at hl 0 rfl) ?_
  refine lv_iload_n hx hb dX11_pills_6 rfl (lv_at hl 1 rfl) ?_
  refine lv_iload_n hx hb dX11_pills_7 rfl (lv_at hl 2 rfl) ?_
  obtain ⟨y8, e1, h⟩ := bd_some h
  refine ct_V (ws' := fun _ => [oX11 q0 (.ref q1) (.int v_people) u0_2 u0_3 u0_4 u0_5 (.int (0 : Int32)) u0_7 u0_8 u0_9 u0_10 u0_11 u0_12 u0_13 u0_14 u0_15 u0_16 u0_17 (.ref q2) (.int v_undoMany) u0_20 u0_21 u0_22 u0_23 u0_24 u0_25 u0_26 u0_27 u0_28 u0_29 u0_30 u0_31 u0_32 u0_33 u0_34 u0_35 u0_36 u0_37 u0_38 u0_39 u0_40, aI cy q1 37 v_now, aI cy q2 444 v_undos]) (st' := [.int y8]) (rest := []) E hS vlX11_263 (c_X11_refusesPills (l := l) (D := D) (cy := cy) (q0 := q0) (q1 := q1) (u0_2 := u0_2) (u0_3 := u0_3) (u0_4 := u0_4) (u0_5 := u0_5) (u0_6 := .int (0 : Int32)) (u0_7 := u0_7) (u0_8 := u0_8) (u0_9 := u0_9) (u0_10 := u0_10) (u0_11 := u0_11) (u0_12 := u0_12) (u0_13 := u0_13) (u0_14 := u0_14) (u0_15 := u0_15) (u0_16 := u0_16) (u0_17 := u0_17) (u0_18 := .ref q2) (u0_19 := .int v_undoMany) (u0_20 := u0_20) (u0_21 := u0_21) (u0_22 := u0_22) (u0_23 := u0_23) (u0_24 := u0_24) (u0_25 := u0_25) (u0_26 := u0_26) (u0_27 := u0_27) (u0_28 := u0_28) (u0_29 := u0_29) (u0_30 := u0_30) (u0_31 := u0_31) (u0_32 := u0_32) (u0_33 := u0_33) (u0_34 := u0_34) (u0_35 := u0_35) (u0_36 := u0_36) (u0_37 := u0_37) (u0_38 := u0_38) (u0_39 := u0_39) (u0_40 := u0_40) (v_people := v_people) (v_now := v_now) (p1 := p1) (p2 := p2) (r := y8) e1) [0, 1] rfl rfl (fun _ => rfl) (fun _ => rfl) rfl rfl rfl rfl (Nat.le_of_ble_eq_true rfl) hl.1 (by rw [hRf]; exact Nat.le_of_ble_eq_true rfl) (by rw [hRl]; exact Nat.le_of_ble_eq_true rfl) ⟨Nat.zero_le _, Nat.zero_le _⟩ dX11_pills_8 rfl (fun H locs _ hS => ?_)
  refine lv_istore_n (lv' := [(3, .int y8), (0, .ref q0), (1, .int p1), (2, .int p2)]) hx hb dX11_pills_11 rfl hl (by decide) rfl (fun ls hl => ?_)
  refine lv_iload_n hx hb dX11_pills_12 rfl (lv_at hl 0 rfl) ?_
  refine lv_if_ge (tgt := 18) hx hb dX11_pills_13 (by decide) (fun c2 => ?_) (fun c2 => ?_)
  · have h := it_pos c2 h
    refine lv_aload_n hx hb dX11_pills_18 rfl (lv_at hl 1 rfl) ?_
    refine lv_aload_n hx hb dX11_pills_19 rfl (lv_at hl 1 rfl) ?_
    refine r_get E frX11_9 hS 0 rfl rfl dX11_pills_20 ?_
    obtain ⟨y23, e3, h⟩ := bd_some h
    refine ct_V (ws' := fun _ => [oX11 q0 (.ref q1) (.int v_people) u0_2 u0_3 u0_4 u0_5 (.int (0 : Int32)) u0_7 u0_8 u0_9 u0_10 u0_11 u0_12 u0_13 u0_14 u0_15 u0_16 u0_17 (.ref q2) (.int y23.1) u0_20 u0_21 u0_22 u0_23 u0_24 u0_25 u0_26 u0_27 u0_28 u0_29 u0_30 u0_31 u0_32 u0_33 u0_34 u0_35 u0_36 u0_37 u0_38 u0_39 u0_40, aI cy q1 37 v_now, aI cy q2 444 y23.2]) (st' := []) (rest := []) E hS vlX11_249 (c_X11_remember (l := l) (D := D) (cy := cy) (q0 := q0) (q1 := q2) (q2 := q1) (u0_0 := .ref q1) (u0_1 := .int v_people) (u0_2 := u0_2) (u0_3 := u0_3) (u0_4 := u0_4) (u0_5 := u0_5) (u0_6 := .int (0 : Int32)) (u0_7 := u0_7) (u0_8 := u0_8) (u0_9 := u0_9) (u0_10 := u0_10) (u0_11 := u0_11) (u0_12 := u0_12) (u0_13 := u0_13) (u0_14 := u0_14) (u0_15 := u0_15) (u0_16 := u0_16) (u0_17 := u0_17) (u0_20 := u0_20) (u0_21 := u0_21) (u0_22 := u0_22) (u0_23 := u0_23) (u0_24 := u0_24) (u0_25 := u0_25) (u0_26 := u0_26) (u0_27 := u0_27) (u0_28 := u0_28) (u0_29 := u0_29) (u0_30 := u0_30) (u0_31 := u0_31) (u0_32 := u0_32) (u0_33 := u0_33) (u0_34 := u0_34) (u0_35 := u0_35) (u0_36 := u0_36) (u0_37 := u0_37) (u0_38 := u0_38) (u0_39 := u0_39) (u0_40 := u0_40) (v_undoMany := v_undoMany) (v_undos := v_undos) (nw1_ := 37) (w1_ := v_now) (r := y23) e3) [0, 2, 1] rfl rfl (fun _ => rfl) (fun _ => rfl) rfl rfl rfl rfl (Nat.le_of_ble_eq_true rfl) hl.1 (by rw [hRf]; exact Nat.le_of_ble_eq_true rfl) (by rw [hRl]; exact Nat.le_of_ble_eq_true rfl) ⟨Nat.zero_le _, Nat.zero_le _⟩ dX11_pills_23 rfl (fun H locs _ hS => ?_)
    refine lv_aload_n hx hb dX11_pills_26 rfl (lv_at hl 1 rfl) ?_
    refine r_get E frX11_9 hS 0 rfl rfl dX11_pills_27 ?_
    refine lv_bipush (v := 7) hx hb dX11_pills_30 (by decide) ?_
    refine lv_iload_n hx hb dX11_pills_32 rfl (lv_at hl 2 rfl) ?_
    refine lv_iadd hx hb dX11_pills_33 ?_
    refine lv_dup2_11 hx hb dX11_pills_34 rfl rfl ?_
    obtain ⟨g4, h⟩ := gi_some h
    refine r_iald E hS 1 rfl g4 dX11_pills_35 ?_
    refine lv_iload_n hx hb dX11_pills_36 rfl (lv_at hl 3 rfl) ?_
    refine lv_iadd hx hb dX11_pills_37 ?_
    obtain ⟨g5, h⟩ := gi_some h
    refine r_iast (ws' := [oX11 q0 (.ref q1) (.int v_people) u0_2 u0_3 u0_4 u0_5 (.int (0 : Int32)) u0_7 u0_8 u0_9 u0_10 u0_11 u0_12 u0_13 u0_14 u0_15 u0_16 u0_17 (.ref q2) (.int y23.1) u0_20 u0_21 u0_22 u0_23 u0_24 u0_25 u0_26 u0_27 u0_28 u0_29 u0_30 u0_31 u0_32 u0_33 u0_34 u0_35 u0_36 u0_37 u0_38 u0_39 u0_40, aI cy q1 37 (upd v_now ((7 : Int32) + p1).toNatClampNeg ((v_now ((7 : Int32) + p1).toNatClampNeg) + p2)), aI cy q2 444 y23.2]) E hS 1 rfl g5 rfl dX11_pills_38 (fun H locs hS => ?_)
    refine lv_aload_n hx hb dX11_pills_39 rfl (lv_at hl 1 rfl) ?_
    refine r_get E frX11_9 hS 0 rfl rfl dX11_pills_40 ?_
    refine lv_bipush (v := 7) hx hb dX11_pills_43 (by decide) ?_
    refine lv_iload_n hx hb dX11_pills_45 rfl (lv_at hl 2 rfl) ?_
    refine lv_iadd hx hb dX11_pills_46 ?_
    obtain ⟨g6, h⟩ := gi_some h
    refine r_iald E hS 1 rfl g6 dX11_pills_47 ?_
    obtain rfl := Option.some.inj h
    exact rt_i E hQ (.null) hS dX11_pills_48
  · have h := it_neg c2 h
    refine lv_iload_n hx hb dX11_pills_16 rfl (lv_at hl 0 rfl) ?_
    obtain rfl := Option.some.inj h
    exact rt_i E hQ (.null) hS dX11_pills_17
def X11_refusesSkill (v_people : Int32) (v_now : Nat → Int32) (p1 : Int32) (p2 : Int32) : Option (Int32) :=
  (X11_isOne v_people p1).bind fun y2 => if y2 = 0 then (some (-1 : Int32)) else (if (X11_in p2 (0 : Int32) (9 : Int32)) = 0 then (some (-1 : Int32)) else (gi p1 37 (some (if (v_now p1.toNatClampNeg) = p2 then (-2 : Int32) else (0 : Int32)))))
set_option maxHeartbeats 4000000 in
set_option maxRecDepth 100000 in
theorem c_X11_refusesSkill {l : Launch} {D : va_G} {cy : Nat → ClassId} (q0 : Nat) (q1 : Nat) (u0_2 : Value) (u0_3 : Value) (u0_4 : Value) (u0_5 : Value) (u0_6 : Value) (u0_7 : Value) (u0_8 : Value) (u0_9 : Value) (u0_10 : Value) (u0_11 : Value) (u0_12 : Value) (u0_13 : Value) (u0_14 : Value) (u0_15 : Value) (u0_16 : Value) (u0_17 : Value) (u0_18 : Value) (u0_19 : Value) (u0_20 : Value) (u0_21 : Value) (u0_22 : Value) (u0_23 : Value) (u0_24 : Value) (u0_25 : Value) (u0_26 : Value) (u0_27 : Value) (u0_28 : Value) (u0_29 : Value) (u0_30 : Value) (u0_31 : Value) (u0_32 : Value) (u0_33 : Value) (u0_34 : Value) (u0_35 : Value) (u0_36 : Value) (u0_37 : Value) (u0_38 : Value) (u0_39 : Value) (u0_40 : Value) (v_people : Int32) (v_now : Nat → Int32) (p1 : Int32) (p2 : Int32) (r : Int32) (h : X11_refusesSkill v_people v_now p1 p2 = some r) : Ct l yX11_refusesSkill cX11_refusesSkill 3 (some .int) 2 43 D cy [.ref q0, .int p1, .int p2] [oX11 q0 (.ref q1) (.int v_people) u0_2 u0_3 u0_4 u0_5 u0_6 u0_7 u0_8 u0_9 u0_10 u0_11 u0_12 u0_13 u0_14 u0_15 u0_16 u0_17 u0_18 u0_19 u0_20 u0_21 u0_22 u0_23 u0_24 u0_25 u0_26 u0_27 u0_28 u0_29 u0_30 u0_31 u0_32 u0_33 u0_34 u0_35 u0_36 u0_37 u0_38 u0_39 u0_40, aI cy q1 37 v_now] (fun _ => [oX11 q0 (.ref q1) (.int v_people) u0_2 u0_3 u0_4 u0_5 u0_6 u0_7 u0_8 u0_9 u0_10 u0_11 u0_12 u0_13 u0_14 u0_15 u0_16 u0_17 u0_18 u0_19 u0_20 u0_21 u0_22 u0_23 u0_24 u0_25 u0_26 u0_27 u0_28 u0_29 u0_30 u0_31 u0_32 u0_33 u0_34 u0_35 u0_36 u0_37 u0_38 u0_39 u0_40, aI cy q1 37 v_now]) (some (.int r)) := by
  refine Ct.mk kX11_refusesSkill (by decide +kernel) (Nat.le_of_ble_eq_true rfl) ?_
  intro p e s m below meth c A ls args R Q hRf hRl hQ E H locs hS hl
  have hx := E.x
  have hb := E.b
  have hl : lv_has ls 3 [(0, .ref q0), (1, .int p1), (2, .int p2)] := hl
  unfold X11_refusesSkill at h
  refine lv_aload_n hx hb dX11_refusesSkill_0 rfl (lv_at hl 0 rfl) ?_
  refine lv_iload_n hx hb dX11_refusesSkill_1 rfl (lv_at hl 1 rfl) ?_
  obtain ⟨y2, e1, h⟩ := bd_some h
  refine ct_V (ws' := fun _ => [oX11 q0 (.ref q1) (.int v_people) u0_2 u0_3 u0_4 u0_5 u0_6 u0_7 u0_8 u0_9 u0_10 u0_11 u0_12 u0_13 u0_14 u0_15 u0_16 u0_17 u0_18 u0_19 u0_20 u0_21 u0_22 u0_23 u0_24 u0_25 u0_26 u0_27 u0_28 u0_29 u0_30 u0_31 u0_32 u0_33 u0_34 u0_35 u0_36 u0_37 u0_38 u0_39 u0_40, aI cy q1 37 v_now]) (st' := [.int y2]) (rest := []) E hS vlX11_99 (c_X11_isOne (l := l) (D := D) (cy := cy) (q0 := q0) (u0_0 := .ref q1) (u0_2 := u0_2) (u0_3 := u0_3) (u0_4 := u0_4) (u0_5 := u0_5) (u0_6 := u0_6) (u0_7 := u0_7) (u0_8 := u0_8) (u0_9 := u0_9) (u0_10 := u0_10) (u0_11 := u0_11) (u0_12 := u0_12) (u0_13 := u0_13) (u0_14 := u0_14) (u0_15 := u0_15) (u0_16 := u0_16) (u0_17 := u0_17) (u0_18 := u0_18) (u0_19 := u0_19) (u0_20 := u0_20) (u0_21 := u0_21) (u0_22 := u0_22) (u0_23 := u0_23) (u0_24 := u0_24) (u0_25 := u0_25) (u0_26 := u0_26) (u0_27 := u0_27) (u0_28 := u0_28) (u0_29 := u0_29) (u0_30 := u0_30) (u0_31 := u0_31) (u0_32 := u0_32) (u0_33 := u0_33) (u0_34 := u0_34) (u0_35 := u0_35) (u0_36 := u0_36) (u0_37 := u0_37) (u0_38 := u0_38) (u0_39 := u0_39) (u0_40 := u0_40) (v_people := v_people) (p1 := p1) (r := y2) e1) [0] rfl rfl (fun _ => rfl) (fun _ => rfl) rfl rfl rfl rfl (Nat.le_of_ble_eq_true rfl) hl.1 (by rw [hRf]; exact Nat.le_of_ble_eq_true rfl) (by rw [hRl]; exact Nat.le_of_ble_eq_true rfl) ⟨Nat.zero_le _, Nat.zero_le _⟩ dX11_refusesSkill_2 rfl (fun H locs _ hS => ?_)
  refine lv_if_eq (tgt := 18) hx hb dX11_refusesSkill_5 (by decide) (fun c2 => ?_) (fun c2 => ?_)
  · have h := it_pos c2 h
    refine lv_iconst (v := -1) hx hb dX11_refusesSkill_18 (by decide) ?_
    obtain rfl := Option.some.inj h
    exact rt_i E hQ (.null) hS dX11_refusesSkill_19
  · have h := it_neg c2 h
    refine lv_iload_n hx hb dX11_refusesSkill_8 rfl (lv_at hl 2 rfl) ?_
    refine lv_iconst (v := 0) hx hb dX11_refusesSkill_9 (by decide) ?_
    refine lv_bipush (v := 9) hx hb dX11_refusesSkill_10 (by decide) ?_
    refine ct_S (ws' := fun _ => [oX11 q0 (.ref q1) (.int v_people) u0_2 u0_3 u0_4 u0_5 u0_6 u0_7 u0_8 u0_9 u0_10 u0_11 u0_12 u0_13 u0_14 u0_15 u0_16 u0_17 u0_18 u0_19 u0_20 u0_21 u0_22 u0_23 u0_24 u0_25 u0_26 u0_27 u0_28 u0_29 u0_30 u0_31 u0_32 u0_33 u0_34 u0_35 u0_36 u0_37 u0_38 u0_39 u0_40, aI cy q1 37 v_now]) (st' := [.int (X11_in p2 (0 : Int32) (9 : Int32))]) (rest := []) E hS slX11_95 (c_X11_in (l := l) (D := D) (cy := cy) (p0 := p2) (p1 := (0 : Int32)) (p2 := (9 : Int32)) (r := (X11_in p2 (0 : Int32) (9 : Int32))) rfl) [] rfl rfl (fun _ => rfl) (fun _ => rfl) rfl rfl (Nat.le_of_ble_eq_true rfl) hl.1 (by rw [hRf]; exact Nat.le_of_ble_eq_true rfl) (by rw [hRl]; exact Nat.le_of_ble_eq_true rfl) ⟨Nat.zero_le _, Nat.zero_le _⟩ dX11_refusesSkill_12 rfl (fun H locs _ hS => ?_)
    refine lv_if_ne (tgt := 20) hx hb dX11_refusesSkill_15 (by decide) (fun c3 => ?_) (fun c3 => ?_)
    · have h := it_neg c3 h
      refine lv_aload_n hx hb dX11_refusesSkill_20 rfl (lv_at hl 0 rfl) ?_
      refine r_get E frX11_9 hS 0 rfl rfl dX11_refusesSkill_21 ?_
      refine lv_iload_n hx hb dX11_refusesSkill_24 rfl (lv_at hl 1 rfl) ?_
      obtain ⟨g4, h⟩ := gi_some h
      refine r_iald E hS 1 rfl g4 dX11_refusesSkill_25 ?_
      refine lv_iload_n hx hb dX11_refusesSkill_26 rfl (lv_at hl 2 rfl) ?_
      have hJ36 : ∀ (s36_0 : Int32) (ls : Array Slot), s36_0 = (if (v_now p1.toNatClampNeg) = p2 then (-2 : Int32) else (0 : Int32)) → lv_has ls 3 [] → W p l e R s m args below meth c H locs 0 0 Q (F0 m 36 ls [.int s36_0]) := by
        intro s36_0 ls es36_0 hl
        subst es36_0
        obtain rfl := Option.some.inj h
        exact rt_i E hQ (.null) hS dX11_refusesSkill_36
      refine lv_icmp_ne (tgt := 35) hx hb dX11_refusesSkill_27 (by decide) (fun c5 => ?_) (fun c5 => ?_)
      · refine lv_iconst (v := 0) hx hb dX11_refusesSkill_35 (by decide) ?_
        exact hJ36 _ ls ((if_neg c5)).symm (lv_sub hl [] rfl)
      · refine lv_bipush (v := -2) hx hb dX11_refusesSkill_30 (by decide) ?_
        refine lv_goto (tgt := 36) hx hb dX11_refusesSkill_32 (by decide) ?_
        exact hJ36 _ ls ((if_pos c5)).symm (lv_sub hl [] rfl)
    · have h := it_pos c3 h
      refine lv_iconst (v := -1) hx hb dX11_refusesSkill_18 (by decide) ?_
      obtain rfl := Option.some.inj h
      exact rt_i E hQ (.null) hS dX11_refusesSkill_19
def X11_learns (v_people : Int32) (v_undoMany : Int32) (v_now : Nat → Int32) (v_undos : Nat → Int32) (p1 : Int32) (p2 : Int32) : Option (Int32 × Int32 × Int32 × (Nat → Int32) × (Nat → Int32)) :=
  (X11_refusesSkill v_people v_now p1 p2).bind fun y8 => if 0 ≤ y8 then ((X11_remember v_undoMany v_undos 37 v_now).bind fun y23 => gi p1 37 (gi p1 37 (some (((10 : Int32) + (v_now p1.toNatClampNeg)), (0 : Int32), y23.1, (upd v_now p1.toNatClampNeg p2), y23.2)))) else (some (y8, (0 : Int32), v_undoMany, v_now, v_undos))
set_option maxHeartbeats 4000000 in
set_option maxRecDepth 100000 in
theorem c_X11_learns {l : Launch} {D : va_G} {cy : Nat → ClassId} (q0 : Nat) (q1 : Nat) (q2 : Nat) (u0_2 : Value) (u0_3 : Value) (u0_4 : Value) (u0_5 : Value) (u0_7 : Value) (u0_8 : Value) (u0_9 : Value) (u0_10 : Value) (u0_11 : Value) (u0_12 : Value) (u0_13 : Value) (u0_14 : Value) (u0_15 : Value) (u0_16 : Value) (u0_17 : Value) (u0_20 : Value) (u0_21 : Value) (u0_22 : Value) (u0_23 : Value) (u0_24 : Value) (u0_25 : Value) (u0_26 : Value) (u0_27 : Value) (u0_28 : Value) (u0_29 : Value) (u0_30 : Value) (u0_31 : Value) (u0_32 : Value) (u0_33 : Value) (u0_34 : Value) (u0_35 : Value) (u0_36 : Value) (u0_37 : Value) (u0_38 : Value) (u0_39 : Value) (u0_40 : Value) (v_people : Int32) (v_thrown : Int32) (v_undoMany : Int32) (v_now : Nat → Int32) (v_undos : Nat → Int32) (p1 : Int32) (p2 : Int32) (r : Int32 × Int32 × Int32 × (Nat → Int32) × (Nat → Int32)) (h : X11_learns v_people v_undoMany v_now v_undos p1 p2 = some r) : Ct l yX11_learns cX11_learns 5 (some .int) 3 65 D cy [.ref q0, .int p1, .int p2] [oX11 q0 (.ref q1) (.int v_people) u0_2 u0_3 u0_4 u0_5 (.int v_thrown) u0_7 u0_8 u0_9 u0_10 u0_11 u0_12 u0_13 u0_14 u0_15 u0_16 u0_17 (.ref q2) (.int v_undoMany) u0_20 u0_21 u0_22 u0_23 u0_24 u0_25 u0_26 u0_27 u0_28 u0_29 u0_30 u0_31 u0_32 u0_33 u0_34 u0_35 u0_36 u0_37 u0_38 u0_39 u0_40, aI cy q1 37 v_now, aI cy q2 444 v_undos] (fun _ => [oX11 q0 (.ref q1) (.int v_people) u0_2 u0_3 u0_4 u0_5 (.int r.2.1) u0_7 u0_8 u0_9 u0_10 u0_11 u0_12 u0_13 u0_14 u0_15 u0_16 u0_17 (.ref q2) (.int r.2.2.1) u0_20 u0_21 u0_22 u0_23 u0_24 u0_25 u0_26 u0_27 u0_28 u0_29 u0_30 u0_31 u0_32 u0_33 u0_34 u0_35 u0_36 u0_37 u0_38 u0_39 u0_40, aI cy q1 37 r.2.2.2.1, aI cy q2 444 r.2.2.2.2]) (some (.int r.1)) := by
  refine Ct.mk kX11_learns (by decide +kernel) (Nat.le_of_ble_eq_true rfl) ?_
  intro p e s m below meth c A ls args R Q hRf hRl hQ E H locs hS hl
  have hx := E.x
  have hb := E.b
  have hl : lv_has ls 5 [(0, .ref q0), (1, .int p1), (2, .int p2)] := hl
  unfold X11_learns at h
  refine lv_aload_n hx hb dX11_learns_0 rfl (lv_at hl 0 rfl) ?_
  refine lv_iconst (v := 0) hx hb dX11_learns_1 (by decide) ?_
  refine r_put (ws' := [oX11 q0 (.ref q1) (.int v_people) u0_2 u0_3 u0_4 u0_5 (.int (0 : Int32)) u0_7 u0_8 u0_9 u0_10 u0_11 u0_12 u0_13 u0_14 u0_15 u0_16 u0_17 (.ref q2) (.int v_undoMany) u0_20 u0_21 u0_22 u0_23 u0_24 u0_25 u0_26 u0_27 u0_28 u0_29 u0_30 u0_31 u0_32 u0_33 u0_34 u0_35 u0_36 u0_37 u0_38 u0_39 u0_40, aI cy q1 37 v_now, aI cy q2 444 v_undos]) E frX11_85 hS 0 rfl (Nat.le_of_ble_eq_true rfl) rfl rfl rfl rfl dX11_learns_2 (fun H locs hS => ?_)
  refine lv_aload_n hx hb dX11_learns_5 rfl (lv_at hl 0 rfl) ?_
  refine lv_iload_n hx hb dX11_learns_6 rfl (lv_at hl 1 rfl) ?_
  refine lv_iload_n hx hb dX11_learns_7 rfl (lv_at hl 2 rfl) ?_
  obtain ⟨y8, e1, h⟩ := bd_some h
  refine ct_V (ws' := fun _ => [oX11 q0 (.ref q1) (.int v_people) u0_2 u0_3 u0_4 u0_5 (.int (0 : Int32)) u0_7 u0_8 u0_9 u0_10 u0_11 u0_12 u0_13 u0_14 u0_15 u0_16 u0_17 (.ref q2) (.int v_undoMany) u0_20 u0_21 u0_22 u0_23 u0_24 u0_25 u0_26 u0_27 u0_28 u0_29 u0_30 u0_31 u0_32 u0_33 u0_34 u0_35 u0_36 u0_37 u0_38 u0_39 u0_40, aI cy q1 37 v_now, aI cy q2 444 v_undos]) (st' := [.int y8]) (rest := []) E hS vlX11_266 (c_X11_refusesSkill (l := l) (D := D) (cy := cy) (q0 := q0) (q1 := q1) (u0_2 := u0_2) (u0_3 := u0_3) (u0_4 := u0_4) (u0_5 := u0_5) (u0_6 := .int (0 : Int32)) (u0_7 := u0_7) (u0_8 := u0_8) (u0_9 := u0_9) (u0_10 := u0_10) (u0_11 := u0_11) (u0_12 := u0_12) (u0_13 := u0_13) (u0_14 := u0_14) (u0_15 := u0_15) (u0_16 := u0_16) (u0_17 := u0_17) (u0_18 := .ref q2) (u0_19 := .int v_undoMany) (u0_20 := u0_20) (u0_21 := u0_21) (u0_22 := u0_22) (u0_23 := u0_23) (u0_24 := u0_24) (u0_25 := u0_25) (u0_26 := u0_26) (u0_27 := u0_27) (u0_28 := u0_28) (u0_29 := u0_29) (u0_30 := u0_30) (u0_31 := u0_31) (u0_32 := u0_32) (u0_33 := u0_33) (u0_34 := u0_34) (u0_35 := u0_35) (u0_36 := u0_36) (u0_37 := u0_37) (u0_38 := u0_38) (u0_39 := u0_39) (u0_40 := u0_40) (v_people := v_people) (v_now := v_now) (p1 := p1) (p2 := p2) (r := y8) e1) [0, 1] rfl rfl (fun _ => rfl) (fun _ => rfl) rfl rfl rfl rfl (Nat.le_of_ble_eq_true rfl) hl.1 (by rw [hRf]; exact Nat.le_of_ble_eq_true rfl) (by rw [hRl]; exact Nat.le_of_ble_eq_true rfl) ⟨Nat.zero_le _, Nat.zero_le _⟩ dX11_learns_8 rfl (fun H locs _ hS => ?_)
  refine lv_istore_n (lv' := [(3, .int y8), (0, .ref q0), (1, .int p1), (2, .int p2)]) hx hb dX11_learns_11 rfl hl (by decide) rfl (fun ls hl => ?_)
  refine lv_iload_n hx hb dX11_learns_12 rfl (lv_at hl 0 rfl) ?_
  refine lv_if_ge (tgt := 18) hx hb dX11_learns_13 (by decide) (fun c2 => ?_) (fun c2 => ?_)
  · have h := it_pos c2 h
    refine lv_aload_n hx hb dX11_learns_18 rfl (lv_at hl 1 rfl) ?_
    refine lv_aload_n hx hb dX11_learns_19 rfl (lv_at hl 1 rfl) ?_
    refine r_get E frX11_9 hS 0 rfl rfl dX11_learns_20 ?_
    obtain ⟨y23, e3, h⟩ := bd_some h
    refine ct_V (ws' := fun _ => [oX11 q0 (.ref q1) (.int v_people) u0_2 u0_3 u0_4 u0_5 (.int (0 : Int32)) u0_7 u0_8 u0_9 u0_10 u0_11 u0_12 u0_13 u0_14 u0_15 u0_16 u0_17 (.ref q2) (.int y23.1) u0_20 u0_21 u0_22 u0_23 u0_24 u0_25 u0_26 u0_27 u0_28 u0_29 u0_30 u0_31 u0_32 u0_33 u0_34 u0_35 u0_36 u0_37 u0_38 u0_39 u0_40, aI cy q1 37 v_now, aI cy q2 444 y23.2]) (st' := []) (rest := []) E hS vlX11_249 (c_X11_remember (l := l) (D := D) (cy := cy) (q0 := q0) (q1 := q2) (q2 := q1) (u0_0 := .ref q1) (u0_1 := .int v_people) (u0_2 := u0_2) (u0_3 := u0_3) (u0_4 := u0_4) (u0_5 := u0_5) (u0_6 := .int (0 : Int32)) (u0_7 := u0_7) (u0_8 := u0_8) (u0_9 := u0_9) (u0_10 := u0_10) (u0_11 := u0_11) (u0_12 := u0_12) (u0_13 := u0_13) (u0_14 := u0_14) (u0_15 := u0_15) (u0_16 := u0_16) (u0_17 := u0_17) (u0_20 := u0_20) (u0_21 := u0_21) (u0_22 := u0_22) (u0_23 := u0_23) (u0_24 := u0_24) (u0_25 := u0_25) (u0_26 := u0_26) (u0_27 := u0_27) (u0_28 := u0_28) (u0_29 := u0_29) (u0_30 := u0_30) (u0_31 := u0_31) (u0_32 := u0_32) (u0_33 := u0_33) (u0_34 := u0_34) (u0_35 := u0_35) (u0_36 := u0_36) (u0_37 := u0_37) (u0_38 := u0_38) (u0_39 := u0_39) (u0_40 := u0_40) (v_undoMany := v_undoMany) (v_undos := v_undos) (nw1_ := 37) (w1_ := v_now) (r := y23) e3) [0, 2, 1] rfl rfl (fun _ => rfl) (fun _ => rfl) rfl rfl rfl rfl (Nat.le_of_ble_eq_true rfl) hl.1 (by rw [hRf]; exact Nat.le_of_ble_eq_true rfl) (by rw [hRl]; exact Nat.le_of_ble_eq_true rfl) ⟨Nat.zero_le _, Nat.zero_le _⟩ dX11_learns_23 rfl (fun H locs _ hS => ?_)
    refine lv_aload_n hx hb dX11_learns_26 rfl (lv_at hl 1 rfl) ?_
    refine r_get E frX11_9 hS 0 rfl rfl dX11_learns_27 ?_
    refine lv_iload_n hx hb dX11_learns_30 rfl (lv_at hl 2 rfl) ?_
    obtain ⟨g4, h⟩ := gi_some h
    refine r_iald E hS 1 rfl g4 dX11_learns_31 ?_
    refine lv_istore (lv' := [(4, .int (v_now p1.toNatClampNeg)), (3, .int y8), (0, .ref q0), (1, .int p1), (2, .int p2)]) hx hb dX11_learns_32 hl (by decide) rfl (fun ls hl => ?_)
    refine lv_aload_n hx hb dX11_learns_34 rfl (lv_at hl 2 rfl) ?_
    refine r_get E frX11_9 hS 0 rfl rfl dX11_learns_35 ?_
    refine lv_iload_n hx hb dX11_learns_38 rfl (lv_at hl 3 rfl) ?_
    refine lv_iload_n hx hb dX11_learns_39 rfl (lv_at hl 4 rfl) ?_
    obtain ⟨g5, h⟩ := gi_some h
    refine r_iast (ws' := [oX11 q0 (.ref q1) (.int v_people) u0_2 u0_3 u0_4 u0_5 (.int (0 : Int32)) u0_7 u0_8 u0_9 u0_10 u0_11 u0_12 u0_13 u0_14 u0_15 u0_16 u0_17 (.ref q2) (.int y23.1) u0_20 u0_21 u0_22 u0_23 u0_24 u0_25 u0_26 u0_27 u0_28 u0_29 u0_30 u0_31 u0_32 u0_33 u0_34 u0_35 u0_36 u0_37 u0_38 u0_39 u0_40, aI cy q1 37 (upd v_now p1.toNatClampNeg p2), aI cy q2 444 y23.2]) E hS 1 rfl g5 rfl dX11_learns_40 (fun H locs hS => ?_)
    refine lv_bipush (v := 10) hx hb dX11_learns_41 (by decide) ?_
    refine lv_iload hx hb dX11_learns_43 (lv_at hl 0 rfl) ?_
    refine lv_iadd hx hb dX11_learns_45 ?_
    obtain rfl := Option.some.inj h
    exact rt_i E hQ (.null) hS dX11_learns_46
  · have h := it_neg c2 h
    refine lv_iload_n hx hb dX11_learns_16 rfl (lv_at hl 0 rfl) ?_
    obtain rfl := Option.some.inj h
    exact rt_i E hQ (.null) hS dX11_learns_17
def X11_wantsOf (v_people : Int32) (nw1_ : Nat) (w1_ : Nat → Int32) (p2 : Int32) : Option (Int32) :=
  gi ((28 : Int32) + p2) nw1_ ((X11_wantedBy v_people nw1_ w1_ p2).bind fun y12 => some ((J6_bitCount_0f7a4 (w1_ ((28 : Int32) + p2).toNatClampNeg)) + (J6_bitCount_0f7a4 y12)))
set_option maxHeartbeats 4000000 in
set_option maxRecDepth 100000 in
theorem c_X11_wantsOf {l : Launch} {D : va_G} {cy : Nat → ClassId} (q0 : Nat) (q1 : Nat) (u0_0 : Value) (u0_2 : Value) (u0_3 : Value) (u0_4 : Value) (u0_5 : Value) (u0_6 : Value) (u0_7 : Value) (u0_8 : Value) (u0_9 : Value) (u0_10 : Value) (u0_11 : Value) (u0_12 : Value) (u0_13 : Value) (u0_14 : Value) (u0_15 : Value) (u0_16 : Value) (u0_17 : Value) (u0_18 : Value) (u0_19 : Value) (u0_20 : Value) (u0_21 : Value) (u0_22 : Value) (u0_23 : Value) (u0_24 : Value) (u0_25 : Value) (u0_26 : Value) (u0_27 : Value) (u0_28 : Value) (u0_29 : Value) (u0_30 : Value) (u0_31 : Value) (u0_32 : Value) (u0_33 : Value) (u0_34 : Value) (u0_35 : Value) (u0_36 : Value) (u0_37 : Value) (u0_38 : Value) (u0_39 : Value) (u0_40 : Value) (v_people : Int32) (nw1_ : Nat) (w1_ : Nat → Int32) (p2 : Int32) (r : Int32) (h : X11_wantsOf v_people nw1_ w1_ p2 = some r) : Ct l yX11_wantsOf cX11_wantsOf 3 (some .int) 2 45 D cy [.ref q0, .ref q1, .int p2] [oX11 q0 u0_0 (.int v_people) u0_2 u0_3 u0_4 u0_5 u0_6 u0_7 u0_8 u0_9 u0_10 u0_11 u0_12 u0_13 u0_14 u0_15 u0_16 u0_17 u0_18 u0_19 u0_20 u0_21 u0_22 u0_23 u0_24 u0_25 u0_26 u0_27 u0_28 u0_29 u0_30 u0_31 u0_32 u0_33 u0_34 u0_35 u0_36 u0_37 u0_38 u0_39 u0_40, aI cy q1 nw1_ w1_] (fun _ => [oX11 q0 u0_0 (.int v_people) u0_2 u0_3 u0_4 u0_5 u0_6 u0_7 u0_8 u0_9 u0_10 u0_11 u0_12 u0_13 u0_14 u0_15 u0_16 u0_17 u0_18 u0_19 u0_20 u0_21 u0_22 u0_23 u0_24 u0_25 u0_26 u0_27 u0_28 u0_29 u0_30 u0_31 u0_32 u0_33 u0_34 u0_35 u0_36 u0_37 u0_38 u0_39 u0_40, aI cy q1 nw1_ w1_]) (some (.int r)) := by
  refine Ct.mk kX11_wantsOf (by decide +kernel) (Nat.le_of_ble_eq_true rfl) ?_
  intro p e s m below meth c A ls args R Q hRf hRl hQ E H locs hS hl
  have hx := E.x
  have hb := E.b
  have hl : lv_has ls 3 [(0, .ref q0), (1, .ref q1), (2, .int p2)] := hl
  unfold X11_wantsOf at h
  refine lv_aload_n hx hb dX11_wantsOf_0 rfl (lv_at hl 1 rfl) ?_
  refine lv_bipush (v := 28) hx hb dX11_wantsOf_1 (by decide) ?_
  refine lv_iload_n hx hb dX11_wantsOf_3 rfl (lv_at hl 2 rfl) ?_
  refine lv_iadd hx hb dX11_wantsOf_4 ?_
  obtain ⟨g1, h⟩ := gi_some h
  refine r_iald E hS 1 rfl g1 dX11_wantsOf_5 ?_
  refine ct_S (ws' := fun _ => [oX11 q0 u0_0 (.int v_people) u0_2 u0_3 u0_4 u0_5 u0_6 u0_7 u0_8 u0_9 u0_10 u0_11 u0_12 u0_13 u0_14 u0_15 u0_16 u0_17 u0_18 u0_19 u0_20 u0_21 u0_22 u0_23 u0_24 u0_25 u0_26 u0_27 u0_28 u0_29 u0_30 u0_31 u0_32 u0_33 u0_34 u0_35 u0_36 u0_37 u0_38 u0_39 u0_40, aI cy q1 nw1_ w1_]) (st' := [.int (J6_bitCount_0f7a4 (w1_ ((28 : Int32) + p2).toNatClampNeg))]) (rest := []) E hS slX11_204 (c_J6_bitCount_0f7a4 (l := l) (D := D) (cy := cy) (p0 := (w1_ ((28 : Int32) + p2).toNatClampNeg)) (r := (J6_bitCount_0f7a4 (w1_ ((28 : Int32) + p2).toNatClampNeg))) rfl) [] rfl rfl (fun _ => rfl) (fun _ => rfl) rfl rfl (Nat.le_of_ble_eq_true rfl) hl.1 (by rw [hRf]; exact Nat.le_of_ble_eq_true rfl) (by rw [hRl]; exact Nat.le_of_ble_eq_true rfl) ⟨Nat.zero_le _, Nat.zero_le _⟩ dX11_wantsOf_6 rfl (fun H locs _ hS => ?_)
  refine lv_aload_n hx hb dX11_wantsOf_9 rfl (lv_at hl 0 rfl) ?_
  refine lv_aload_n hx hb dX11_wantsOf_10 rfl (lv_at hl 1 rfl) ?_
  refine lv_iload_n hx hb dX11_wantsOf_11 rfl (lv_at hl 2 rfl) ?_
  obtain ⟨y12, e2, h⟩ := bd_some h
  refine ct_V (ws' := fun _ => [oX11 q0 u0_0 (.int v_people) u0_2 u0_3 u0_4 u0_5 u0_6 u0_7 u0_8 u0_9 u0_10 u0_11 u0_12 u0_13 u0_14 u0_15 u0_16 u0_17 u0_18 u0_19 u0_20 u0_21 u0_22 u0_23 u0_24 u0_25 u0_26 u0_27 u0_28 u0_29 u0_30 u0_31 u0_32 u0_33 u0_34 u0_35 u0_36 u0_37 u0_38 u0_39 u0_40, aI cy q1 nw1_ w1_]) (st' := [.int y12, .int (J6_bitCount_0f7a4 (w1_ ((28 : Int32) + p2).toNatClampNeg))]) (rest := [.int (J6_bitCount_0f7a4 (w1_ ((28 : Int32) + p2).toNatClampNeg))]) E hS vlX11_200 (c_X11_wantedBy (l := l) (D := D) (cy := cy) (q0 := q0) (q1 := q1) (u0_0 := u0_0) (u0_2 := u0_2) (u0_3 := u0_3) (u0_4 := u0_4) (u0_5 := u0_5) (u0_6 := u0_6) (u0_7 := u0_7) (u0_8 := u0_8) (u0_9 := u0_9) (u0_10 := u0_10) (u0_11 := u0_11) (u0_12 := u0_12) (u0_13 := u0_13) (u0_14 := u0_14) (u0_15 := u0_15) (u0_16 := u0_16) (u0_17 := u0_17) (u0_18 := u0_18) (u0_19 := u0_19) (u0_20 := u0_20) (u0_21 := u0_21) (u0_22 := u0_22) (u0_23 := u0_23) (u0_24 := u0_24) (u0_25 := u0_25) (u0_26 := u0_26) (u0_27 := u0_27) (u0_28 := u0_28) (u0_29 := u0_29) (u0_30 := u0_30) (u0_31 := u0_31) (u0_32 := u0_32) (u0_33 := u0_33) (u0_34 := u0_34) (u0_35 := u0_35) (u0_36 := u0_36) (u0_37 := u0_37) (u0_38 := u0_38) (u0_39 := u0_39) (u0_40 := u0_40) (v_people := v_people) (nw1_ := nw1_) (w1_ := w1_) (p2 := p2) (r := y12) e2) [0, 1] rfl rfl (fun _ => rfl) (fun _ => rfl) rfl rfl rfl rfl (Nat.le_of_ble_eq_true rfl) hl.1 (by rw [hRf]; exact Nat.le_of_ble_eq_true rfl) (by rw [hRl]; exact Nat.le_of_ble_eq_true rfl) ⟨Nat.zero_le _, Nat.zero_le _⟩ dX11_wantsOf_12 rfl (fun H locs _ hS => ?_)
  refine ct_S (ws' := fun _ => [oX11 q0 u0_0 (.int v_people) u0_2 u0_3 u0_4 u0_5 u0_6 u0_7 u0_8 u0_9 u0_10 u0_11 u0_12 u0_13 u0_14 u0_15 u0_16 u0_17 u0_18 u0_19 u0_20 u0_21 u0_22 u0_23 u0_24 u0_25 u0_26 u0_27 u0_28 u0_29 u0_30 u0_31 u0_32 u0_33 u0_34 u0_35 u0_36 u0_37 u0_38 u0_39 u0_40, aI cy q1 nw1_ w1_]) (st' := [.int (J6_bitCount_0f7a4 y12), .int (J6_bitCount_0f7a4 (w1_ ((28 : Int32) + p2).toNatClampNeg))]) (rest := [.int (J6_bitCount_0f7a4 (w1_ ((28 : Int32) + p2).toNatClampNeg))]) E hS slX11_204 (c_J6_bitCount_0f7a4 (l := l) (D := D) (cy := cy) (p0 := y12) (r := (J6_bitCount_0f7a4 y12)) rfl) [] rfl rfl (fun _ => rfl) (fun _ => rfl) rfl rfl (Nat.le_of_ble_eq_true rfl) hl.1 (by rw [hRf]; exact Nat.le_of_ble_eq_true rfl) (by rw [hRl]; exact Nat.le_of_ble_eq_true rfl) ⟨Nat.zero_le _, Nat.zero_le _⟩ dX11_wantsOf_15 rfl (fun H locs _ hS => ?_)
  refine lv_iadd hx hb dX11_wantsOf_18 ?_
  obtain rfl := Option.some.inj h
  exact rt_i E hQ (.null) hS dX11_wantsOf_19
def X11_goAway_s9 (v_people : Int32) (nw1_ : Nat) (p2 : Int32) (x9 : Int32 × (Nat → Int32)) : Option ((Int32 × (Nat → Int32)) ⊕ ((Nat → Int32))) :=
  if v_people ≤ x9.1 then (some (.inr x9.2)) else (gi ((28 : Int32) + x9.1) nw1_ (gi ((28 : Int32) + x9.1) nw1_ (some (.inl ((x9.1 + (1 : Int32)), (upd x9.2 ((28 : Int32) + x9.1).toNatClampNeg ((x9.2 ((28 : Int32) + x9.1).toNatClampNeg) &&& (((1 : Int32) <<< (p2 &&& 31)) ^^^ (-1 : Int32)))))))))
def X11_goAway (v_people : Int32) (nw1_ : Nat) (w1_ : Nat → Int32) (p2 : Int32) : Option ((Nat → Int32)) :=
  gi ((28 : Int32) + p2) nw1_ ((lp (fun x9 => X11_goAway_s9 v_people nw1_ p2 x9) 1000 ((0 : Int32), (upd w1_ ((28 : Int32) + p2).toNatClampNeg (0 : Int32)))).bind fun y9 => some y9)
set_option maxHeartbeats 4000000 in
set_option maxRecDepth 100000 in
theorem c_X11_goAway {l : Launch} {D : va_G} {cy : Nat → ClassId} (q0 : Nat) (q1 : Nat) (u0_0 : Value) (u0_2 : Value) (u0_3 : Value) (u0_4 : Value) (u0_5 : Value) (u0_6 : Value) (u0_7 : Value) (u0_8 : Value) (u0_9 : Value) (u0_10 : Value) (u0_11 : Value) (u0_12 : Value) (u0_13 : Value) (u0_14 : Value) (u0_15 : Value) (u0_16 : Value) (u0_17 : Value) (u0_18 : Value) (u0_19 : Value) (u0_20 : Value) (u0_21 : Value) (u0_22 : Value) (u0_23 : Value) (u0_24 : Value) (u0_25 : Value) (u0_26 : Value) (u0_27 : Value) (u0_28 : Value) (u0_29 : Value) (u0_30 : Value) (u0_31 : Value) (u0_32 : Value) (u0_33 : Value) (u0_34 : Value) (u0_35 : Value) (u0_36 : Value) (u0_37 : Value) (u0_38 : Value) (u0_39 : Value) (u0_40 : Value) (v_people : Int32) (nw1_ : Nat) (w1_ : Nat → Int32) (p2 : Int32) (r : (Nat → Int32)) (h : X11_goAway v_people nw1_ w1_ p2 = some r) : Ct l yX11_goAway cX11_goAway 4 none 0 0 D cy [.ref q0, .ref q1, .int p2] [oX11 q0 u0_0 (.int v_people) u0_2 u0_3 u0_4 u0_5 u0_6 u0_7 u0_8 u0_9 u0_10 u0_11 u0_12 u0_13 u0_14 u0_15 u0_16 u0_17 u0_18 u0_19 u0_20 u0_21 u0_22 u0_23 u0_24 u0_25 u0_26 u0_27 u0_28 u0_29 u0_30 u0_31 u0_32 u0_33 u0_34 u0_35 u0_36 u0_37 u0_38 u0_39 u0_40, aI cy q1 nw1_ w1_] (fun _ => [oX11 q0 u0_0 (.int v_people) u0_2 u0_3 u0_4 u0_5 u0_6 u0_7 u0_8 u0_9 u0_10 u0_11 u0_12 u0_13 u0_14 u0_15 u0_16 u0_17 u0_18 u0_19 u0_20 u0_21 u0_22 u0_23 u0_24 u0_25 u0_26 u0_27 u0_28 u0_29 u0_30 u0_31 u0_32 u0_33 u0_34 u0_35 u0_36 u0_37 u0_38 u0_39 u0_40, aI cy q1 nw1_ r]) (none) := by
  refine Ct.mk kX11_goAway (by decide +kernel) (Nat.le_of_ble_eq_true rfl) ?_
  intro p e s m below meth c A ls args R Q hRf hRl hQ E H locs hS hl
  have hx := E.x
  have hb := E.b
  have hl : lv_has ls 4 [(0, .ref q0), (1, .ref q1), (2, .int p2)] := hl
  unfold X11_goAway at h
  refine lv_aload_n hx hb dX11_goAway_0 rfl (lv_at hl 1 rfl) ?_
  refine lv_bipush (v := 28) hx hb dX11_goAway_1 (by decide) ?_
  refine lv_iload_n hx hb dX11_goAway_3 rfl (lv_at hl 2 rfl) ?_
  refine lv_iadd hx hb dX11_goAway_4 ?_
  refine lv_iconst (v := 0) hx hb dX11_goAway_5 (by decide) ?_
  obtain ⟨g1, h⟩ := gi_some h
  refine r_iast (ws' := [oX11 q0 u0_0 (.int v_people) u0_2 u0_3 u0_4 u0_5 u0_6 u0_7 u0_8 u0_9 u0_10 u0_11 u0_12 u0_13 u0_14 u0_15 u0_16 u0_17 u0_18 u0_19 u0_20 u0_21 u0_22 u0_23 u0_24 u0_25 u0_26 u0_27 u0_28 u0_29 u0_30 u0_31 u0_32 u0_33 u0_34 u0_35 u0_36 u0_37 u0_38 u0_39 u0_40, aI cy q1 nw1_ (upd w1_ ((28 : Int32) + p2).toNatClampNeg (0 : Int32))]) E hS 1 rfl g1 rfl dX11_goAway_6 (fun H locs hS => ?_)
  refine lv_iconst (v := 0) hx hb dX11_goAway_7 (by decide) ?_
  refine lv_istore_n (lv' := [(3, .int (0 : Int32)), (0, .ref q0), (1, .ref q1), (2, .int p2)]) hx hb dX11_goAway_8 rfl hl (by decide) rfl (fun ls hl => ?_)
  have hL9 : ∀ (n : Nat) (x9 : Int32 × (Nat → Int32)) (y9 : (Nat → Int32)) (H : Heap) (locs : List Loc) (ls : Array Slot), lp (fun x9 => X11_goAway_s9 v_people nw1_ p2 x9) n x9 = some y9 → Sv D A s.heap [oX11 q0 u0_0 (.int v_people) u0_2 u0_3 u0_4 u0_5 u0_6 u0_7 u0_8 u0_9 u0_10 u0_11 u0_12 u0_13 u0_14 u0_15 u0_16 u0_17 u0_18 u0_19 u0_20 u0_21 u0_22 u0_23 u0_24 u0_25 u0_26 u0_27 u0_28 u0_29 u0_30 u0_31 u0_32 u0_33 u0_34 u0_35 u0_36 u0_37 u0_38 u0_39 u0_40, aI cy q1 nw1_ x9.2] H locs → lv_has ls 4 [(0, .ref q0), (1, .ref q1), (2, .int p2), (3, .int x9.1)] → (∀ (H : Heap) (locs : List Loc) (ls : Array Slot), Sv D A s.heap [oX11 q0 u0_0 (.int v_people) u0_2 u0_3 u0_4 u0_5 u0_6 u0_7 u0_8 u0_9 u0_10 u0_11 u0_12 u0_13 u0_14 u0_15 u0_16 u0_17 u0_18 u0_19 u0_20 u0_21 u0_22 u0_23 u0_24 u0_25 u0_26 u0_27 u0_28 u0_29 u0_30 u0_31 u0_32 u0_33 u0_34 u0_35 u0_36 u0_37 u0_38 u0_39 u0_40, aI cy q1 nw1_ y9] H locs → lv_has ls 4 [] → W p l e R s m args below meth c H locs 0 0 Q (F0 m 37 ls [])) → W p l e R s m args below meth c H locs 0 0 Q (F0 m 9 ls []) := by
    intro n
    induction n with
    | zero =>
      intro x9 y9 H locs ls h
      exact lp_zero h
    | succ n ih9 =>
      intro x9 y9 H locs ls h hS hl hk9_0
      obtain ⟨z9, h, hz9a, hz9b⟩ := lp_succ h
      have h : X11_goAway_s9 v_people nw1_ p2 x9 = some z9 := h
      unfold X11_goAway_s9 at h
      refine lv_iload_n hx hb dX11_goAway_9 rfl (lv_at hl 3 rfl) ?_
      refine lv_aload_n hx hb dX11_goAway_10 rfl (lv_at hl 0 rfl) ?_
      refine r_get E frX11_92 hS 0 rfl rfl dX11_goAway_11 ?_
      refine lv_icmp_ge (tgt := 37) hx hb dX11_goAway_14 (by decide) (fun c2 => ?_) (fun c2 => ?_)
      · have h := it_pos c2 h
        obtain rfl := hz9b _ (Option.some.inj h).symm
        exact hk9_0  H locs ls hS (lv_sub hl [] rfl)
      · have h := it_neg c2 h
        refine lv_aload_n hx hb dX11_goAway_17 rfl (lv_at hl 1 rfl) ?_
        refine lv_bipush (v := 28) hx hb dX11_goAway_18 (by decide) ?_
        refine lv_iload_n hx hb dX11_goAway_20 rfl (lv_at hl 3 rfl) ?_
        refine lv_iadd hx hb dX11_goAway_21 ?_
        refine lv_dup2_11 hx hb dX11_goAway_22 rfl rfl ?_
        obtain ⟨g3, h⟩ := gi_some h
        refine r_iald E hS 1 rfl g3 dX11_goAway_23 ?_
        refine lv_iconst (v := 1) hx hb dX11_goAway_24 (by decide) ?_
        refine lv_iload_n hx hb dX11_goAway_25 rfl (lv_at hl 2 rfl) ?_
        refine lv_ishl hx hb dX11_goAway_26 ?_
        refine lv_iconst (v := -1) hx hb dX11_goAway_27 (by decide) ?_
        refine lv_ixor hx hb dX11_goAway_28 ?_
        refine lv_iand hx hb dX11_goAway_29 ?_
        obtain ⟨g4, h⟩ := gi_some h
        refine r_iast (ws' := [oX11 q0 u0_0 (.int v_people) u0_2 u0_3 u0_4 u0_5 u0_6 u0_7 u0_8 u0_9 u0_10 u0_11 u0_12 u0_13 u0_14 u0_15 u0_16 u0_17 u0_18 u0_19 u0_20 u0_21 u0_22 u0_23 u0_24 u0_25 u0_26 u0_27 u0_28 u0_29 u0_30 u0_31 u0_32 u0_33 u0_34 u0_35 u0_36 u0_37 u0_38 u0_39 u0_40, aI cy q1 nw1_ (upd x9.2 ((28 : Int32) + x9.1).toNatClampNeg ((x9.2 ((28 : Int32) + x9.1).toNatClampNeg) &&& (((1 : Int32) <<< (p2 &&& 31)) ^^^ (-1 : Int32))))]) E hS 1 rfl g4 rfl dX11_goAway_30 (fun H locs hS => ?_)
        refine lv_iinc (v := (x9.1 + (1 : Int32))) (lv' := [(3, .int (x9.1 + (1 : Int32))), (0, .ref q0), (1, .ref q1), (2, .int p2)]) hx hb dX11_goAway_31 hl (k := 3) rfl rfl (by decide) rfl (fun ls hl => ?_)
        refine lv_goto (tgt := 9) hx hb dX11_goAway_34 (by decide) ?_
        exact ih9 ((x9.1 + (1 : Int32)), (upd x9.2 ((28 : Int32) + x9.1).toNatClampNeg ((x9.2 ((28 : Int32) + x9.1).toNatClampNeg) &&& (((1 : Int32) <<< (p2 &&& 31)) ^^^ (-1 : Int32))))) y9  H locs ls (hz9a _ (Option.some.inj h).symm) hS (lv_sub hl [1, 2, 3, 0] rfl) hk9_0
  obtain ⟨y9, e9, h⟩ := bd_some h
  refine hL9 1000 ((0 : Int32), (upd w1_ ((28 : Int32) + p2).toNatClampNeg (0 : Int32))) y9  H locs ls e9 hS (lv_sub hl [1, 2, 3, 0] rfl) (fun H locs ls hS hl => ?_)
  obtain rfl := Option.some.inj h
  exact rt_v E hQ (.null) hS dX11_goAway_37
def X11_refusesLeave (v_people : Int32) (v_now : Nat → Int32) (p1 : Int32) : Option (Int32) :=
  (X11_isOne v_people p1).bind fun y2 => if y2 = 0 then (some (-1 : Int32)) else ((X11_wantsOf v_people 37 v_now p1).bind fun y16 => some (if y16 = 0 then (-2 : Int32) else (0 : Int32)))
set_option maxHeartbeats 4000000 in
set_option maxRecDepth 100000 in
theorem c_X11_refusesLeave {l : Launch} {D : va_G} {cy : Nat → ClassId} (q0 : Nat) (q1 : Nat) (u0_2 : Value) (u0_3 : Value) (u0_4 : Value) (u0_5 : Value) (u0_6 : Value) (u0_7 : Value) (u0_8 : Value) (u0_9 : Value) (u0_10 : Value) (u0_11 : Value) (u0_12 : Value) (u0_13 : Value) (u0_14 : Value) (u0_15 : Value) (u0_16 : Value) (u0_17 : Value) (u0_18 : Value) (u0_19 : Value) (u0_20 : Value) (u0_21 : Value) (u0_22 : Value) (u0_23 : Value) (u0_24 : Value) (u0_25 : Value) (u0_26 : Value) (u0_27 : Value) (u0_28 : Value) (u0_29 : Value) (u0_30 : Value) (u0_31 : Value) (u0_32 : Value) (u0_33 : Value) (u0_34 : Value) (u0_35 : Value) (u0_36 : Value) (u0_37 : Value) (u0_38 : Value) (u0_39 : Value) (u0_40 : Value) (v_people : Int32) (v_now : Nat → Int32) (p1 : Int32) (r : Int32) (h : X11_refusesLeave v_people v_now p1 = some r) : Ct l yX11_refusesLeave cX11_refusesLeave 2 (some .int) 3 67 D cy [.ref q0, .int p1] [oX11 q0 (.ref q1) (.int v_people) u0_2 u0_3 u0_4 u0_5 u0_6 u0_7 u0_8 u0_9 u0_10 u0_11 u0_12 u0_13 u0_14 u0_15 u0_16 u0_17 u0_18 u0_19 u0_20 u0_21 u0_22 u0_23 u0_24 u0_25 u0_26 u0_27 u0_28 u0_29 u0_30 u0_31 u0_32 u0_33 u0_34 u0_35 u0_36 u0_37 u0_38 u0_39 u0_40, aI cy q1 37 v_now] (fun _ => [oX11 q0 (.ref q1) (.int v_people) u0_2 u0_3 u0_4 u0_5 u0_6 u0_7 u0_8 u0_9 u0_10 u0_11 u0_12 u0_13 u0_14 u0_15 u0_16 u0_17 u0_18 u0_19 u0_20 u0_21 u0_22 u0_23 u0_24 u0_25 u0_26 u0_27 u0_28 u0_29 u0_30 u0_31 u0_32 u0_33 u0_34 u0_35 u0_36 u0_37 u0_38 u0_39 u0_40, aI cy q1 37 v_now]) (some (.int r)) := by
  refine Ct.mk kX11_refusesLeave (by decide +kernel) (Nat.le_of_ble_eq_true rfl) ?_
  intro p e s m below meth c A ls args R Q hRf hRl hQ E H locs hS hl
  have hx := E.x
  have hb := E.b
  have hl : lv_has ls 2 [(0, .ref q0), (1, .int p1)] := hl
  unfold X11_refusesLeave at h
  refine lv_aload_n hx hb dX11_refusesLeave_0 rfl (lv_at hl 0 rfl) ?_
  refine lv_iload_n hx hb dX11_refusesLeave_1 rfl (lv_at hl 1 rfl) ?_
  obtain ⟨y2, e1, h⟩ := bd_some h
  refine ct_V (ws' := fun _ => [oX11 q0 (.ref q1) (.int v_people) u0_2 u0_3 u0_4 u0_5 u0_6 u0_7 u0_8 u0_9 u0_10 u0_11 u0_12 u0_13 u0_14 u0_15 u0_16 u0_17 u0_18 u0_19 u0_20 u0_21 u0_22 u0_23 u0_24 u0_25 u0_26 u0_27 u0_28 u0_29 u0_30 u0_31 u0_32 u0_33 u0_34 u0_35 u0_36 u0_37 u0_38 u0_39 u0_40, aI cy q1 37 v_now]) (st' := [.int y2]) (rest := []) E hS vlX11_99 (c_X11_isOne (l := l) (D := D) (cy := cy) (q0 := q0) (u0_0 := .ref q1) (u0_2 := u0_2) (u0_3 := u0_3) (u0_4 := u0_4) (u0_5 := u0_5) (u0_6 := u0_6) (u0_7 := u0_7) (u0_8 := u0_8) (u0_9 := u0_9) (u0_10 := u0_10) (u0_11 := u0_11) (u0_12 := u0_12) (u0_13 := u0_13) (u0_14 := u0_14) (u0_15 := u0_15) (u0_16 := u0_16) (u0_17 := u0_17) (u0_18 := u0_18) (u0_19 := u0_19) (u0_20 := u0_20) (u0_21 := u0_21) (u0_22 := u0_22) (u0_23 := u0_23) (u0_24 := u0_24) (u0_25 := u0_25) (u0_26 := u0_26) (u0_27 := u0_27) (u0_28 := u0_28) (u0_29 := u0_29) (u0_30 := u0_30) (u0_31 := u0_31) (u0_32 := u0_32) (u0_33 := u0_33) (u0_34 := u0_34) (u0_35 := u0_35) (u0_36 := u0_36) (u0_37 := u0_37) (u0_38 := u0_38) (u0_39 := u0_39) (u0_40 := u0_40) (v_people := v_people) (p1 := p1) (r := y2) e1) [0] rfl rfl (fun _ => rfl) (fun _ => rfl) rfl rfl rfl rfl (Nat.le_of_ble_eq_true rfl) hl.1 (by rw [hRf]; exact Nat.le_of_ble_eq_true rfl) (by rw [hRl]; exact Nat.le_of_ble_eq_true rfl) ⟨Nat.zero_le _, Nat.zero_le _⟩ dX11_refusesLeave_2 rfl (fun H locs _ hS => ?_)
  refine lv_if_ne (tgt := 10) hx hb dX11_refusesLeave_5 (by decide) (fun c2 => ?_) (fun c2 => ?_)
  · have h := it_neg c2 h
    refine lv_aload_n hx hb dX11_refusesLeave_10 rfl (lv_at hl 0 rfl) ?_
    refine lv_aload_n hx hb dX11_refusesLeave_11 rfl (lv_at hl 0 rfl) ?_
    refine r_get E frX11_9 hS 0 rfl rfl dX11_refusesLeave_12 ?_
    refine lv_iload_n hx hb dX11_refusesLeave_15 rfl (lv_at hl 1 rfl) ?_
    obtain ⟨y16, e3, h⟩ := bd_some h
    refine ct_V (ws' := fun _ => [oX11 q0 (.ref q1) (.int v_people) u0_2 u0_3 u0_4 u0_5 u0_6 u0_7 u0_8 u0_9 u0_10 u0_11 u0_12 u0_13 u0_14 u0_15 u0_16 u0_17 u0_18 u0_19 u0_20 u0_21 u0_22 u0_23 u0_24 u0_25 u0_26 u0_27 u0_28 u0_29 u0_30 u0_31 u0_32 u0_33 u0_34 u0_35 u0_36 u0_37 u0_38 u0_39 u0_40, aI cy q1 37 v_now]) (st' := [.int y16]) (rest := []) E hS vlX11_269 (c_X11_wantsOf (l := l) (D := D) (cy := cy) (q0 := q0) (q1 := q1) (u0_0 := .ref q1) (u0_2 := u0_2) (u0_3 := u0_3) (u0_4 := u0_4) (u0_5 := u0_5) (u0_6 := u0_6) (u0_7 := u0_7) (u0_8 := u0_8) (u0_9 := u0_9) (u0_10 := u0_10) (u0_11 := u0_11) (u0_12 := u0_12) (u0_13 := u0_13) (u0_14 := u0_14) (u0_15 := u0_15) (u0_16 := u0_16) (u0_17 := u0_17) (u0_18 := u0_18) (u0_19 := u0_19) (u0_20 := u0_20) (u0_21 := u0_21) (u0_22 := u0_22) (u0_23 := u0_23) (u0_24 := u0_24) (u0_25 := u0_25) (u0_26 := u0_26) (u0_27 := u0_27) (u0_28 := u0_28) (u0_29 := u0_29) (u0_30 := u0_30) (u0_31 := u0_31) (u0_32 := u0_32) (u0_33 := u0_33) (u0_34 := u0_34) (u0_35 := u0_35) (u0_36 := u0_36) (u0_37 := u0_37) (u0_38 := u0_38) (u0_39 := u0_39) (u0_40 := u0_40) (v_people := v_people) (nw1_ := 37) (w1_ := v_now) (p2 := p1) (r := y16) e3) [0, 1] rfl rfl (fun _ => rfl) (fun _ => rfl) rfl rfl rfl rfl (Nat.le_of_ble_eq_true rfl) hl.1 (by rw [hRf]; exact Nat.le_of_ble_eq_true rfl) (by rw [hRl]; exact Nat.le_of_ble_eq_true rfl) ⟨Nat.zero_le _, Nat.zero_le _⟩ dX11_refusesLeave_16 rfl (fun H locs _ hS => ?_)
    have hJ28 : ∀ (s28_0 : Int32) (ls : Array Slot), s28_0 = (if y16 = 0 then (-2 : Int32) else (0 : Int32)) → lv_has ls 2 [] → W p l e R s m args below meth c H locs 0 0 Q (F0 m 28 ls [.int s28_0]) := by
      intro s28_0 ls es28_0 hl
      subst es28_0
      obtain rfl := Option.some.inj h
      exact rt_i E hQ (.null) hS dX11_refusesLeave_28
    refine lv_if_ne (tgt := 27) hx hb dX11_refusesLeave_19 (by decide) (fun c4 => ?_) (fun c4 => ?_)
    · refine lv_iconst (v := 0) hx hb dX11_refusesLeave_27 (by decide) ?_
      exact hJ28 _ ls ((if_neg c4)).symm (lv_sub hl [] rfl)
    · refine lv_bipush (v := -2) hx hb dX11_refusesLeave_22 (by decide) ?_
      refine lv_goto (tgt := 28) hx hb dX11_refusesLeave_24 (by decide) ?_
      exact hJ28 _ ls ((if_pos c4)).symm (lv_sub hl [] rfl)
  · have h := it_pos c2 h
    refine lv_iconst (v := -1) hx hb dX11_refusesLeave_8 (by decide) ?_
    obtain rfl := Option.some.inj h
    exact rt_i E hQ (.null) hS dX11_refusesLeave_9
def X11_leaves (v_people : Int32) (v_undoMany : Int32) (v_now : Nat → Int32) (v_undos : Nat → Int32) (p1 : Int32) : Option (Int32 × Int32 × Int32 × (Nat → Int32) × (Nat → Int32)) :=
  (X11_refusesLeave v_people v_now p1).bind fun y7 => if 0 ≤ y7 then ((X11_remember v_undoMany v_undos 37 v_now).bind fun y22 => (X11_wantsOf v_people 37 v_now p1).bind fun y31 => (X11_goAway v_people 37 v_now p1).bind fun y41 => some (y31, (0 : Int32), y22.1, y41, y22.2)) else (some (y7, (0 : Int32), v_undoMany, v_now, v_undos))
set_option maxHeartbeats 4000000 in
set_option maxRecDepth 100000 in
theorem c_X11_leaves {l : Launch} {D : va_G} {cy : Nat → ClassId} (q0 : Nat) (q1 : Nat) (q2 : Nat) (u0_2 : Value) (u0_3 : Value) (u0_4 : Value) (u0_5 : Value) (u0_7 : Value) (u0_8 : Value) (u0_9 : Value) (u0_10 : Value) (u0_11 : Value) (u0_12 : Value) (u0_13 : Value) (u0_14 : Value) (u0_15 : Value) (u0_16 : Value) (u0_17 : Value) (u0_20 : Value) (u0_21 : Value) (u0_22 : Value) (u0_23 : Value) (u0_24 : Value) (u0_25 : Value) (u0_26 : Value) (u0_27 : Value) (u0_28 : Value) (u0_29 : Value) (u0_30 : Value) (u0_31 : Value) (u0_32 : Value) (u0_33 : Value) (u0_34 : Value) (u0_35 : Value) (u0_36 : Value) (u0_37 : Value) (u0_38 : Value) (u0_39 : Value) (u0_40 : Value) (v_people : Int32) (v_thrown : Int32) (v_undoMany : Int32) (v_now : Nat → Int32) (v_undos : Nat → Int32) (p1 : Int32) (r : Int32 × Int32 × Int32 × (Nat → Int32) × (Nat → Int32)) (h : X11_leaves v_people v_undoMany v_now v_undos p1 = some r) : Ct l yX11_leaves cX11_leaves 4 (some .int) 4 88 D cy [.ref q0, .int p1] [oX11 q0 (.ref q1) (.int v_people) u0_2 u0_3 u0_4 u0_5 (.int v_thrown) u0_7 u0_8 u0_9 u0_10 u0_11 u0_12 u0_13 u0_14 u0_15 u0_16 u0_17 (.ref q2) (.int v_undoMany) u0_20 u0_21 u0_22 u0_23 u0_24 u0_25 u0_26 u0_27 u0_28 u0_29 u0_30 u0_31 u0_32 u0_33 u0_34 u0_35 u0_36 u0_37 u0_38 u0_39 u0_40, aI cy q1 37 v_now, aI cy q2 444 v_undos] (fun _ => [oX11 q0 (.ref q1) (.int v_people) u0_2 u0_3 u0_4 u0_5 (.int r.2.1) u0_7 u0_8 u0_9 u0_10 u0_11 u0_12 u0_13 u0_14 u0_15 u0_16 u0_17 (.ref q2) (.int r.2.2.1) u0_20 u0_21 u0_22 u0_23 u0_24 u0_25 u0_26 u0_27 u0_28 u0_29 u0_30 u0_31 u0_32 u0_33 u0_34 u0_35 u0_36 u0_37 u0_38 u0_39 u0_40, aI cy q1 37 r.2.2.2.1, aI cy q2 444 r.2.2.2.2]) (some (.int r.1)) := by
  refine Ct.mk kX11_leaves (by decide +kernel) (Nat.le_of_ble_eq_true rfl) ?_
  intro p e s m below meth c A ls args R Q hRf hRl hQ E H locs hS hl
  have hx := E.x
  have hb := E.b
  have hl : lv_has ls 4 [(0, .ref q0), (1, .int p1)] := hl
  unfold X11_leaves at h
  refine lv_aload_n hx hb dX11_leaves_0 rfl (lv_at hl 0 rfl) ?_
  refine lv_iconst (v := 0) hx hb dX11_leaves_1 (by decide) ?_
  refine r_put (ws' := [oX11 q0 (.ref q1) (.int v_people) u0_2 u0_3 u0_4 u0_5 (.int (0 : Int32)) u0_7 u0_8 u0_9 u0_10 u0_11 u0_12 u0_13 u0_14 u0_15 u0_16 u0_17 (.ref q2) (.int v_undoMany) u0_20 u0_21 u0_22 u0_23 u0_24 u0_25 u0_26 u0_27 u0_28 u0_29 u0_30 u0_31 u0_32 u0_33 u0_34 u0_35 u0_36 u0_37 u0_38 u0_39 u0_40, aI cy q1 37 v_now, aI cy q2 444 v_undos]) E frX11_85 hS 0 rfl (Nat.le_of_ble_eq_true rfl) rfl rfl rfl rfl dX11_leaves_2 (fun H locs hS => ?_)
  refine lv_aload_n hx hb dX11_leaves_5 rfl (lv_at hl 0 rfl) ?_
  refine lv_iload_n hx hb dX11_leaves_6 rfl (lv_at hl 1 rfl) ?_
  obtain ⟨y7, e1, h⟩ := bd_some h
  refine ct_V (ws' := fun _ => [oX11 q0 (.ref q1) (.int v_people) u0_2 u0_3 u0_4 u0_5 (.int (0 : Int32)) u0_7 u0_8 u0_9 u0_10 u0_11 u0_12 u0_13 u0_14 u0_15 u0_16 u0_17 (.ref q2) (.int v_undoMany) u0_20 u0_21 u0_22 u0_23 u0_24 u0_25 u0_26 u0_27 u0_28 u0_29 u0_30 u0_31 u0_32 u0_33 u0_34 u0_35 u0_36 u0_37 u0_38 u0_39 u0_40, aI cy q1 37 v_now, aI cy q2 444 v_undos]) (st' := [.int y7]) (rest := []) E hS vlX11_272 (c_X11_refusesLeave (l := l) (D := D) (cy := cy) (q0 := q0) (q1 := q1) (u0_2 := u0_2) (u0_3 := u0_3) (u0_4 := u0_4) (u0_5 := u0_5) (u0_6 := .int (0 : Int32)) (u0_7 := u0_7) (u0_8 := u0_8) (u0_9 := u0_9) (u0_10 := u0_10) (u0_11 := u0_11) (u0_12 := u0_12) (u0_13 := u0_13) (u0_14 := u0_14) (u0_15 := u0_15) (u0_16 := u0_16) (u0_17 := u0_17) (u0_18 := .ref q2) (u0_19 := .int v_undoMany) (u0_20 := u0_20) (u0_21 := u0_21) (u0_22 := u0_22) (u0_23 := u0_23) (u0_24 := u0_24) (u0_25 := u0_25) (u0_26 := u0_26) (u0_27 := u0_27) (u0_28 := u0_28) (u0_29 := u0_29) (u0_30 := u0_30) (u0_31 := u0_31) (u0_32 := u0_32) (u0_33 := u0_33) (u0_34 := u0_34) (u0_35 := u0_35) (u0_36 := u0_36) (u0_37 := u0_37) (u0_38 := u0_38) (u0_39 := u0_39) (u0_40 := u0_40) (v_people := v_people) (v_now := v_now) (p1 := p1) (r := y7) e1) [0, 1] rfl rfl (fun _ => rfl) (fun _ => rfl) rfl rfl rfl rfl (Nat.le_of_ble_eq_true rfl) hl.1 (by rw [hRf]; exact Nat.le_of_ble_eq_true rfl) (by rw [hRl]; exact Nat.le_of_ble_eq_true rfl) ⟨Nat.zero_le _, Nat.zero_le _⟩ dX11_leaves_7 rfl (fun H locs _ hS => ?_)
  refine lv_istore_n (lv' := [(2, .int y7), (0, .ref q0), (1, .int p1)]) hx hb dX11_leaves_10 rfl hl (by decide) rfl (fun ls hl => ?_)
  refine lv_iload_n hx hb dX11_leaves_11 rfl (lv_at hl 0 rfl) ?_
  refine lv_if_ge (tgt := 17) hx hb dX11_leaves_12 (by decide) (fun c2 => ?_) (fun c2 => ?_)
  · have h := it_pos c2 h
    refine lv_aload_n hx hb dX11_leaves_17 rfl (lv_at hl 1 rfl) ?_
    refine lv_aload_n hx hb dX11_leaves_18 rfl (lv_at hl 1 rfl) ?_
    refine r_get E frX11_9 hS 0 rfl rfl dX11_leaves_19 ?_
    obtain ⟨y22, e3, h⟩ := bd_some h
    refine ct_V (ws' := fun _ => [oX11 q0 (.ref q1) (.int v_people) u0_2 u0_3 u0_4 u0_5 (.int (0 : Int32)) u0_7 u0_8 u0_9 u0_10 u0_11 u0_12 u0_13 u0_14 u0_15 u0_16 u0_17 (.ref q2) (.int y22.1) u0_20 u0_21 u0_22 u0_23 u0_24 u0_25 u0_26 u0_27 u0_28 u0_29 u0_30 u0_31 u0_32 u0_33 u0_34 u0_35 u0_36 u0_37 u0_38 u0_39 u0_40, aI cy q1 37 v_now, aI cy q2 444 y22.2]) (st' := []) (rest := []) E hS vlX11_249 (c_X11_remember (l := l) (D := D) (cy := cy) (q0 := q0) (q1 := q2) (q2 := q1) (u0_0 := .ref q1) (u0_1 := .int v_people) (u0_2 := u0_2) (u0_3 := u0_3) (u0_4 := u0_4) (u0_5 := u0_5) (u0_6 := .int (0 : Int32)) (u0_7 := u0_7) (u0_8 := u0_8) (u0_9 := u0_9) (u0_10 := u0_10) (u0_11 := u0_11) (u0_12 := u0_12) (u0_13 := u0_13) (u0_14 := u0_14) (u0_15 := u0_15) (u0_16 := u0_16) (u0_17 := u0_17) (u0_20 := u0_20) (u0_21 := u0_21) (u0_22 := u0_22) (u0_23 := u0_23) (u0_24 := u0_24) (u0_25 := u0_25) (u0_26 := u0_26) (u0_27 := u0_27) (u0_28 := u0_28) (u0_29 := u0_29) (u0_30 := u0_30) (u0_31 := u0_31) (u0_32 := u0_32) (u0_33 := u0_33) (u0_34 := u0_34) (u0_35 := u0_35) (u0_36 := u0_36) (u0_37 := u0_37) (u0_38 := u0_38) (u0_39 := u0_39) (u0_40 := u0_40) (v_undoMany := v_undoMany) (v_undos := v_undos) (nw1_ := 37) (w1_ := v_now) (r := y22) e3) [0, 2, 1] rfl rfl (fun _ => rfl) (fun _ => rfl) rfl rfl rfl rfl (Nat.le_of_ble_eq_true rfl) hl.1 (by rw [hRf]; exact Nat.le_of_ble_eq_true rfl) (by rw [hRl]; exact Nat.le_of_ble_eq_true rfl) ⟨Nat.zero_le _, Nat.zero_le _⟩ dX11_leaves_22 rfl (fun H locs _ hS => ?_)
    refine lv_aload_n hx hb dX11_leaves_25 rfl (lv_at hl 1 rfl) ?_
    refine lv_aload_n hx hb dX11_leaves_26 rfl (lv_at hl 1 rfl) ?_
    refine r_get E frX11_9 hS 0 rfl rfl dX11_leaves_27 ?_
    refine lv_iload_n hx hb dX11_leaves_30 rfl (lv_at hl 2 rfl) ?_
    obtain ⟨y31, e4, h⟩ := bd_some h
    refine ct_V (ws' := fun _ => [oX11 q0 (.ref q1) (.int v_people) u0_2 u0_3 u0_4 u0_5 (.int (0 : Int32)) u0_7 u0_8 u0_9 u0_10 u0_11 u0_12 u0_13 u0_14 u0_15 u0_16 u0_17 (.ref q2) (.int y22.1) u0_20 u0_21 u0_22 u0_23 u0_24 u0_25 u0_26 u0_27 u0_28 u0_29 u0_30 u0_31 u0_32 u0_33 u0_34 u0_35 u0_36 u0_37 u0_38 u0_39 u0_40, aI cy q1 37 v_now, aI cy q2 444 y22.2]) (st' := [.int y31]) (rest := []) E hS vlX11_269 (c_X11_wantsOf (l := l) (D := D) (cy := cy) (q0 := q0) (q1 := q1) (u0_0 := .ref q1) (u0_2 := u0_2) (u0_3 := u0_3) (u0_4 := u0_4) (u0_5 := u0_5) (u0_6 := .int (0 : Int32)) (u0_7 := u0_7) (u0_8 := u0_8) (u0_9 := u0_9) (u0_10 := u0_10) (u0_11 := u0_11) (u0_12 := u0_12) (u0_13 := u0_13) (u0_14 := u0_14) (u0_15 := u0_15) (u0_16 := u0_16) (u0_17 := u0_17) (u0_18 := .ref q2) (u0_19 := .int y22.1) (u0_20 := u0_20) (u0_21 := u0_21) (u0_22 := u0_22) (u0_23 := u0_23) (u0_24 := u0_24) (u0_25 := u0_25) (u0_26 := u0_26) (u0_27 := u0_27) (u0_28 := u0_28) (u0_29 := u0_29) (u0_30 := u0_30) (u0_31 := u0_31) (u0_32 := u0_32) (u0_33 := u0_33) (u0_34 := u0_34) (u0_35 := u0_35) (u0_36 := u0_36) (u0_37 := u0_37) (u0_38 := u0_38) (u0_39 := u0_39) (u0_40 := u0_40) (v_people := v_people) (nw1_ := 37) (w1_ := v_now) (p2 := p1) (r := y31) e4) [0, 1] rfl rfl (fun _ => rfl) (fun _ => rfl) rfl rfl rfl rfl (Nat.le_of_ble_eq_true rfl) hl.1 (by rw [hRf]; exact Nat.le_of_ble_eq_true rfl) (by rw [hRl]; exact Nat.le_of_ble_eq_true rfl) ⟨Nat.zero_le _, Nat.zero_le _⟩ dX11_leaves_31 rfl (fun H locs _ hS => ?_)
    refine lv_istore_n (lv' := [(3, .int y31), (2, .int y7), (0, .ref q0), (1, .int p1)]) hx hb dX11_leaves_34 rfl hl (by decide) rfl (fun ls hl => ?_)
    refine lv_aload_n hx hb dX11_leaves_35 rfl (lv_at hl 2 rfl) ?_
    refine lv_aload_n hx hb dX11_leaves_36 rfl (lv_at hl 2 rfl) ?_
    refine r_get E frX11_9 hS 0 rfl rfl dX11_leaves_37 ?_
    refine lv_iload_n hx hb dX11_leaves_40 rfl (lv_at hl 3 rfl) ?_
    obtain ⟨y41, e5, h⟩ := bd_some h
    refine ct_V (ws' := fun _ => [oX11 q0 (.ref q1) (.int v_people) u0_2 u0_3 u0_4 u0_5 (.int (0 : Int32)) u0_7 u0_8 u0_9 u0_10 u0_11 u0_12 u0_13 u0_14 u0_15 u0_16 u0_17 (.ref q2) (.int y22.1) u0_20 u0_21 u0_22 u0_23 u0_24 u0_25 u0_26 u0_27 u0_28 u0_29 u0_30 u0_31 u0_32 u0_33 u0_34 u0_35 u0_36 u0_37 u0_38 u0_39 u0_40, aI cy q1 37 y41, aI cy q2 444 y22.2]) (st' := []) (rest := []) E hS vlX11_275 (c_X11_goAway (l := l) (D := D) (cy := cy) (q0 := q0) (q1 := q1) (u0_0 := .ref q1) (u0_2 := u0_2) (u0_3 := u0_3) (u0_4 := u0_4) (u0_5 := u0_5) (u0_6 := .int (0 : Int32)) (u0_7 := u0_7) (u0_8 := u0_8) (u0_9 := u0_9) (u0_10 := u0_10) (u0_11 := u0_11) (u0_12 := u0_12) (u0_13 := u0_13) (u0_14 := u0_14) (u0_15 := u0_15) (u0_16 := u0_16) (u0_17 := u0_17) (u0_18 := .ref q2) (u0_19 := .int y22.1) (u0_20 := u0_20) (u0_21 := u0_21) (u0_22 := u0_22) (u0_23 := u0_23) (u0_24 := u0_24) (u0_25 := u0_25) (u0_26 := u0_26) (u0_27 := u0_27) (u0_28 := u0_28) (u0_29 := u0_29) (u0_30 := u0_30) (u0_31 := u0_31) (u0_32 := u0_32) (u0_33 := u0_33) (u0_34 := u0_34) (u0_35 := u0_35) (u0_36 := u0_36) (u0_37 := u0_37) (u0_38 := u0_38) (u0_39 := u0_39) (u0_40 := u0_40) (v_people := v_people) (nw1_ := 37) (w1_ := v_now) (p2 := p1) (r := y41) e5) [0, 1] rfl rfl (fun _ => rfl) (fun _ => rfl) rfl rfl rfl rfl (Nat.le_of_ble_eq_true rfl) hl.1 (by rw [hRf]; exact Nat.le_of_ble_eq_true rfl) (by rw [hRl]; exact Nat.le_of_ble_eq_true rfl) ⟨Nat.zero_le _, Nat.zero_le _⟩ dX11_leaves_41 rfl (fun H locs _ hS => ?_)
    refine lv_iload_n hx hb dX11_leaves_44 rfl (lv_at hl 0 rfl) ?_
    obtain rfl := Option.some.inj h
    exact rt_i E hQ (.null) hS dX11_leaves_45
  · have h := it_neg c2 h
    refine lv_iload_n hx hb dX11_leaves_15 rfl (lv_at hl 0 rfl) ?_
    obtain rfl := Option.some.inj h
    exact rt_i E hQ (.null) hS dX11_leaves_16
def X11_readAct_k105 (v_length : Int32) (v_top : Int32) (nv_read : Nat) (v_read : Nat → Int32) (p1 : Int32) (y1 : Int32) (j105_v_at : Int32) (j105_v_wrong : Int32) (j105_v_acts : Nat → Int32) : Option (Int32 × Int32 × (Nat → Int32)) :=
  if y1 = (112 : Int32) then ((X11_oneOf v_length v_top j105_v_at j105_v_wrong nv_read v_read (49 : Int32) (9 : Int32)).bind fun y123 => gi (p1 + (2 : Int32)) 240 (some (y123.2.1, y123.2.2, (upd j105_v_acts (p1 + (2 : Int32)).toNatClampNeg (y123.1 + (1 : Int32)))))) else (some (j105_v_at, j105_v_wrong, j105_v_acts))
def X11_readAct_k89 (v_length : Int32) (v_top : Int32) (nv_read : Nat) (v_read : Nat → Int32) (v_acts : Nat → Int32) (p1 : Int32) (y1 : Int32) (y73 : Int32 × Int32 × Int32) : Option (Int32 × Int32 × (Nat → Int32)) :=
  (X11_oneOf v_length v_top y73.2.1 y73.2.2 nv_read v_read (48 : Int32) (10 : Int32)).bind fun y101 => gi (p1 + (2 : Int32)) 240 (X11_readAct_k105 v_length v_top nv_read v_read p1 y1 y101.2.1 y101.2.2 (upd (upd (upd v_acts p1.toNatClampNeg y1) (p1 + (1 : Int32)).toNatClampNeg y73.1) (p1 + (2 : Int32)).toNatClampNeg y101.1))
def X11_readAct_k44 (v_length : Int32) (v_top : Int32) (v_at : Int32) (v_wrong : Int32) (nv_read : Nat) (v_read : Nat → Int32) (v_acts : Nat → Int32) (p1 : Int32) (y1 : Int32) : Option (Int32 × Int32 × (Nat → Int32)) :=
  gi p1 240 ((X11_oneOf v_length v_top (v_at + (1 : Int32)) v_wrong nv_read v_read (48 : Int32) (10 : Int32)).bind fun y73 => gi (p1 + (1 : Int32)) 240 (if y1 = (116 : Int32) then (X11_readAct_k89 v_length v_top nv_read v_read v_acts p1 y1 y73) else (if y1 = (115 : Int32) then (X11_readAct_k89 v_length v_top nv_read v_read v_acts p1 y1 y73) else (X11_readAct_k105 v_length v_top nv_read v_read p1 y1 y73.2.1 y73.2.2 (upd (upd v_acts p1.toNatClampNeg y1) (p1 + (1 : Int32)).toNatClampNeg y73.1)))))
def X11_readAct (v_length : Int32) (v_top : Int32) (v_at : Int32) (v_wrong : Int32) (nv_read : Nat) (v_read : Nat → Int32) (v_acts : Nat → Int32) (p1 : Int32) : Option (Int32 × Int32 × (Nat → Int32)) :=
  (X11_here v_length v_top v_at nv_read v_read).bind fun y1 => if y1 = (110 : Int32) then (X11_readAct_k44 v_length v_top v_at v_wrong nv_read v_read v_acts p1 y1) else (if y1 = (116 : Int32) then (X11_readAct_k44 v_length v_top v_at v_wrong nv_read v_read v_acts p1 y1) else (if y1 = (112 : Int32) then (X11_readAct_k44 v_length v_top v_at v_wrong nv_read v_read v_acts p1 y1) else (if y1 = (115 : Int32) then (X11_readAct_k44 v_length v_top v_at v_wrong nv_read v_read v_acts p1 y1) else (if y1 = (108 : Int32) then (X11_readAct_k44 v_length v_top v_at v_wrong nv_read v_read v_acts p1 y1) else (some (v_at, (X11_fault v_wrong v_at), v_acts))))))
set_option maxHeartbeats 4000000 in
set_option maxRecDepth 100000 in
theorem c_X11_readAct {l : Launch} {D : va_G} {cy : Nat → ClassId} (q0 : Nat) (q1 : Nat) (q2 : Nat) (u0_0 : Value) (u0_1 : Value) (u0_2 : Value) (u0_3 : Value) (u0_4 : Value) (u0_5 : Value) (u0_6 : Value) (u0_12 : Value) (u0_13 : Value) (u0_14 : Value) (u0_15 : Value) (u0_16 : Value) (u0_17 : Value) (u0_18 : Value) (u0_19 : Value) (u0_20 : Value) (u0_21 : Value) (u0_23 : Value) (u0_24 : Value) (u0_25 : Value) (u0_26 : Value) (u0_27 : Value) (u0_28 : Value) (u0_29 : Value) (u0_30 : Value) (u0_31 : Value) (u0_32 : Value) (u0_33 : Value) (u0_34 : Value) (u0_35 : Value) (u0_36 : Value) (u0_37 : Value) (u0_38 : Value) (u0_39 : Value) (u0_40 : Value) (v_length : Int32) (v_top : Int32) (v_at : Int32) (v_wrong : Int32) (nv_read : Nat) (v_read : Nat → Int32) (v_acts : Nat → Int32) (p1 : Int32) (r : Int32 × Int32 × (Nat → Int32)) (h : X11_readAct v_length v_top v_at v_wrong nv_read v_read v_acts p1 = some r) : Ct l yX11_readAct cX11_readAct 3 none 3 63 D cy [.ref q0, .int p1] [oX11 q0 u0_0 u0_1 u0_2 u0_3 u0_4 u0_5 u0_6 (.ref q1) (.int v_length) (.int v_top) (.int v_at) (.int v_wrong) u0_12 u0_13 u0_14 u0_15 u0_16 u0_17 u0_18 u0_19 u0_20 u0_21 (.ref q2) u0_23 u0_24 u0_25 u0_26 u0_27 u0_28 u0_29 u0_30 u0_31 u0_32 u0_33 u0_34 u0_35 u0_36 u0_37 u0_38 u0_39 u0_40, aB cy q1 nv_read v_read, aI cy q2 240 v_acts] (fun _ => [oX11 q0 u0_0 u0_1 u0_2 u0_3 u0_4 u0_5 u0_6 (.ref q1) (.int v_length) (.int v_top) (.int r.1) (.int r.2.1) u0_12 u0_13 u0_14 u0_15 u0_16 u0_17 u0_18 u0_19 u0_20 u0_21 (.ref q2) u0_23 u0_24 u0_25 u0_26 u0_27 u0_28 u0_29 u0_30 u0_31 u0_32 u0_33 u0_34 u0_35 u0_36 u0_37 u0_38 u0_39 u0_40, aB cy q1 nv_read v_read, aI cy q2 240 r.2.2]) (none) := by
  refine Ct.mk kX11_readAct (by decide +kernel) (Nat.le_of_ble_eq_true rfl) ?_
  intro p e s m below meth c A ls args R Q hRf hRl hQ E H locs hS hl
  have hx := E.x
  have hb := E.b
  have hl : lv_has ls 3 [(0, .ref q0), (1, .int p1)] := hl
  unfold X11_readAct at h
  refine lv_aload_n hx hb dX11_readAct_0 rfl (lv_at hl 0 rfl) ?_
  obtain ⟨y1, e1, h⟩ := bd_some h
  refine ct_V (ws' := fun _ => [oX11 q0 u0_0 u0_1 u0_2 u0_3 u0_4 u0_5 u0_6 (.ref q1) (.int v_length) (.int v_top) (.int v_at) (.int v_wrong) u0_12 u0_13 u0_14 u0_15 u0_16 u0_17 u0_18 u0_19 u0_20 u0_21 (.ref q2) u0_23 u0_24 u0_25 u0_26 u0_27 u0_28 u0_29 u0_30 u0_31 u0_32 u0_33 u0_34 u0_35 u0_36 u0_37 u0_38 u0_39 u0_40, aB cy q1 nv_read v_read, aI cy q2 240 v_acts]) (st' := [.int y1]) (rest := []) E hS vlX11_129 (c_X11_here (l := l) (D := D) (cy := cy) (q0 := q0) (q1 := q1) (u0_0 := u0_0) (u0_1 := u0_1) (u0_2 := u0_2) (u0_3 := u0_3) (u0_4 := u0_4) (u0_5 := u0_5) (u0_6 := u0_6) (u0_11 := .int v_wrong) (u0_12 := u0_12) (u0_13 := u0_13) (u0_14 := u0_14) (u0_15 := u0_15) (u0_16 := u0_16) (u0_17 := u0_17) (u0_18 := u0_18) (u0_19 := u0_19) (u0_20 := u0_20) (u0_21 := u0_21) (u0_22 := .ref q2) (u0_23 := u0_23) (u0_24 := u0_24) (u0_25 := u0_25) (u0_26 := u0_26) (u0_27 := u0_27) (u0_28 := u0_28) (u0_29 := u0_29) (u0_30 := u0_30) (u0_31 := u0_31) (u0_32 := u0_32) (u0_33 := u0_33) (u0_34 := u0_34) (u0_35 := u0_35) (u0_36 := u0_36) (u0_37 := u0_37) (u0_38 := u0_38) (u0_39 := u0_39) (u0_40 := u0_40) (v_length := v_length) (v_top := v_top) (v_at := v_at) (nv_read := nv_read) (v_read := v_read) (r := y1) e1) [0, 1] rfl rfl (fun _ => rfl) (fun _ => rfl) rfl rfl rfl rfl (Nat.le_of_ble_eq_true rfl) hl.1 (by rw [hRf]; exact Nat.le_of_ble_eq_true rfl) (by rw [hRl]; exact Nat.le_of_ble_eq_true rfl) ⟨Nat.zero_le _, Nat.zero_le _⟩ dX11_readAct_1 rfl (fun H locs _ hS => ?_)
  refine lv_istore_n (lv' := [(2, .int y1), (0, .ref q0), (1, .int p1)]) hx hb dX11_readAct_4 rfl hl (by decide) rfl (fun ls hl => ?_)
  refine lv_iload_n hx hb dX11_readAct_5 rfl (lv_at hl 0 rfl) ?_
  refine lv_bipush (v := 110) hx hb dX11_readAct_6 (by decide) ?_
  have hJ44 : ∀ (H : Heap) (locs : List Loc) (ls : Array Slot), X11_readAct_k44 v_length v_top v_at v_wrong nv_read v_read v_acts p1 y1 = some r → Sv D A s.heap [oX11 q0 u0_0 u0_1 u0_2 u0_3 u0_4 u0_5 u0_6 (.ref q1) (.int v_length) (.int v_top) (.int v_at) (.int v_wrong) u0_12 u0_13 u0_14 u0_15 u0_16 u0_17 u0_18 u0_19 u0_20 u0_21 (.ref q2) u0_23 u0_24 u0_25 u0_26 u0_27 u0_28 u0_29 u0_30 u0_31 u0_32 u0_33 u0_34 u0_35 u0_36 u0_37 u0_38 u0_39 u0_40, aB cy q1 nv_read v_read, aI cy q2 240 v_acts] H locs → lv_has ls 3 [(0, .ref q0), (1, .int p1), (2, .int y1)] → W p l e R s m args below meth c H locs 0 0 Q (F0 m 44 ls []) := by
    intro H locs ls h hS hl
    unfold X11_readAct_k44 at h
    refine lv_aload_n hx hb dX11_readAct_44 rfl (lv_at hl 0 rfl) ?_
    refine lv_dup hx hb dX11_readAct_45 rfl ?_
    refine r_get E frX11_115 hS 0 rfl rfl dX11_readAct_46 ?_
    refine lv_iconst (v := 1) hx hb dX11_readAct_49 (by decide) ?_
    refine lv_iadd hx hb dX11_readAct_50 ?_
    refine r_put (ws' := [oX11 q0 u0_0 u0_1 u0_2 u0_3 u0_4 u0_5 u0_6 (.ref q1) (.int v_length) (.int v_top) (.int (v_at + (1 : Int32))) (.int v_wrong) u0_12 u0_13 u0_14 u0_15 u0_16 u0_17 u0_18 u0_19 u0_20 u0_21 (.ref q2) u0_23 u0_24 u0_25 u0_26 u0_27 u0_28 u0_29 u0_30 u0_31 u0_32 u0_33 u0_34 u0_35 u0_36 u0_37 u0_38 u0_39 u0_40, aB cy q1 nv_read v_read, aI cy q2 240 v_acts]) E frX11_115 hS 0 rfl (Nat.le_of_ble_eq_true rfl) rfl rfl rfl rfl dX11_readAct_51 (fun H locs hS => ?_)
    refine lv_aload_n hx hb dX11_readAct_54 rfl (lv_at hl 0 rfl) ?_
    refine r_get E frX11_42 hS 0 rfl rfl dX11_readAct_55 ?_
    refine lv_iload_n hx hb dX11_readAct_58 rfl (lv_at hl 1 rfl) ?_
    refine lv_iload_n hx hb dX11_readAct_59 rfl (lv_at hl 2 rfl) ?_
    obtain ⟨g2, h⟩ := gi_some h
    refine r_iast (ws' := [oX11 q0 u0_0 u0_1 u0_2 u0_3 u0_4 u0_5 u0_6 (.ref q1) (.int v_length) (.int v_top) (.int (v_at + (1 : Int32))) (.int v_wrong) u0_12 u0_13 u0_14 u0_15 u0_16 u0_17 u0_18 u0_19 u0_20 u0_21 (.ref q2) u0_23 u0_24 u0_25 u0_26 u0_27 u0_28 u0_29 u0_30 u0_31 u0_32 u0_33 u0_34 u0_35 u0_36 u0_37 u0_38 u0_39 u0_40, aB cy q1 nv_read v_read, aI cy q2 240 (upd v_acts p1.toNatClampNeg y1)]) E hS 2 rfl g2 rfl dX11_readAct_60 (fun H locs hS => ?_)
    refine lv_aload_n hx hb dX11_readAct_61 rfl (lv_at hl 0 rfl) ?_
    refine r_get E frX11_42 hS 0 rfl rfl dX11_readAct_62 ?_
    refine lv_iload_n hx hb dX11_readAct_65 rfl (lv_at hl 1 rfl) ?_
    refine lv_iconst (v := 1) hx hb dX11_readAct_66 (by decide) ?_
    refine lv_iadd hx hb dX11_readAct_67 ?_
    refine lv_aload_n hx hb dX11_readAct_68 rfl (lv_at hl 0 rfl) ?_
    refine lv_bipush (v := 48) hx hb dX11_readAct_69 (by decide) ?_
    refine lv_bipush (v := 10) hx hb dX11_readAct_71 (by decide) ?_
    obtain ⟨y73, e3, h⟩ := bd_some h
    refine ct_V (ws' := fun _ => [oX11 q0 u0_0 u0_1 u0_2 u0_3 u0_4 u0_5 u0_6 (.ref q1) (.int v_length) (.int v_top) (.int y73.2.1) (.int y73.2.2) u0_12 u0_13 u0_14 u0_15 u0_16 u0_17 u0_18 u0_19 u0_20 u0_21 (.ref q2) u0_23 u0_24 u0_25 u0_26 u0_27 u0_28 u0_29 u0_30 u0_31 u0_32 u0_33 u0_34 u0_35 u0_36 u0_37 u0_38 u0_39 u0_40, aB cy q1 nv_read v_read, aI cy q2 240 (upd v_acts p1.toNatClampNeg y1)]) (st' := [.int y73.1, .int (p1 + (1 : Int32)), .ref q2]) (rest := [.int (p1 + (1 : Int32)), .ref q2]) E hS vlX11_141 (c_X11_oneOf (l := l) (D := D) (cy := cy) (q0 := q0) (q1 := q1) (u0_0 := u0_0) (u0_1 := u0_1) (u0_2 := u0_2) (u0_3 := u0_3) (u0_4 := u0_4) (u0_5 := u0_5) (u0_6 := u0_6) (u0_12 := u0_12) (u0_13 := u0_13) (u0_14 := u0_14) (u0_15 := u0_15) (u0_16 := u0_16) (u0_17 := u0_17) (u0_18 := u0_18) (u0_19 := u0_19) (u0_20 := u0_20) (u0_21 := u0_21) (u0_22 := .ref q2) (u0_23 := u0_23) (u0_24 := u0_24) (u0_25 := u0_25) (u0_26 := u0_26) (u0_27 := u0_27) (u0_28 := u0_28) (u0_29 := u0_29) (u0_30 := u0_30) (u0_31 := u0_31) (u0_32 := u0_32) (u0_33 := u0_33) (u0_34 := u0_34) (u0_35 := u0_35) (u0_36 := u0_36) (u0_37 := u0_37) (u0_38 := u0_38) (u0_39 := u0_39) (u0_40 := u0_40) (v_length := v_length) (v_top := v_top) (v_at := (v_at + (1 : Int32))) (v_wrong := v_wrong) (nv_read := nv_read) (v_read := v_read) (p1 := (48 : Int32)) (p2 := (10 : Int32)) (r := y73) e3) [0, 1] rfl rfl (fun _ => rfl) (fun _ => rfl) rfl rfl rfl rfl (Nat.le_of_ble_eq_true rfl) hl.1 (by rw [hRf]; exact Nat.le_of_ble_eq_true rfl) (by rw [hRl]; exact Nat.le_of_ble_eq_true rfl) ⟨Nat.zero_le _, Nat.zero_le _⟩ dX11_readAct_73 rfl (fun H locs _ hS => ?_)
    obtain ⟨g4, h⟩ := gi_some h
    refine r_iast (ws' := [oX11 q0 u0_0 u0_1 u0_2 u0_3 u0_4 u0_5 u0_6 (.ref q1) (.int v_length) (.int v_top) (.int y73.2.1) (.int y73.2.2) u0_12 u0_13 u0_14 u0_15 u0_16 u0_17 u0_18 u0_19 u0_20 u0_21 (.ref q2) u0_23 u0_24 u0_25 u0_26 u0_27 u0_28 u0_29 u0_30 u0_31 u0_32 u0_33 u0_34 u0_35 u0_36 u0_37 u0_38 u0_39 u0_40, aB cy q1 nv_read v_read, aI cy q2 240 (upd (upd v_acts p1.toNatClampNeg y1) (p1 + (1 : Int32)).toNatClampNeg y73.1)]) E hS 2 rfl g4 rfl dX11_readAct_76 (fun H locs hS => ?_)
    refine lv_iload_n hx hb dX11_readAct_77 rfl (lv_at hl 2 rfl) ?_
    refine lv_bipush (v := 116) hx hb dX11_readAct_78 (by decide) ?_
    have hJ105 : ∀ (j105_v_at : Int32) (j105_v_wrong : Int32) (j105_v_acts : Nat → Int32) (H : Heap) (locs : List Loc) (ls : Array Slot), X11_readAct_k105 v_length v_top nv_read v_read p1 y1 j105_v_at j105_v_wrong j105_v_acts = some r → Sv D A s.heap [oX11 q0 u0_0 u0_1 u0_2 u0_3 u0_4 u0_5 u0_6 (.ref q1) (.int v_length) (.int v_top) (.int j105_v_at) (.int j105_v_wrong) u0_12 u0_13 u0_14 u0_15 u0_16 u0_17 u0_18 u0_19 u0_20 u0_21 (.ref q2) u0_23 u0_24 u0_25 u0_26 u0_27 u0_28 u0_29 u0_30 u0_31 u0_32 u0_33 u0_34 u0_35 u0_36 u0_37 u0_38 u0_39 u0_40, aB cy q1 nv_read v_read, aI cy q2 240 j105_v_acts] H locs → lv_has ls 3 [(0, .ref q0), (1, .int p1), (2, .int y1)] → W p l e R s m args below meth c H locs 0 0 Q (F0 m 105 ls []) := by
      intro j105_v_at j105_v_wrong j105_v_acts H locs ls h hS hl
      unfold X11_readAct_k105 at h
      refine lv_iload_n hx hb dX11_readAct_105 rfl (lv_at hl 2 rfl) ?_
      refine lv_bipush (v := 112) hx hb dX11_readAct_106 (by decide) ?_
      refine lv_icmp_ne (tgt := 129) hx hb dX11_readAct_108 (by decide) (fun c5 => ?_) (fun c5 => ?_)
      · have h := it_neg c5 h
        obtain rfl := Option.some.inj h
        exact rt_v E hQ (.null) hS dX11_readAct_129
      · have h := it_pos c5 h
        refine lv_aload_n hx hb dX11_readAct_111 rfl (lv_at hl 0 rfl) ?_
        refine r_get E frX11_42 hS 0 rfl rfl dX11_readAct_112 ?_
        refine lv_iload_n hx hb dX11_readAct_115 rfl (lv_at hl 1 rfl) ?_
        refine lv_iconst (v := 2) hx hb dX11_readAct_116 (by decide) ?_
        refine lv_iadd hx hb dX11_readAct_117 ?_
        refine lv_aload_n hx hb dX11_readAct_118 rfl (lv_at hl 0 rfl) ?_
        refine lv_bipush (v := 49) hx hb dX11_readAct_119 (by decide) ?_
        refine lv_bipush (v := 9) hx hb dX11_readAct_121 (by decide) ?_
        obtain ⟨y123, e6, h⟩ := bd_some h
        refine ct_V (ws' := fun _ => [oX11 q0 u0_0 u0_1 u0_2 u0_3 u0_4 u0_5 u0_6 (.ref q1) (.int v_length) (.int v_top) (.int y123.2.1) (.int y123.2.2) u0_12 u0_13 u0_14 u0_15 u0_16 u0_17 u0_18 u0_19 u0_20 u0_21 (.ref q2) u0_23 u0_24 u0_25 u0_26 u0_27 u0_28 u0_29 u0_30 u0_31 u0_32 u0_33 u0_34 u0_35 u0_36 u0_37 u0_38 u0_39 u0_40, aB cy q1 nv_read v_read, aI cy q2 240 j105_v_acts]) (st' := [.int y123.1, .int (p1 + (2 : Int32)), .ref q2]) (rest := [.int (p1 + (2 : Int32)), .ref q2]) E hS vlX11_141 (c_X11_oneOf (l := l) (D := D) (cy := cy) (q0 := q0) (q1 := q1) (u0_0 := u0_0) (u0_1 := u0_1) (u0_2 := u0_2) (u0_3 := u0_3) (u0_4 := u0_4) (u0_5 := u0_5) (u0_6 := u0_6) (u0_12 := u0_12) (u0_13 := u0_13) (u0_14 := u0_14) (u0_15 := u0_15) (u0_16 := u0_16) (u0_17 := u0_17) (u0_18 := u0_18) (u0_19 := u0_19) (u0_20 := u0_20) (u0_21 := u0_21) (u0_22 := .ref q2) (u0_23 := u0_23) (u0_24 := u0_24) (u0_25 := u0_25) (u0_26 := u0_26) (u0_27 := u0_27) (u0_28 := u0_28) (u0_29 := u0_29) (u0_30 := u0_30) (u0_31 := u0_31) (u0_32 := u0_32) (u0_33 := u0_33) (u0_34 := u0_34) (u0_35 := u0_35) (u0_36 := u0_36) (u0_37 := u0_37) (u0_38 := u0_38) (u0_39 := u0_39) (u0_40 := u0_40) (v_length := v_length) (v_top := v_top) (v_at := j105_v_at) (v_wrong := j105_v_wrong) (nv_read := nv_read) (v_read := v_read) (p1 := (49 : Int32)) (p2 := (9 : Int32)) (r := y123) e6) [0, 1] rfl rfl (fun _ => rfl) (fun _ => rfl) rfl rfl rfl rfl (Nat.le_of_ble_eq_true rfl) hl.1 (by rw [hRf]; exact Nat.le_of_ble_eq_true rfl) (by rw [hRl]; exact Nat.le_of_ble_eq_true rfl) ⟨Nat.zero_le _, Nat.zero_le _⟩ dX11_readAct_123 rfl (fun H locs _ hS => ?_)
        refine lv_iconst (v := 1) hx hb dX11_readAct_126 (by decide) ?_
        refine lv_iadd hx hb dX11_readAct_127 ?_
        obtain ⟨g7, h⟩ := gi_some h
        refine r_iast (ws' := [oX11 q0 u0_0 u0_1 u0_2 u0_3 u0_4 u0_5 u0_6 (.ref q1) (.int v_length) (.int v_top) (.int y123.2.1) (.int y123.2.2) u0_12 u0_13 u0_14 u0_15 u0_16 u0_17 u0_18 u0_19 u0_20 u0_21 (.ref q2) u0_23 u0_24 u0_25 u0_26 u0_27 u0_28 u0_29 u0_30 u0_31 u0_32 u0_33 u0_34 u0_35 u0_36 u0_37 u0_38 u0_39 u0_40, aB cy q1 nv_read v_read, aI cy q2 240 (upd j105_v_acts (p1 + (2 : Int32)).toNatClampNeg (y123.1 + (1 : Int32)))]) E hS 2 rfl g7 rfl dX11_readAct_128 (fun H locs hS => ?_)
        obtain rfl := Option.some.inj h
        exact rt_v E hQ (.null) hS dX11_readAct_129
    have hJ89 : ∀ (H : Heap) (locs : List Loc) (ls : Array Slot), X11_readAct_k89 v_length v_top nv_read v_read v_acts p1 y1 y73 = some r → Sv D A s.heap [oX11 q0 u0_0 u0_1 u0_2 u0_3 u0_4 u0_5 u0_6 (.ref q1) (.int v_length) (.int v_top) (.int y73.2.1) (.int y73.2.2) u0_12 u0_13 u0_14 u0_15 u0_16 u0_17 u0_18 u0_19 u0_20 u0_21 (.ref q2) u0_23 u0_24 u0_25 u0_26 u0_27 u0_28 u0_29 u0_30 u0_31 u0_32 u0_33 u0_34 u0_35 u0_36 u0_37 u0_38 u0_39 u0_40, aB cy q1 nv_read v_read, aI cy q2 240 (upd (upd v_acts p1.toNatClampNeg y1) (p1 + (1 : Int32)).toNatClampNeg y73.1)] H locs → lv_has ls 3 [(0, .ref q0), (1, .int p1), (2, .int y1)] → W p l e R s m args below meth c H locs 0 0 Q (F0 m 89 ls []) := by
      intro H locs ls h hS hl
      unfold X11_readAct_k89 at h
      refine lv_aload_n hx hb dX11_readAct_89 rfl (lv_at hl 0 rfl) ?_
      refine r_get E frX11_42 hS 0 rfl rfl dX11_readAct_90 ?_
      refine lv_iload_n hx hb dX11_readAct_93 rfl (lv_at hl 1 rfl) ?_
      refine lv_iconst (v := 2) hx hb dX11_readAct_94 (by decide) ?_
      refine lv_iadd hx hb dX11_readAct_95 ?_
      refine lv_aload_n hx hb dX11_readAct_96 rfl (lv_at hl 0 rfl) ?_
      refine lv_bipush (v := 48) hx hb dX11_readAct_97 (by decide) ?_
      refine lv_bipush (v := 10) hx hb dX11_readAct_99 (by decide) ?_
      obtain ⟨y101, e8, h⟩ := bd_some h
      refine ct_V (ws' := fun _ => [oX11 q0 u0_0 u0_1 u0_2 u0_3 u0_4 u0_5 u0_6 (.ref q1) (.int v_length) (.int v_top) (.int y101.2.1) (.int y101.2.2) u0_12 u0_13 u0_14 u0_15 u0_16 u0_17 u0_18 u0_19 u0_20 u0_21 (.ref q2) u0_23 u0_24 u0_25 u0_26 u0_27 u0_28 u0_29 u0_30 u0_31 u0_32 u0_33 u0_34 u0_35 u0_36 u0_37 u0_38 u0_39 u0_40, aB cy q1 nv_read v_read, aI cy q2 240 (upd (upd v_acts p1.toNatClampNeg y1) (p1 + (1 : Int32)).toNatClampNeg y73.1)]) (st' := [.int y101.1, .int (p1 + (2 : Int32)), .ref q2]) (rest := [.int (p1 + (2 : Int32)), .ref q2]) E hS vlX11_141 (c_X11_oneOf (l := l) (D := D) (cy := cy) (q0 := q0) (q1 := q1) (u0_0 := u0_0) (u0_1 := u0_1) (u0_2 := u0_2) (u0_3 := u0_3) (u0_4 := u0_4) (u0_5 := u0_5) (u0_6 := u0_6) (u0_12 := u0_12) (u0_13 := u0_13) (u0_14 := u0_14) (u0_15 := u0_15) (u0_16 := u0_16) (u0_17 := u0_17) (u0_18 := u0_18) (u0_19 := u0_19) (u0_20 := u0_20) (u0_21 := u0_21) (u0_22 := .ref q2) (u0_23 := u0_23) (u0_24 := u0_24) (u0_25 := u0_25) (u0_26 := u0_26) (u0_27 := u0_27) (u0_28 := u0_28) (u0_29 := u0_29) (u0_30 := u0_30) (u0_31 := u0_31) (u0_32 := u0_32) (u0_33 := u0_33) (u0_34 := u0_34) (u0_35 := u0_35) (u0_36 := u0_36) (u0_37 := u0_37) (u0_38 := u0_38) (u0_39 := u0_39) (u0_40 := u0_40) (v_length := v_length) (v_top := v_top) (v_at := y73.2.1) (v_wrong := y73.2.2) (nv_read := nv_read) (v_read := v_read) (p1 := (48 : Int32)) (p2 := (10 : Int32)) (r := y101) e8) [0, 1] rfl rfl (fun _ => rfl) (fun _ => rfl) rfl rfl rfl rfl (Nat.le_of_ble_eq_true rfl) hl.1 (by rw [hRf]; exact Nat.le_of_ble_eq_true rfl) (by rw [hRl]; exact Nat.le_of_ble_eq_true rfl) ⟨Nat.zero_le _, Nat.zero_le _⟩ dX11_readAct_101 rfl (fun H locs _ hS => ?_)
      obtain ⟨g9, h⟩ := gi_some h
      refine r_iast (ws' := [oX11 q0 u0_0 u0_1 u0_2 u0_3 u0_4 u0_5 u0_6 (.ref q1) (.int v_length) (.int v_top) (.int y101.2.1) (.int y101.2.2) u0_12 u0_13 u0_14 u0_15 u0_16 u0_17 u0_18 u0_19 u0_20 u0_21 (.ref q2) u0_23 u0_24 u0_25 u0_26 u0_27 u0_28 u0_29 u0_30 u0_31 u0_32 u0_33 u0_34 u0_35 u0_36 u0_37 u0_38 u0_39 u0_40, aB cy q1 nv_read v_read, aI cy q2 240 (upd (upd (upd v_acts p1.toNatClampNeg y1) (p1 + (1 : Int32)).toNatClampNeg y73.1) (p1 + (2 : Int32)).toNatClampNeg y101.1)]) E hS 2 rfl g9 rfl dX11_readAct_104 (fun H locs hS => ?_)
      exact hJ105 y101.2.1 y101.2.2 (upd (upd (upd v_acts p1.toNatClampNeg y1) (p1 + (1 : Int32)).toNatClampNeg y73.1) (p1 + (2 : Int32)).toNatClampNeg y101.1)  H locs ls h hS (lv_sub hl [0, 1, 2] rfl)
    refine lv_icmp_eq (tgt := 89) hx hb dX11_readAct_80 (by decide) (fun c10 => ?_) (fun c10 => ?_)
    · have h := it_pos c10 h
      exact hJ89   H locs ls h hS (lv_sub hl [0, 1, 2] rfl)
    · have h := it_neg c10 h
      refine lv_iload_n hx hb dX11_readAct_83 rfl (lv_at hl 2 rfl) ?_
      refine lv_bipush (v := 115) hx hb dX11_readAct_84 (by decide) ?_
      refine lv_icmp_ne (tgt := 105) hx hb dX11_readAct_86 (by decide) (fun c11 => ?_) (fun c11 => ?_)
      · have h := it_neg c11 h
        exact hJ105 y73.2.1 y73.2.2 (upd (upd v_acts p1.toNatClampNeg y1) (p1 + (1 : Int32)).toNatClampNeg y73.1)  H locs ls h hS (lv_sub hl [0, 1, 2] rfl)
      · have h := it_pos c11 h
        exact hJ89   H locs ls h hS (lv_sub hl [0, 1, 2] rfl)
  refine lv_icmp_eq (tgt := 44) hx hb dX11_readAct_8 (by decide) (fun c12 => ?_) (fun c12 => ?_)
  · have h := it_pos c12 h
    exact hJ44   H locs ls h hS (lv_sub hl [1, 2, 0] rfl)
  · have h := it_neg c12 h
    refine lv_iload_n hx hb dX11_readAct_11 rfl (lv_at hl 0 rfl) ?_
    refine lv_bipush (v := 116) hx hb dX11_readAct_12 (by decide) ?_
    refine lv_icmp_eq (tgt := 44) hx hb dX11_readAct_14 (by decide) (fun c13 => ?_) (fun c13 => ?_)
    · have h := it_pos c13 h
      exact hJ44   H locs ls h hS (lv_sub hl [1, 2, 0] rfl)
    · have h := it_neg c13 h
      refine lv_iload_n hx hb dX11_readAct_17 rfl (lv_at hl 0 rfl) ?_
      refine lv_bipush (v := 112) hx hb dX11_readAct_18 (by decide) ?_
      refine lv_icmp_eq (tgt := 44) hx hb dX11_readAct_20 (by decide) (fun c14 => ?_) (fun c14 => ?_)
      · have h := it_pos c14 h
        exact hJ44   H locs ls h hS (lv_sub hl [1, 2, 0] rfl)
      · have h := it_neg c14 h
        refine lv_iload_n hx hb dX11_readAct_23 rfl (lv_at hl 0 rfl) ?_
        refine lv_bipush (v := 115) hx hb dX11_readAct_24 (by decide) ?_
        refine lv_icmp_eq (tgt := 44) hx hb dX11_readAct_26 (by decide) (fun c15 => ?_) (fun c15 => ?_)
        · have h := it_pos c15 h
          exact hJ44   H locs ls h hS (lv_sub hl [1, 2, 0] rfl)
        · have h := it_neg c15 h
          refine lv_iload_n hx hb dX11_readAct_29 rfl (lv_at hl 0 rfl) ?_
          refine lv_bipush (v := 108) hx hb dX11_readAct_30 (by decide) ?_
          refine lv_icmp_eq (tgt := 44) hx hb dX11_readAct_32 (by decide) (fun c16 => ?_) (fun c16 => ?_)
          · have h := it_pos c16 h
            exact hJ44   H locs ls h hS (lv_sub hl [1, 2, 0] rfl)
          · have h := it_neg c16 h
            refine lv_aload_n hx hb dX11_readAct_35 rfl (lv_at hl 1 rfl) ?_
            refine lv_aload_n hx hb dX11_readAct_36 rfl (lv_at hl 1 rfl) ?_
            refine r_get E frX11_115 hS 0 rfl rfl dX11_readAct_37 ?_
            refine ct_V (ws' := fun _ => [oX11 q0 u0_0 u0_1 u0_2 u0_3 u0_4 u0_5 u0_6 (.ref q1) (.int v_length) (.int v_top) (.int v_at) (.int (X11_fault v_wrong v_at)) u0_12 u0_13 u0_14 u0_15 u0_16 u0_17 u0_18 u0_19 u0_20 u0_21 (.ref q2) u0_23 u0_24 u0_25 u0_26 u0_27 u0_28 u0_29 u0_30 u0_31 u0_32 u0_33 u0_34 u0_35 u0_36 u0_37 u0_38 u0_39 u0_40, aB cy q1 nv_read v_read, aI cy q2 240 v_acts]) (st' := []) (rest := []) E hS vlX11_137 (c_X11_fault (l := l) (D := D) (cy := cy) (q0 := q0) (u0_0 := u0_0) (u0_1 := u0_1) (u0_2 := u0_2) (u0_3 := u0_3) (u0_4 := u0_4) (u0_5 := u0_5) (u0_6 := u0_6) (u0_7 := .ref q1) (u0_8 := .int v_length) (u0_9 := .int v_top) (u0_10 := .int v_at) (u0_12 := u0_12) (u0_13 := u0_13) (u0_14 := u0_14) (u0_15 := u0_15) (u0_16 := u0_16) (u0_17 := u0_17) (u0_18 := u0_18) (u0_19 := u0_19) (u0_20 := u0_20) (u0_21 := u0_21) (u0_22 := .ref q2) (u0_23 := u0_23) (u0_24 := u0_24) (u0_25 := u0_25) (u0_26 := u0_26) (u0_27 := u0_27) (u0_28 := u0_28) (u0_29 := u0_29) (u0_30 := u0_30) (u0_31 := u0_31) (u0_32 := u0_32) (u0_33 := u0_33) (u0_34 := u0_34) (u0_35 := u0_35) (u0_36 := u0_36) (u0_37 := u0_37) (u0_38 := u0_38) (u0_39 := u0_39) (u0_40 := u0_40) (v_wrong := v_wrong) (p1 := v_at) (r := (X11_fault v_wrong v_at)) rfl) [0] rfl rfl (fun _ => rfl) (fun _ => rfl) rfl rfl rfl rfl (Nat.le_of_ble_eq_true rfl) hl.1 (by rw [hRf]; exact Nat.le_of_ble_eq_true rfl) (by rw [hRl]; exact Nat.le_of_ble_eq_true rfl) ⟨Nat.zero_le _, Nat.zero_le _⟩ dX11_readAct_40 rfl (fun H locs _ hS => ?_)
            obtain rfl := Option.some.inj h
            exact rt_v E hQ (.null) hS dX11_readAct_43
def X11_act (v_people : Int32) (v_length : Int32) (v_top : Int32) (v_at : Int32) (v_wrong : Int32) (v_ruleSize : Int32) (v_isAsked : Int32) (v_now : Nat → Int32) (v_rule : Nat → Int32) (v_asked : Nat → Int32) (p1 : Int32) (p2 : Int32) (p3 : Int32) : Option (Int32 × Int32 × Int32 × Int32 × Int32 × Int32 × (Nat → Int32) × (Nat → Int32)) :=
  if p1 = 110 then ((X11_goMornings v_people v_length v_top v_at v_wrong v_ruleSize v_isAsked v_rule v_asked 37 v_now p2).bind fun y50 => some ((1 : Int32), y50.2.1, y50.2.2.1, y50.2.2.2.1, y50.2.2.2.2.1, y50.2.2.2.2.2.1, y50.2.2.2.2.2.2.2, y50.2.2.2.2.2.2.1)) else (if p1 = 111 then ((X11_refusesLeave v_people v_now p2).bind fun y132 => if 0 ≤ y132 then ((X11_goAway v_people 37 v_now p2).bind fun y146 => some ((1 : Int32), v_length, v_top, v_at, v_wrong, v_isAsked, y146, v_asked)) else (some ((0 : Int32), v_length, v_top, v_at, v_wrong, v_isAsked, v_now, v_asked))) else (if p1 = 112 then ((X11_refusesPills v_people v_now p2 p3).bind fun y87 => if 0 ≤ y87 then (gi ((7 : Int32) + p2) 37 (gi ((7 : Int32) + p2) 37 (some ((1 : Int32), v_length, v_top, v_at, v_wrong, v_isAsked, (upd v_now ((7 : Int32) + p2).toNatClampNeg ((v_now ((7 : Int32) + p2).toNatClampNeg) + p3)), v_asked)))) else (some ((0 : Int32), v_length, v_top, v_at, v_wrong, v_isAsked, v_now, v_asked))) else (if p1 = 113 then ((X11_refusesLeave v_people v_now p2).bind fun y132 => if 0 ≤ y132 then ((X11_goAway v_people 37 v_now p2).bind fun y146 => some ((1 : Int32), v_length, v_top, v_at, v_wrong, v_isAsked, y146, v_asked)) else (some ((0 : Int32), v_length, v_top, v_at, v_wrong, v_isAsked, v_now, v_asked))) else (if p1 = 114 then ((X11_refusesLeave v_people v_now p2).bind fun y132 => if 0 ≤ y132 then ((X11_goAway v_people 37 v_now p2).bind fun y146 => some ((1 : Int32), v_length, v_top, v_at, v_wrong, v_isAsked, y146, v_asked)) else (some ((0 : Int32), v_length, v_top, v_at, v_wrong, v_isAsked, v_now, v_asked))) else (if p1 = 115 then ((X11_refusesSkill v_people v_now p2 p3).bind fun y113 => if 0 ≤ y113 then (gi p2 37 (some ((1 : Int32), v_length, v_top, v_at, v_wrong, v_isAsked, (upd v_now p2.toNatClampNeg p3), v_asked))) else (some ((0 : Int32), v_length, v_top, v_at, v_wrong, v_isAsked, v_now, v_asked))) else (if p1 = 116 then ((X11_areTwo v_people p2 p3).bind fun y59 => if y59 = 0 then (some ((0 : Int32), v_length, v_top, v_at, v_wrong, v_isAsked, v_now, v_asked)) else (gi ((28 : Int32) + p2) 37 (gi ((28 : Int32) + p2) 37 (some ((1 : Int32), v_length, v_top, v_at, v_wrong, v_isAsked, (upd v_now ((28 : Int32) + p2).toNatClampNeg ((v_now ((28 : Int32) + p2).toNatClampNeg) ^^^ ((1 : Int32) <<< (p3 &&& 31)))), v_asked))))) else ((X11_refusesLeave v_people v_now p2).bind fun y132 => if 0 ≤ y132 then ((X11_goAway v_people 37 v_now p2).bind fun y146 => some ((1 : Int32), v_length, v_top, v_at, v_wrong, v_isAsked, y146, v_asked)) else (some ((0 : Int32), v_length, v_top, v_at, v_wrong, v_isAsked, v_now, v_asked)))))))))
set_option maxHeartbeats 4000000 in
set_option maxRecDepth 100000 in
theorem c_X11_act {l : Launch} {D : va_G} {cy : Nat → ClassId} (q0 : Nat) (q1 : Nat) (q2 : Nat) (q3 : Nat) (u0_2 : Value) (u0_3 : Value) (u0_4 : Value) (u0_5 : Value) (u0_6 : Value) (u0_7 : Value) (u0_12 : Value) (u0_14 : Value) (u0_18 : Value) (u0_19 : Value) (u0_20 : Value) (u0_21 : Value) (u0_22 : Value) (u0_23 : Value) (u0_24 : Value) (u0_25 : Value) (u0_26 : Value) (u0_27 : Value) (u0_28 : Value) (u0_29 : Value) (u0_30 : Value) (u0_31 : Value) (u0_32 : Value) (u0_33 : Value) (u0_34 : Value) (u0_35 : Value) (u0_36 : Value) (u0_37 : Value) (u0_38 : Value) (u0_39 : Value) (u0_40 : Value) (v_people : Int32) (v_length : Int32) (v_top : Int32) (v_at : Int32) (v_wrong : Int32) (v_ruleSize : Int32) (v_isAsked : Int32) (v_now : Nat → Int32) (v_rule : Nat → Int32) (v_asked : Nat → Int32) (p1 : Int32) (p2 : Int32) (p3 : Int32) (r : Int32 × Int32 × Int32 × Int32 × Int32 × Int32 × (Nat → Int32) × (Nat → Int32)) (h : X11_act v_people v_length v_top v_at v_wrong v_ruleSize v_isAsked v_now v_rule v_asked p1 p2 p3 = some r) : Ct l yX11_act cX11_act 4 (some .boolean) 111 2650 D cy [.ref q0, .int p1, .int p2, .int p3] [oX11 q0 (.ref q1) (.int v_people) u0_2 u0_3 u0_4 u0_5 u0_6 u0_7 (.int v_length) (.int v_top) (.int v_at) (.int v_wrong) u0_12 (.ref q2) u0_14 (.int v_ruleSize) (.int v_isAsked) (.ref q3) u0_18 u0_19 u0_20 u0_21 u0_22 u0_23 u0_24 u0_25 u0_26 u0_27 u0_28 u0_29 u0_30 u0_31 u0_32 u0_33 u0_34 u0_35 u0_36 u0_37 u0_38 u0_39 u0_40, aI cy q1 37 v_now, aB cy q2 40 v_rule, aI cy q3 7 v_asked] (fun _ => [oX11 q0 (.ref q1) (.int v_people) u0_2 u0_3 u0_4 u0_5 u0_6 (.ref q2) (.int r.2.1) (.int r.2.2.1) (.int r.2.2.2.1) (.int r.2.2.2.2.1) u0_12 (.ref q2) u0_14 (.int v_ruleSize) (.int r.2.2.2.2.2.1) (.ref q3) u0_18 u0_19 u0_20 u0_21 u0_22 u0_23 u0_24 u0_25 u0_26 u0_27 u0_28 u0_29 u0_30 u0_31 u0_32 u0_33 u0_34 u0_35 u0_36 u0_37 u0_38 u0_39 u0_40, aI cy q1 37 r.2.2.2.2.2.2.1, aB cy q2 40 v_rule, aI cy q3 7 r.2.2.2.2.2.2.2]) (some (.int r.1)) := by
  refine Ct.mk kX11_act (by decide +kernel) (Nat.le_of_ble_eq_true rfl) ?_
  intro p e s m below meth c A ls args R Q hRf hRl hQ E H locs hS hl
  have hx := E.x
  have hb := E.b
  have hl : lv_has ls 4 [(0, .ref q0), (1, .int p1), (2, .int p2), (3, .int p3)] := hl
  unfold X11_act at h
  refine lv_iload_n hx hb dX11_act_0 rfl (lv_at hl 1 rfl) ?_
  rcases Decidable.em (p1 = 110) with c1 | c1
  · have h := it_pos c1 h
    refine lv_tableIn (off := 43) (tgt := 44) hx hb dX11_act_1 (by rw [c1]; decide) (by rw [c1]; decide) (by rw [c1]; rfl) (by decide) ?_
    refine lv_aload_n hx hb dX11_act_44 rfl (lv_at hl 0 rfl) ?_
    refine lv_aload_n hx hb dX11_act_45 rfl (lv_at hl 0 rfl) ?_
    refine r_get E frX11_9 hS 0 rfl rfl dX11_act_46 ?_
    refine lv_iload_n hx hb dX11_act_49 rfl (lv_at hl 2 rfl) ?_
    obtain ⟨y50, e2, h⟩ := bd_some h
    refine ct_V (ws' := fun _ => [oX11 q0 (.ref q1) (.int v_people) u0_2 u0_3 u0_4 u0_5 u0_6 (.ref q2) (.int y50.2.1) (.int y50.2.2.1) (.int y50.2.2.2.1) (.int y50.2.2.2.2.1) u0_12 (.ref q2) u0_14 (.int v_ruleSize) (.int y50.2.2.2.2.2.1) (.ref q3) u0_18 u0_19 u0_20 u0_21 u0_22 u0_23 u0_24 u0_25 u0_26 u0_27 u0_28 u0_29 u0_30 u0_31 u0_32 u0_33 u0_34 u0_35 u0_36 u0_37 u0_38 u0_39 u0_40, aI cy q1 37 y50.2.2.2.2.2.2.2, aB cy q2 40 v_rule, aI cy q3 7 y50.2.2.2.2.2.2.1]) (st' := [.int y50.1]) (rest := []) E hS vlX11_253 (c_X11_goMornings (l := l) (D := D) (cy := cy) (q0 := q0) (q1 := q2) (q2 := q3) (q3 := q1) (u0_0 := .ref q1) (u0_2 := u0_2) (u0_3 := u0_3) (u0_4 := u0_4) (u0_5 := u0_5) (u0_6 := u0_6) (u0_7 := u0_7) (u0_12 := u0_12) (u0_14 := u0_14) (u0_18 := u0_18) (u0_19 := u0_19) (u0_20 := u0_20) (u0_21 := u0_21) (u0_22 := u0_22) (u0_23 := u0_23) (u0_24 := u0_24) (u0_25 := u0_25) (u0_26 := u0_26) (u0_27 := u0_27) (u0_28 := u0_28) (u0_29 := u0_29) (u0_30 := u0_30) (u0_31 := u0_31) (u0_32 := u0_32) (u0_33 := u0_33) (u0_34 := u0_34) (u0_35 := u0_35) (u0_36 := u0_36) (u0_37 := u0_37) (u0_38 := u0_38) (u0_39 := u0_39) (u0_40 := u0_40) (v_people := v_people) (v_length := v_length) (v_top := v_top) (v_at := v_at) (v_wrong := v_wrong) (v_ruleSize := v_ruleSize) (v_isAsked := v_isAsked) (v_rule := v_rule) (v_asked := v_asked) (nw1_ := 37) (w1_ := v_now) (p2 := p2) (r := y50) e2) [0, 2, 3, 1] rfl rfl (fun _ => rfl) (fun _ => rfl) rfl rfl rfl rfl (Nat.le_of_ble_eq_true rfl) hl.1 (by rw [hRf]; exact Nat.le_of_ble_eq_true rfl) (by rw [hRl]; exact Nat.le_of_ble_eq_true rfl) ⟨Nat.zero_le _, Nat.zero_le _⟩ dX11_act_50 rfl (fun H locs _ hS => ?_)
    refine lv_pop hx hb dX11_act_53 rfl ?_
    refine lv_iconst (v := 1) hx hb dX11_act_54 (by decide) ?_
    obtain rfl := Option.some.inj h
    exact rt_n E rfl hQ (.null) hS dX11_act_55
  · have h := it_neg c1 h
    rcases Decidable.em (p1 = 111) with c3 | c3
    · have h := it_pos c3 h
      refine lv_tableIn (off := 129) (tgt := 130) hx hb dX11_act_1 (by rw [c3]; decide) (by rw [c3]; decide) (by rw [c3]; rfl) (by decide) ?_
      refine lv_aload_n hx hb dX11_act_130 rfl (lv_at hl 0 rfl) ?_
      refine lv_iload_n hx hb dX11_act_131 rfl (lv_at hl 2 rfl) ?_
      obtain ⟨y132, e4, h⟩ := bd_some h
      refine ct_V (ws' := fun _ => [oX11 q0 (.ref q1) (.int v_people) u0_2 u0_3 u0_4 u0_5 u0_6 u0_7 (.int v_length) (.int v_top) (.int v_at) (.int v_wrong) u0_12 (.ref q2) u0_14 (.int v_ruleSize) (.int v_isAsked) (.ref q3) u0_18 u0_19 u0_20 u0_21 u0_22 u0_23 u0_24 u0_25 u0_26 u0_27 u0_28 u0_29 u0_30 u0_31 u0_32 u0_33 u0_34 u0_35 u0_36 u0_37 u0_38 u0_39 u0_40, aI cy q1 37 v_now, aB cy q2 40 v_rule, aI cy q3 7 v_asked]) (st' := [.int y132]) (rest := []) E hS vlX11_272 (c_X11_refusesLeave (l := l) (D := D) (cy := cy) (q0 := q0) (q1 := q1) (u0_2 := u0_2) (u0_3 := u0_3) (u0_4 := u0_4) (u0_5 := u0_5) (u0_6 := u0_6) (u0_7 := u0_7) (u0_8 := .int v_length) (u0_9 := .int v_top) (u0_10 := .int v_at) (u0_11 := .int v_wrong) (u0_12 := u0_12) (u0_13 := .ref q2) (u0_14 := u0_14) (u0_15 := .int v_ruleSize) (u0_16 := .int v_isAsked) (u0_17 := .ref q3) (u0_18 := u0_18) (u0_19 := u0_19) (u0_20 := u0_20) (u0_21 := u0_21) (u0_22 := u0_22) (u0_23 := u0_23) (u0_24 := u0_24) (u0_25 := u0_25) (u0_26 := u0_26) (u0_27 := u0_27) (u0_28 := u0_28) (u0_29 := u0_29) (u0_30 := u0_30) (u0_31 := u0_31) (u0_32 := u0_32) (u0_33 := u0_33) (u0_34 := u0_34) (u0_35 := u0_35) (u0_36 := u0_36) (u0_37 := u0_37) (u0_38 := u0_38) (u0_39 := u0_39) (u0_40 := u0_40) (v_people := v_people) (v_now := v_now) (p1 := p2) (r := y132) e4) [0, 1] rfl rfl (fun _ => rfl) (fun _ => rfl) rfl rfl rfl rfl (Nat.le_of_ble_eq_true rfl) hl.1 (by rw [hRf]; exact Nat.le_of_ble_eq_true rfl) (by rw [hRl]; exact Nat.le_of_ble_eq_true rfl) ⟨Nat.zero_le _, Nat.zero_le _⟩ dX11_act_132 rfl (fun H locs _ hS => ?_)
      refine lv_if_ge (tgt := 140) hx hb dX11_act_135 (by decide) (fun c5 => ?_) (fun c5 => ?_)
      · have h := it_pos c5 h
        refine lv_aload_n hx hb dX11_act_140 rfl (lv_at hl 0 rfl) ?_
        refine lv_aload_n hx hb dX11_act_141 rfl (lv_at hl 0 rfl) ?_
        refine r_get E frX11_9 hS 0 rfl rfl dX11_act_142 ?_
        refine lv_iload_n hx hb dX11_act_145 rfl (lv_at hl 2 rfl) ?_
        obtain ⟨y146, e6, h⟩ := bd_some h
        refine ct_V (ws' := fun _ => [oX11 q0 (.ref q1) (.int v_people) u0_2 u0_3 u0_4 u0_5 u0_6 u0_7 (.int v_length) (.int v_top) (.int v_at) (.int v_wrong) u0_12 (.ref q2) u0_14 (.int v_ruleSize) (.int v_isAsked) (.ref q3) u0_18 u0_19 u0_20 u0_21 u0_22 u0_23 u0_24 u0_25 u0_26 u0_27 u0_28 u0_29 u0_30 u0_31 u0_32 u0_33 u0_34 u0_35 u0_36 u0_37 u0_38 u0_39 u0_40, aI cy q1 37 y146, aB cy q2 40 v_rule, aI cy q3 7 v_asked]) (st' := []) (rest := []) E hS vlX11_275 (c_X11_goAway (l := l) (D := D) (cy := cy) (q0 := q0) (q1 := q1) (u0_0 := .ref q1) (u0_2 := u0_2) (u0_3 := u0_3) (u0_4 := u0_4) (u0_5 := u0_5) (u0_6 := u0_6) (u0_7 := u0_7) (u0_8 := .int v_length) (u0_9 := .int v_top) (u0_10 := .int v_at) (u0_11 := .int v_wrong) (u0_12 := u0_12) (u0_13 := .ref q2) (u0_14 := u0_14) (u0_15 := .int v_ruleSize) (u0_16 := .int v_isAsked) (u0_17 := .ref q3) (u0_18 := u0_18) (u0_19 := u0_19) (u0_20 := u0_20) (u0_21 := u0_21) (u0_22 := u0_22) (u0_23 := u0_23) (u0_24 := u0_24) (u0_25 := u0_25) (u0_26 := u0_26) (u0_27 := u0_27) (u0_28 := u0_28) (u0_29 := u0_29) (u0_30 := u0_30) (u0_31 := u0_31) (u0_32 := u0_32) (u0_33 := u0_33) (u0_34 := u0_34) (u0_35 := u0_35) (u0_36 := u0_36) (u0_37 := u0_37) (u0_38 := u0_38) (u0_39 := u0_39) (u0_40 := u0_40) (v_people := v_people) (nw1_ := 37) (w1_ := v_now) (p2 := p2) (r := y146) e6) [0, 1] rfl rfl (fun _ => rfl) (fun _ => rfl) rfl rfl rfl rfl (Nat.le_of_ble_eq_true rfl) hl.1 (by rw [hRf]; exact Nat.le_of_ble_eq_true rfl) (by rw [hRl]; exact Nat.le_of_ble_eq_true rfl) ⟨Nat.zero_le _, Nat.zero_le _⟩ dX11_act_146 rfl (fun H locs _ hS => ?_)
        refine lv_iconst (v := 1) hx hb dX11_act_149 (by decide) ?_
        obtain rfl := Option.some.inj h
        exact rt_n E rfl hQ (.null) hS dX11_act_150
      · have h := it_neg c5 h
        refine lv_iconst (v := 0) hx hb dX11_act_138 (by decide) ?_
        obtain rfl := Option.some.inj h
        exact rt_n E rfl hQ (.null) hS dX11_act_139
    · have h := it_neg c3 h
      rcases Decidable.em (p1 = 112) with c7 | c7
      · have h := it_pos c7 h
        refine lv_tableIn (off := 83) (tgt := 84) hx hb dX11_act_1 (by rw [c7]; decide) (by rw [c7]; decide) (by rw [c7]; rfl) (by decide) ?_
        refine lv_aload_n hx hb dX11_act_84 rfl (lv_at hl 0 rfl) ?_
        refine lv_iload_n hx hb dX11_act_85 rfl (lv_at hl 2 rfl) ?_
        refine lv_iload_n hx hb dX11_act_86 rfl (lv_at hl 3 rfl) ?_
        obtain ⟨y87, e8, h⟩ := bd_some h
        refine ct_V (ws' := fun _ => [oX11 q0 (.ref q1) (.int v_people) u0_2 u0_3 u0_4 u0_5 u0_6 u0_7 (.int v_length) (.int v_top) (.int v_at) (.int v_wrong) u0_12 (.ref q2) u0_14 (.int v_ruleSize) (.int v_isAsked) (.ref q3) u0_18 u0_19 u0_20 u0_21 u0_22 u0_23 u0_24 u0_25 u0_26 u0_27 u0_28 u0_29 u0_30 u0_31 u0_32 u0_33 u0_34 u0_35 u0_36 u0_37 u0_38 u0_39 u0_40, aI cy q1 37 v_now, aB cy q2 40 v_rule, aI cy q3 7 v_asked]) (st' := [.int y87]) (rest := []) E hS vlX11_263 (c_X11_refusesPills (l := l) (D := D) (cy := cy) (q0 := q0) (q1 := q1) (u0_2 := u0_2) (u0_3 := u0_3) (u0_4 := u0_4) (u0_5 := u0_5) (u0_6 := u0_6) (u0_7 := u0_7) (u0_8 := .int v_length) (u0_9 := .int v_top) (u0_10 := .int v_at) (u0_11 := .int v_wrong) (u0_12 := u0_12) (u0_13 := .ref q2) (u0_14 := u0_14) (u0_15 := .int v_ruleSize) (u0_16 := .int v_isAsked) (u0_17 := .ref q3) (u0_18 := u0_18) (u0_19 := u0_19) (u0_20 := u0_20) (u0_21 := u0_21) (u0_22 := u0_22) (u0_23 := u0_23) (u0_24 := u0_24) (u0_25 := u0_25) (u0_26 := u0_26) (u0_27 := u0_27) (u0_28 := u0_28) (u0_29 := u0_29) (u0_30 := u0_30) (u0_31 := u0_31) (u0_32 := u0_32) (u0_33 := u0_33) (u0_34 := u0_34) (u0_35 := u0_35) (u0_36 := u0_36) (u0_37 := u0_37) (u0_38 := u0_38) (u0_39 := u0_39) (u0_40 := u0_40) (v_people := v_people) (v_now := v_now) (p1 := p2) (p2 := p3) (r := y87) e8) [0, 1] rfl rfl (fun _ => rfl) (fun _ => rfl) rfl rfl rfl rfl (Nat.le_of_ble_eq_true rfl) hl.1 (by rw [hRf]; exact Nat.le_of_ble_eq_true rfl) (by rw [hRl]; exact Nat.le_of_ble_eq_true rfl) ⟨Nat.zero_le _, Nat.zero_le _⟩ dX11_act_87 rfl (fun H locs _ hS => ?_)
        refine lv_if_ge (tgt := 95) hx hb dX11_act_90 (by decide) (fun c9 => ?_) (fun c9 => ?_)
        · have h := it_pos c9 h
          refine lv_aload_n hx hb dX11_act_95 rfl (lv_at hl 0 rfl) ?_
          refine r_get E frX11_9 hS 0 rfl rfl dX11_act_96 ?_
          refine lv_bipush (v := 7) hx hb dX11_act_99 (by decide) ?_
          refine lv_iload_n hx hb dX11_act_101 rfl (lv_at hl 2 rfl) ?_
          refine lv_iadd hx hb dX11_act_102 ?_
          refine lv_dup2_11 hx hb dX11_act_103 rfl rfl ?_
          obtain ⟨g10, h⟩ := gi_some h
          refine r_iald E hS 1 rfl g10 dX11_act_104 ?_
          refine lv_iload_n hx hb dX11_act_105 rfl (lv_at hl 3 rfl) ?_
          refine lv_iadd hx hb dX11_act_106 ?_
          obtain ⟨g11, h⟩ := gi_some h
          refine r_iast (ws' := [oX11 q0 (.ref q1) (.int v_people) u0_2 u0_3 u0_4 u0_5 u0_6 u0_7 (.int v_length) (.int v_top) (.int v_at) (.int v_wrong) u0_12 (.ref q2) u0_14 (.int v_ruleSize) (.int v_isAsked) (.ref q3) u0_18 u0_19 u0_20 u0_21 u0_22 u0_23 u0_24 u0_25 u0_26 u0_27 u0_28 u0_29 u0_30 u0_31 u0_32 u0_33 u0_34 u0_35 u0_36 u0_37 u0_38 u0_39 u0_40, aI cy q1 37 (upd v_now ((7 : Int32) + p2).toNatClampNeg ((v_now ((7 : Int32) + p2).toNatClampNeg) + p3)), aB cy q2 40 v_rule, aI cy q3 7 v_asked]) E hS 1 rfl g11 rfl dX11_act_107 (fun H locs hS => ?_)
          refine lv_iconst (v := 1) hx hb dX11_act_108 (by decide) ?_
          obtain rfl := Option.some.inj h
          exact rt_n E rfl hQ (.null) hS dX11_act_109
        · have h := it_neg c9 h
          refine lv_iconst (v := 0) hx hb dX11_act_93 (by decide) ?_
          obtain rfl := Option.some.inj h
          exact rt_n E rfl hQ (.null) hS dX11_act_94
      · have h := it_neg c7 h
        rcases Decidable.em (p1 = 113) with c12 | c12
        · have h := it_pos c12 h
          refine lv_tableIn (off := 129) (tgt := 130) hx hb dX11_act_1 (by rw [c12]; decide) (by rw [c12]; decide) (by rw [c12]; rfl) (by decide) ?_
          refine lv_aload_n hx hb dX11_act_130 rfl (lv_at hl 0 rfl) ?_
          refine lv_iload_n hx hb dX11_act_131 rfl (lv_at hl 2 rfl) ?_
          obtain ⟨y132, e13, h⟩ := bd_some h
          refine ct_V (ws' := fun _ => [oX11 q0 (.ref q1) (.int v_people) u0_2 u0_3 u0_4 u0_5 u0_6 u0_7 (.int v_length) (.int v_top) (.int v_at) (.int v_wrong) u0_12 (.ref q2) u0_14 (.int v_ruleSize) (.int v_isAsked) (.ref q3) u0_18 u0_19 u0_20 u0_21 u0_22 u0_23 u0_24 u0_25 u0_26 u0_27 u0_28 u0_29 u0_30 u0_31 u0_32 u0_33 u0_34 u0_35 u0_36 u0_37 u0_38 u0_39 u0_40, aI cy q1 37 v_now, aB cy q2 40 v_rule, aI cy q3 7 v_asked]) (st' := [.int y132]) (rest := []) E hS vlX11_272 (c_X11_refusesLeave (l := l) (D := D) (cy := cy) (q0 := q0) (q1 := q1) (u0_2 := u0_2) (u0_3 := u0_3) (u0_4 := u0_4) (u0_5 := u0_5) (u0_6 := u0_6) (u0_7 := u0_7) (u0_8 := .int v_length) (u0_9 := .int v_top) (u0_10 := .int v_at) (u0_11 := .int v_wrong) (u0_12 := u0_12) (u0_13 := .ref q2) (u0_14 := u0_14) (u0_15 := .int v_ruleSize) (u0_16 := .int v_isAsked) (u0_17 := .ref q3) (u0_18 := u0_18) (u0_19 := u0_19) (u0_20 := u0_20) (u0_21 := u0_21) (u0_22 := u0_22) (u0_23 := u0_23) (u0_24 := u0_24) (u0_25 := u0_25) (u0_26 := u0_26) (u0_27 := u0_27) (u0_28 := u0_28) (u0_29 := u0_29) (u0_30 := u0_30) (u0_31 := u0_31) (u0_32 := u0_32) (u0_33 := u0_33) (u0_34 := u0_34) (u0_35 := u0_35) (u0_36 := u0_36) (u0_37 := u0_37) (u0_38 := u0_38) (u0_39 := u0_39) (u0_40 := u0_40) (v_people := v_people) (v_now := v_now) (p1 := p2) (r := y132) e13) [0, 1] rfl rfl (fun _ => rfl) (fun _ => rfl) rfl rfl rfl rfl (Nat.le_of_ble_eq_true rfl) hl.1 (by rw [hRf]; exact Nat.le_of_ble_eq_true rfl) (by rw [hRl]; exact Nat.le_of_ble_eq_true rfl) ⟨Nat.zero_le _, Nat.zero_le _⟩ dX11_act_132 rfl (fun H locs _ hS => ?_)
          refine lv_if_ge (tgt := 140) hx hb dX11_act_135 (by decide) (fun c14 => ?_) (fun c14 => ?_)
          · have h := it_pos c14 h
            refine lv_aload_n hx hb dX11_act_140 rfl (lv_at hl 0 rfl) ?_
            refine lv_aload_n hx hb dX11_act_141 rfl (lv_at hl 0 rfl) ?_
            refine r_get E frX11_9 hS 0 rfl rfl dX11_act_142 ?_
            refine lv_iload_n hx hb dX11_act_145 rfl (lv_at hl 2 rfl) ?_
            obtain ⟨y146, e15, h⟩ := bd_some h
            refine ct_V (ws' := fun _ => [oX11 q0 (.ref q1) (.int v_people) u0_2 u0_3 u0_4 u0_5 u0_6 u0_7 (.int v_length) (.int v_top) (.int v_at) (.int v_wrong) u0_12 (.ref q2) u0_14 (.int v_ruleSize) (.int v_isAsked) (.ref q3) u0_18 u0_19 u0_20 u0_21 u0_22 u0_23 u0_24 u0_25 u0_26 u0_27 u0_28 u0_29 u0_30 u0_31 u0_32 u0_33 u0_34 u0_35 u0_36 u0_37 u0_38 u0_39 u0_40, aI cy q1 37 y146, aB cy q2 40 v_rule, aI cy q3 7 v_asked]) (st' := []) (rest := []) E hS vlX11_275 (c_X11_goAway (l := l) (D := D) (cy := cy) (q0 := q0) (q1 := q1) (u0_0 := .ref q1) (u0_2 := u0_2) (u0_3 := u0_3) (u0_4 := u0_4) (u0_5 := u0_5) (u0_6 := u0_6) (u0_7 := u0_7) (u0_8 := .int v_length) (u0_9 := .int v_top) (u0_10 := .int v_at) (u0_11 := .int v_wrong) (u0_12 := u0_12) (u0_13 := .ref q2) (u0_14 := u0_14) (u0_15 := .int v_ruleSize) (u0_16 := .int v_isAsked) (u0_17 := .ref q3) (u0_18 := u0_18) (u0_19 := u0_19) (u0_20 := u0_20) (u0_21 := u0_21) (u0_22 := u0_22) (u0_23 := u0_23) (u0_24 := u0_24) (u0_25 := u0_25) (u0_26 := u0_26) (u0_27 := u0_27) (u0_28 := u0_28) (u0_29 := u0_29) (u0_30 := u0_30) (u0_31 := u0_31) (u0_32 := u0_32) (u0_33 := u0_33) (u0_34 := u0_34) (u0_35 := u0_35) (u0_36 := u0_36) (u0_37 := u0_37) (u0_38 := u0_38) (u0_39 := u0_39) (u0_40 := u0_40) (v_people := v_people) (nw1_ := 37) (w1_ := v_now) (p2 := p2) (r := y146) e15) [0, 1] rfl rfl (fun _ => rfl) (fun _ => rfl) rfl rfl rfl rfl (Nat.le_of_ble_eq_true rfl) hl.1 (by rw [hRf]; exact Nat.le_of_ble_eq_true rfl) (by rw [hRl]; exact Nat.le_of_ble_eq_true rfl) ⟨Nat.zero_le _, Nat.zero_le _⟩ dX11_act_146 rfl (fun H locs _ hS => ?_)
            refine lv_iconst (v := 1) hx hb dX11_act_149 (by decide) ?_
            obtain rfl := Option.some.inj h
            exact rt_n E rfl hQ (.null) hS dX11_act_150
          · have h := it_neg c14 h
            refine lv_iconst (v := 0) hx hb dX11_act_138 (by decide) ?_
            obtain rfl := Option.some.inj h
            exact rt_n E rfl hQ (.null) hS dX11_act_139
        · have h := it_neg c12 h
          rcases Decidable.em (p1 = 114) with c16 | c16
          · have h := it_pos c16 h
            refine lv_tableIn (off := 129) (tgt := 130) hx hb dX11_act_1 (by rw [c16]; decide) (by rw [c16]; decide) (by rw [c16]; rfl) (by decide) ?_
            refine lv_aload_n hx hb dX11_act_130 rfl (lv_at hl 0 rfl) ?_
            refine lv_iload_n hx hb dX11_act_131 rfl (lv_at hl 2 rfl) ?_
            obtain ⟨y132, e17, h⟩ := bd_some h
            refine ct_V (ws' := fun _ => [oX11 q0 (.ref q1) (.int v_people) u0_2 u0_3 u0_4 u0_5 u0_6 u0_7 (.int v_length) (.int v_top) (.int v_at) (.int v_wrong) u0_12 (.ref q2) u0_14 (.int v_ruleSize) (.int v_isAsked) (.ref q3) u0_18 u0_19 u0_20 u0_21 u0_22 u0_23 u0_24 u0_25 u0_26 u0_27 u0_28 u0_29 u0_30 u0_31 u0_32 u0_33 u0_34 u0_35 u0_36 u0_37 u0_38 u0_39 u0_40, aI cy q1 37 v_now, aB cy q2 40 v_rule, aI cy q3 7 v_asked]) (st' := [.int y132]) (rest := []) E hS vlX11_272 (c_X11_refusesLeave (l := l) (D := D) (cy := cy) (q0 := q0) (q1 := q1) (u0_2 := u0_2) (u0_3 := u0_3) (u0_4 := u0_4) (u0_5 := u0_5) (u0_6 := u0_6) (u0_7 := u0_7) (u0_8 := .int v_length) (u0_9 := .int v_top) (u0_10 := .int v_at) (u0_11 := .int v_wrong) (u0_12 := u0_12) (u0_13 := .ref q2) (u0_14 := u0_14) (u0_15 := .int v_ruleSize) (u0_16 := .int v_isAsked) (u0_17 := .ref q3) (u0_18 := u0_18) (u0_19 := u0_19) (u0_20 := u0_20) (u0_21 := u0_21) (u0_22 := u0_22) (u0_23 := u0_23) (u0_24 := u0_24) (u0_25 := u0_25) (u0_26 := u0_26) (u0_27 := u0_27) (u0_28 := u0_28) (u0_29 := u0_29) (u0_30 := u0_30) (u0_31 := u0_31) (u0_32 := u0_32) (u0_33 := u0_33) (u0_34 := u0_34) (u0_35 := u0_35) (u0_36 := u0_36) (u0_37 := u0_37) (u0_38 := u0_38) (u0_39 := u0_39) (u0_40 := u0_40) (v_people := v_people) (v_now := v_now) (p1 := p2) (r := y132) e17) [0, 1] rfl rfl (fun _ => rfl) (fun _ => rfl) rfl rfl rfl rfl (Nat.le_of_ble_eq_true rfl) hl.1 (by rw [hRf]; exact Nat.le_of_ble_eq_true rfl) (by rw [hRl]; exact Nat.le_of_ble_eq_true rfl) ⟨Nat.zero_le _, Nat.zero_le _⟩ dX11_act_132 rfl (fun H locs _ hS => ?_)
            refine lv_if_ge (tgt := 140) hx hb dX11_act_135 (by decide) (fun c18 => ?_) (fun c18 => ?_)
            · have h := it_pos c18 h
              refine lv_aload_n hx hb dX11_act_140 rfl (lv_at hl 0 rfl) ?_
              refine lv_aload_n hx hb dX11_act_141 rfl (lv_at hl 0 rfl) ?_
              refine r_get E frX11_9 hS 0 rfl rfl dX11_act_142 ?_
              refine lv_iload_n hx hb dX11_act_145 rfl (lv_at hl 2 rfl) ?_
              obtain ⟨y146, e19, h⟩ := bd_some h
              refine ct_V (ws' := fun _ => [oX11 q0 (.ref q1) (.int v_people) u0_2 u0_3 u0_4 u0_5 u0_6 u0_7 (.int v_length) (.int v_top) (.int v_at) (.int v_wrong) u0_12 (.ref q2) u0_14 (.int v_ruleSize) (.int v_isAsked) (.ref q3) u0_18 u0_19 u0_20 u0_21 u0_22 u0_23 u0_24 u0_25 u0_26 u0_27 u0_28 u0_29 u0_30 u0_31 u0_32 u0_33 u0_34 u0_35 u0_36 u0_37 u0_38 u0_39 u0_40, aI cy q1 37 y146, aB cy q2 40 v_rule, aI cy q3 7 v_asked]) (st' := []) (rest := []) E hS vlX11_275 (c_X11_goAway (l := l) (D := D) (cy := cy) (q0 := q0) (q1 := q1) (u0_0 := .ref q1) (u0_2 := u0_2) (u0_3 := u0_3) (u0_4 := u0_4) (u0_5 := u0_5) (u0_6 := u0_6) (u0_7 := u0_7) (u0_8 := .int v_length) (u0_9 := .int v_top) (u0_10 := .int v_at) (u0_11 := .int v_wrong) (u0_12 := u0_12) (u0_13 := .ref q2) (u0_14 := u0_14) (u0_15 := .int v_ruleSize) (u0_16 := .int v_isAsked) (u0_17 := .ref q3) (u0_18 := u0_18) (u0_19 := u0_19) (u0_20 := u0_20) (u0_21 := u0_21) (u0_22 := u0_22) (u0_23 := u0_23) (u0_24 := u0_24) (u0_25 := u0_25) (u0_26 := u0_26) (u0_27 := u0_27) (u0_28 := u0_28) (u0_29 := u0_29) (u0_30 := u0_30) (u0_31 := u0_31) (u0_32 := u0_32) (u0_33 := u0_33) (u0_34 := u0_34) (u0_35 := u0_35) (u0_36 := u0_36) (u0_37 := u0_37) (u0_38 := u0_38) (u0_39 := u0_39) (u0_40 := u0_40) (v_people := v_people) (nw1_ := 37) (w1_ := v_now) (p2 := p2) (r := y146) e19) [0, 1] rfl rfl (fun _ => rfl) (fun _ => rfl) rfl rfl rfl rfl (Nat.le_of_ble_eq_true rfl) hl.1 (by rw [hRf]; exact Nat.le_of_ble_eq_true rfl) (by rw [hRl]; exact Nat.le_of_ble_eq_true rfl) ⟨Nat.zero_le _, Nat.zero_le _⟩ dX11_act_146 rfl (fun H locs _ hS => ?_)
              refine lv_iconst (v := 1) hx hb dX11_act_149 (by decide) ?_
              obtain rfl := Option.some.inj h
              exact rt_n E rfl hQ (.null) hS dX11_act_150
            · have h := it_neg c18 h
              refine lv_iconst (v := 0) hx hb dX11_act_138 (by decide) ?_
              obtain rfl := Option.some.inj h
              exact rt_n E rfl hQ (.null) hS dX11_act_139
          · have h := it_neg c16 h
            rcases Decidable.em (p1 = 115) with c20 | c20
            · have h := it_pos c20 h
              refine lv_tableIn (off := 109) (tgt := 110) hx hb dX11_act_1 (by rw [c20]; decide) (by rw [c20]; decide) (by rw [c20]; rfl) (by decide) ?_
              refine lv_aload_n hx hb dX11_act_110 rfl (lv_at hl 0 rfl) ?_
              refine lv_iload_n hx hb dX11_act_111 rfl (lv_at hl 2 rfl) ?_
              refine lv_iload_n hx hb dX11_act_112 rfl (lv_at hl 3 rfl) ?_
              obtain ⟨y113, e21, h⟩ := bd_some h
              refine ct_V (ws' := fun _ => [oX11 q0 (.ref q1) (.int v_people) u0_2 u0_3 u0_4 u0_5 u0_6 u0_7 (.int v_length) (.int v_top) (.int v_at) (.int v_wrong) u0_12 (.ref q2) u0_14 (.int v_ruleSize) (.int v_isAsked) (.ref q3) u0_18 u0_19 u0_20 u0_21 u0_22 u0_23 u0_24 u0_25 u0_26 u0_27 u0_28 u0_29 u0_30 u0_31 u0_32 u0_33 u0_34 u0_35 u0_36 u0_37 u0_38 u0_39 u0_40, aI cy q1 37 v_now, aB cy q2 40 v_rule, aI cy q3 7 v_asked]) (st' := [.int y113]) (rest := []) E hS vlX11_266 (c_X11_refusesSkill (l := l) (D := D) (cy := cy) (q0 := q0) (q1 := q1) (u0_2 := u0_2) (u0_3 := u0_3) (u0_4 := u0_4) (u0_5 := u0_5) (u0_6 := u0_6) (u0_7 := u0_7) (u0_8 := .int v_length) (u0_9 := .int v_top) (u0_10 := .int v_at) (u0_11 := .int v_wrong) (u0_12 := u0_12) (u0_13 := .ref q2) (u0_14 := u0_14) (u0_15 := .int v_ruleSize) (u0_16 := .int v_isAsked) (u0_17 := .ref q3) (u0_18 := u0_18) (u0_19 := u0_19) (u0_20 := u0_20) (u0_21 := u0_21) (u0_22 := u0_22) (u0_23 := u0_23) (u0_24 := u0_24) (u0_25 := u0_25) (u0_26 := u0_26) (u0_27 := u0_27) (u0_28 := u0_28) (u0_29 := u0_29) (u0_30 := u0_30) (u0_31 := u0_31) (u0_32 := u0_32) (u0_33 := u0_33) (u0_34 := u0_34) (u0_35 := u0_35) (u0_36 := u0_36) (u0_37 := u0_37) (u0_38 := u0_38) (u0_39 := u0_39) (u0_40 := u0_40) (v_people := v_people) (v_now := v_now) (p1 := p2) (p2 := p3) (r := y113) e21) [0, 1] rfl rfl (fun _ => rfl) (fun _ => rfl) rfl rfl rfl rfl (Nat.le_of_ble_eq_true rfl) hl.1 (by rw [hRf]; exact Nat.le_of_ble_eq_true rfl) (by rw [hRl]; exact Nat.le_of_ble_eq_true rfl) ⟨Nat.zero_le _, Nat.zero_le _⟩ dX11_act_113 rfl (fun H locs _ hS => ?_)
              refine lv_if_ge (tgt := 121) hx hb dX11_act_116 (by decide) (fun c22 => ?_) (fun c22 => ?_)
              · have h := it_pos c22 h
                refine lv_aload_n hx hb dX11_act_121 rfl (lv_at hl 0 rfl) ?_
                refine r_get E frX11_9 hS 0 rfl rfl dX11_act_122 ?_
                refine lv_iload_n hx hb dX11_act_125 rfl (lv_at hl 2 rfl) ?_
                refine lv_iload_n hx hb dX11_act_126 rfl (lv_at hl 3 rfl) ?_
                obtain ⟨g23, h⟩ := gi_some h
                refine r_iast (ws' := [oX11 q0 (.ref q1) (.int v_people) u0_2 u0_3 u0_4 u0_5 u0_6 u0_7 (.int v_length) (.int v_top) (.int v_at) (.int v_wrong) u0_12 (.ref q2) u0_14 (.int v_ruleSize) (.int v_isAsked) (.ref q3) u0_18 u0_19 u0_20 u0_21 u0_22 u0_23 u0_24 u0_25 u0_26 u0_27 u0_28 u0_29 u0_30 u0_31 u0_32 u0_33 u0_34 u0_35 u0_36 u0_37 u0_38 u0_39 u0_40, aI cy q1 37 (upd v_now p2.toNatClampNeg p3), aB cy q2 40 v_rule, aI cy q3 7 v_asked]) E hS 1 rfl g23 rfl dX11_act_127 (fun H locs hS => ?_)
                refine lv_iconst (v := 1) hx hb dX11_act_128 (by decide) ?_
                obtain rfl := Option.some.inj h
                exact rt_n E rfl hQ (.null) hS dX11_act_129
              · have h := it_neg c22 h
                refine lv_iconst (v := 0) hx hb dX11_act_119 (by decide) ?_
                obtain rfl := Option.some.inj h
                exact rt_n E rfl hQ (.null) hS dX11_act_120
            · have h := it_neg c20 h
              rcases Decidable.em (p1 = 116) with c24 | c24
              · have h := it_pos c24 h
                refine lv_tableIn (off := 55) (tgt := 56) hx hb dX11_act_1 (by rw [c24]; decide) (by rw [c24]; decide) (by rw [c24]; rfl) (by decide) ?_
                refine lv_aload_n hx hb dX11_act_56 rfl (lv_at hl 0 rfl) ?_
                refine lv_iload_n hx hb dX11_act_57 rfl (lv_at hl 2 rfl) ?_
                refine lv_iload_n hx hb dX11_act_58 rfl (lv_at hl 3 rfl) ?_
                obtain ⟨y59, e25, h⟩ := bd_some h
                refine ct_V (ws' := fun _ => [oX11 q0 (.ref q1) (.int v_people) u0_2 u0_3 u0_4 u0_5 u0_6 u0_7 (.int v_length) (.int v_top) (.int v_at) (.int v_wrong) u0_12 (.ref q2) u0_14 (.int v_ruleSize) (.int v_isAsked) (.ref q3) u0_18 u0_19 u0_20 u0_21 u0_22 u0_23 u0_24 u0_25 u0_26 u0_27 u0_28 u0_29 u0_30 u0_31 u0_32 u0_33 u0_34 u0_35 u0_36 u0_37 u0_38 u0_39 u0_40, aI cy q1 37 v_now, aB cy q2 40 v_rule, aI cy q3 7 v_asked]) (st' := [.int y59]) (rest := []) E hS vlX11_260 (c_X11_areTwo (l := l) (D := D) (cy := cy) (q0 := q0) (u0_0 := .ref q1) (u0_2 := u0_2) (u0_3 := u0_3) (u0_4 := u0_4) (u0_5 := u0_5) (u0_6 := u0_6) (u0_7 := u0_7) (u0_8 := .int v_length) (u0_9 := .int v_top) (u0_10 := .int v_at) (u0_11 := .int v_wrong) (u0_12 := u0_12) (u0_13 := .ref q2) (u0_14 := u0_14) (u0_15 := .int v_ruleSize) (u0_16 := .int v_isAsked) (u0_17 := .ref q3) (u0_18 := u0_18) (u0_19 := u0_19) (u0_20 := u0_20) (u0_21 := u0_21) (u0_22 := u0_22) (u0_23 := u0_23) (u0_24 := u0_24) (u0_25 := u0_25) (u0_26 := u0_26) (u0_27 := u0_27) (u0_28 := u0_28) (u0_29 := u0_29) (u0_30 := u0_30) (u0_31 := u0_31) (u0_32 := u0_32) (u0_33 := u0_33) (u0_34 := u0_34) (u0_35 := u0_35) (u0_36 := u0_36) (u0_37 := u0_37) (u0_38 := u0_38) (u0_39 := u0_39) (u0_40 := u0_40) (v_people := v_people) (p1 := p2) (p2 := p3) (r := y59) e25) [0] rfl rfl (fun _ => rfl) (fun _ => rfl) rfl rfl rfl rfl (Nat.le_of_ble_eq_true rfl) hl.1 (by rw [hRf]; exact Nat.le_of_ble_eq_true rfl) (by rw [hRl]; exact Nat.le_of_ble_eq_true rfl) ⟨Nat.zero_le _, Nat.zero_le _⟩ dX11_act_59 rfl (fun H locs _ hS => ?_)
                refine lv_if_ne (tgt := 67) hx hb dX11_act_62 (by decide) (fun c26 => ?_) (fun c26 => ?_)
                · have h := it_neg c26 h
                  refine lv_aload_n hx hb dX11_act_67 rfl (lv_at hl 0 rfl) ?_
                  refine r_get E frX11_9 hS 0 rfl rfl dX11_act_68 ?_
                  refine lv_bipush (v := 28) hx hb dX11_act_71 (by decide) ?_
                  refine lv_iload_n hx hb dX11_act_73 rfl (lv_at hl 2 rfl) ?_
                  refine lv_iadd hx hb dX11_act_74 ?_
                  refine lv_dup2_11 hx hb dX11_act_75 rfl rfl ?_
                  obtain ⟨g27, h⟩ := gi_some h
                  refine r_iald E hS 1 rfl g27 dX11_act_76 ?_
                  refine lv_iconst (v := 1) hx hb dX11_act_77 (by decide) ?_
                  refine lv_iload_n hx hb dX11_act_78 rfl (lv_at hl 3 rfl) ?_
                  refine lv_ishl hx hb dX11_act_79 ?_
                  refine lv_ixor hx hb dX11_act_80 ?_
                  obtain ⟨g28, h⟩ := gi_some h
                  refine r_iast (ws' := [oX11 q0 (.ref q1) (.int v_people) u0_2 u0_3 u0_4 u0_5 u0_6 u0_7 (.int v_length) (.int v_top) (.int v_at) (.int v_wrong) u0_12 (.ref q2) u0_14 (.int v_ruleSize) (.int v_isAsked) (.ref q3) u0_18 u0_19 u0_20 u0_21 u0_22 u0_23 u0_24 u0_25 u0_26 u0_27 u0_28 u0_29 u0_30 u0_31 u0_32 u0_33 u0_34 u0_35 u0_36 u0_37 u0_38 u0_39 u0_40, aI cy q1 37 (upd v_now ((28 : Int32) + p2).toNatClampNeg ((v_now ((28 : Int32) + p2).toNatClampNeg) ^^^ ((1 : Int32) <<< (p3 &&& 31)))), aB cy q2 40 v_rule, aI cy q3 7 v_asked]) E hS 1 rfl g28 rfl dX11_act_81 (fun H locs hS => ?_)
                  refine lv_iconst (v := 1) hx hb dX11_act_82 (by decide) ?_
                  obtain rfl := Option.some.inj h
                  exact rt_n E rfl hQ (.null) hS dX11_act_83
                · have h := it_pos c26 h
                  refine lv_iconst (v := 0) hx hb dX11_act_65 (by decide) ?_
                  obtain rfl := Option.some.inj h
                  exact rt_n E rfl hQ (.null) hS dX11_act_66
              · have h := it_neg c24 h
                have ht : p1.toInt < 110 ∨ (116 : Int) < p1.toInt := by
                  refine tb_neg (fun k h1 h2 => ?_)
                  have hh : k = 110 ∨ k = 111 ∨ k = 112 ∨ k = 113 ∨ k = 114 ∨ k = 115 ∨ k = 116 := by omega
                  rcases hh with rfl | rfl | rfl | rfl | rfl | rfl | rfl
                  · exact c1
                  · exact c3
                  · exact c7
                  · exact c12
                  · exact c16
                  · exact c20
                  · exact c24
                refine lv_tableOut (tgt := 130) hx hb dX11_act_1 ht (by decide) ?_
                refine lv_aload_n hx hb dX11_act_130 rfl (lv_at hl 0 rfl) ?_
                refine lv_iload_n hx hb dX11_act_131 rfl (lv_at hl 2 rfl) ?_
                obtain ⟨y132, e29, h⟩ := bd_some h
                refine ct_V (ws' := fun _ => [oX11 q0 (.ref q1) (.int v_people) u0_2 u0_3 u0_4 u0_5 u0_6 u0_7 (.int v_length) (.int v_top) (.int v_at) (.int v_wrong) u0_12 (.ref q2) u0_14 (.int v_ruleSize) (.int v_isAsked) (.ref q3) u0_18 u0_19 u0_20 u0_21 u0_22 u0_23 u0_24 u0_25 u0_26 u0_27 u0_28 u0_29 u0_30 u0_31 u0_32 u0_33 u0_34 u0_35 u0_36 u0_37 u0_38 u0_39 u0_40, aI cy q1 37 v_now, aB cy q2 40 v_rule, aI cy q3 7 v_asked]) (st' := [.int y132]) (rest := []) E hS vlX11_272 (c_X11_refusesLeave (l := l) (D := D) (cy := cy) (q0 := q0) (q1 := q1) (u0_2 := u0_2) (u0_3 := u0_3) (u0_4 := u0_4) (u0_5 := u0_5) (u0_6 := u0_6) (u0_7 := u0_7) (u0_8 := .int v_length) (u0_9 := .int v_top) (u0_10 := .int v_at) (u0_11 := .int v_wrong) (u0_12 := u0_12) (u0_13 := .ref q2) (u0_14 := u0_14) (u0_15 := .int v_ruleSize) (u0_16 := .int v_isAsked) (u0_17 := .ref q3) (u0_18 := u0_18) (u0_19 := u0_19) (u0_20 := u0_20) (u0_21 := u0_21) (u0_22 := u0_22) (u0_23 := u0_23) (u0_24 := u0_24) (u0_25 := u0_25) (u0_26 := u0_26) (u0_27 := u0_27) (u0_28 := u0_28) (u0_29 := u0_29) (u0_30 := u0_30) (u0_31 := u0_31) (u0_32 := u0_32) (u0_33 := u0_33) (u0_34 := u0_34) (u0_35 := u0_35) (u0_36 := u0_36) (u0_37 := u0_37) (u0_38 := u0_38) (u0_39 := u0_39) (u0_40 := u0_40) (v_people := v_people) (v_now := v_now) (p1 := p2) (r := y132) e29) [0, 1] rfl rfl (fun _ => rfl) (fun _ => rfl) rfl rfl rfl rfl (Nat.le_of_ble_eq_true rfl) hl.1 (by rw [hRf]; exact Nat.le_of_ble_eq_true rfl) (by rw [hRl]; exact Nat.le_of_ble_eq_true rfl) ⟨Nat.zero_le _, Nat.zero_le _⟩ dX11_act_132 rfl (fun H locs _ hS => ?_)
                refine lv_if_ge (tgt := 140) hx hb dX11_act_135 (by decide) (fun c30 => ?_) (fun c30 => ?_)
                · have h := it_pos c30 h
                  refine lv_aload_n hx hb dX11_act_140 rfl (lv_at hl 0 rfl) ?_
                  refine lv_aload_n hx hb dX11_act_141 rfl (lv_at hl 0 rfl) ?_
                  refine r_get E frX11_9 hS 0 rfl rfl dX11_act_142 ?_
                  refine lv_iload_n hx hb dX11_act_145 rfl (lv_at hl 2 rfl) ?_
                  obtain ⟨y146, e31, h⟩ := bd_some h
                  refine ct_V (ws' := fun _ => [oX11 q0 (.ref q1) (.int v_people) u0_2 u0_3 u0_4 u0_5 u0_6 u0_7 (.int v_length) (.int v_top) (.int v_at) (.int v_wrong) u0_12 (.ref q2) u0_14 (.int v_ruleSize) (.int v_isAsked) (.ref q3) u0_18 u0_19 u0_20 u0_21 u0_22 u0_23 u0_24 u0_25 u0_26 u0_27 u0_28 u0_29 u0_30 u0_31 u0_32 u0_33 u0_34 u0_35 u0_36 u0_37 u0_38 u0_39 u0_40, aI cy q1 37 y146, aB cy q2 40 v_rule, aI cy q3 7 v_asked]) (st' := []) (rest := []) E hS vlX11_275 (c_X11_goAway (l := l) (D := D) (cy := cy) (q0 := q0) (q1 := q1) (u0_0 := .ref q1) (u0_2 := u0_2) (u0_3 := u0_3) (u0_4 := u0_4) (u0_5 := u0_5) (u0_6 := u0_6) (u0_7 := u0_7) (u0_8 := .int v_length) (u0_9 := .int v_top) (u0_10 := .int v_at) (u0_11 := .int v_wrong) (u0_12 := u0_12) (u0_13 := .ref q2) (u0_14 := u0_14) (u0_15 := .int v_ruleSize) (u0_16 := .int v_isAsked) (u0_17 := .ref q3) (u0_18 := u0_18) (u0_19 := u0_19) (u0_20 := u0_20) (u0_21 := u0_21) (u0_22 := u0_22) (u0_23 := u0_23) (u0_24 := u0_24) (u0_25 := u0_25) (u0_26 := u0_26) (u0_27 := u0_27) (u0_28 := u0_28) (u0_29 := u0_29) (u0_30 := u0_30) (u0_31 := u0_31) (u0_32 := u0_32) (u0_33 := u0_33) (u0_34 := u0_34) (u0_35 := u0_35) (u0_36 := u0_36) (u0_37 := u0_37) (u0_38 := u0_38) (u0_39 := u0_39) (u0_40 := u0_40) (v_people := v_people) (nw1_ := 37) (w1_ := v_now) (p2 := p2) (r := y146) e31) [0, 1] rfl rfl (fun _ => rfl) (fun _ => rfl) rfl rfl rfl rfl (Nat.le_of_ble_eq_true rfl) hl.1 (by rw [hRf]; exact Nat.le_of_ble_eq_true rfl) (by rw [hRl]; exact Nat.le_of_ble_eq_true rfl) ⟨Nat.zero_le _, Nat.zero_le _⟩ dX11_act_146 rfl (fun H locs _ hS => ?_)
                  refine lv_iconst (v := 1) hx hb dX11_act_149 (by decide) ?_
                  obtain rfl := Option.some.inj h
                  exact rt_n E rfl hQ (.null) hS dX11_act_150
                · have h := it_neg c30 h
                  refine lv_iconst (v := 0) hx hb dX11_act_138 (by decide) ?_
                  obtain rfl := Option.some.inj h
                  exact rt_n E rfl hQ (.null) hS dX11_act_139
def X11_week_s13 (v_typed : Int32) (v_text : Nat → Int32) (x13 : Int32 × Int32 × Int32 × (Nat → Int32)) : Option ((Int32 × Int32 × Int32 × (Nat → Int32)) ⊕ (Int32 × Int32 × Int32 × (Nat → Int32))) :=
  if (X11_fine x13.2.2.1) = 0 then (some (.inr (x13.1, x13.2.1, x13.2.2.1, x13.2.2.2))) else (if (X11_beginText v_typed (60 : Int32)).2.1 ≤ x13.2.1 then (some (.inr (x13.1, x13.2.1, x13.2.2.1, x13.2.2.2))) else ((X11_readAct ((X11_beginText v_typed (60 : Int32)).2.1) ((X11_beginText v_typed (60 : Int32)).2.2.1) x13.2.1 x13.2.2.1 80 v_text x13.2.2.2 ((3 : Int32) * x13.1)).bind fun y35 => some (.inl ((x13.1 + (1 : Int32)), y35.1, y35.2.1, y35.2.2))))
def X11_week_s72 (v_people : Int32) (v_ruleSize : Int32) (v_rule : Nat → Int32) (y13 : Int32 × Int32 × Int32 × (Nat → Int32)) (x72 : Int32 × Int32 × Int32 × Int32 × Int32 × Int32 × (Nat → Int32) × (Nat → Int32)) : Option ((Int32 × Int32 × Int32 × Int32 × Int32 × Int32 × (Nat → Int32) × (Nat → Int32)) ⊕ (Int32 × Int32 × Int32 × Int32 × Int32 × Int32 × (Nat → Int32) × (Nat → Int32))) :=
  if y13.1 ≤ x72.1 then (some (.inr (x72.1, x72.2.1, x72.2.2.1, x72.2.2.2.1, x72.2.2.2.2.1, x72.2.2.2.2.2.1, x72.2.2.2.2.2.2.1, x72.2.2.2.2.2.2.2))) else (gi ((3 : Int32) * x72.1) 240 (gi (((3 : Int32) * x72.1) + (1 : Int32)) 240 (gi (((3 : Int32) * x72.1) + (2 : Int32)) 240 ((X11_act v_people x72.2.1 x72.2.2.1 x72.2.2.2.1 x72.2.2.2.2.1 v_ruleSize x72.2.2.2.2.2.1 x72.2.2.2.2.2.2.1 v_rule x72.2.2.2.2.2.2.2 (y13.2.2.2 ((3 : Int32) * x72.1).toNatClampNeg) (y13.2.2.2 (((3 : Int32) * x72.1) + (1 : Int32)).toNatClampNeg) (y13.2.2.2 (((3 : Int32) * x72.1) + (2 : Int32)).toNatClampNeg)).bind fun y106 => if y106.1 = 0 then (some (.inr (x72.1, y106.2.1, y106.2.2.1, y106.2.2.2.1, y106.2.2.2.2.1, y106.2.2.2.2.2.1, y106.2.2.2.2.2.2.1, y106.2.2.2.2.2.2.2))) else (some (.inl ((x72.1 + (1 : Int32)), y106.2.1, y106.2.2.1, y106.2.2.2.1, y106.2.2.2.2.1, y106.2.2.2.2.2.1, y106.2.2.2.2.2.2.1, y106.2.2.2.2.2.2.2)))))))
def X11_week_k130 (v_typed : Int32) (v_row : Nat → Int64) (y13 : Int32 × Int32 × Int32 × (Nat → Int32)) (y67 : (Nat → Int32)) (y72 : Int32 × Int32 × Int32 × Int32 × Int32 × Int32 × (Nat → Int32) × (Nat → Int32)) (j130_v_undoMany : Int32) (j130_v_undos : Nat → Int32) : Option (Int32 × Int32 × Int32 × Int32 × Int32 × Int32 × Int32 × Int32 × Int32 × Int32 × (Nat → Int32) × (Nat → Int64) × (Nat → Int32) × (Nat → Int32) × (Nat → Int32) × (Nat → Int32)) :=
  (X11_tell (0 : Int32) v_row (if y13.1 ≤ y72.1 then (0 : Int64) else (1 : Int64))).bind fun y146 => gi (36 : Int32) 37 ((X11_tell y146.1 y146.2 ((y72.2.2.2.2.2.2.1 (36 : Int32).toNatClampNeg).toInt64)).bind fun y158 => some (y72.1, (X11_beginText v_typed (60 : Int32)).1, y158.1, (0 : Int32), y72.2.1, y72.2.2.1, y72.2.2.2.1, y72.2.2.2.2.1, y72.2.2.2.2.2.1, j130_v_undoMany, y72.2.2.2.2.2.2.1, y158.2, y72.2.2.2.2.2.2.2, j130_v_undos, y67, y13.2.2.2))
def X11_week (v_people : Int32) (v_typed : Int32) (v_rowMany : Int32) (v_ruleSize : Int32) (v_isAsked : Int32) (v_undoMany : Int32) (v_now : Nat → Int32) (v_text : Nat → Int32) (v_row : Nat → Int64) (v_rule : Nat → Int32) (v_asked : Nat → Int32) (v_undos : Nat → Int32) (v_aside : Nat → Int32) (v_acts : Nat → Int32) : Option (Int32 × Int32 × Int32 × Int32 × Int32 × Int32 × Int32 × Int32 × Int32 × Int32 × (Nat → Int32) × (Nat → Int64) × (Nat → Int32) × (Nat → Int32) × (Nat → Int32) × (Nat → Int32)) :=
  (lp (fun x13 => X11_week_s13 v_typed v_text x13) 1000 ((0 : Int32), (X11_beginText v_typed (60 : Int32)).2.2.2.1, (X11_beginText v_typed (60 : Int32)).2.2.2.2, v_acts)).bind fun y13 => (X11_wasRight ((X11_beginText v_typed (60 : Int32)).2.1) y13.2.1 y13.2.2.1).bind fun y45 => if y45.1 = 0 then (some (((-1 : Int32) - y45.2), (X11_beginText v_typed (60 : Int32)).1, v_rowMany, (0 : Int32), (X11_beginText v_typed (60 : Int32)).2.1, (X11_beginText v_typed (60 : Int32)).2.2.1, y13.2.1, y45.2, v_isAsked, v_undoMany, v_now, v_row, v_asked, v_undos, v_aside, y13.2.2.2)) else ((X11_lay 37 v_now 37 v_aside (0 : Int32)).bind fun y67 => (lp (fun x72 => X11_week_s72 v_people v_ruleSize v_rule y13 x72) 1000 ((0 : Int32), (X11_beginText v_typed (60 : Int32)).2.1, (X11_beginText v_typed (60 : Int32)).2.2.1, y13.2.1, y45.2, v_isAsked, v_now, v_asked)).bind fun y72 => if y72.1 ≤ 0 then (X11_week_k130 v_typed v_row y13 y67 y72 v_undoMany v_undos) else ((X11_remember v_undoMany v_undos 37 y67).bind fun y127 => X11_week_k130 v_typed v_row y13 y67 y72 y127.1 y127.2))
set_option maxHeartbeats 4000000 in
set_option maxRecDepth 100000 in
theorem c_X11_week {l : Launch} {D : va_G} {cy : Nat → ClassId} (q0 : Nat) (q1 : Nat) (q2 : Nat) (q3 : Nat) (q4 : Nat) (q5 : Nat) (q6 : Nat) (q7 : Nat) (q8 : Nat) (u0_7 : Value) (u0_12 : Value) (u0_14 : Value) (u0_21 : Value) (u0_23 : Value) (u0_24 : Value) (u0_25 : Value) (u0_26 : Value) (u0_27 : Value) (u0_28 : Value) (u0_29 : Value) (u0_30 : Value) (u0_31 : Value) (u0_32 : Value) (u0_33 : Value) (u0_34 : Value) (u0_35 : Value) (u0_36 : Value) (u0_37 : Value) (u0_38 : Value) (u0_39 : Value) (u0_40 : Value) (v_people : Int32) (v_typed : Int32) (v_rowMany : Int32) (v_thrown : Int32) (v_length : Int32) (v_top : Int32) (v_at : Int32) (v_wrong : Int32) (v_ruleSize : Int32) (v_isAsked : Int32) (v_undoMany : Int32) (v_now : Nat → Int32) (v_text : Nat → Int32) (v_row : Nat → Int64) (v_rule : Nat → Int32) (v_asked : Nat → Int32) (v_undos : Nat → Int32) (v_aside : Nat → Int32) (v_acts : Nat → Int32) (r : Int32 × Int32 × Int32 × Int32 × Int32 × Int32 × Int32 × Int32 × Int32 × Int32 × (Nat → Int32) × (Nat → Int64) × (Nat → Int32) × (Nat → Int32) × (Nat → Int32) × (Nat → Int32)) (h : X11_week v_people v_typed v_rowMany v_ruleSize v_isAsked v_undoMany v_now v_text v_row v_rule v_asked v_undos v_aside v_acts = some r) : Ct l yX11_week cX11_week 3 (some .int) 112 2673 D cy [.ref q0] [oX11 q0 (.ref q1) (.int v_people) (.ref q2) (.int v_typed) (.ref q3) (.int v_rowMany) (.int v_thrown) u0_7 (.int v_length) (.int v_top) (.int v_at) (.int v_wrong) u0_12 (.ref q4) u0_14 (.int v_ruleSize) (.int v_isAsked) (.ref q5) (.ref q6) (.int v_undoMany) (.ref q7) u0_21 (.ref q8) u0_23 u0_24 u0_25 u0_26 u0_27 u0_28 u0_29 u0_30 u0_31 u0_32 u0_33 u0_34 u0_35 u0_36 u0_37 u0_38 u0_39 u0_40, aI cy q1 37 v_now, aB cy q2 80 v_text, aJ cy q3 16 v_row, aB cy q4 40 v_rule, aI cy q5 7 v_asked, aI cy q6 444 v_undos, aI cy q7 37 v_aside, aI cy q8 240 v_acts] (fun rv => [oX11 q0 (.ref q1) (.int v_people) (.ref q2) (.int r.2.1) (.ref q3) (.int r.2.2.1) (.int r.2.2.2.1) rv (.int r.2.2.2.2.1) (.int r.2.2.2.2.2.1) (.int r.2.2.2.2.2.2.1) (.int r.2.2.2.2.2.2.2.1) u0_12 (.ref q4) u0_14 (.int v_ruleSize) (.int r.2.2.2.2.2.2.2.2.1) (.ref q5) (.ref q6) (.int r.2.2.2.2.2.2.2.2.2.1) (.ref q7) u0_21 (.ref q8) u0_23 u0_24 u0_25 u0_26 u0_27 u0_28 u0_29 u0_30 u0_31 u0_32 u0_33 u0_34 u0_35 u0_36 u0_37 u0_38 u0_39 u0_40, aI cy q1 37 r.2.2.2.2.2.2.2.2.2.2.1, aB cy q2 80 v_text, aJ cy q3 16 r.2.2.2.2.2.2.2.2.2.2.2.1, aB cy q4 40 v_rule, aI cy q5 7 r.2.2.2.2.2.2.2.2.2.2.2.2.1, aI cy q6 444 r.2.2.2.2.2.2.2.2.2.2.2.2.2.1, aI cy q7 37 r.2.2.2.2.2.2.2.2.2.2.2.2.2.2.1, aI cy q8 240 r.2.2.2.2.2.2.2.2.2.2.2.2.2.2.2]) (some (.int r.1)) := by
  refine Ct.mk kX11_week (by decide +kernel) (Nat.le_of_ble_eq_true rfl) ?_
  intro p e s m below meth c A ls args R Q hRf hRl hQ E H locs hS hl
  have hx := E.x
  have hb := E.b
  have hl : lv_has ls 3 [(0, .ref q0)] := hl
  unfold X11_week at h
  refine lv_aload_n hx hb dX11_week_0 rfl (lv_at hl 0 rfl) ?_
  refine lv_iconst (v := 0) hx hb dX11_week_1 (by decide) ?_
  refine r_put (ws' := [oX11 q0 (.ref q1) (.int v_people) (.ref q2) (.int v_typed) (.ref q3) (.int v_rowMany) (.int (0 : Int32)) u0_7 (.int v_length) (.int v_top) (.int v_at) (.int v_wrong) u0_12 (.ref q4) u0_14 (.int v_ruleSize) (.int v_isAsked) (.ref q5) (.ref q6) (.int v_undoMany) (.ref q7) u0_21 (.ref q8) u0_23 u0_24 u0_25 u0_26 u0_27 u0_28 u0_29 u0_30 u0_31 u0_32 u0_33 u0_34 u0_35 u0_36 u0_37 u0_38 u0_39 u0_40, aI cy q1 37 v_now, aB cy q2 80 v_text, aJ cy q3 16 v_row, aB cy q4 40 v_rule, aI cy q5 7 v_asked, aI cy q6 444 v_undos, aI cy q7 37 v_aside, aI cy q8 240 v_acts]) E frX11_85 hS 0 rfl (Nat.le_of_ble_eq_true rfl) rfl rfl rfl rfl dX11_week_2 (fun H locs hS => ?_)
  refine lv_aload_n hx hb dX11_week_5 rfl (lv_at hl 0 rfl) ?_
  refine lv_bipush (v := 60) hx hb dX11_week_6 (by decide) ?_
  refine ct_V (ws' := fun _ => [oX11 q0 (.ref q1) (.int v_people) (.ref q2) (.int ((X11_beginText v_typed (60 : Int32)).1)) (.ref q3) (.int v_rowMany) (.int (0 : Int32)) (.ref q2) (.int ((X11_beginText v_typed (60 : Int32)).2.1)) (.int ((X11_beginText v_typed (60 : Int32)).2.2.1)) (.int ((X11_beginText v_typed (60 : Int32)).2.2.2.1)) (.int ((X11_beginText v_typed (60 : Int32)).2.2.2.2)) u0_12 (.ref q4) u0_14 (.int v_ruleSize) (.int v_isAsked) (.ref q5) (.ref q6) (.int v_undoMany) (.ref q7) u0_21 (.ref q8) u0_23 u0_24 u0_25 u0_26 u0_27 u0_28 u0_29 u0_30 u0_31 u0_32 u0_33 u0_34 u0_35 u0_36 u0_37 u0_38 u0_39 u0_40, aI cy q1 37 v_now, aB cy q2 80 v_text, aJ cy q3 16 v_row, aB cy q4 40 v_rule, aI cy q5 7 v_asked, aI cy q6 444 v_undos, aI cy q7 37 v_aside, aI cy q8 240 v_acts]) (st' := []) (rest := []) E hS vlX11_151 (c_X11_beginText (l := l) (D := D) (cy := cy) (q0 := q0) (u0_0 := .ref q1) (u0_1 := .int v_people) (z0_2 := q2) (u0_4 := .ref q3) (u0_5 := .int v_rowMany) (u0_6 := .int (0 : Int32)) (u0_7 := u0_7) (u0_12 := u0_12) (u0_13 := .ref q4) (u0_14 := u0_14) (u0_15 := .int v_ruleSize) (u0_16 := .int v_isAsked) (u0_17 := .ref q5) (u0_18 := .ref q6) (u0_19 := .int v_undoMany) (u0_20 := .ref q7) (u0_21 := u0_21) (u0_22 := .ref q8) (u0_23 := u0_23) (u0_24 := u0_24) (u0_25 := u0_25) (u0_26 := u0_26) (u0_27 := u0_27) (u0_28 := u0_28) (u0_29 := u0_29) (u0_30 := u0_30) (u0_31 := u0_31) (u0_32 := u0_32) (u0_33 := u0_33) (u0_34 := u0_34) (u0_35 := u0_35) (u0_36 := u0_36) (u0_37 := u0_37) (u0_38 := u0_38) (u0_39 := u0_39) (u0_40 := u0_40) (v_typed := v_typed) (v_length := v_length) (v_top := v_top) (v_at := v_at) (v_wrong := v_wrong) (p1 := (60 : Int32)) (r := (X11_beginText v_typed (60 : Int32))) rfl) [0] rfl rfl (fun _ => rfl) (fun _ => rfl) rfl rfl rfl rfl (Nat.le_of_ble_eq_true rfl) hl.1 (by rw [hRf]; exact Nat.le_of_ble_eq_true rfl) (by rw [hRl]; exact Nat.le_of_ble_eq_true rfl) ⟨Nat.zero_le _, Nat.zero_le _⟩ dX11_week_8 rfl (fun H locs _ hS => ?_)
  refine lv_iconst (v := 0) hx hb dX11_week_11 (by decide) ?_
  refine lv_istore_n (lv' := [(1, .int (0 : Int32)), (0, .ref q0)]) hx hb dX11_week_12 rfl hl (by decide) rfl (fun ls hl => ?_)
  have hL13 : ∀ (n : Nat) (x13 : Int32 × Int32 × Int32 × (Nat → Int32)) (y13 : Int32 × Int32 × Int32 × (Nat → Int32)) (H : Heap) (locs : List Loc) (ls : Array Slot), lp (fun x13 => X11_week_s13 v_typed v_text x13) n x13 = some y13 → Sv D A s.heap [oX11 q0 (.ref q1) (.int v_people) (.ref q2) (.int ((X11_beginText v_typed (60 : Int32)).1)) (.ref q3) (.int v_rowMany) (.int (0 : Int32)) (.ref q2) (.int ((X11_beginText v_typed (60 : Int32)).2.1)) (.int ((X11_beginText v_typed (60 : Int32)).2.2.1)) (.int x13.2.1) (.int x13.2.2.1) u0_12 (.ref q4) u0_14 (.int v_ruleSize) (.int v_isAsked) (.ref q5) (.ref q6) (.int v_undoMany) (.ref q7) u0_21 (.ref q8) u0_23 u0_24 u0_25 u0_26 u0_27 u0_28 u0_29 u0_30 u0_31 u0_32 u0_33 u0_34 u0_35 u0_36 u0_37 u0_38 u0_39 u0_40, aI cy q1 37 v_now, aB cy q2 80 v_text, aJ cy q3 16 v_row, aB cy q4 40 v_rule, aI cy q5 7 v_asked, aI cy q6 444 v_undos, aI cy q7 37 v_aside, aI cy q8 240 x13.2.2.2] H locs → lv_has ls 3 [(0, .ref q0), (1, .int x13.1)] → (∀ (H : Heap) (locs : List Loc) (ls : Array Slot), Sv D A s.heap [oX11 q0 (.ref q1) (.int v_people) (.ref q2) (.int ((X11_beginText v_typed (60 : Int32)).1)) (.ref q3) (.int v_rowMany) (.int (0 : Int32)) (.ref q2) (.int ((X11_beginText v_typed (60 : Int32)).2.1)) (.int ((X11_beginText v_typed (60 : Int32)).2.2.1)) (.int y13.2.1) (.int y13.2.2.1) u0_12 (.ref q4) u0_14 (.int v_ruleSize) (.int v_isAsked) (.ref q5) (.ref q6) (.int v_undoMany) (.ref q7) u0_21 (.ref q8) u0_23 u0_24 u0_25 u0_26 u0_27 u0_28 u0_29 u0_30 u0_31 u0_32 u0_33 u0_34 u0_35 u0_36 u0_37 u0_38 u0_39 u0_40, aI cy q1 37 v_now, aB cy q2 80 v_text, aJ cy q3 16 v_row, aB cy q4 40 v_rule, aI cy q5 7 v_asked, aI cy q6 444 v_undos, aI cy q7 37 v_aside, aI cy q8 240 y13.2.2.2] H locs → lv_has ls 3 [(0, .ref q0), (1, .int y13.1)] → W p l e R s m args below meth c H locs 0 0 Q (F0 m 44 ls [])) → W p l e R s m args below meth c H locs 0 0 Q (F0 m 13 ls []) := by
    intro n
    induction n with
    | zero =>
      intro x13 y13 H locs ls h
      exact lp_zero h
    | succ n ih13 =>
      intro x13 y13 H locs ls h hS hl hk13_0
      obtain ⟨z13, h, hz13a, hz13b⟩ := lp_succ h
      have h : X11_week_s13 v_typed v_text x13 = some z13 := h
      unfold X11_week_s13 at h
      refine lv_aload_n hx hb dX11_week_13 rfl (lv_at hl 0 rfl) ?_
      refine ct_V (ws' := fun _ => [oX11 q0 (.ref q1) (.int v_people) (.ref q2) (.int ((X11_beginText v_typed (60 : Int32)).1)) (.ref q3) (.int v_rowMany) (.int (0 : Int32)) (.ref q2) (.int ((X11_beginText v_typed (60 : Int32)).2.1)) (.int ((X11_beginText v_typed (60 : Int32)).2.2.1)) (.int x13.2.1) (.int x13.2.2.1) u0_12 (.ref q4) u0_14 (.int v_ruleSize) (.int v_isAsked) (.ref q5) (.ref q6) (.int v_undoMany) (.ref q7) u0_21 (.ref q8) u0_23 u0_24 u0_25 u0_26 u0_27 u0_28 u0_29 u0_30 u0_31 u0_32 u0_33 u0_34 u0_35 u0_36 u0_37 u0_38 u0_39 u0_40, aI cy q1 37 v_now, aB cy q2 80 v_text, aJ cy q3 16 v_row, aB cy q4 40 v_rule, aI cy q5 7 v_asked, aI cy q6 444 v_undos, aI cy q7 37 v_aside, aI cy q8 240 x13.2.2.2]) (st' := [.int (X11_fine x13.2.2.1)]) (rest := []) E hS vlX11_125 (c_X11_fine (l := l) (D := D) (cy := cy) (q0 := q0) (u0_0 := .ref q1) (u0_1 := .int v_people) (u0_2 := .ref q2) (u0_3 := .int ((X11_beginText v_typed (60 : Int32)).1)) (u0_4 := .ref q3) (u0_5 := .int v_rowMany) (u0_6 := .int (0 : Int32)) (u0_7 := .ref q2) (u0_8 := .int ((X11_beginText v_typed (60 : Int32)).2.1)) (u0_9 := .int ((X11_beginText v_typed (60 : Int32)).2.2.1)) (u0_10 := .int x13.2.1) (u0_12 := u0_12) (u0_13 := .ref q4) (u0_14 := u0_14) (u0_15 := .int v_ruleSize) (u0_16 := .int v_isAsked) (u0_17 := .ref q5) (u0_18 := .ref q6) (u0_19 := .int v_undoMany) (u0_20 := .ref q7) (u0_21 := u0_21) (u0_22 := .ref q8) (u0_23 := u0_23) (u0_24 := u0_24) (u0_25 := u0_25) (u0_26 := u0_26) (u0_27 := u0_27) (u0_28 := u0_28) (u0_29 := u0_29) (u0_30 := u0_30) (u0_31 := u0_31) (u0_32 := u0_32) (u0_33 := u0_33) (u0_34 := u0_34) (u0_35 := u0_35) (u0_36 := u0_36) (u0_37 := u0_37) (u0_38 := u0_38) (u0_39 := u0_39) (u0_40 := u0_40) (v_wrong := x13.2.2.1) (r := (X11_fine x13.2.2.1)) rfl) [0] rfl rfl (fun _ => rfl) (fun _ => rfl) rfl rfl rfl rfl (Nat.le_of_ble_eq_true rfl) hl.1 (by rw [hRf]; exact Nat.le_of_ble_eq_true rfl) (by rw [hRl]; exact Nat.le_of_ble_eq_true rfl) ⟨Nat.zero_le _, Nat.zero_le _⟩ dX11_week_14 rfl (fun H locs _ hS => ?_)
      refine lv_if_eq (tgt := 44) hx hb dX11_week_17 (by decide) (fun c1 => ?_) (fun c1 => ?_)
      · have h := it_pos c1 h
        obtain rfl := hz13b _ (Option.some.inj h).symm
        exact hk13_0  H locs ls hS (lv_sub hl [0, 1] rfl)
      · have h := it_neg c1 h
        refine lv_aload_n hx hb dX11_week_20 rfl (lv_at hl 0 rfl) ?_
        refine r_get E frX11_115 hS 0 rfl rfl dX11_week_21 ?_
        refine lv_aload_n hx hb dX11_week_24 rfl (lv_at hl 0 rfl) ?_
        refine r_get E frX11_109 hS 0 rfl rfl dX11_week_25 ?_
        refine lv_icmp_ge (tgt := 44) hx hb dX11_week_28 (by decide) (fun c2 => ?_) (fun c2 => ?_)
        · have h := it_pos c2 h
          obtain rfl := hz13b _ (Option.some.inj h).symm
          exact hk13_0  H locs ls hS (lv_sub hl [0, 1] rfl)
        · have h := it_neg c2 h
          refine lv_aload_n hx hb dX11_week_31 rfl (lv_at hl 0 rfl) ?_
          refine lv_iconst (v := 3) hx hb dX11_week_32 (by decide) ?_
          refine lv_iload_n hx hb dX11_week_33 rfl (lv_at hl 1 rfl) ?_
          refine lv_imul hx hb dX11_week_34 ?_
          obtain ⟨y35, e3, h⟩ := bd_some h
          refine ct_V (ws' := fun _ => [oX11 q0 (.ref q1) (.int v_people) (.ref q2) (.int ((X11_beginText v_typed (60 : Int32)).1)) (.ref q3) (.int v_rowMany) (.int (0 : Int32)) (.ref q2) (.int ((X11_beginText v_typed (60 : Int32)).2.1)) (.int ((X11_beginText v_typed (60 : Int32)).2.2.1)) (.int y35.1) (.int y35.2.1) u0_12 (.ref q4) u0_14 (.int v_ruleSize) (.int v_isAsked) (.ref q5) (.ref q6) (.int v_undoMany) (.ref q7) u0_21 (.ref q8) u0_23 u0_24 u0_25 u0_26 u0_27 u0_28 u0_29 u0_30 u0_31 u0_32 u0_33 u0_34 u0_35 u0_36 u0_37 u0_38 u0_39 u0_40, aI cy q1 37 v_now, aB cy q2 80 v_text, aJ cy q3 16 v_row, aB cy q4 40 v_rule, aI cy q5 7 v_asked, aI cy q6 444 v_undos, aI cy q7 37 v_aside, aI cy q8 240 y35.2.2]) (st' := []) (rest := []) E hS vlX11_279 (c_X11_readAct (l := l) (D := D) (cy := cy) (q0 := q0) (q1 := q2) (q2 := q8) (u0_0 := .ref q1) (u0_1 := .int v_people) (u0_2 := .ref q2) (u0_3 := .int ((X11_beginText v_typed (60 : Int32)).1)) (u0_4 := .ref q3) (u0_5 := .int v_rowMany) (u0_6 := .int (0 : Int32)) (u0_12 := u0_12) (u0_13 := .ref q4) (u0_14 := u0_14) (u0_15 := .int v_ruleSize) (u0_16 := .int v_isAsked) (u0_17 := .ref q5) (u0_18 := .ref q6) (u0_19 := .int v_undoMany) (u0_20 := .ref q7) (u0_21 := u0_21) (u0_23 := u0_23) (u0_24 := u0_24) (u0_25 := u0_25) (u0_26 := u0_26) (u0_27 := u0_27) (u0_28 := u0_28) (u0_29 := u0_29) (u0_30 := u0_30) (u0_31 := u0_31) (u0_32 := u0_32) (u0_33 := u0_33) (u0_34 := u0_34) (u0_35 := u0_35) (u0_36 := u0_36) (u0_37 := u0_37) (u0_38 := u0_38) (u0_39 := u0_39) (u0_40 := u0_40) (v_length := (X11_beginText v_typed (60 : Int32)).2.1) (v_top := (X11_beginText v_typed (60 : Int32)).2.2.1) (v_at := x13.2.1) (v_wrong := x13.2.2.1) (nv_read := 80) (v_read := v_text) (v_acts := x13.2.2.2) (p1 := ((3 : Int32) * x13.1)) (r := y35) e3) [0, 2, 8] rfl rfl (fun _ => rfl) (fun _ => rfl) rfl rfl rfl rfl (Nat.le_of_ble_eq_true rfl) hl.1 (by rw [hRf]; exact Nat.le_of_ble_eq_true rfl) (by rw [hRl]; exact Nat.le_of_ble_eq_true rfl) ⟨Nat.zero_le _, Nat.zero_le _⟩ dX11_week_35 rfl (fun H locs _ hS => ?_)
          refine lv_iinc (v := (x13.1 + (1 : Int32))) (lv' := [(1, .int (x13.1 + (1 : Int32))), (0, .ref q0)]) hx hb dX11_week_38 hl (k := 1) rfl rfl (by decide) rfl (fun ls hl => ?_)
          refine lv_goto (tgt := 13) hx hb dX11_week_41 (by decide) ?_
          exact ih13 ((x13.1 + (1 : Int32)), y35.1, y35.2.1, y35.2.2) y13  H locs ls (hz13a _ (Option.some.inj h).symm) hS (lv_sub hl [1, 0] rfl) hk13_0
  obtain ⟨y13, e13, h⟩ := bd_some h
  refine hL13 1000 ((0 : Int32), (X11_beginText v_typed (60 : Int32)).2.2.2.1, (X11_beginText v_typed (60 : Int32)).2.2.2.2, v_acts) y13  H locs ls e13 hS (lv_sub hl [1, 0] rfl) (fun H locs ls hS hl => ?_)
  refine lv_aload_n hx hb dX11_week_44 rfl (lv_at hl 0 rfl) ?_
  obtain ⟨y45, e4, h⟩ := bd_some h
  refine ct_V (ws' := fun _ => [oX11 q0 (.ref q1) (.int v_people) (.ref q2) (.int ((X11_beginText v_typed (60 : Int32)).1)) (.ref q3) (.int v_rowMany) (.int (0 : Int32)) (.ref q2) (.int ((X11_beginText v_typed (60 : Int32)).2.1)) (.int ((X11_beginText v_typed (60 : Int32)).2.2.1)) (.int y13.2.1) (.int y45.2) u0_12 (.ref q4) u0_14 (.int v_ruleSize) (.int v_isAsked) (.ref q5) (.ref q6) (.int v_undoMany) (.ref q7) u0_21 (.ref q8) u0_23 u0_24 u0_25 u0_26 u0_27 u0_28 u0_29 u0_30 u0_31 u0_32 u0_33 u0_34 u0_35 u0_36 u0_37 u0_38 u0_39 u0_40, aI cy q1 37 v_now, aB cy q2 80 v_text, aJ cy q3 16 v_row, aB cy q4 40 v_rule, aI cy q5 7 v_asked, aI cy q6 444 v_undos, aI cy q7 37 v_aside, aI cy q8 240 y13.2.2.2]) (st' := [.int y45.1]) (rest := []) E hS vlX11_154 (c_X11_wasRight (l := l) (D := D) (cy := cy) (q0 := q0) (u0_0 := .ref q1) (u0_1 := .int v_people) (u0_2 := .ref q2) (u0_3 := .int ((X11_beginText v_typed (60 : Int32)).1)) (u0_4 := .ref q3) (u0_5 := .int v_rowMany) (u0_6 := .int (0 : Int32)) (u0_7 := .ref q2) (u0_9 := .int ((X11_beginText v_typed (60 : Int32)).2.2.1)) (u0_12 := u0_12) (u0_13 := .ref q4) (u0_14 := u0_14) (u0_15 := .int v_ruleSize) (u0_16 := .int v_isAsked) (u0_17 := .ref q5) (u0_18 := .ref q6) (u0_19 := .int v_undoMany) (u0_20 := .ref q7) (u0_21 := u0_21) (u0_22 := .ref q8) (u0_23 := u0_23) (u0_24 := u0_24) (u0_25 := u0_25) (u0_26 := u0_26) (u0_27 := u0_27) (u0_28 := u0_28) (u0_29 := u0_29) (u0_30 := u0_30) (u0_31 := u0_31) (u0_32 := u0_32) (u0_33 := u0_33) (u0_34 := u0_34) (u0_35 := u0_35) (u0_36 := u0_36) (u0_37 := u0_37) (u0_38 := u0_38) (u0_39 := u0_39) (u0_40 := u0_40) (v_length := (X11_beginText v_typed (60 : Int32)).2.1) (v_at := y13.2.1) (v_wrong := y13.2.2.1) (r := y45) e4) [0] rfl rfl (fun _ => rfl) (fun _ => rfl) rfl rfl rfl rfl (Nat.le_of_ble_eq_true rfl) hl.1 (by rw [hRf]; exact Nat.le_of_ble_eq_true rfl) (by rw [hRl]; exact Nat.le_of_ble_eq_true rfl) ⟨Nat.zero_le _, Nat.zero_le _⟩ dX11_week_45 rfl (fun H locs _ hS => ?_)
  refine lv_if_ne (tgt := 58) hx hb dX11_week_48 (by decide) (fun c5 => ?_) (fun c5 => ?_)
  · have h := it_neg c5 h
    refine lv_aload_n hx hb dX11_week_58 rfl (lv_at hl 0 rfl) ?_
    refine r_get E frX11_9 hS 0 rfl rfl dX11_week_59 ?_
    refine lv_aload_n hx hb dX11_week_62 rfl (lv_at hl 0 rfl) ?_
    refine r_get E frX11_36 hS 0 rfl rfl dX11_week_63 ?_
    refine lv_iconst (v := 0) hx hb dX11_week_66 (by decide) ?_
    obtain ⟨y67, e6, h⟩ := bd_some h
    refine ct_S (ws' := fun _ => [oX11 q0 (.ref q1) (.int v_people) (.ref q2) (.int ((X11_beginText v_typed (60 : Int32)).1)) (.ref q3) (.int v_rowMany) (.int (0 : Int32)) (.ref q2) (.int ((X11_beginText v_typed (60 : Int32)).2.1)) (.int ((X11_beginText v_typed (60 : Int32)).2.2.1)) (.int y13.2.1) (.int y45.2) u0_12 (.ref q4) u0_14 (.int v_ruleSize) (.int v_isAsked) (.ref q5) (.ref q6) (.int v_undoMany) (.ref q7) u0_21 (.ref q8) u0_23 u0_24 u0_25 u0_26 u0_27 u0_28 u0_29 u0_30 u0_31 u0_32 u0_33 u0_34 u0_35 u0_36 u0_37 u0_38 u0_39 u0_40, aI cy q1 37 v_now, aB cy q2 80 v_text, aJ cy q3 16 v_row, aB cy q4 40 v_rule, aI cy q5 7 v_asked, aI cy q6 444 v_undos, aI cy q7 37 y67, aI cy q8 240 y13.2.2.2]) (st' := []) (rest := []) E hS slX11_235 (c_X11_lay (l := l) (D := D) (cy := cy) (q0 := q1) (q1 := q7) (nw1_ := 37) (w1_ := v_now) (nw2_ := 37) (w2_ := v_aside) (p2 := (0 : Int32)) (r := y67) e6) [1, 7] rfl rfl (fun _ => rfl) (fun _ => rfl) rfl rfl (Nat.le_of_ble_eq_true rfl) hl.1 (by rw [hRf]; exact Nat.le_of_ble_eq_true rfl) (by rw [hRl]; exact Nat.le_of_ble_eq_true rfl) ⟨Nat.zero_le _, Nat.zero_le _⟩ dX11_week_67 rfl (fun H locs _ hS => ?_)
    refine lv_iconst (v := 0) hx hb dX11_week_70 (by decide) ?_
    refine lv_istore_n (lv' := [(2, .int (0 : Int32)), (0, .ref q0), (1, .int y13.1)]) hx hb dX11_week_71 rfl hl (by decide) rfl (fun ls hl => ?_)
    have hL72 : ∀ (n : Nat) (x72 : Int32 × Int32 × Int32 × Int32 × Int32 × Int32 × (Nat → Int32) × (Nat → Int32)) (y72 : Int32 × Int32 × Int32 × Int32 × Int32 × Int32 × (Nat → Int32) × (Nat → Int32)) (rv72_0 : Value) (H : Heap) (locs : List Loc) (ls : Array Slot), lp (fun x72 => X11_week_s72 v_people v_ruleSize v_rule y13 x72) n x72 = some y72 → Sv D A s.heap [oX11 q0 (.ref q1) (.int v_people) (.ref q2) (.int ((X11_beginText v_typed (60 : Int32)).1)) (.ref q3) (.int v_rowMany) (.int (0 : Int32)) rv72_0 (.int x72.2.1) (.int x72.2.2.1) (.int x72.2.2.2.1) (.int x72.2.2.2.2.1) u0_12 (.ref q4) u0_14 (.int v_ruleSize) (.int x72.2.2.2.2.2.1) (.ref q5) (.ref q6) (.int v_undoMany) (.ref q7) u0_21 (.ref q8) u0_23 u0_24 u0_25 u0_26 u0_27 u0_28 u0_29 u0_30 u0_31 u0_32 u0_33 u0_34 u0_35 u0_36 u0_37 u0_38 u0_39 u0_40, aI cy q1 37 x72.2.2.2.2.2.2.1, aB cy q2 80 v_text, aJ cy q3 16 v_row, aB cy q4 40 v_rule, aI cy q5 7 x72.2.2.2.2.2.2.2, aI cy q6 444 v_undos, aI cy q7 37 y67, aI cy q8 240 y13.2.2.2] H locs → lv_has ls 3 [(0, .ref q0), (1, .int y13.1), (2, .int x72.1)] → (∀ (rv72_0 : Value) (H : Heap) (locs : List Loc) (ls : Array Slot), Sv D A s.heap [oX11 q0 (.ref q1) (.int v_people) (.ref q2) (.int ((X11_beginText v_typed (60 : Int32)).1)) (.ref q3) (.int v_rowMany) (.int (0 : Int32)) rv72_0 (.int y72.2.1) (.int y72.2.2.1) (.int y72.2.2.2.1) (.int y72.2.2.2.2.1) u0_12 (.ref q4) u0_14 (.int v_ruleSize) (.int y72.2.2.2.2.2.1) (.ref q5) (.ref q6) (.int v_undoMany) (.ref q7) u0_21 (.ref q8) u0_23 u0_24 u0_25 u0_26 u0_27 u0_28 u0_29 u0_30 u0_31 u0_32 u0_33 u0_34 u0_35 u0_36 u0_37 u0_38 u0_39 u0_40, aI cy q1 37 y72.2.2.2.2.2.2.1, aB cy q2 80 v_text, aJ cy q3 16 v_row, aB cy q4 40 v_rule, aI cy q5 7 y72.2.2.2.2.2.2.2, aI cy q6 444 v_undos, aI cy q7 37 y67, aI cy q8 240 y13.2.2.2] H locs → lv_has ls 3 [(0, .ref q0), (1, .int y13.1), (2, .int y72.1)] → W p l e R s m args below meth c H locs 0 0 Q (F0 m 118 ls [])) → W p l e R s m args below meth c H locs 0 0 Q (F0 m 72 ls []) := by
      intro n
      induction n with
      | zero =>
        intro x72 y72 rv72_0 H locs ls h
        exact lp_zero h
      | succ n ih72 =>
        intro x72 y72 rv72_0 H locs ls h hS hl hk72_0
        obtain ⟨z72, h, hz72a, hz72b⟩ := lp_succ h
        have h : X11_week_s72 v_people v_ruleSize v_rule y13 x72 = some z72 := h
        unfold X11_week_s72 at h
        refine lv_iload_n hx hb dX11_week_72 rfl (lv_at hl 2 rfl) ?_
        refine lv_iload_n hx hb dX11_week_73 rfl (lv_at hl 1 rfl) ?_
        refine lv_icmp_ge (tgt := 118) hx hb dX11_week_74 (by decide) (fun c7 => ?_) (fun c7 => ?_)
        · have h := it_pos c7 h
          obtain rfl := hz72b _ (Option.some.inj h).symm
          exact hk72_0 rv72_0 H locs ls hS (lv_sub hl [0, 1, 2] rfl)
        · have h := it_neg c7 h
          refine lv_aload_n hx hb dX11_week_77 rfl (lv_at hl 0 rfl) ?_
          refine lv_aload_n hx hb dX11_week_78 rfl (lv_at hl 0 rfl) ?_
          refine r_get E frX11_42 hS 0 rfl rfl dX11_week_79 ?_
          refine lv_iconst (v := 3) hx hb dX11_week_82 (by decide) ?_
          refine lv_iload_n hx hb dX11_week_83 rfl (lv_at hl 2 rfl) ?_
          refine lv_imul hx hb dX11_week_84 ?_
          obtain ⟨g8, h⟩ := gi_some h
          refine r_iald E hS 8 rfl g8 dX11_week_85 ?_
          refine lv_aload_n hx hb dX11_week_86 rfl (lv_at hl 0 rfl) ?_
          refine r_get E frX11_42 hS 0 rfl rfl dX11_week_87 ?_
          refine lv_iconst (v := 3) hx hb dX11_week_90 (by decide) ?_
          refine lv_iload_n hx hb dX11_week_91 rfl (lv_at hl 2 rfl) ?_
          refine lv_imul hx hb dX11_week_92 ?_
          refine lv_iconst (v := 1) hx hb dX11_week_93 (by decide) ?_
          refine lv_iadd hx hb dX11_week_94 ?_
          obtain ⟨g9, h⟩ := gi_some h
          refine r_iald E hS 8 rfl g9 dX11_week_95 ?_
          refine lv_aload_n hx hb dX11_week_96 rfl (lv_at hl 0 rfl) ?_
          refine r_get E frX11_42 hS 0 rfl rfl dX11_week_97 ?_
          refine lv_iconst (v := 3) hx hb dX11_week_100 (by decide) ?_
          refine lv_iload_n hx hb dX11_week_101 rfl (lv_at hl 2 rfl) ?_
          refine lv_imul hx hb dX11_week_102 ?_
          refine lv_iconst (v := 2) hx hb dX11_week_103 (by decide) ?_
          refine lv_iadd hx hb dX11_week_104 ?_
          obtain ⟨g10, h⟩ := gi_some h
          refine r_iald E hS 8 rfl g10 dX11_week_105 ?_
          obtain ⟨y106, e11, h⟩ := bd_some h
          refine ct_V (ws' := fun _ => [oX11 q0 (.ref q1) (.int v_people) (.ref q2) (.int ((X11_beginText v_typed (60 : Int32)).1)) (.ref q3) (.int v_rowMany) (.int (0 : Int32)) (.ref q4) (.int y106.2.1) (.int y106.2.2.1) (.int y106.2.2.2.1) (.int y106.2.2.2.2.1) u0_12 (.ref q4) u0_14 (.int v_ruleSize) (.int y106.2.2.2.2.2.1) (.ref q5) (.ref q6) (.int v_undoMany) (.ref q7) u0_21 (.ref q8) u0_23 u0_24 u0_25 u0_26 u0_27 u0_28 u0_29 u0_30 u0_31 u0_32 u0_33 u0_34 u0_35 u0_36 u0_37 u0_38 u0_39 u0_40, aI cy q1 37 y106.2.2.2.2.2.2.1, aB cy q2 80 v_text, aJ cy q3 16 v_row, aB cy q4 40 v_rule, aI cy q5 7 y106.2.2.2.2.2.2.2, aI cy q6 444 v_undos, aI cy q7 37 y67, aI cy q8 240 y13.2.2.2]) (st' := [.int y106.1]) (rest := []) E hS vlX11_282 (c_X11_act (l := l) (D := D) (cy := cy) (q0 := q0) (q1 := q1) (q2 := q4) (q3 := q5) (u0_2 := .ref q2) (u0_3 := .int ((X11_beginText v_typed (60 : Int32)).1)) (u0_4 := .ref q3) (u0_5 := .int v_rowMany) (u0_6 := .int (0 : Int32)) (u0_7 := rv72_0) (u0_12 := u0_12) (u0_14 := u0_14) (u0_18 := .ref q6) (u0_19 := .int v_undoMany) (u0_20 := .ref q7) (u0_21 := u0_21) (u0_22 := .ref q8) (u0_23 := u0_23) (u0_24 := u0_24) (u0_25 := u0_25) (u0_26 := u0_26) (u0_27 := u0_27) (u0_28 := u0_28) (u0_29 := u0_29) (u0_30 := u0_30) (u0_31 := u0_31) (u0_32 := u0_32) (u0_33 := u0_33) (u0_34 := u0_34) (u0_35 := u0_35) (u0_36 := u0_36) (u0_37 := u0_37) (u0_38 := u0_38) (u0_39 := u0_39) (u0_40 := u0_40) (v_people := v_people) (v_length := x72.2.1) (v_top := x72.2.2.1) (v_at := x72.2.2.2.1) (v_wrong := x72.2.2.2.2.1) (v_ruleSize := v_ruleSize) (v_isAsked := x72.2.2.2.2.2.1) (v_now := x72.2.2.2.2.2.2.1) (v_rule := v_rule) (v_asked := x72.2.2.2.2.2.2.2) (p1 := (y13.2.2.2 ((3 : Int32) * x72.1).toNatClampNeg)) (p2 := (y13.2.2.2 (((3 : Int32) * x72.1) + (1 : Int32)).toNatClampNeg)) (p3 := (y13.2.2.2 (((3 : Int32) * x72.1) + (2 : Int32)).toNatClampNeg)) (r := y106) e11) [0, 1, 4, 5] rfl rfl (fun _ => rfl) (fun _ => rfl) rfl rfl rfl rfl (Nat.le_of_ble_eq_true rfl) hl.1 (by rw [hRf]; exact Nat.le_of_ble_eq_true rfl) (by rw [hRl]; exact Nat.le_of_ble_eq_true rfl) ⟨Nat.zero_le _, Nat.zero_le _⟩ dX11_week_106 rfl (fun H locs _ hS => ?_)
          refine lv_if_eq (tgt := 118) hx hb dX11_week_109 (by decide) (fun c12 => ?_) (fun c12 => ?_)
          · have h := it_pos c12 h
            obtain rfl := hz72b _ (Option.some.inj h).symm
            exact hk72_0 (.ref q4) H locs ls hS (lv_sub hl [0, 1, 2] rfl)
          · have h := it_neg c12 h
            refine lv_iinc (v := (x72.1 + (1 : Int32))) (lv' := [(2, .int (x72.1 + (1 : Int32))), (0, .ref q0), (1, .int y13.1)]) hx hb dX11_week_112 hl (k := 2) rfl rfl (by decide) rfl (fun ls hl => ?_)
            refine lv_goto (tgt := 72) hx hb dX11_week_115 (by decide) ?_
            exact ih72 ((x72.1 + (1 : Int32)), y106.2.1, y106.2.2.1, y106.2.2.2.1, y106.2.2.2.2.1, y106.2.2.2.2.2.1, y106.2.2.2.2.2.2.1, y106.2.2.2.2.2.2.2) y72 (.ref q4) H locs ls (hz72a _ (Option.some.inj h).symm) hS (lv_sub hl [1, 2, 0] rfl) hk72_0
    obtain ⟨y72, e72, h⟩ := bd_some h
    refine hL72 1000 ((0 : Int32), (X11_beginText v_typed (60 : Int32)).2.1, (X11_beginText v_typed (60 : Int32)).2.2.1, y13.2.1, y45.2, v_isAsked, v_now, v_asked) y72 (.ref q2) H locs ls e72 hS (lv_sub hl [1, 2, 0] rfl) (fun rw72_0 H locs ls hS hl => ?_)
    refine lv_iload_n hx hb dX11_week_118 rfl (lv_at hl 2 rfl) ?_
    have hJ130 : ∀ (j130_v_undoMany : Int32) (j130_v_undos : Nat → Int32) (H : Heap) (locs : List Loc) (ls : Array Slot), X11_week_k130 v_typed v_row y13 y67 y72 j130_v_undoMany j130_v_undos = some r → Sv D A s.heap [oX11 q0 (.ref q1) (.int v_people) (.ref q2) (.int ((X11_beginText v_typed (60 : Int32)).1)) (.ref q3) (.int v_rowMany) (.int (0 : Int32)) rw72_0 (.int y72.2.1) (.int y72.2.2.1) (.int y72.2.2.2.1) (.int y72.2.2.2.2.1) u0_12 (.ref q4) u0_14 (.int v_ruleSize) (.int y72.2.2.2.2.2.1) (.ref q5) (.ref q6) (.int j130_v_undoMany) (.ref q7) u0_21 (.ref q8) u0_23 u0_24 u0_25 u0_26 u0_27 u0_28 u0_29 u0_30 u0_31 u0_32 u0_33 u0_34 u0_35 u0_36 u0_37 u0_38 u0_39 u0_40, aI cy q1 37 y72.2.2.2.2.2.2.1, aB cy q2 80 v_text, aJ cy q3 16 v_row, aB cy q4 40 v_rule, aI cy q5 7 y72.2.2.2.2.2.2.2, aI cy q6 444 j130_v_undos, aI cy q7 37 y67, aI cy q8 240 y13.2.2.2] H locs → lv_has ls 3 [(0, .ref q0), (1, .int y13.1), (2, .int y72.1)] → W p l e R s m args below meth c H locs 0 0 Q (F0 m 130 ls []) := by
      intro j130_v_undoMany j130_v_undos H locs ls h hS hl
      unfold X11_week_k130 at h
      refine lv_aload_n hx hb dX11_week_130 rfl (lv_at hl 0 rfl) ?_
      refine lv_iconst (v := 0) hx hb dX11_week_131 (by decide) ?_
      refine r_put (ws' := [oX11 q0 (.ref q1) (.int v_people) (.ref q2) (.int ((X11_beginText v_typed (60 : Int32)).1)) (.ref q3) (.int (0 : Int32)) (.int (0 : Int32)) rw72_0 (.int y72.2.1) (.int y72.2.2.1) (.int y72.2.2.2.1) (.int y72.2.2.2.2.1) u0_12 (.ref q4) u0_14 (.int v_ruleSize) (.int y72.2.2.2.2.2.1) (.ref q5) (.ref q6) (.int j130_v_undoMany) (.ref q7) u0_21 (.ref q8) u0_23 u0_24 u0_25 u0_26 u0_27 u0_28 u0_29 u0_30 u0_31 u0_32 u0_33 u0_34 u0_35 u0_36 u0_37 u0_38 u0_39 u0_40, aI cy q1 37 y72.2.2.2.2.2.2.1, aB cy q2 80 v_text, aJ cy q3 16 v_row, aB cy q4 40 v_rule, aI cy q5 7 y72.2.2.2.2.2.2.2, aI cy q6 444 j130_v_undos, aI cy q7 37 y67, aI cy q8 240 y13.2.2.2]) E frX11_89 hS 0 rfl (Nat.le_of_ble_eq_true rfl) rfl rfl rfl rfl dX11_week_132 (fun H locs hS => ?_)
      refine lv_aload_n hx hb dX11_week_135 rfl (lv_at hl 0 rfl) ?_
      refine lv_iload_n hx hb dX11_week_136 rfl (lv_at hl 2 rfl) ?_
      refine lv_iload_n hx hb dX11_week_137 rfl (lv_at hl 1 rfl) ?_
      have hJ146 : ∀ (s146_1 : Int64) (ls : Array Slot), s146_1 = (if y13.1 ≤ y72.1 then (0 : Int64) else (1 : Int64)) → lv_has ls 3 [(0, .ref q0), (2, .int y72.1)] → W p l e R s m args below meth c H locs 0 0 Q (F0 m 146 ls [.long s146_1, .ref q0]) := by
        intro s146_1 ls es146_1 hl
        subst es146_1
        obtain ⟨y146, e13, h⟩ := bd_some h
        refine ct_V (ws' := fun _ => [oX11 q0 (.ref q1) (.int v_people) (.ref q2) (.int ((X11_beginText v_typed (60 : Int32)).1)) (.ref q3) (.int y146.1) (.int (0 : Int32)) rw72_0 (.int y72.2.1) (.int y72.2.2.1) (.int y72.2.2.2.1) (.int y72.2.2.2.2.1) u0_12 (.ref q4) u0_14 (.int v_ruleSize) (.int y72.2.2.2.2.2.1) (.ref q5) (.ref q6) (.int j130_v_undoMany) (.ref q7) u0_21 (.ref q8) u0_23 u0_24 u0_25 u0_26 u0_27 u0_28 u0_29 u0_30 u0_31 u0_32 u0_33 u0_34 u0_35 u0_36 u0_37 u0_38 u0_39 u0_40, aI cy q1 37 y72.2.2.2.2.2.2.1, aB cy q2 80 v_text, aJ cy q3 16 y146.2, aB cy q4 40 v_rule, aI cy q5 7 y72.2.2.2.2.2.2.2, aI cy q6 444 j130_v_undos, aI cy q7 37 y67, aI cy q8 240 y13.2.2.2]) (st' := []) (rest := []) E hS vlX11_256 (c_X11_tell (l := l) (D := D) (cy := cy) (q0 := q0) (q1 := q3) (u0_0 := .ref q1) (u0_1 := .int v_people) (u0_2 := .ref q2) (u0_3 := .int ((X11_beginText v_typed (60 : Int32)).1)) (u0_6 := .int (0 : Int32)) (u0_7 := rw72_0) (u0_8 := .int y72.2.1) (u0_9 := .int y72.2.2.1) (u0_10 := .int y72.2.2.2.1) (u0_11 := .int y72.2.2.2.2.1) (u0_12 := u0_12) (u0_13 := .ref q4) (u0_14 := u0_14) (u0_15 := .int v_ruleSize) (u0_16 := .int y72.2.2.2.2.2.1) (u0_17 := .ref q5) (u0_18 := .ref q6) (u0_19 := .int j130_v_undoMany) (u0_20 := .ref q7) (u0_21 := u0_21) (u0_22 := .ref q8) (u0_23 := u0_23) (u0_24 := u0_24) (u0_25 := u0_25) (u0_26 := u0_26) (u0_27 := u0_27) (u0_28 := u0_28) (u0_29 := u0_29) (u0_30 := u0_30) (u0_31 := u0_31) (u0_32 := u0_32) (u0_33 := u0_33) (u0_34 := u0_34) (u0_35 := u0_35) (u0_36 := u0_36) (u0_37 := u0_37) (u0_38 := u0_38) (u0_39 := u0_39) (u0_40 := u0_40) (v_rowMany := (0 : Int32)) (v_row := v_row) (p1 := (if y13.1 ≤ y72.1 then (0 : Int64) else (1 : Int64))) (r := y146) e13) [0, 3] rfl rfl (fun _ => rfl) (fun _ => rfl) rfl rfl rfl rfl (Nat.le_of_ble_eq_true rfl) hl.1 (by rw [hRf]; exact Nat.le_of_ble_eq_true rfl) (by rw [hRl]; exact Nat.le_of_ble_eq_true rfl) ⟨Nat.zero_le _, Nat.zero_le _⟩ dX11_week_146 rfl (fun H locs _ hS => ?_)
        refine lv_aload_n hx hb dX11_week_149 rfl (lv_at hl 0 rfl) ?_
        refine lv_aload_n hx hb dX11_week_150 rfl (lv_at hl 0 rfl) ?_
        refine r_get E frX11_9 hS 0 rfl rfl dX11_week_151 ?_
        refine lv_bipush (v := 36) hx hb dX11_week_154 (by decide) ?_
        obtain ⟨g14, h⟩ := gi_some h
        refine r_iald E hS 1 rfl g14 dX11_week_156 ?_
        refine lv_i2l (v := ((y72.2.2.2.2.2.2.1 (36 : Int32).toNatClampNeg).toInt64)) hx hb dX11_week_157 rfl ?_
        obtain ⟨y158, e15, h⟩ := bd_some h
        refine ct_V (ws' := fun _ => [oX11 q0 (.ref q1) (.int v_people) (.ref q2) (.int ((X11_beginText v_typed (60 : Int32)).1)) (.ref q3) (.int y158.1) (.int (0 : Int32)) rw72_0 (.int y72.2.1) (.int y72.2.2.1) (.int y72.2.2.2.1) (.int y72.2.2.2.2.1) u0_12 (.ref q4) u0_14 (.int v_ruleSize) (.int y72.2.2.2.2.2.1) (.ref q5) (.ref q6) (.int j130_v_undoMany) (.ref q7) u0_21 (.ref q8) u0_23 u0_24 u0_25 u0_26 u0_27 u0_28 u0_29 u0_30 u0_31 u0_32 u0_33 u0_34 u0_35 u0_36 u0_37 u0_38 u0_39 u0_40, aI cy q1 37 y72.2.2.2.2.2.2.1, aB cy q2 80 v_text, aJ cy q3 16 y158.2, aB cy q4 40 v_rule, aI cy q5 7 y72.2.2.2.2.2.2.2, aI cy q6 444 j130_v_undos, aI cy q7 37 y67, aI cy q8 240 y13.2.2.2]) (st' := []) (rest := []) E hS vlX11_256 (c_X11_tell (l := l) (D := D) (cy := cy) (q0 := q0) (q1 := q3) (u0_0 := .ref q1) (u0_1 := .int v_people) (u0_2 := .ref q2) (u0_3 := .int ((X11_beginText v_typed (60 : Int32)).1)) (u0_6 := .int (0 : Int32)) (u0_7 := rw72_0) (u0_8 := .int y72.2.1) (u0_9 := .int y72.2.2.1) (u0_10 := .int y72.2.2.2.1) (u0_11 := .int y72.2.2.2.2.1) (u0_12 := u0_12) (u0_13 := .ref q4) (u0_14 := u0_14) (u0_15 := .int v_ruleSize) (u0_16 := .int y72.2.2.2.2.2.1) (u0_17 := .ref q5) (u0_18 := .ref q6) (u0_19 := .int j130_v_undoMany) (u0_20 := .ref q7) (u0_21 := u0_21) (u0_22 := .ref q8) (u0_23 := u0_23) (u0_24 := u0_24) (u0_25 := u0_25) (u0_26 := u0_26) (u0_27 := u0_27) (u0_28 := u0_28) (u0_29 := u0_29) (u0_30 := u0_30) (u0_31 := u0_31) (u0_32 := u0_32) (u0_33 := u0_33) (u0_34 := u0_34) (u0_35 := u0_35) (u0_36 := u0_36) (u0_37 := u0_37) (u0_38 := u0_38) (u0_39 := u0_39) (u0_40 := u0_40) (v_rowMany := y146.1) (v_row := y146.2) (p1 := ((y72.2.2.2.2.2.2.1 (36 : Int32).toNatClampNeg).toInt64)) (r := y158) e15) [0, 3] rfl rfl (fun _ => rfl) (fun _ => rfl) rfl rfl rfl rfl (Nat.le_of_ble_eq_true rfl) hl.1 (by rw [hRf]; exact Nat.le_of_ble_eq_true rfl) (by rw [hRl]; exact Nat.le_of_ble_eq_true rfl) ⟨Nat.zero_le _, Nat.zero_le _⟩ dX11_week_158 rfl (fun H locs _ hS => ?_)
        refine lv_iload_n hx hb dX11_week_161 rfl (lv_at hl 1 rfl) ?_
        obtain rfl := Option.some.inj h
        exact rt_i E hQ (rw72_0) hS dX11_week_162
      refine lv_icmp_ge (tgt := 145) hx hb dX11_week_138 (by decide) (fun c16 => ?_) (fun c16 => ?_)
      · refine lv_lconst (v := 0) hx hb dX11_week_145 (by decide) ?_
        exact hJ146 _ ls ((if_pos c16)).symm (lv_sub hl [0, 2] rfl)
      · refine lv_lconst (v := 1) hx hb dX11_week_141 (by decide) ?_
        refine lv_goto (tgt := 146) hx hb dX11_week_142 (by decide) ?_
        exact hJ146 _ ls ((if_neg c16)).symm (lv_sub hl [0, 2] rfl)
    refine lv_if_le (tgt := 130) hx hb dX11_week_119 (by decide) (fun c17 => ?_) (fun c17 => ?_)
    · have h := it_pos c17 h
      exact hJ130 v_undoMany v_undos  H locs ls h hS (lv_sub hl [0, 1, 2] rfl)
    · have h := it_neg c17 h
      refine lv_aload_n hx hb dX11_week_122 rfl (lv_at hl 0 rfl) ?_
      refine lv_aload_n hx hb dX11_week_123 rfl (lv_at hl 0 rfl) ?_
      refine r_get E frX11_36 hS 0 rfl rfl dX11_week_124 ?_
      obtain ⟨y127, e18, h⟩ := bd_some h
      refine ct_V (ws' := fun _ => [oX11 q0 (.ref q1) (.int v_people) (.ref q2) (.int ((X11_beginText v_typed (60 : Int32)).1)) (.ref q3) (.int v_rowMany) (.int (0 : Int32)) rw72_0 (.int y72.2.1) (.int y72.2.2.1) (.int y72.2.2.2.1) (.int y72.2.2.2.2.1) u0_12 (.ref q4) u0_14 (.int v_ruleSize) (.int y72.2.2.2.2.2.1) (.ref q5) (.ref q6) (.int y127.1) (.ref q7) u0_21 (.ref q8) u0_23 u0_24 u0_25 u0_26 u0_27 u0_28 u0_29 u0_30 u0_31 u0_32 u0_33 u0_34 u0_35 u0_36 u0_37 u0_38 u0_39 u0_40, aI cy q1 37 y72.2.2.2.2.2.2.1, aB cy q2 80 v_text, aJ cy q3 16 v_row, aB cy q4 40 v_rule, aI cy q5 7 y72.2.2.2.2.2.2.2, aI cy q6 444 y127.2, aI cy q7 37 y67, aI cy q8 240 y13.2.2.2]) (st' := []) (rest := []) E hS vlX11_249 (c_X11_remember (l := l) (D := D) (cy := cy) (q0 := q0) (q1 := q6) (q2 := q7) (u0_0 := .ref q1) (u0_1 := .int v_people) (u0_2 := .ref q2) (u0_3 := .int ((X11_beginText v_typed (60 : Int32)).1)) (u0_4 := .ref q3) (u0_5 := .int v_rowMany) (u0_6 := .int (0 : Int32)) (u0_7 := rw72_0) (u0_8 := .int y72.2.1) (u0_9 := .int y72.2.2.1) (u0_10 := .int y72.2.2.2.1) (u0_11 := .int y72.2.2.2.2.1) (u0_12 := u0_12) (u0_13 := .ref q4) (u0_14 := u0_14) (u0_15 := .int v_ruleSize) (u0_16 := .int y72.2.2.2.2.2.1) (u0_17 := .ref q5) (u0_20 := .ref q7) (u0_21 := u0_21) (u0_22 := .ref q8) (u0_23 := u0_23) (u0_24 := u0_24) (u0_25 := u0_25) (u0_26 := u0_26) (u0_27 := u0_27) (u0_28 := u0_28) (u0_29 := u0_29) (u0_30 := u0_30) (u0_31 := u0_31) (u0_32 := u0_32) (u0_33 := u0_33) (u0_34 := u0_34) (u0_35 := u0_35) (u0_36 := u0_36) (u0_37 := u0_37) (u0_38 := u0_38) (u0_39 := u0_39) (u0_40 := u0_40) (v_undoMany := v_undoMany) (v_undos := v_undos) (nw1_ := 37) (w1_ := y67) (r := y127) e18) [0, 6, 7] rfl rfl (fun _ => rfl) (fun _ => rfl) rfl rfl rfl rfl (Nat.le_of_ble_eq_true rfl) hl.1 (by rw [hRf]; exact Nat.le_of_ble_eq_true rfl) (by rw [hRl]; exact Nat.le_of_ble_eq_true rfl) ⟨Nat.zero_le _, Nat.zero_le _⟩ dX11_week_127 rfl (fun H locs _ hS => ?_)
      exact hJ130 y127.1 y127.2  H locs ls h hS (lv_sub hl [0, 1, 2] rfl)
  · have h := it_pos c5 h
    refine lv_iconst (v := -1) hx hb dX11_week_51 (by decide) ?_
    refine lv_aload_n hx hb dX11_week_52 rfl (lv_at hl 0 rfl) ?_
    refine r_get E frX11_118 hS 0 rfl rfl dX11_week_53 ?_
    refine lv_isub hx hb dX11_week_56 ?_
    obtain rfl := Option.some.inj h
    exact rt_i E hQ (.ref q2) hS dX11_week_57
