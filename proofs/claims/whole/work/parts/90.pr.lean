/-! ===== the pure level: the reference reads a rule ===== -/
section RAT
variable {L nv : Nat} {read : Nat → Int32} {h : Nat → Nat} {isA : Int32} {asked : Nat → Int32}
theorem opA_o {x : Nat} (hx : opA x = true) : x = 43 ∨ x = 45 := of_decide_eq_true hx
theorem opM_o {x : Nat} (hx : opM x = true) : x = 42 ∨ x = 47 := of_decide_eq_true hx
theorem opC_o {x : Nat} (hx : opC x = true) : x = 60 ∨ x = 62 ∨ x = 61 := of_decide_eq_true hx
theorem opA_n {x : Nat} (hx : opA x = false) : ¬ x = 43 ∧ ¬ x = 45 := by
  have := of_decide_eq_false hx; omega
theorem opM_n {x : Nat} (hx : opM x = false) : ¬ x = 42 ∧ ¬ x = 47 := by
  have := of_decide_eq_false hx; omega
theorem hvx_43 {x : Nat} (hx : x < 256 ∨ x = 999) {v : Nat} (hv : v < 256) (hn : ¬ x = v) : ¬ hvx x = o32 v := by rw [hvx_eq hx hv]; exact hn
theorem Rx_sum (hr : RdH L nv read h) {n i p : Nat} (hi : i ≤ 40) (hR : ∀ j, i ≤ j → j ≤ 40 → RaP isA asked j (PD h n 2 j p) (X11_expr n 2 (o32 L) (o32 40) (o32 j) (-1) isA nv read asked (o32 p))) : RaP isA asked i (PD h (n + 1) 1 i p) (X11_expr (n + 1) 1 (o32 L) (o32 40) (o32 i) (-1) isA nv read asked (o32 p)) := by
  have eP : PD h (n + 1) 1 i p = PDl h opA (fun j => PD h n 2 j p) 50 (PD h n 2 i p) := rfl
  obtain ⟨v, e, b1, b2, b3⟩ := hR i (Nat.le_refl i) hi
  obtain ⟨v', e', d1, d2, d3⟩ := L_pl (isA := isA) (asked := asked) hr (o := opA) (fun x hx => by rcases opA_o hx with rfl | rfl <;> decide) (q := fun j => PD h n 2 j p) (rec := fun j => X11_expr n 2 (o32 L) (o32 40) (o32 j) (-1) isA nv read asked (o32 p)) (F := fun x6 : Int32 × Int32 × Int32 => X11_sum_s6 (X11_expr n) (o32 L) (o32 40) isA nv read asked (o32 p) x6.1 x6.2.1 x6.2.2) (i0 := i) (fun j hj1 hj2 => hR (j + 1) (by omega) (by omega)) (fun v j hj ho => by
      have ⟨n1, n2⟩ := opA_n ho
      have hb := hr.bd (show j < 100 by omega)
      show X11_sum_s6 _ _ _ _ _ _ _ _ v (o32 j) (-1) = _
      unfold X11_sum_s6
      rw [if_neg (by rw [fi_m]; exact id), L_hx hr (by omega), Option.bind_some, if_neg (show ¬ hvx (h j) = (43 : Int32) from hvx_43 hb (v := 43) (by decide) n1), Option.bind_some, if_neg (show ¬ hvx (h j) = (45 : Int32) from hvx_43 hb (v := 45) (by decide) n2)]) (fun v j v2 a w hj ho er => by
      have er : X11_expr n 2 (o32 L) (o32 40) (o32 (j + 1)) (-1) isA nv read asked (o32 p) = some (v2, a, w) := er
      show X11_sum_s6 _ _ _ _ _ _ _ _ v (o32 j) (-1) = _
      unfold X11_sum_s6 X11_sum_k31
      rw [if_neg (by rw [fi_m]; exact id), L_hx hr (by omega), Option.bind_some, Option.bind_some, Option.bind_some, o_s, er]
      rcases opA_o ho with ho | ho <;> rw [ho] <;> rfl) (fun v a w hw => by
      show X11_sum_s6 _ _ _ _ _ _ _ _ v a (o32 w) = _
      unfold X11_sum_s6
      rw [if_pos (by rw [fi_o (by omega)]; exact True.intro)]) 50 (PD h n 2 i p) v 1000 b1 b2 (by omega) (by decide) (fun c1 c2 => (b3 c1).2 c2)
  rw [eP]
  refine ⟨v', ?_, by omega, d2, fun hk => ⟨by have := (b3 (d3 hk).1).1; omega, (d3 hk).2⟩⟩
  show X11_expr_b1 (X11_expr n) (o32 L) (o32 40) (o32 i) (-1) isA nv read asked (o32 p) = _
  unfold X11_expr_b1
  rw [e, Option.bind_some]
  dsimp only
  rw [e']
  rfl
theorem Rx_pro (hr : RdH L nv read h) {n i p : Nat} (hi : i ≤ 40) (hR : ∀ j, i ≤ j → j ≤ 40 → RaP isA asked j (PD h n 3 j p) (X11_expr n 3 (o32 L) (o32 40) (o32 j) (-1) isA nv read asked (o32 p))) : RaP isA asked i (PD h (n + 1) 2 i p) (X11_expr (n + 1) 2 (o32 L) (o32 40) (o32 i) (-1) isA nv read asked (o32 p)) := by
  have eP : PD h (n + 1) 2 i p = PDl h opM (fun j => PD h n 3 j p) 50 (PD h n 3 i p) := rfl
  obtain ⟨v, e, b1, b2, b3⟩ := hR i (Nat.le_refl i) hi
  obtain ⟨v', e', d1, d2, d3⟩ := L_pl (isA := isA) (asked := asked) hr (o := opM) (fun x hx => by rcases opM_o hx with rfl | rfl <;> decide) (q := fun j => PD h n 3 j p) (rec := fun j => X11_expr n 3 (o32 L) (o32 40) (o32 j) (-1) isA nv read asked (o32 p)) (F := fun x6 : Int32 × Int32 × Int32 => X11_product_s6 (X11_expr n) (o32 L) (o32 40) isA nv read asked (o32 p) x6.1 x6.2.1 x6.2.2) (i0 := i) (fun j hj1 hj2 => hR (j + 1) (by omega) (by omega)) (fun v j hj ho => by
      have ⟨n1, n2⟩ := opM_n ho
      have hb := hr.bd (show j < 100 by omega)
      show X11_product_s6 _ _ _ _ _ _ _ _ v (o32 j) (-1) = _
      unfold X11_product_s6
      rw [if_neg (by rw [fi_m]; exact id), L_hx hr (by omega), Option.bind_some, if_neg (show ¬ hvx (h j) = (42 : Int32) from hvx_43 hb (v := 42) (by decide) n1), Option.bind_some, if_neg (show ¬ hvx (h j) = (47 : Int32) from hvx_43 hb (v := 47) (by decide) n2)]) (fun v j v2 a w hj ho er => by
      have er : X11_expr n 3 (o32 L) (o32 40) (o32 (j + 1)) (-1) isA nv read asked (o32 p) = some (v2, a, w) := er
      show X11_product_s6 _ _ _ _ _ _ _ _ v (o32 j) (-1) = _
      unfold X11_product_s6 X11_product_k31
      rw [if_neg (by rw [fi_m]; exact id), L_hx hr (by omega), Option.bind_some, Option.bind_some, Option.bind_some, o_s, er]
      rcases opM_o ho with ho | ho
      · rw [ho]; rfl
      · rw [ho, if_neg (by decide), if_pos (by rfl), Option.bind_some]
        show (if (if hvx 47 = 42 then (1 : Int32) else 0) = 0 then (if v2 = 0 then some (Sum.inl ((0 : Int32), a, w)) else gz v2 (some (Sum.inl (v / v2, a, w)))) else some (Sum.inl (v * v2, a, w))) = some (Sum.inl ((if v2 = 0 then 0 else v / v2), a, w))
        rw [if_pos (by decide)]
        by_cases c : v2 = 0
        · rw [if_pos c, if_pos c]
        · rw [if_neg c, if_neg c]; exact if_neg c) (fun v a w hw => by
      show X11_product_s6 _ _ _ _ _ _ _ _ v a (o32 w) = _
      unfold X11_product_s6
      rw [if_pos (by rw [fi_o (by omega)]; exact True.intro)]) 50 (PD h n 3 i p) v 1000 b1 b2 (by omega) (by decide) (fun c1 c2 => (b3 c1).2 c2)
  rw [eP]
  refine ⟨v', ?_, by omega, d2, fun hk => ⟨by have := (b3 (d3 hk).1).1; omega, (d3 hk).2⟩⟩
  show X11_expr_b2 (X11_expr n) (o32 L) (o32 40) (o32 i) (-1) isA nv read asked (o32 p) = _
  unfold X11_expr_b2
  rw [e, Option.bind_some]
  dsimp only
  rw [e']
  rfl
theorem Rx_hel (hr : RdH L nv read h) {n i p : Nat} (hi : i ≤ 40) (hR : ∀ j, i ≤ j → j ≤ 40 → RaP isA asked j (PD h n 1 j p) (X11_expr n 1 (o32 L) (o32 40) (o32 j) (-1) isA nv read asked (o32 p))) : RaP isA asked i (PD h (n + 1) 0 i p) (X11_expr (n + 1) 0 (o32 L) (o32 40) (o32 i) (-1) isA nv read asked (o32 p)) := by
  obtain ⟨r, er⟩ : ∃ r, PD h n 1 i p = r := ⟨_, rfl⟩
  have eP : PD h (n + 1) 0 i p = if r.1 = true ∧ opC (h r.2.1) = true then ((PD h n 1 (r.2.1 + 1) p).1, (PD h n 1 (r.2.1 + 1) p).2.1, r.2.2 ++ (PD h n 1 (r.2.1 + 1) p).2.2 ++ [1999 + opx (h r.2.1)]) else r := by rw [← er]; rfl
  obtain ⟨v, e, b1, b2, b3⟩ := hR i (Nat.le_refl i) hi
  rw [er] at e b1 b2 b3
  show RaP isA asked i _ (X11_expr_b0 (X11_expr n) (o32 L) (o32 40) (o32 i) (-1) isA nv read asked (o32 p))
  unfold X11_expr_b0
  rw [e, Option.bind_some]
  dsimp only
  by_cases c1 : r.1 = true
  · have ew : wrx r = -1 := if_pos c1
    rw [ew, show (60 : Int32) = o32 60 from rfl, L_px hr (by omega) (by decide), Option.bind_some]
    by_cases c2 : opC (h r.2.1) = true
    · have ⟨hv6, hlt⟩ : (h r.2.1 = 60 ∨ h r.2.1 = 62 ∨ h r.2.1 = 61) ∧ r.2.1 < 40 := ⟨opC_o c2, hr.lt (show r.2.1 < 100 by omega) (by rcases opC_o c2 with q | q | q <;> omega)⟩
      obtain ⟨v2, e2, d1, d2, d3⟩ := hR (r.2.1 + 1) (by omega) (by omega)
      rw [eP, if_pos ⟨c1, c2⟩]
      rcases hv6 with q | q | q
      · rw [q, if_pos rfl]
        dsimp only
        rw [if_neg (by decide), e2, Option.bind_some]
        exact ⟨_, rfl, by show i ≤ (PD h n 1 (r.2.1 + 1) p).2.1; omega, d2, fun k => ⟨by show i < (PD h n 1 (r.2.1 + 1) p).2.1; omega, fun k2 => PVc.bin ((b3 c1).2 k2) ((d3 k).2 k2) (e := 1999 + opx 60) (by decide) (by decide)⟩⟩
      · rw [q, if_neg (show ¬ 62 = 60 by decide)]
        dsimp only
        rw [if_pos rfl, show (62 : Int32) = o32 62 from rfl, L_px hr (by omega) (by decide), q, if_pos rfl, Option.bind_some]
        dsimp only
        rw [if_neg (by decide), e2, Option.bind_some]
        exact ⟨_, rfl, by show i ≤ (PD h n 1 (r.2.1 + 1) p).2.1; omega, d2, fun k => ⟨by show i < (PD h n 1 (r.2.1 + 1) p).2.1; omega, fun k2 => PVc.bin ((b3 c1).2 k2) ((d3 k).2 k2) (e := 1999 + opx 62) (by decide) (by decide)⟩⟩
      · rw [q, if_neg (show ¬ 61 = 60 by decide)]
        dsimp only
        rw [if_pos rfl, show (62 : Int32) = o32 62 from rfl, L_px hr (by omega) (by decide), q, if_neg (show ¬ 61 = 62 by decide), Option.bind_some]
        dsimp only
        rw [if_pos rfl, show (61 : Int32) = o32 61 from rfl, L_px hr (by omega) (by decide), q, if_pos rfl, Option.bind_some]
        dsimp only
        rw [if_neg (by decide), e2, Option.bind_some]
        exact ⟨_, rfl, by show i ≤ (PD h n 1 (r.2.1 + 1) p).2.1; omega, d2, fun k => ⟨by show i < (PD h n 1 (r.2.1 + 1) p).2.1; omega, fun k2 => PVc.bin ((b3 c1).2 k2) ((d3 k).2 k2) (e := 1999 + opx 61) (by decide) (by decide)⟩⟩
    · have n6 : ¬ h r.2.1 = 60 ∧ ¬ h r.2.1 = 62 ∧ ¬ h r.2.1 = 61 := by
        have : opC (h r.2.1) = false := by simpa using c2
        have := of_decide_eq_false this
        omega
      rw [eP, if_neg (fun q => c2 q.2), if_neg n6.1]
      dsimp only
      rw [if_pos rfl, show (62 : Int32) = o32 62 from rfl, L_px hr (by omega) (by decide), if_neg n6.2.1, Option.bind_some]
      dsimp only
      rw [if_pos rfl, show (61 : Int32) = o32 61 from rfl, L_px hr (by omega) (by decide), if_neg n6.2.2, Option.bind_some]
      dsimp only
      rw [if_pos rfl]
      exact ⟨v, by rw [ew], b1, b2, b3⟩
  · have ew : wrx r = o32 r.2.1 := if_neg c1
    have W : (X11_fine (o32 r.2.1) = 0) = True := fi_o (by omega)
    rw [eP, if_neg (fun q => c1 q.1), ew, L_pxw W, Option.bind_some]
    dsimp only
    rw [if_pos rfl, L_pxw W, Option.bind_some]
    dsimp only
    rw [if_pos rfl, L_pxw W, Option.bind_some]
    dsimp only
    rw [if_pos rfl]
    exact ⟨v, by rw [ew], b1, b2, b3⟩
end RAT
