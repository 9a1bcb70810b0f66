def okW : Cond → Bool
  | .methodLinkNest _ _ _ _ => true
  | .fieldLinkNest _ _ _ _ _ _ => true
  | w => goodWord w
def lw_g : List Cond := lw_tbl.filter okW
theorem okW_warm {w : Cond} (h : okW w = true) {args a' : Array Value} {s U : State} (hW : s.WarmedH U.vm) (hb : w.before args s = true) : w.before a' U = true := by
  cases w with
  | methodLinkNest a i x hh => exact va_Nw.use rfl (va_Nw.warmM hW (va_Nw.of rfl hb))
  | fieldLinkNest a i b n d hh => exact va_Nw.use rfl (va_Nw.warmF hW (va_Nw.of rfl hb))
  | _ => exact word_at hW (good_of_word h) hb
theorem lw_g_warm {args : Array Value} {s : State} (hts : ∀ w ∈ lw_g, w.before args s = true) : ∀ w ∈ lw_g, ∀ (a' : Array Value) (U : State), s.WarmedH U.vm → w.before a' U = true := fun w hw _ _ hW => okW_warm (List.mem_filter.mp hw).2 hW (hts w hw)
theorem mgT {w : Cond} (i : Nat) (h : tables_1[i]? = some w) (ho : okW w = true) : w ∈ lw_g := List.mem_filter.mpr ⟨List.mem_append_right _ (List.mem_of_getElem? h), ho⟩
theorem mgS {q : MethodName × Nat} (i : Nat) (h : lw_privs[i]? = some q) (ho : okW (Cond.selects q.1.cls q.1 q.1) = true) : Cond.selects q.1.cls q.1 q.1 ∈ lw_g := List.mem_filter.mpr ⟨List.mem_append_left _ (List.mem_map.mpr ⟨q, List.mem_of_getElem? h, rfl⟩), ho⟩
def FR (own : String) (idx ci : Nat) (C : String) (T : u_T) (N : Nat) (ty0 : Nat → FieldType) (k : Nat) : Prop :=
  vwCl[ci]? = some (C, T, N) ∧ k < N ∧ (∀ w ∈ u_ws C T N, w ∈ lw_g) ∧ (∀ k, k < N → parseFieldDescriptor (T k).2.2.1 = some (ty0 k)) ∧ (∀ a, a < N → ∀ b, b < N → a ≠ b → (T a).2.1 ≠ (T b).2.1) ∧ (T k).1 = C ∧ (Cond.fieldLink own idx C (T k).2.1 (T k).2.2.1 ∈ lw_g ∨ ∃ host, Cond.fieldLinkNest own idx C (T k).2.1 (T k).2.2.1 host ∈ lw_g)
def MLk (own : String) (idx : Nat) (y : MethodName) (n : Nat) : Prop :=
  (Cond.methodLink own idx y ∈ lw_g ∨ ∃ host, Cond.methodLinkNest own idx y host ∈ lw_g) ∧ Cond.initialized y.cls ∈ lw_g ∧ y.cls ≠ "java/lang/invoke/MethodHandle" ∧ y.cls ≠ "java/lang/invoke/VarHandle" ∧ (parseMethodDescriptor y.desc).map (fun d => d.parameters.length) = some n
def VL (own : String) (idx : Nat) (y : MethodName) (n : Nat) : Prop := MLk own idx y n ∧ Cond.instanceMethod y ∈ lw_g ∧ Cond.selects y.cls y y ∈ lw_g
def SL (own : String) (idx : Nat) (y : MethodName) (n : Nat) : Prop := MLk own idx y n ∧ Cond.static y ∈ lw_g
theorem layX0_0 : u_lay RX0 TX0 0 ∈ lw_g := mgT 100 (by decide +kernel) rfl
theorem layX0_1 : u_lay RX0 TX0 1 ∈ lw_g := mgT 102 (by decide +kernel) rfl
theorem layX0_2 : u_lay RX0 TX0 2 ∈ lw_g := mgT 104 (by decide +kernel) rfl
theorem layX0_3 : u_lay RX0 TX0 3 ∈ lw_g := mgT 106 (by decide +kernel) rfl
theorem layX0_4 : u_lay RX0 TX0 4 ∈ lw_g := mgT 108 (by decide +kernel) rfl
theorem layX0_5 : u_lay RX0 TX0 5 ∈ lw_g := mgT 110 (by decide +kernel) rfl
theorem layX0_6 : u_lay RX0 TX0 6 ∈ lw_g := mgT 112 (by decide +kernel) rfl
theorem layX0_7 : u_lay RX0 TX0 7 ∈ lw_g := mgT 114 (by decide +kernel) rfl
theorem inX0 : ∀ w ∈ u_ws RX0 TX0 8, w ∈ lw_g := by
  show ∀ w ∈ [u_lay RX0 TX0 0, u_lay RX0 TX0 1, u_lay RX0 TX0 2, u_lay RX0 TX0 3, u_lay RX0 TX0 4, u_lay RX0 TX0 5, u_lay RX0 TX0 6, u_lay RX0 TX0 7], w ∈ lw_g
  exact List.forall_mem_cons.mpr ⟨layX0_0, List.forall_mem_cons.mpr ⟨layX0_1, List.forall_mem_cons.mpr ⟨layX0_2, List.forall_mem_cons.mpr ⟨layX0_3, List.forall_mem_cons.mpr ⟨layX0_4, List.forall_mem_cons.mpr ⟨layX0_5, List.forall_mem_cons.mpr ⟨layX0_6, List.forall_mem_cons.mpr ⟨layX0_7, fun _ h => absurd h List.not_mem_nil⟩⟩⟩⟩⟩⟩⟩⟩
theorem layX1_0 : u_lay RX1 TX1 0 ∈ lw_g := mgT 228 (by decide +kernel) rfl
theorem layX1_1 : u_lay RX1 TX1 1 ∈ lw_g := mgT 230 (by decide +kernel) rfl
theorem layX1_2 : u_lay RX1 TX1 2 ∈ lw_g := mgT 232 (by decide +kernel) rfl
theorem inX1 : ∀ w ∈ u_ws RX1 TX1 3, w ∈ lw_g := by
  show ∀ w ∈ [u_lay RX1 TX1 0, u_lay RX1 TX1 1, u_lay RX1 TX1 2], w ∈ lw_g
  exact List.forall_mem_cons.mpr ⟨layX1_0, List.forall_mem_cons.mpr ⟨layX1_1, List.forall_mem_cons.mpr ⟨layX1_2, fun _ h => absurd h List.not_mem_nil⟩⟩⟩
theorem layX2_0 : u_lay RX2 TX2 0 ∈ lw_g := mgT 58 (by decide +kernel) rfl
theorem layX2_1 : u_lay RX2 TX2 1 ∈ lw_g := mgT 60 (by decide +kernel) rfl
theorem inX2 : ∀ w ∈ u_ws RX2 TX2 2, w ∈ lw_g := by
  show ∀ w ∈ [u_lay RX2 TX2 0, u_lay RX2 TX2 1], w ∈ lw_g
  exact List.forall_mem_cons.mpr ⟨layX2_0, List.forall_mem_cons.mpr ⟨layX2_1, fun _ h => absurd h List.not_mem_nil⟩⟩
theorem layX3_0 : u_lay RX3 TX3 0 ∈ lw_g := mgT 133 (by decide +kernel) rfl
theorem layX3_1 : u_lay RX3 TX3 1 ∈ lw_g := mgT 135 (by decide +kernel) rfl
theorem layX3_2 : u_lay RX3 TX3 2 ∈ lw_g := mgT 137 (by decide +kernel) rfl
theorem layX3_3 : u_lay RX3 TX3 3 ∈ lw_g := mgT 139 (by decide +kernel) rfl
theorem layX3_4 : u_lay RX3 TX3 4 ∈ lw_g := mgT 141 (by decide +kernel) rfl
theorem inX3 : ∀ w ∈ u_ws RX3 TX3 5, w ∈ lw_g := by
  show ∀ w ∈ [u_lay RX3 TX3 0, u_lay RX3 TX3 1, u_lay RX3 TX3 2, u_lay RX3 TX3 3, u_lay RX3 TX3 4], w ∈ lw_g
  exact List.forall_mem_cons.mpr ⟨layX3_0, List.forall_mem_cons.mpr ⟨layX3_1, List.forall_mem_cons.mpr ⟨layX3_2, List.forall_mem_cons.mpr ⟨layX3_3, List.forall_mem_cons.mpr ⟨layX3_4, fun _ h => absurd h List.not_mem_nil⟩⟩⟩⟩⟩
theorem layX4_0 : u_lay RX4 TX4 0 ∈ lw_g := mgT 209 (by decide +kernel) rfl
theorem layX4_1 : u_lay RX4 TX4 1 ∈ lw_g := mgT 211 (by decide +kernel) rfl
theorem layX4_2 : u_lay RX4 TX4 2 ∈ lw_g := mgT 213 (by decide +kernel) rfl
theorem layX4_3 : u_lay RX4 TX4 3 ∈ lw_g := mgT 215 (by decide +kernel) rfl
theorem inX4 : ∀ w ∈ u_ws RX4 TX4 4, w ∈ lw_g := by
  show ∀ w ∈ [u_lay RX4 TX4 0, u_lay RX4 TX4 1, u_lay RX4 TX4 2, u_lay RX4 TX4 3], w ∈ lw_g
  exact List.forall_mem_cons.mpr ⟨layX4_0, List.forall_mem_cons.mpr ⟨layX4_1, List.forall_mem_cons.mpr ⟨layX4_2, List.forall_mem_cons.mpr ⟨layX4_3, fun _ h => absurd h List.not_mem_nil⟩⟩⟩⟩
theorem layX5_0 : u_lay RX5 TX5 0 ∈ lw_g := mgT 180 (by decide +kernel) rfl
theorem layX5_1 : u_lay RX5 TX5 1 ∈ lw_g := mgT 182 (by decide +kernel) rfl
theorem layX5_2 : u_lay RX5 TX5 2 ∈ lw_g := mgT 184 (by decide +kernel) rfl
theorem layX5_3 : u_lay RX5 TX5 3 ∈ lw_g := mgT 186 (by decide +kernel) rfl
theorem inX5 : ∀ w ∈ u_ws RX5 TX5 4, w ∈ lw_g := by
  show ∀ w ∈ [u_lay RX5 TX5 0, u_lay RX5 TX5 1, u_lay RX5 TX5 2, u_lay RX5 TX5 3], w ∈ lw_g
  exact List.forall_mem_cons.mpr ⟨layX5_0, List.forall_mem_cons.mpr ⟨layX5_1, List.forall_mem_cons.mpr ⟨layX5_2, List.forall_mem_cons.mpr ⟨layX5_3, fun _ h => absurd h List.not_mem_nil⟩⟩⟩⟩
theorem layX6_0 : u_lay RX6 TX6 0 ∈ lw_g := mgT 157 (by decide +kernel) rfl
theorem layX6_1 : u_lay RX6 TX6 1 ∈ lw_g := mgT 159 (by decide +kernel) rfl
theorem layX6_2 : u_lay RX6 TX6 2 ∈ lw_g := mgT 161 (by decide +kernel) rfl
theorem layX6_3 : u_lay RX6 TX6 3 ∈ lw_g := mgT 163 (by decide +kernel) rfl
theorem layX6_4 : u_lay RX6 TX6 4 ∈ lw_g := mgT 165 (by decide +kernel) rfl
theorem layX6_5 : u_lay RX6 TX6 5 ∈ lw_g := mgT 167 (by decide +kernel) rfl
theorem inX6 : ∀ w ∈ u_ws RX6 TX6 6, w ∈ lw_g := by
  show ∀ w ∈ [u_lay RX6 TX6 0, u_lay RX6 TX6 1, u_lay RX6 TX6 2, u_lay RX6 TX6 3, u_lay RX6 TX6 4, u_lay RX6 TX6 5], w ∈ lw_g
  exact List.forall_mem_cons.mpr ⟨layX6_0, List.forall_mem_cons.mpr ⟨layX6_1, List.forall_mem_cons.mpr ⟨layX6_2, List.forall_mem_cons.mpr ⟨layX6_3, List.forall_mem_cons.mpr ⟨layX6_4, List.forall_mem_cons.mpr ⟨layX6_5, fun _ h => absurd h List.not_mem_nil⟩⟩⟩⟩⟩⟩
theorem layX7_0 : u_lay RX7 TX7 0 ∈ lw_g := mgT 196 (by decide +kernel) rfl
theorem inX7 : ∀ w ∈ u_ws RX7 TX7 1, w ∈ lw_g := by
  show ∀ w ∈ [u_lay RX7 TX7 0], w ∈ lw_g
  exact List.forall_mem_cons.mpr ⟨layX7_0, fun _ h => absurd h List.not_mem_nil⟩
theorem layX8_0 : u_lay RX8 TX8 0 ∈ lw_g := mgT 247 (by decide +kernel) rfl
theorem layX8_1 : u_lay RX8 TX8 1 ∈ lw_g := mgT 249 (by decide +kernel) rfl
theorem layX8_2 : u_lay RX8 TX8 2 ∈ lw_g := mgT 251 (by decide +kernel) rfl
theorem layX8_3 : u_lay RX8 TX8 3 ∈ lw_g := mgT 253 (by decide +kernel) rfl
theorem layX8_4 : u_lay RX8 TX8 4 ∈ lw_g := mgT 255 (by decide +kernel) rfl
theorem inX8 : ∀ w ∈ u_ws RX8 TX8 5, w ∈ lw_g := by
  show ∀ w ∈ [u_lay RX8 TX8 0, u_lay RX8 TX8 1, u_lay RX8 TX8 2, u_lay RX8 TX8 3, u_lay RX8 TX8 4], w ∈ lw_g
  exact List.forall_mem_cons.mpr ⟨layX8_0, List.forall_mem_cons.mpr ⟨layX8_1, List.forall_mem_cons.mpr ⟨layX8_2, List.forall_mem_cons.mpr ⟨layX8_3, List.forall_mem_cons.mpr ⟨layX8_4, fun _ h => absurd h List.not_mem_nil⟩⟩⟩⟩⟩
theorem layX9_0 : u_lay RX9 TX9 0 ∈ lw_g := mgT 42 (by decide +kernel) rfl
theorem layX9_1 : u_lay RX9 TX9 1 ∈ lw_g := mgT 44 (by decide +kernel) rfl
theorem inX9 : ∀ w ∈ u_ws RX9 TX9 2, w ∈ lw_g := by
  show ∀ w ∈ [u_lay RX9 TX9 0, u_lay RX9 TX9 1], w ∈ lw_g
  exact List.forall_mem_cons.mpr ⟨layX9_0, List.forall_mem_cons.mpr ⟨layX9_1, fun _ h => absurd h List.not_mem_nil⟩⟩
theorem layX10_0 : u_lay RX10 TX10 0 ∈ lw_g := mgT 405 (by decide +kernel) rfl
theorem layX10_1 : u_lay RX10 TX10 1 ∈ lw_g := mgT 407 (by decide +kernel) rfl
theorem layX10_2 : u_lay RX10 TX10 2 ∈ lw_g := mgT 409 (by decide +kernel) rfl
theorem layX10_3 : u_lay RX10 TX10 3 ∈ lw_g := mgT 411 (by decide +kernel) rfl
theorem layX10_4 : u_lay RX10 TX10 4 ∈ lw_g := mgT 413 (by decide +kernel) rfl
theorem layX10_5 : u_lay RX10 TX10 5 ∈ lw_g := mgT 415 (by decide +kernel) rfl
theorem layX10_6 : u_lay RX10 TX10 6 ∈ lw_g := mgT 417 (by decide +kernel) rfl
theorem layX10_7 : u_lay RX10 TX10 7 ∈ lw_g := mgT 419 (by decide +kernel) rfl
theorem layX10_8 : u_lay RX10 TX10 8 ∈ lw_g := mgT 421 (by decide +kernel) rfl
theorem layX10_9 : u_lay RX10 TX10 9 ∈ lw_g := mgT 423 (by decide +kernel) rfl
theorem layX10_10 : u_lay RX10 TX10 10 ∈ lw_g := mgT 425 (by decide +kernel) rfl
theorem layX10_11 : u_lay RX10 TX10 11 ∈ lw_g := mgT 427 (by decide +kernel) rfl
theorem layX10_12 : u_lay RX10 TX10 12 ∈ lw_g := mgT 429 (by decide +kernel) rfl
theorem inX10 : ∀ w ∈ u_ws RX10 TX10 13, w ∈ lw_g := by
  show ∀ w ∈ [u_lay RX10 TX10 0, u_lay RX10 TX10 1, u_lay RX10 TX10 2, u_lay RX10 TX10 3, u_lay RX10 TX10 4, u_lay RX10 TX10 5, u_lay RX10 TX10 6, u_lay RX10 TX10 7, u_lay RX10 TX10 8, u_lay RX10 TX10 9, u_lay RX10 TX10 10, u_lay RX10 TX10 11, u_lay RX10 TX10 12], w ∈ lw_g
  exact List.forall_mem_cons.mpr ⟨layX10_0, List.forall_mem_cons.mpr ⟨layX10_1, List.forall_mem_cons.mpr ⟨layX10_2, List.forall_mem_cons.mpr ⟨layX10_3, List.forall_mem_cons.mpr ⟨layX10_4, List.forall_mem_cons.mpr ⟨layX10_5, List.forall_mem_cons.mpr ⟨layX10_6, List.forall_mem_cons.mpr ⟨layX10_7, List.forall_mem_cons.mpr ⟨layX10_8, List.forall_mem_cons.mpr ⟨layX10_9, List.forall_mem_cons.mpr ⟨layX10_10, List.forall_mem_cons.mpr ⟨layX10_11, List.forall_mem_cons.mpr ⟨layX10_12, fun _ h => absurd h List.not_mem_nil⟩⟩⟩⟩⟩⟩⟩⟩⟩⟩⟩⟩⟩
theorem layX11_0 : u_lay RX11 TX11 0 ∈ lw_g := mgT 1121 (by decide +kernel) rfl
theorem layX11_1 : u_lay RX11 TX11 1 ∈ lw_g := mgT 1123 (by decide +kernel) rfl
theorem layX11_2 : u_lay RX11 TX11 2 ∈ lw_g := mgT 1125 (by decide +kernel) rfl
theorem layX11_3 : u_lay RX11 TX11 3 ∈ lw_g := mgT 1127 (by decide +kernel) rfl
theorem layX11_4 : u_lay RX11 TX11 4 ∈ lw_g := mgT 1129 (by decide +kernel) rfl
theorem layX11_5 : u_lay RX11 TX11 5 ∈ lw_g := mgT 1131 (by decide +kernel) rfl
theorem layX11_6 : u_lay RX11 TX11 6 ∈ lw_g := mgT 1133 (by decide +kernel) rfl
theorem layX11_7 : u_lay RX11 TX11 7 ∈ lw_g := mgT 1135 (by decide +kernel) rfl
theorem layX11_8 : u_lay RX11 TX11 8 ∈ lw_g := mgT 1137 (by decide +kernel) rfl
theorem layX11_9 : u_lay RX11 TX11 9 ∈ lw_g := mgT 1139 (by decide +kernel) rfl
theorem layX11_10 : u_lay RX11 TX11 10 ∈ lw_g := mgT 1141 (by decide +kernel) rfl
theorem layX11_11 : u_lay RX11 TX11 11 ∈ lw_g := mgT 1143 (by decide +kernel) rfl
theorem layX11_12 : u_lay RX11 TX11 12 ∈ lw_g := mgT 1145 (by decide +kernel) rfl
theorem layX11_13 : u_lay RX11 TX11 13 ∈ lw_g := mgT 1147 (by decide +kernel) rfl
theorem layX11_14 : u_lay RX11 TX11 14 ∈ lw_g := mgT 1149 (by decide +kernel) rfl
theorem layX11_15 : u_lay RX11 TX11 15 ∈ lw_g := mgT 1151 (by decide +kernel) rfl
theorem layX11_16 : u_lay RX11 TX11 16 ∈ lw_g := mgT 1153 (by decide +kernel) rfl
theorem layX11_17 : u_lay RX11 TX11 17 ∈ lw_g := mgT 1155 (by decide +kernel) rfl
theorem layX11_18 : u_lay RX11 TX11 18 ∈ lw_g := mgT 1157 (by decide +kernel) rfl
theorem layX11_19 : u_lay RX11 TX11 19 ∈ lw_g := mgT 1159 (by decide +kernel) rfl
theorem layX11_20 : u_lay RX11 TX11 20 ∈ lw_g := mgT 1161 (by decide +kernel) rfl
theorem layX11_21 : u_lay RX11 TX11 21 ∈ lw_g := mgT 1163 (by decide +kernel) rfl
theorem layX11_22 : u_lay RX11 TX11 22 ∈ lw_g := mgT 1165 (by decide +kernel) rfl
theorem layX11_23 : u_lay RX11 TX11 23 ∈ lw_g := mgT 1167 (by decide +kernel) rfl
theorem layX11_24 : u_lay RX11 TX11 24 ∈ lw_g := mgT 1169 (by decide +kernel) rfl
theorem layX11_25 : u_lay RX11 TX11 25 ∈ lw_g := mgT 1171 (by decide +kernel) rfl
theorem layX11_26 : u_lay RX11 TX11 26 ∈ lw_g := mgT 1173 (by decide +kernel) rfl
theorem layX11_27 : u_lay RX11 TX11 27 ∈ lw_g := mgT 1175 (by decide +kernel) rfl
theorem layX11_28 : u_lay RX11 TX11 28 ∈ lw_g := mgT 1177 (by decide +kernel) rfl
theorem layX11_29 : u_lay RX11 TX11 29 ∈ lw_g := mgT 1179 (by decide +kernel) rfl
theorem layX11_30 : u_lay RX11 TX11 30 ∈ lw_g := mgT 1181 (by decide +kernel) rfl
theorem layX11_31 : u_lay RX11 TX11 31 ∈ lw_g := mgT 1183 (by decide +kernel) rfl
theorem layX11_32 : u_lay RX11 TX11 32 ∈ lw_g := mgT 1185 (by decide +kernel) rfl
theorem layX11_33 : u_lay RX11 TX11 33 ∈ lw_g := mgT 1187 (by decide +kernel) rfl
theorem layX11_34 : u_lay RX11 TX11 34 ∈ lw_g := mgT 1189 (by decide +kernel) rfl
theorem layX11_35 : u_lay RX11 TX11 35 ∈ lw_g := mgT 1191 (by decide +kernel) rfl
theorem layX11_36 : u_lay RX11 TX11 36 ∈ lw_g := mgT 1193 (by decide +kernel) rfl
theorem layX11_37 : u_lay RX11 TX11 37 ∈ lw_g := mgT 1195 (by decide +kernel) rfl
theorem layX11_38 : u_lay RX11 TX11 38 ∈ lw_g := mgT 1197 (by decide +kernel) rfl
theorem layX11_39 : u_lay RX11 TX11 39 ∈ lw_g := mgT 1199 (by decide +kernel) rfl
theorem layX11_40 : u_lay RX11 TX11 40 ∈ lw_g := mgT 1201 (by decide +kernel) rfl
theorem inX11 : ∀ w ∈ u_ws RX11 TX11 41, w ∈ lw_g := by
  show ∀ w ∈ [u_lay RX11 TX11 0, u_lay RX11 TX11 1, u_lay RX11 TX11 2, u_lay RX11 TX11 3, u_lay RX11 TX11 4, u_lay RX11 TX11 5, u_lay RX11 TX11 6, u_lay RX11 TX11 7, u_lay RX11 TX11 8, u_lay RX11 TX11 9, u_lay RX11 TX11 10, u_lay RX11 TX11 11, u_lay RX11 TX11 12, u_lay RX11 TX11 13, u_lay RX11 TX11 14, u_lay RX11 TX11 15, u_lay RX11 TX11 16, u_lay RX11 TX11 17, u_lay RX11 TX11 18, u_lay RX11 TX11 19, u_lay RX11 TX11 20, u_lay RX11 TX11 21, u_lay RX11 TX11 22, u_lay RX11 TX11 23, u_lay RX11 TX11 24, u_lay RX11 TX11 25, u_lay RX11 TX11 26, u_lay RX11 TX11 27, u_lay RX11 TX11 28, u_lay RX11 TX11 29, u_lay RX11 TX11 30, u_lay RX11 TX11 31, u_lay RX11 TX11 32, u_lay RX11 TX11 33, u_lay RX11 TX11 34, u_lay RX11 TX11 35, u_lay RX11 TX11 36, u_lay RX11 TX11 37, u_lay RX11 TX11 38, u_lay RX11 TX11 39, u_lay RX11 TX11 40], w ∈ lw_g
  exact List.forall_mem_cons.mpr ⟨layX11_0, List.forall_mem_cons.mpr ⟨layX11_1, List.forall_mem_cons.mpr ⟨layX11_2, List.forall_mem_cons.mpr ⟨layX11_3, List.forall_mem_cons.mpr ⟨layX11_4, List.forall_mem_cons.mpr ⟨layX11_5, List.forall_mem_cons.mpr ⟨layX11_6, List.forall_mem_cons.mpr ⟨layX11_7, List.forall_mem_cons.mpr ⟨layX11_8, List.forall_mem_cons.mpr ⟨layX11_9, List.forall_mem_cons.mpr ⟨layX11_10, List.forall_mem_cons.mpr ⟨layX11_11, List.forall_mem_cons.mpr ⟨layX11_12, List.forall_mem_cons.mpr ⟨layX11_13, List.forall_mem_cons.mpr ⟨layX11_14, List.forall_mem_cons.mpr ⟨layX11_15, List.forall_mem_cons.mpr ⟨layX11_16, List.forall_mem_cons.mpr ⟨layX11_17, List.forall_mem_cons.mpr ⟨layX11_18, List.forall_mem_cons.mpr ⟨layX11_19, List.forall_mem_cons.mpr ⟨layX11_20, List.forall_mem_cons.mpr ⟨layX11_21, List.forall_mem_cons.mpr ⟨layX11_22, List.forall_mem_cons.mpr ⟨layX11_23, List.forall_mem_cons.mpr ⟨layX11_24, List.forall_mem_cons.mpr ⟨layX11_25, List.forall_mem_cons.mpr ⟨layX11_26, List.forall_mem_cons.mpr ⟨layX11_27, List.forall_mem_cons.mpr ⟨layX11_28, List.forall_mem_cons.mpr ⟨layX11_29, List.forall_mem_cons.mpr ⟨layX11_30, List.forall_mem_cons.mpr ⟨layX11_31, List.forall_mem_cons.mpr ⟨layX11_32, List.forall_mem_cons.mpr ⟨layX11_33, List.forall_mem_cons.mpr ⟨layX11_34, List.forall_mem_cons.mpr ⟨layX11_35, List.forall_mem_cons.mpr ⟨layX11_36, List.forall_mem_cons.mpr ⟨layX11_37, List.forall_mem_cons.mpr ⟨layX11_38, List.forall_mem_cons.mpr ⟨layX11_39, List.forall_mem_cons.mpr ⟨layX11_40, fun _ h => absurd h List.not_mem_nil⟩⟩⟩⟩⟩⟩⟩⟩⟩⟩⟩⟩⟩⟩⟩⟩⟩⟩⟩⟩⟩⟩⟩⟩⟩⟩⟩⟩⟩⟩⟩⟩⟩⟩⟩⟩⟩⟩⟩⟩⟩
theorem ini_L : Cond.initialized RL ∈ lw_g := mgT 0 (by decide +kernel) rfl
theorem ini_X10 : Cond.initialized RX10 ∈ lw_g := mgT 1 (by decide +kernel) rfl
theorem ini_X9 : Cond.initialized RX9 ∈ lw_g := mgT 2 (by decide +kernel) rfl
theorem ini_X2 : Cond.initialized RX2 ∈ lw_g := mgT 3 (by decide +kernel) rfl
theorem ini_X0 : Cond.initialized RX0 ∈ lw_g := mgT 4 (by decide +kernel) rfl
theorem ini_X3 : Cond.initialized RX3 ∈ lw_g := mgT 5 (by decide +kernel) rfl
theorem ini_X6 : Cond.initialized RX6 ∈ lw_g := mgT 6 (by decide +kernel) rfl
theorem ini_X5 : Cond.initialized RX5 ∈ lw_g := mgT 7 (by decide +kernel) rfl
theorem ini_X7 : Cond.initialized RX7 ∈ lw_g := mgT 8 (by decide +kernel) rfl
theorem ini_X4 : Cond.initialized RX4 ∈ lw_g := mgT 9 (by decide +kernel) rfl
theorem ini_X1 : Cond.initialized RX1 ∈ lw_g := mgT 10 (by decide +kernel) rfl
theorem ini_X8 : Cond.initialized RX8 ∈ lw_g := mgT 11 (by decide +kernel) rfl
theorem ini_J9 : Cond.initialized RJ9 ∈ lw_g := mgT 12 (by decide +kernel) rfl
theorem ini_J0 : Cond.initialized RJ0 ∈ lw_g := mgT 13 (by decide +kernel) rfl
theorem ini_J1 : Cond.initialized RJ1 ∈ lw_g := mgT 14 (by decide +kernel) rfl
theorem ini_J2 : Cond.initialized RJ2 ∈ lw_g := mgT 15 (by decide +kernel) rfl
theorem ini_J3 : Cond.initialized RJ3 ∈ lw_g := mgT 16 (by decide +kernel) rfl
theorem ini_J11 : Cond.initialized RJ11 ∈ lw_g := mgT 17 (by decide +kernel) rfl
theorem ini_X11 : Cond.initialized RX11 ∈ lw_g := mgT 18 (by decide +kernel) rfl
theorem ini_J6 : Cond.initialized RJ6 ∈ lw_g := mgT 23 (by decide +kernel) rfl
theorem frX9_9 : FR RX9 9 9 RX9 TX9 2 tyX9 0 := ⟨rfl, by decide, inX9, tyX9_ok, nmX9, rfl, Or.inl (mgT 38 (by decide +kernel) rfl)⟩
theorem frX10_145 : FR RX10 145 9 RX9 TX9 2 tyX9 0 := ⟨rfl, by decide, inX9, tyX9_ok, nmX9, rfl, Or.inr ⟨"BellForWanted", mgT 39 (by decide +kernel) rfl⟩⟩
theorem frX9_15 : FR RX9 15 9 RX9 TX9 2 tyX9 1 := ⟨rfl, by decide, inX9, tyX9_ok, nmX9, rfl, Or.inl (mgT 40 (by decide +kernel) rfl)⟩
theorem frX10_101 : FR RX10 101 9 RX9 TX9 2 tyX9 1 := ⟨rfl, by decide, inX9, tyX9_ok, nmX9, rfl, Or.inr ⟨"BellForWanted", mgT 41 (by decide +kernel) rfl⟩⟩
theorem frX2_7 : FR RX2 7 2 RX2 TX2 2 tyX2 0 := ⟨rfl, by decide, inX2, tyX2_ok, nmX2, rfl, Or.inl (mgT 54 (by decide +kernel) rfl)⟩
theorem frX10_384 : FR RX10 384 2 RX2 TX2 2 tyX2 0 := ⟨rfl, by decide, inX2, tyX2_ok, nmX2, rfl, Or.inr ⟨"BellForWanted", mgT 55 (by decide +kernel) rfl⟩⟩
theorem frX2_13 : FR RX2 13 2 RX2 TX2 2 tyX2 1 := ⟨rfl, by decide, inX2, tyX2_ok, nmX2, rfl, Or.inl (mgT 56 (by decide +kernel) rfl)⟩
theorem frX10_383 : FR RX10 383 2 RX2 TX2 2 tyX2 1 := ⟨rfl, by decide, inX2, tyX2_ok, nmX2, rfl, Or.inr ⟨"BellForWanted", mgT 57 (by decide +kernel) rfl⟩⟩
theorem frX0_9 : FR RX0 9 0 RX0 TX0 8 tyX0 0 := ⟨rfl, by decide, inX0, tyX0_ok, nmX0, rfl, Or.inl (mgT 70 (by decide +kernel) rfl)⟩
theorem frX5_45 : FR RX5 45 0 RX0 TX0 8 tyX0 0 := ⟨rfl, by decide, inX0, tyX0_ok, nmX0, rfl, Or.inr ⟨"BellForWanted", mgT 71 (by decide +kernel) rfl⟩⟩
theorem frX1_51 : FR RX1 51 0 RX0 TX0 8 tyX0 0 := ⟨rfl, by decide, inX0, tyX0_ok, nmX0, rfl, Or.inr ⟨"BellForWanted", mgT 72 (by decide +kernel) rfl⟩⟩
theorem frX10_154 : FR RX10 154 0 RX0 TX0 8 tyX0 0 := ⟨rfl, by decide, inX0, tyX0_ok, nmX0, rfl, Or.inr ⟨"BellForWanted", mgT 73 (by decide +kernel) rfl⟩⟩
theorem frX0_15 : FR RX0 15 0 RX0 TX0 8 tyX0 1 := ⟨rfl, by decide, inX0, tyX0_ok, nmX0, rfl, Or.inl (mgT 74 (by decide +kernel) rfl)⟩
theorem frX5_30 : FR RX5 30 0 RX0 TX0 8 tyX0 1 := ⟨rfl, by decide, inX0, tyX0_ok, nmX0, rfl, Or.inr ⟨"BellForWanted", mgT 75 (by decide +kernel) rfl⟩⟩
theorem frX10_158 : FR RX10 158 0 RX0 TX0 8 tyX0 1 := ⟨rfl, by decide, inX0, tyX0_ok, nmX0, rfl, Or.inr ⟨"BellForWanted", mgT 76 (by decide +kernel) rfl⟩⟩
theorem frX0_18 : FR RX0 18 0 RX0 TX0 8 tyX0 2 := ⟨rfl, by decide, inX0, tyX0_ok, nmX0, rfl, Or.inl (mgT 77 (by decide +kernel) rfl)⟩
theorem frX5_53 : FR RX5 53 0 RX0 TX0 8 tyX0 2 := ⟨rfl, by decide, inX0, tyX0_ok, nmX0, rfl, Or.inr ⟨"BellForWanted", mgT 78 (by decide +kernel) rfl⟩⟩
theorem frX1_54 : FR RX1 54 0 RX0 TX0 8 tyX0 2 := ⟨rfl, by decide, inX0, tyX0_ok, nmX0, rfl, Or.inr ⟨"BellForWanted", mgT 79 (by decide +kernel) rfl⟩⟩
theorem frX10_161 : FR RX10 161 0 RX0 TX0 8 tyX0 2 := ⟨rfl, by decide, inX0, tyX0_ok, nmX0, rfl, Or.inr ⟨"BellForWanted", mgT 80 (by decide +kernel) rfl⟩⟩
theorem frX0_21 : FR RX0 21 0 RX0 TX0 8 tyX0 3 := ⟨rfl, by decide, inX0, tyX0_ok, nmX0, rfl, Or.inl (mgT 81 (by decide +kernel) rfl)⟩
theorem frX10_164 : FR RX10 164 0 RX0 TX0 8 tyX0 3 := ⟨rfl, by decide, inX0, tyX0_ok, nmX0, rfl, Or.inr ⟨"BellForWanted", mgT 82 (by decide +kernel) rfl⟩⟩
theorem frX0_24 : FR RX0 24 0 RX0 TX0 8 tyX0 4 := ⟨rfl, by decide, inX0, tyX0_ok, nmX0, rfl, Or.inl (mgT 83 (by decide +kernel) rfl)⟩
theorem frX7_30 : FR RX7 30 0 RX0 TX0 8 tyX0 4 := ⟨rfl, by decide, inX0, tyX0_ok, nmX0, rfl, Or.inr ⟨"BellForWanted", mgT 84 (by decide +kernel) rfl⟩⟩
theorem frX4_47 : FR RX4 47 0 RX0 TX0 8 tyX0 4 := ⟨rfl, by decide, inX0, tyX0_ok, nmX0, rfl, Or.inr ⟨"BellForWanted", mgT 85 (by decide +kernel) rfl⟩⟩
theorem frX5_59 : FR RX5 59 0 RX0 TX0 8 tyX0 4 := ⟨rfl, by decide, inX0, tyX0_ok, nmX0, rfl, Or.inr ⟨"BellForWanted", mgT 86 (by decide +kernel) rfl⟩⟩
theorem frX1_57 : FR RX1 57 0 RX0 TX0 8 tyX0 4 := ⟨rfl, by decide, inX0, tyX0_ok, nmX0, rfl, Or.inr ⟨"BellForWanted", mgT 87 (by decide +kernel) rfl⟩⟩
theorem frX10_167 : FR RX10 167 0 RX0 TX0 8 tyX0 4 := ⟨rfl, by decide, inX0, tyX0_ok, nmX0, rfl, Or.inr ⟨"BellForWanted", mgT 88 (by decide +kernel) rfl⟩⟩
theorem frX0_27 : FR RX0 27 0 RX0 TX0 8 tyX0 5 := ⟨rfl, by decide, inX0, tyX0_ok, nmX0, rfl, Or.inl (mgT 89 (by decide +kernel) rfl)⟩
theorem frX7_24 : FR RX7 24 0 RX0 TX0 8 tyX0 5 := ⟨rfl, by decide, inX0, tyX0_ok, nmX0, rfl, Or.inr ⟨"BellForWanted", mgT 90 (by decide +kernel) rfl⟩⟩
theorem frX4_38 : FR RX4 38 0 RX0 TX0 8 tyX0 5 := ⟨rfl, by decide, inX0, tyX0_ok, nmX0, rfl, Or.inr ⟨"BellForWanted", mgT 91 (by decide +kernel) rfl⟩⟩
theorem frX10_107 : FR RX10 107 0 RX0 TX0 8 tyX0 5 := ⟨rfl, by decide, inX0, tyX0_ok, nmX0, rfl, Or.inr ⟨"BellForWanted", mgT 92 (by decide +kernel) rfl⟩⟩
theorem frX5_25 : FR RX5 25 0 RX0 TX0 8 tyX0 5 := ⟨rfl, by decide, inX0, tyX0_ok, nmX0, rfl, Or.inr ⟨"BellForWanted", mgT 93 (by decide +kernel) rfl⟩⟩
theorem frX1_40 : FR RX1 40 0 RX0 TX0 8 tyX0 5 := ⟨rfl, by decide, inX0, tyX0_ok, nmX0, rfl, Or.inr ⟨"BellForWanted", mgT 94 (by decide +kernel) rfl⟩⟩
theorem frX0_31 : FR RX0 31 0 RX0 TX0 8 tyX0 6 := ⟨rfl, by decide, inX0, tyX0_ok, nmX0, rfl, Or.inl (mgT 95 (by decide +kernel) rfl)⟩
theorem frX5_56 : FR RX5 56 0 RX0 TX0 8 tyX0 6 := ⟨rfl, by decide, inX0, tyX0_ok, nmX0, rfl, Or.inr ⟨"BellForWanted", mgT 96 (by decide +kernel) rfl⟩⟩
theorem frX10_377 : FR RX10 377 0 RX0 TX0 8 tyX0 6 := ⟨rfl, by decide, inX0, tyX0_ok, nmX0, rfl, Or.inr ⟨"BellForWanted", mgT 97 (by decide +kernel) rfl⟩⟩
theorem frX0_34 : FR RX0 34 0 RX0 TX0 8 tyX0 7 := ⟨rfl, by decide, inX0, tyX0_ok, nmX0, rfl, Or.inl (mgT 98 (by decide +kernel) rfl)⟩
theorem frX10_189 : FR RX10 189 0 RX0 TX0 8 tyX0 7 := ⟨rfl, by decide, inX0, tyX0_ok, nmX0, rfl, Or.inr ⟨"BellForWanted", mgT 99 (by decide +kernel) rfl⟩⟩
theorem frX3_11 : FR RX3 11 3 RX3 TX3 5 tyX3 0 := ⟨rfl, by decide, inX3, tyX3_ok, nmX3, rfl, Or.inl (mgT 127 (by decide +kernel) rfl)⟩
theorem frX3_15 : FR RX3 15 3 RX3 TX3 5 tyX3 1 := ⟨rfl, by decide, inX3, tyX3_ok, nmX3, rfl, Or.inl (mgT 128 (by decide +kernel) rfl)⟩
theorem frX3_18 : FR RX3 18 3 RX3 TX3 5 tyX3 2 := ⟨rfl, by decide, inX3, tyX3_ok, nmX3, rfl, Or.inl (mgT 129 (by decide +kernel) rfl)⟩
theorem frX3_22 : FR RX3 22 3 RX3 TX3 5 tyX3 3 := ⟨rfl, by decide, inX3, tyX3_ok, nmX3, rfl, Or.inl (mgT 130 (by decide +kernel) rfl)⟩
theorem frX3_26 : FR RX3 26 3 RX3 TX3 5 tyX3 4 := ⟨rfl, by decide, inX3, tyX3_ok, nmX3, rfl, Or.inl (mgT 131 (by decide +kernel) rfl)⟩
theorem frX10_233 : FR RX10 233 3 RX3 TX3 5 tyX3 4 := ⟨rfl, by decide, inX3, tyX3_ok, nmX3, rfl, Or.inr ⟨"BellForWanted", mgT 132 (by decide +kernel) rfl⟩⟩
theorem frX6_9 : FR RX6 9 6 RX6 TX6 6 tyX6 0 := ⟨rfl, by decide, inX6, tyX6_ok, nmX6, rfl, Or.inl (mgT 151 (by decide +kernel) rfl)⟩
theorem frX6_15 : FR RX6 15 6 RX6 TX6 6 tyX6 1 := ⟨rfl, by decide, inX6, tyX6_ok, nmX6, rfl, Or.inl (mgT 152 (by decide +kernel) rfl)⟩
theorem frX6_19 : FR RX6 19 6 RX6 TX6 6 tyX6 2 := ⟨rfl, by decide, inX6, tyX6_ok, nmX6, rfl, Or.inl (mgT 153 (by decide +kernel) rfl)⟩
theorem frX6_22 : FR RX6 22 6 RX6 TX6 6 tyX6 3 := ⟨rfl, by decide, inX6, tyX6_ok, nmX6, rfl, Or.inl (mgT 154 (by decide +kernel) rfl)⟩
theorem frX6_25 : FR RX6 25 6 RX6 TX6 6 tyX6 4 := ⟨rfl, by decide, inX6, tyX6_ok, nmX6, rfl, Or.inl (mgT 155 (by decide +kernel) rfl)⟩
theorem frX6_28 : FR RX6 28 6 RX6 TX6 6 tyX6 5 := ⟨rfl, by decide, inX6, tyX6_ok, nmX6, rfl, Or.inl (mgT 156 (by decide +kernel) rfl)⟩
theorem frX5_11 : FR RX5 11 5 RX5 TX5 4 tyX5 0 := ⟨rfl, by decide, inX5, tyX5_ok, nmX5, rfl, Or.inl (mgT 176 (by decide +kernel) rfl)⟩
theorem frX5_15 : FR RX5 15 5 RX5 TX5 4 tyX5 1 := ⟨rfl, by decide, inX5, tyX5_ok, nmX5, rfl, Or.inl (mgT 177 (by decide +kernel) rfl)⟩
theorem frX5_18 : FR RX5 18 5 RX5 TX5 4 tyX5 2 := ⟨rfl, by decide, inX5, tyX5_ok, nmX5, rfl, Or.inl (mgT 178 (by decide +kernel) rfl)⟩
theorem frX5_21 : FR RX5 21 5 RX5 TX5 4 tyX5 3 := ⟨rfl, by decide, inX5, tyX5_ok, nmX5, rfl, Or.inl (mgT 179 (by decide +kernel) rfl)⟩
theorem frX7_9 : FR RX7 9 7 RX7 TX7 1 tyX7 0 := ⟨rfl, by decide, inX7, tyX7_ok, nmX7, rfl, Or.inl (mgT 195 (by decide +kernel) rfl)⟩
theorem frX4_9 : FR RX4 9 4 RX4 TX4 4 tyX4 0 := ⟨rfl, by decide, inX4, tyX4_ok, nmX4, rfl, Or.inl (mgT 205 (by decide +kernel) rfl)⟩
theorem frX4_15 : FR RX4 15 4 RX4 TX4 4 tyX4 1 := ⟨rfl, by decide, inX4, tyX4_ok, nmX4, rfl, Or.inl (mgT 206 (by decide +kernel) rfl)⟩
theorem frX4_18 : FR RX4 18 4 RX4 TX4 4 tyX4 2 := ⟨rfl, by decide, inX4, tyX4_ok, nmX4, rfl, Or.inl (mgT 207 (by decide +kernel) rfl)⟩
theorem frX4_21 : FR RX4 21 4 RX4 TX4 4 tyX4 3 := ⟨rfl, by decide, inX4, tyX4_ok, nmX4, rfl, Or.inl (mgT 208 (by decide +kernel) rfl)⟩
theorem frX1_11 : FR RX1 11 1 RX1 TX1 3 tyX1 0 := ⟨rfl, by decide, inX1, tyX1_ok, nmX1, rfl, Or.inl (mgT 224 (by decide +kernel) rfl)⟩
theorem frX1_15 : FR RX1 15 1 RX1 TX1 3 tyX1 1 := ⟨rfl, by decide, inX1, tyX1_ok, nmX1, rfl, Or.inl (mgT 225 (by decide +kernel) rfl)⟩
theorem frX1_18 : FR RX1 18 1 RX1 TX1 3 tyX1 2 := ⟨rfl, by decide, inX1, tyX1_ok, nmX1, rfl, Or.inl (mgT 226 (by decide +kernel) rfl)⟩
theorem frX10_314 : FR RX10 314 1 RX1 TX1 3 tyX1 2 := ⟨rfl, by decide, inX1, tyX1_ok, nmX1, rfl, Or.inr ⟨"BellForWanted", mgT 227 (by decide +kernel) rfl⟩⟩
theorem frX8_11 : FR RX8 11 8 RX8 TX8 5 tyX8 0 := ⟨rfl, by decide, inX8, tyX8_ok, nmX8, rfl, Or.inl (mgT 241 (by decide +kernel) rfl)⟩
theorem frX8_15 : FR RX8 15 8 RX8 TX8 5 tyX8 1 := ⟨rfl, by decide, inX8, tyX8_ok, nmX8, rfl, Or.inl (mgT 242 (by decide +kernel) rfl)⟩
theorem frX8_18 : FR RX8 18 8 RX8 TX8 5 tyX8 2 := ⟨rfl, by decide, inX8, tyX8_ok, nmX8, rfl, Or.inl (mgT 243 (by decide +kernel) rfl)⟩
theorem frX8_22 : FR RX8 22 8 RX8 TX8 5 tyX8 3 := ⟨rfl, by decide, inX8, tyX8_ok, nmX8, rfl, Or.inl (mgT 244 (by decide +kernel) rfl)⟩
theorem frX8_25 : FR RX8 25 8 RX8 TX8 5 tyX8 4 := ⟨rfl, by decide, inX8, tyX8_ok, nmX8, rfl, Or.inl (mgT 245 (by decide +kernel) rfl)⟩
theorem frX10_335 : FR RX10 335 8 RX8 TX8 5 tyX8 4 := ⟨rfl, by decide, inX8, tyX8_ok, nmX8, rfl, Or.inr ⟨"BellForWanted", mgT 246 (by decide +kernel) rfl⟩⟩
theorem frX10_12 : FR RX10 12 10 RX10 TX10 13 tyX10 0 := ⟨rfl, by decide, inX10, tyX10_ok, nmX10, rfl, Or.inl (mgT 392 (by decide +kernel) rfl)⟩
theorem frX10_19 : FR RX10 19 10 RX10 TX10 13 tyX10 1 := ⟨rfl, by decide, inX10, tyX10_ok, nmX10, rfl, Or.inl (mgT 393 (by decide +kernel) rfl)⟩
theorem frX10_26 : FR RX10 26 10 RX10 TX10 13 tyX10 2 := ⟨rfl, by decide, inX10, tyX10_ok, nmX10, rfl, Or.inl (mgT 394 (by decide +kernel) rfl)⟩
theorem frX10_30 : FR RX10 30 10 RX10 TX10 13 tyX10 3 := ⟨rfl, by decide, inX10, tyX10_ok, nmX10, rfl, Or.inl (mgT 395 (by decide +kernel) rfl)⟩
theorem frX10_36 : FR RX10 36 10 RX10 TX10 13 tyX10 4 := ⟨rfl, by decide, inX10, tyX10_ok, nmX10, rfl, Or.inl (mgT 396 (by decide +kernel) rfl)⟩
theorem frX10_43 : FR RX10 43 10 RX10 TX10 13 tyX10 5 := ⟨rfl, by decide, inX10, tyX10_ok, nmX10, rfl, Or.inl (mgT 397 (by decide +kernel) rfl)⟩
theorem frX10_50 : FR RX10 50 10 RX10 TX10 13 tyX10 6 := ⟨rfl, by decide, inX10, tyX10_ok, nmX10, rfl, Or.inl (mgT 398 (by decide +kernel) rfl)⟩
theorem frX10_54 : FR RX10 54 10 RX10 TX10 13 tyX10 7 := ⟨rfl, by decide, inX10, tyX10_ok, nmX10, rfl, Or.inl (mgT 399 (by decide +kernel) rfl)⟩
theorem frX10_60 : FR RX10 60 10 RX10 TX10 13 tyX10 8 := ⟨rfl, by decide, inX10, tyX10_ok, nmX10, rfl, Or.inl (mgT 400 (by decide +kernel) rfl)⟩
theorem frX10_67 : FR RX10 67 10 RX10 TX10 13 tyX10 9 := ⟨rfl, by decide, inX10, tyX10_ok, nmX10, rfl, Or.inl (mgT 401 (by decide +kernel) rfl)⟩
theorem frX10_74 : FR RX10 74 10 RX10 TX10 13 tyX10 10 := ⟨rfl, by decide, inX10, tyX10_ok, nmX10, rfl, Or.inl (mgT 402 (by decide +kernel) rfl)⟩
theorem frX10_81 : FR RX10 81 10 RX10 TX10 13 tyX10 11 := ⟨rfl, by decide, inX10, tyX10_ok, nmX10, rfl, Or.inl (mgT 403 (by decide +kernel) rfl)⟩
theorem frX10_85 : FR RX10 85 10 RX10 TX10 13 tyX10 12 := ⟨rfl, by decide, inX10, tyX10_ok, nmX10, rfl, Or.inl (mgT 404 (by decide +kernel) rfl)⟩
theorem frX11_9 : FR RX11 9 11 RX11 TX11 41 tyX11 0 := ⟨rfl, by decide, inX11, tyX11_ok, nmX11, rfl, Or.inl (mgT 1080 (by decide +kernel) rfl)⟩
theorem frX11_92 : FR RX11 92 11 RX11 TX11 41 tyX11 1 := ⟨rfl, by decide, inX11, tyX11_ok, nmX11, rfl, Or.inl (mgT 1081 (by decide +kernel) rfl)⟩
theorem frX11_13 : FR RX11 13 11 RX11 TX11 41 tyX11 2 := ⟨rfl, by decide, inX11, tyX11_ok, nmX11, rfl, Or.inl (mgT 1082 (by decide +kernel) rfl)⟩
theorem frX11_103 : FR RX11 103 11 RX11 TX11 41 tyX11 3 := ⟨rfl, by decide, inX11, tyX11_ok, nmX11, rfl, Or.inl (mgT 1083 (by decide +kernel) rfl)⟩
theorem frX11_17 : FR RX11 17 11 RX11 TX11 41 tyX11 4 := ⟨rfl, by decide, inX11, tyX11_ok, nmX11, rfl, Or.inl (mgT 1084 (by decide +kernel) rfl)⟩
theorem frX11_89 : FR RX11 89 11 RX11 TX11 41 tyX11 5 := ⟨rfl, by decide, inX11, tyX11_ok, nmX11, rfl, Or.inl (mgT 1085 (by decide +kernel) rfl)⟩
theorem frX11_85 : FR RX11 85 11 RX11 TX11 41 tyX11 6 := ⟨rfl, by decide, inX11, tyX11_ok, nmX11, rfl, Or.inl (mgT 1086 (by decide +kernel) rfl)⟩
theorem frX11_106 : FR RX11 106 11 RX11 TX11 41 tyX11 7 := ⟨rfl, by decide, inX11, tyX11_ok, nmX11, rfl, Or.inl (mgT 1087 (by decide +kernel) rfl)⟩
theorem frX11_109 : FR RX11 109 11 RX11 TX11 41 tyX11 8 := ⟨rfl, by decide, inX11, tyX11_ok, nmX11, rfl, Or.inl (mgT 1088 (by decide +kernel) rfl)⟩
theorem frX11_112 : FR RX11 112 11 RX11 TX11 41 tyX11 9 := ⟨rfl, by decide, inX11, tyX11_ok, nmX11, rfl, Or.inl (mgT 1089 (by decide +kernel) rfl)⟩
theorem frX11_115 : FR RX11 115 11 RX11 TX11 41 tyX11 10 := ⟨rfl, by decide, inX11, tyX11_ok, nmX11, rfl, Or.inl (mgT 1090 (by decide +kernel) rfl)⟩
theorem frX11_118 : FR RX11 118 11 RX11 TX11 41 tyX11 11 := ⟨rfl, by decide, inX11, tyX11_ok, nmX11, rfl, Or.inl (mgT 1091 (by decide +kernel) rfl)⟩
theorem frX11_21 : FR RX11 21 11 RX11 TX11 41 tyX11 12 := ⟨rfl, by decide, inX11, tyX11_ok, nmX11, rfl, Or.inl (mgT 1092 (by decide +kernel) rfl)⟩
theorem frX11_24 : FR RX11 24 11 RX11 TX11 41 tyX11 13 := ⟨rfl, by decide, inX11, tyX11_ok, nmX11, rfl, Or.inl (mgT 1093 (by decide +kernel) rfl)⟩
theorem frX11_27 : FR RX11 27 11 RX11 TX11 41 tyX11 14 := ⟨rfl, by decide, inX11, tyX11_ok, nmX11, rfl, Or.inl (mgT 1094 (by decide +kernel) rfl)⟩
theorem frX11_193 : FR RX11 193 11 RX11 TX11 41 tyX11 15 := ⟨rfl, by decide, inX11, tyX11_ok, nmX11, rfl, Or.inl (mgT 1095 (by decide +kernel) rfl)⟩
theorem frX11_186 : FR RX11 186 11 RX11 TX11 41 tyX11 16 := ⟨rfl, by decide, inX11, tyX11_ok, nmX11, rfl, Or.inl (mgT 1096 (by decide +kernel) rfl)⟩
theorem frX11_30 : FR RX11 30 11 RX11 TX11 41 tyX11 17 := ⟨rfl, by decide, inX11, tyX11_ok, nmX11, rfl, Or.inl (mgT 1097 (by decide +kernel) rfl)⟩
theorem frX11_33 : FR RX11 33 11 RX11 TX11 41 tyX11 18 := ⟨rfl, by decide, inX11, tyX11_ok, nmX11, rfl, Or.inl (mgT 1098 (by decide +kernel) rfl)⟩
theorem frX11_145 : FR RX11 145 11 RX11 TX11 41 tyX11 19 := ⟨rfl, by decide, inX11, tyX11_ok, nmX11, rfl, Or.inl (mgT 1099 (by decide +kernel) rfl)⟩
theorem frX11_36 : FR RX11 36 11 RX11 TX11 41 tyX11 20 := ⟨rfl, by decide, inX11, tyX11_ok, nmX11, rfl, Or.inl (mgT 1100 (by decide +kernel) rfl)⟩
theorem frX11_39 : FR RX11 39 11 RX11 TX11 41 tyX11 21 := ⟨rfl, by decide, inX11, tyX11_ok, nmX11, rfl, Or.inl (mgT 1101 (by decide +kernel) rfl)⟩
theorem frX11_42 : FR RX11 42 11 RX11 TX11 41 tyX11 22 := ⟨rfl, by decide, inX11, tyX11_ok, nmX11, rfl, Or.inl (mgT 1102 (by decide +kernel) rfl)⟩
theorem frX11_45 : FR RX11 45 11 RX11 TX11 41 tyX11 23 := ⟨rfl, by decide, inX11, tyX11_ok, nmX11, rfl, Or.inl (mgT 1103 (by decide +kernel) rfl)⟩
theorem frX11_48 : FR RX11 48 11 RX11 TX11 41 tyX11 24 := ⟨rfl, by decide, inX11, tyX11_ok, nmX11, rfl, Or.inl (mgT 1104 (by decide +kernel) rfl)⟩
theorem frX11_51 : FR RX11 51 11 RX11 TX11 41 tyX11 25 := ⟨rfl, by decide, inX11, tyX11_ok, nmX11, rfl, Or.inl (mgT 1105 (by decide +kernel) rfl)⟩
theorem frX11_54 : FR RX11 54 11 RX11 TX11 41 tyX11 26 := ⟨rfl, by decide, inX11, tyX11_ok, nmX11, rfl, Or.inl (mgT 1106 (by decide +kernel) rfl)⟩
theorem frX11_308 : FR RX11 308 11 RX11 TX11 41 tyX11 27 := ⟨rfl, by decide, inX11, tyX11_ok, nmX11, rfl, Or.inl (mgT 1107 (by decide +kernel) rfl)⟩
theorem frX11_57 : FR RX11 57 11 RX11 TX11 41 tyX11 28 := ⟨rfl, by decide, inX11, tyX11_ok, nmX11, rfl, Or.inl (mgT 1108 (by decide +kernel) rfl)⟩
theorem frX11_60 : FR RX11 60 11 RX11 TX11 41 tyX11 29 := ⟨rfl, by decide, inX11, tyX11_ok, nmX11, rfl, Or.inl (mgT 1109 (by decide +kernel) rfl)⟩
theorem frX11_63 : FR RX11 63 11 RX11 TX11 41 tyX11 30 := ⟨rfl, by decide, inX11, tyX11_ok, nmX11, rfl, Or.inl (mgT 1110 (by decide +kernel) rfl)⟩
theorem frX11_326 : FR RX11 326 11 RX11 TX11 41 tyX11 31 := ⟨rfl, by decide, inX11, tyX11_ok, nmX11, rfl, Or.inl (mgT 1111 (by decide +kernel) rfl)⟩
theorem frX11_66 : FR RX11 66 11 RX11 TX11 41 tyX11 32 := ⟨rfl, by decide, inX11, tyX11_ok, nmX11, rfl, Or.inl (mgT 1112 (by decide +kernel) rfl)⟩
theorem frX11_69 : FR RX11 69 11 RX11 TX11 41 tyX11 33 := ⟨rfl, by decide, inX11, tyX11_ok, nmX11, rfl, Or.inl (mgT 1113 (by decide +kernel) rfl)⟩
theorem frX11_335 : FR RX11 335 11 RX11 TX11 41 tyX11 34 := ⟨rfl, by decide, inX11, tyX11_ok, nmX11, rfl, Or.inl (mgT 1114 (by decide +kernel) rfl)⟩
theorem frX11_72 : FR RX11 72 11 RX11 TX11 41 tyX11 35 := ⟨rfl, by decide, inX11, tyX11_ok, nmX11, rfl, Or.inl (mgT 1115 (by decide +kernel) rfl)⟩
theorem frX11_363 : FR RX11 363 11 RX11 TX11 41 tyX11 36 := ⟨rfl, by decide, inX11, tyX11_ok, nmX11, rfl, Or.inl (mgT 1116 (by decide +kernel) rfl)⟩
theorem frX11_148 : FR RX11 148 11 RX11 TX11 41 tyX11 37 := ⟨rfl, by decide, inX11, tyX11_ok, nmX11, rfl, Or.inl (mgT 1117 (by decide +kernel) rfl)⟩
theorem frX11_76 : FR RX11 76 11 RX11 TX11 41 tyX11 38 := ⟨rfl, by decide, inX11, tyX11_ok, nmX11, rfl, Or.inl (mgT 1118 (by decide +kernel) rfl)⟩
theorem frX11_79 : FR RX11 79 11 RX11 TX11 41 tyX11 39 := ⟨rfl, by decide, inX11, tyX11_ok, nmX11, rfl, Or.inl (mgT 1119 (by decide +kernel) rfl)⟩
theorem frX11_82 : FR RX11 82 11 RX11 TX11 41 tyX11 40 := ⟨rfl, by decide, inX11, tyX11_ok, nmX11, rfl, Or.inl (mgT 1120 (by decide +kernel) rfl)⟩
theorem kX10_init : Cond.code yX10_init cX10_init 1 (Option.none : Option Jvm.ClassFile.FieldType) ∈ lw_g := mgT 28 (by decide +kernel) rfl
theorem kX9_init : Cond.code yX9_init cX9_init 1 (Option.none : Option Jvm.ClassFile.FieldType) ∈ lw_g := mgT 36 (by decide +kernel) rfl
theorem kX2_init : Cond.code yX2_init cX2_init 1 (Option.none : Option Jvm.ClassFile.FieldType) ∈ lw_g := mgT 52 (by decide +kernel) rfl
theorem kX0_init : Cond.code yX0_init cX0_init 1 (Option.none : Option Jvm.ClassFile.FieldType) ∈ lw_g := mgT 68 (by decide +kernel) rfl
theorem kX3_init : Cond.code yX3_init cX3_init 2 (Option.none : Option Jvm.ClassFile.FieldType) ∈ lw_g := mgT 122 (by decide +kernel) rfl
theorem kX6_init : Cond.code yX6_init cX6_init 1 (Option.none : Option Jvm.ClassFile.FieldType) ∈ lw_g := mgT 149 (by decide +kernel) rfl
theorem kX5_init : Cond.code yX5_init cX5_init 1 (Option.none : Option Jvm.ClassFile.FieldType) ∈ lw_g := mgT 174 (by decide +kernel) rfl
theorem kX7_init : Cond.code yX7_init cX7_init 1 (Option.none : Option Jvm.ClassFile.FieldType) ∈ lw_g := mgT 193 (by decide +kernel) rfl
theorem kX4_init : Cond.code yX4_init cX4_init 1 (Option.none : Option Jvm.ClassFile.FieldType) ∈ lw_g := mgT 203 (by decide +kernel) rfl
theorem kX1_init : Cond.code yX1_init cX1_init 1 (Option.none : Option Jvm.ClassFile.FieldType) ∈ lw_g := mgT 222 (by decide +kernel) rfl
theorem kX8_init : Cond.code yX8_init cX8_init 1 (Option.none : Option Jvm.ClassFile.FieldType) ∈ lw_g := mgT 239 (by decide +kernel) rfl
theorem kX6_faultIn : Cond.code yX6_faultIn cX6_faultIn 6 (Option.some Jvm.ClassFile.FieldType.int) ∈ lw_g := mgT 263 (by decide +kernel) rfl
theorem kX5_clears : Cond.code yX5_clears cX5_clears 1 (Option.none : Option Jvm.ClassFile.FieldType) ∈ lw_g := mgT 267 (by decide +kernel) rfl
theorem kX6_goesBehind : Cond.code yX6_goesBehind cX6_goesBehind 5 (Option.some Jvm.ClassFile.FieldType.boolean) ∈ lw_g := mgT 271 (by decide +kernel) rfl
theorem kX6_goesOnNumber : Cond.code yX6_goesOnNumber cX6_goesOnNumber 3 (Option.some Jvm.ClassFile.FieldType.boolean) ∈ lw_g := mgT 275 (by decide +kernel) rfl
theorem kX5_widens : Cond.code yX5_widens cX5_widens 2 (Option.none : Option Jvm.ClassFile.FieldType) ∈ lw_g := mgT 279 (by decide +kernel) rfl
theorem kX6_closes : Cond.code yX6_closes cX6_closes 2 (Option.some Jvm.ClassFile.FieldType.boolean) ∈ lw_g := mgT 283 (by decide +kernel) rfl
theorem kX6_settles : Cond.code yX6_settles cX6_settles 4 (Option.none : Option Jvm.ClassFile.FieldType) ∈ lw_g := mgT 287 (by decide +kernel) rfl
theorem kX6_bindingOf : Cond.code yX6_bindingOf cX6_bindingOf 2 (Option.some Jvm.ClassFile.FieldType.int) ∈ lw_g := mgT 290 (by decide +kernel) rfl
theorem kX5_adds : Cond.code yX5_adds cX5_adds 2 (Option.none : Option Jvm.ClassFile.FieldType) ∈ lw_g := mgT 294 (by decide +kernel) rfl
theorem kJ9_max_7cf53 : Cond.code yJ9_max_7cf53 cJ9_max_7cf53 2 (Option.some Jvm.ClassFile.FieldType.int) ∈ lw_g := mgT 297 (by decide +kernel) rfl
theorem kJ0_indexOf_0f7a4 : Cond.code yJ0_indexOf_0f7a4 cJ0_indexOf_0f7a4 2 (Option.some Jvm.ClassFile.FieldType.int) ∈ lw_g := mgT 302 (by decide +kernel) rfl
theorem kJ0_indexOf_7cf53 : Cond.code yJ0_indexOf_7cf53 cJ0_indexOf_7cf53 3 (Option.some Jvm.ClassFile.FieldType.int) ∈ lw_g := mgT 306 (by decide +kernel) rfl
theorem kJ0_isLatin1_aae02 : Cond.code yJ0_isLatin1_aae02 cJ0_isLatin1_aae02 1 (Option.some Jvm.ClassFile.FieldType.boolean) ∈ lw_g := mgT 310 (by decide +kernel) rfl
theorem kJ0_length_8abf5 : Cond.code yJ0_length_8abf5 cJ0_length_8abf5 1 (Option.some Jvm.ClassFile.FieldType.int) ∈ lw_g := mgT 316 (by decide +kernel) rfl
theorem kJ0_coder_7d493 : Cond.code yJ0_coder_7d493 cJ0_coder_7d493 1 (Option.some Jvm.ClassFile.FieldType.byte) ∈ lw_g := mgT 320 (by decide +kernel) rfl
theorem kJ1_indexOf_4cfef : Cond.code yJ1_indexOf_4cfef cJ1_indexOf_4cfef 4 (Option.some Jvm.ClassFile.FieldType.int) ∈ lw_g := mgT 323 (by decide +kernel) rfl
theorem kJ1_canEncode_9a6ad : Cond.code yJ1_canEncode_9a6ad cJ1_canEncode_9a6ad 1 (Option.some Jvm.ClassFile.FieldType.boolean) ∈ lw_g := mgT 326 (by decide +kernel) rfl
theorem kJ9_min_7cf53 : Cond.code yJ9_min_7cf53 cJ9_min_7cf53 2 (Option.some Jvm.ClassFile.FieldType.int) ∈ lw_g := mgT 330 (by decide +kernel) rfl
theorem kJ1_indexOfChar_4cfef : Cond.code yJ1_indexOfChar_4cfef cJ1_indexOfChar_4cfef 6 (Option.some Jvm.ClassFile.FieldType.int) ∈ lw_g := mgT 333 (by decide +kernel) rfl
theorem kJ2_indexOf_4cfef : Cond.code yJ2_indexOf_4cfef cJ2_indexOf_4cfef 4 (Option.some Jvm.ClassFile.FieldType.int) ∈ lw_g := mgT 336 (by decide +kernel) rfl
theorem kJ2_indexOfChar_4cfef : Cond.code yJ2_indexOfChar_4cfef cJ2_indexOfChar_4cfef 4 (Option.some Jvm.ClassFile.FieldType.int) ∈ lw_g := mgT 342 (by decide +kernel) rfl
theorem kJ2_checkBoundsBeginEnd_d044e : Cond.code yJ2_checkBoundsBeginEnd_d044e cJ2_checkBoundsBeginEnd_d044e 3 (Option.none : Option Jvm.ClassFile.FieldType) ∈ lw_g := mgT 345 (by decide +kernel) rfl
theorem kJ2_length_9d52b : Cond.code yJ2_length_9d52b cJ2_length_9d52b 1 (Option.some Jvm.ClassFile.FieldType.int) ∈ lw_g := mgT 348 (by decide +kernel) rfl
theorem kJ0_checkBoundsBeginEnd_23922 : Cond.code yJ0_checkBoundsBeginEnd_23922 cJ0_checkBoundsBeginEnd_23922 3 (Option.none : Option Jvm.ClassFile.FieldType) ∈ lw_g := mgT 351 (by decide +kernel) rfl
theorem kJ3_checkFromToIndex_8c36e : Cond.code yJ3_checkFromToIndex_8c36e cJ3_checkFromToIndex_8c36e 4 (Option.some Jvm.ClassFile.FieldType.int) ∈ lw_g := mgT 356 (by decide +kernel) rfl
theorem kJ2_indexOfCharUnsafe_4cfef : Cond.code yJ2_indexOfCharUnsafe_4cfef cJ2_indexOfCharUnsafe_4cfef 5 (Option.some Jvm.ClassFile.FieldType.int) ∈ lw_g := mgT 359 (by decide +kernel) rfl
theorem kJ2_getChar_3b067 : Cond.code yJ2_getChar_3b067 cJ2_getChar_3b067 2 (Option.some Jvm.ClassFile.FieldType.char) ∈ lw_g := mgT 362 (by decide +kernel) rfl
theorem kJ2_indexOfSupplementary_4cfef : Cond.code yJ2_indexOfSupplementary_4cfef cJ2_indexOfSupplementary_4cfef 7 (Option.some Jvm.ClassFile.FieldType.int) ∈ lw_g := mgT 371 (by decide +kernel) rfl
theorem kJ11_isValidCodePoint_9a6ad : Cond.code yJ11_isValidCodePoint_9a6ad cJ11_isValidCodePoint_9a6ad 2 (Option.some Jvm.ClassFile.FieldType.boolean) ∈ lw_g := mgT 374 (by decide +kernel) rfl
theorem kJ11_highSurrogate_5068e : Cond.code yJ11_highSurrogate_5068e cJ11_highSurrogate_5068e 1 (Option.some Jvm.ClassFile.FieldType.char) ∈ lw_g := mgT 377 (by decide +kernel) rfl
theorem kJ11_lowSurrogate_5068e : Cond.code yJ11_lowSurrogate_5068e cJ11_lowSurrogate_5068e 1 (Option.some Jvm.ClassFile.FieldType.char) ∈ lw_g := mgT 381 (by decide +kernel) rfl
theorem kX6_waitsFor : Cond.code yX6_waitsFor cX6_waitsFor 2 (Option.none : Option Jvm.ClassFile.FieldType) ∈ lw_g := mgT 386 (by decide +kernel) rfl
theorem kX6_begins : Cond.code yX6_begins cX6_begins 4 (Option.some Jvm.ClassFile.FieldType.boolean) ∈ lw_g := mgT 390 (by decide +kernel) rfl
theorem kX10_sign : Cond.code yX10_sign cX10_sign 2 (Option.some Jvm.ClassFile.FieldType.int) ∈ lw_g := mgT 436 (by decide +kernel) rfl
theorem kX9_takes : Cond.code yX9_takes cX9_takes 3 (Option.some Jvm.ClassFile.FieldType.boolean) ∈ lw_g := mgT 440 (by decide +kernel) rfl
theorem kX10_end : Cond.code yX10_end cX10_end 2 (Option.some Jvm.ClassFile.FieldType.boolean) ∈ lw_g := mgT 444 (by decide +kernel) rfl
theorem kX9_cutsTo : Cond.code yX9_cutsTo cX9_cutsTo 2 (Option.some Jvm.ClassFile.FieldType.boolean) ∈ lw_g := mgT 448 (by decide +kernel) rfl
theorem kX10_people : Cond.code yX10_people cX10_people 5 (Option.some Jvm.ClassFile.FieldType.int) ∈ lw_g := mgT 452 (by decide +kernel) rfl
theorem kX9_peopleFault : Cond.code yX9_peopleFault cX9_peopleFault 4 (Option.some Jvm.ClassFile.FieldType.int) ∈ lw_g := mgT 456 (by decide +kernel) rfl
theorem kX9_at : Cond.code yX9_at cX9_at 2 (Option.some Jvm.ClassFile.FieldType.char) ∈ lw_g := mgT 460 (by decide +kernel) rfl
theorem kX9_digitAt : Cond.code yX9_digitAt cX9_digitAt 3 (Option.some Jvm.ClassFile.FieldType.int) ∈ lw_g := mgT 464 (by decide +kernel) rfl
theorem kX9_empties : Cond.code yX9_empties cX9_empties 1 (Option.none : Option Jvm.ClassFile.FieldType) ∈ lw_g := mgT 468 (by decide +kernel) rfl
theorem kX0_comes : Cond.code yX0_comes cX0_comes 3 (Option.none : Option Jvm.ClassFile.FieldType) ∈ lw_g := mgT 473 (by decide +kernel) rfl
theorem kX3_forgetsAll : Cond.code yX3_forgetsAll cX3_forgetsAll 2 (Option.none : Option Jvm.ClassFile.FieldType) ∈ lw_g := mgT 477 (by decide +kernel) rfl
theorem kX10_wants : Cond.code yX10_wants cX10_wants 7 (Option.some Jvm.ClassFile.FieldType.int) ∈ lw_g := mgT 481 (by decide +kernel) rfl
theorem kX9_wantsFault : Cond.code yX9_wantsFault cX9_wantsFault 6 (Option.some Jvm.ClassFile.FieldType.int) ∈ lw_g := mgT 485 (by decide +kernel) rfl
theorem kX0_wantsNobody : Cond.code yX0_wantsNobody cX0_wantsNobody 2 (Option.none : Option Jvm.ClassFile.FieldType) ∈ lw_g := mgT 489 (by decide +kernel) rfl
theorem kX0_has : Cond.code yX0_has cX0_has 2 (Option.some Jvm.ClassFile.FieldType.boolean) ∈ lw_g := mgT 493 (by decide +kernel) rfl
theorem kX0_wantsToo : Cond.code yX0_wantsToo cX0_wantsToo 3 (Option.none : Option Jvm.ClassFile.FieldType) ∈ lw_g := mgT 498 (by decide +kernel) rfl
theorem kX10_rule : Cond.code yX10_rule cX10_rule 3 (Option.some Jvm.ClassFile.FieldType.int) ∈ lw_g := mgT 502 (by decide +kernel) rfl
theorem kX10_readsSpare : Cond.code yX10_readsSpare cX10_readsSpare 2 (Option.some Jvm.ClassFile.FieldType.int) ∈ lw_g := mgT 506 (by decide +kernel) rfl
theorem kX10_sheet : Cond.code yX10_sheet cX10_sheet 5 (Option.some Jvm.ClassFile.FieldType.int) ∈ lw_g := mgT 510 (by decide +kernel) rfl
theorem kX0_skillsFrom : Cond.code yX0_skillsFrom cX0_skillsFrom 8 (Option.none : Option Jvm.ClassFile.FieldType) ∈ lw_g := mgT 514 (by decide +kernel) rfl
theorem kX0_sum : Cond.code yX0_sum cX0_sum 4 (Option.some Jvm.ClassFile.FieldType.int) ∈ lw_g := mgT 520 (by decide +kernel) rfl
theorem kX10_mornings : Cond.code yX10_mornings cX10_mornings 4 (Option.some Jvm.ClassFile.FieldType.int) ∈ lw_g := mgT 524 (by decide +kernel) rfl
theorem kX3_marks : Cond.code yX3_marks cX3_marks 2 (Option.none : Option Jvm.ClassFile.FieldType) ∈ lw_g := mgT 528 (by decide +kernel) rfl
theorem kX0_becomes : Cond.code yX0_becomes cX0_becomes 3 (Option.none : Option Jvm.ClassFile.FieldType) ∈ lw_g := mgT 532 (by decide +kernel) rfl
theorem kX10_goBy : Cond.code yX10_goBy cX10_goBy 5 (Option.some Jvm.ClassFile.FieldType.int) ∈ lw_g := mgT 536 (by decide +kernel) rfl
theorem kX5_wakers : Cond.code yX5_wakers cX5_wakers 4 (Option.some Jvm.ClassFile.FieldType.int) ∈ lw_g := mgT 540 (by decide +kernel) rfl
theorem kX0_wanting : Cond.code yX0_wanting cX0_wanting 4 (Option.some Jvm.ClassFile.FieldType.int) ∈ lw_g := mgT 544 (by decide +kernel) rfl
theorem kX5_needers : Cond.code yX5_needers cX5_needers 6 (Option.some Jvm.ClassFile.FieldType.int) ∈ lw_g := mgT 548 (by decide +kernel) rfl
theorem kJ6_bitCount_0f7a4 : Cond.code yJ6_bitCount_0f7a4 cJ6_bitCount_0f7a4 1 (Option.some Jvm.ClassFile.FieldType.int) ∈ lw_g := mgT 552 (by decide +kernel) rfl
theorem kX5_value : Cond.code yX5_value cX5_value 5 (Option.some Jvm.ClassFile.FieldType.int) ∈ lw_g := mgT 559 (by decide +kernel) rfl
theorem kX5_joined : Cond.code yX5_joined cX5_joined 3 (Option.some Jvm.ClassFile.FieldType.int) ∈ lw_g := mgT 562 (by decide +kernel) rfl
theorem kX0_passMorning : Cond.code yX0_passMorning cX0_passMorning 3 (Option.none : Option Jvm.ClassFile.FieldType) ∈ lw_g := mgT 566 (by decide +kernel) rfl
theorem kX0_unserved : Cond.code yX0_unserved cX0_unserved 2 (Option.some Jvm.ClassFile.FieldType.int) ∈ lw_g := mgT 570 (by decide +kernel) rfl
theorem kX0_everybody : Cond.code yX0_everybody cX0_everybody 1 (Option.some Jvm.ClassFile.FieldType.int) ∈ lw_g := mgT 574 (by decide +kernel) rfl
theorem kX0_wantingSome : Cond.code yX0_wantingSome cX0_wantingSome 4 (Option.some Jvm.ClassFile.FieldType.int) ∈ lw_g := mgT 578 (by decide +kernel) rfl
theorem kX3_keepsMark : Cond.code yX3_keepsMark cX3_keepsMark 1 (Option.none : Option Jvm.ClassFile.FieldType) ∈ lw_g := mgT 583 (by decide +kernel) rfl
theorem kX2_tellsBoth : Cond.code yX2_tellsBoth cX2_tellsBoth 5 (Option.none : Option Jvm.ClassFile.FieldType) ∈ lw_g := mgT 588 (by decide +kernel) rfl
theorem kX2_clears : Cond.code yX2_clears cX2_clears 1 (Option.none : Option Jvm.ClassFile.FieldType) ∈ lw_g := mgT 592 (by decide +kernel) rfl
theorem kX2_adds : Cond.code yX2_adds cX2_adds 3 (Option.none : Option Jvm.ClassFile.FieldType) ∈ lw_g := mgT 596 (by decide +kernel) rfl
theorem kX10_wishes : Cond.code yX10_wishes cX10_wishes 3 (Option.some Jvm.ClassFile.FieldType.int) ∈ lw_g := mgT 600 (by decide +kernel) rfl
theorem kX0_turns : Cond.code yX0_turns cX0_turns 3 (Option.some Jvm.ClassFile.FieldType.int) ∈ lw_g := mgT 604 (by decide +kernel) rfl
theorem kX10_done : Cond.code yX10_done cX10_done 2 (Option.some Jvm.ClassFile.FieldType.int) ∈ lw_g := mgT 608 (by decide +kernel) rfl
theorem kX10_pills : Cond.code yX10_pills cX10_pills 3 (Option.some Jvm.ClassFile.FieldType.int) ∈ lw_g := mgT 612 (by decide +kernel) rfl
theorem kX0_takesPills : Cond.code yX0_takesPills cX0_takesPills 3 (Option.some Jvm.ClassFile.FieldType.int) ∈ lw_g := mgT 616 (by decide +kernel) rfl
theorem kX10_learns : Cond.code yX10_learns cX10_learns 3 (Option.some Jvm.ClassFile.FieldType.int) ∈ lw_g := mgT 620 (by decide +kernel) rfl
theorem kX0_becomesSkilled : Cond.code yX0_becomesSkilled cX0_becomesSkilled 4 (Option.some Jvm.ClassFile.FieldType.int) ∈ lw_g := mgT 624 (by decide +kernel) rfl
theorem kX10_leaves : Cond.code yX10_leaves cX10_leaves 2 (Option.some Jvm.ClassFile.FieldType.int) ∈ lw_g := mgT 628 (by decide +kernel) rfl
theorem kX0_isRidOf : Cond.code yX0_isRidOf cX0_isRidOf 4 (Option.some Jvm.ClassFile.FieldType.int) ∈ lw_g := mgT 632 (by decide +kernel) rfl
theorem kX0_wantsOfAll : Cond.code yX0_wantsOfAll cX0_wantsOfAll 3 (Option.some Jvm.ClassFile.FieldType.int) ∈ lw_g := mgT 636 (by decide +kernel) rfl
theorem kX10_week : Cond.code yX10_week cX10_week 6 (Option.some Jvm.ClassFile.FieldType.int) ∈ lw_g := mgT 640 (by decide +kernel) rfl
theorem kX9_weekFault : Cond.code yX9_weekFault cX9_weekFault 5 (Option.some Jvm.ClassFile.FieldType.int) ∈ lw_g := mgT 644 (by decide +kernel) rfl
theorem kX9_digitsOf : Cond.code yX9_digitsOf cX9_digitsOf 1 (Option.some Jvm.ClassFile.FieldType.int) ∈ lw_g := mgT 647 (by decide +kernel) rfl
theorem kX10_act : Cond.code yX10_act cX10_act 4 (Option.some Jvm.ClassFile.FieldType.int) ∈ lw_g := mgT 651 (by decide +kernel) rfl
theorem kX10_undo : Cond.code yX10_undo cX10_undo 1 (Option.some Jvm.ClassFile.FieldType.int) ∈ lw_g := mgT 656 (by decide +kernel) rfl
theorem kX3_comesBack : Cond.code yX3_comesBack cX3_comesBack 2 (Option.some Jvm.ClassFile.FieldType.boolean) ∈ lw_g := mgT 660 (by decide +kernel) rfl
theorem kX10_wakes : Cond.code yX10_wakes cX10_wakes 2 (Option.some Jvm.ClassFile.FieldType.int) ∈ lw_g := mgT 664 (by decide +kernel) rfl
theorem kX10_later : Cond.code yX10_later cX10_later 5 (Option.some Jvm.ClassFile.FieldType.int) ∈ lw_g := mgT 670 (by decide +kernel) rfl
theorem kX10_when : Cond.code yX10_when cX10_when 2 (Option.some Jvm.ClassFile.FieldType.int) ∈ lw_g := mgT 676 (by decide +kernel) rfl
theorem kX10_tellsMornings : Cond.code yX10_tellsMornings cX10_tellsMornings 6 (Option.some Jvm.ClassFile.FieldType.int) ∈ lw_g := mgT 680 (by decide +kernel) rfl
theorem kX2_tellsOne : Cond.code yX2_tellsOne cX2_tellsOne 3 (Option.none : Option Jvm.ClassFile.FieldType) ∈ lw_g := mgT 684 (by decide +kernel) rfl
theorem kX10_quiet : Cond.code yX10_quiet cX10_quiet 1 (Option.some Jvm.ClassFile.FieldType.int) ∈ lw_g := mgT 688 (by decide +kernel) rfl
theorem kX10_runs : Cond.code yX10_runs cX10_runs 7 (Option.some Jvm.ClassFile.FieldType.int) ∈ lw_g := mgT 692 (by decide +kernel) rfl
theorem kX10_each : Cond.code yX10_each cX10_each 5 (Option.some Jvm.ClassFile.FieldType.int) ∈ lw_g := mgT 696 (by decide +kernel) rfl
theorem kX10_busiest : Cond.code yX10_busiest cX10_busiest 4 (Option.some Jvm.ClassFile.FieldType.int) ∈ lw_g := mgT 701 (by decide +kernel) rfl
theorem kX0_restsWoken : Cond.code yX0_restsWoken cX0_restsWoken 2 (Option.none : Option Jvm.ClassFile.FieldType) ∈ lw_g := mgT 705 (by decide +kernel) rfl
theorem kX0_mostWoken : Cond.code yX0_mostWoken cX0_mostWoken 3 (Option.some Jvm.ClassFile.FieldType.int) ∈ lw_g := mgT 709 (by decide +kernel) rfl
theorem kX10_serves : Cond.code yX10_serves cX10_serves 1 (Option.some Jvm.ClassFile.FieldType.int) ∈ lw_g := mgT 713 (by decide +kernel) rfl
theorem kX7_tellsServed : Cond.code yX7_tellsServed cX7_tellsServed 7 (Option.some Jvm.ClassFile.FieldType.int) ∈ lw_g := mgT 717 (by decide +kernel) rfl
theorem kX7_reckons : Cond.code yX7_reckons cX7_reckons 7 (Option.none : Option Jvm.ClassFile.FieldType) ∈ lw_g := mgT 721 (by decide +kernel) rfl
theorem kX7_best : Cond.code yX7_best cX7_best 6 (Option.some Jvm.ClassFile.FieldType.int) ∈ lw_g := mgT 726 (by decide +kernel) rfl
theorem kX7_mostFrom : Cond.code yX7_mostFrom cX7_mostFrom 4 (Option.some Jvm.ClassFile.FieldType.int) ∈ lw_g := mgT 730 (by decide +kernel) rfl
theorem kX7_leastBy : Cond.code yX7_leastBy cX7_leastBy 6 (Option.some Jvm.ClassFile.FieldType.int) ∈ lw_g := mgT 736 (by decide +kernel) rfl
theorem kX10_boot : Cond.code yX10_boot cX10_boot 3 (Option.some Jvm.ClassFile.FieldType.int) ∈ lw_g := mgT 741 (by decide +kernel) rfl
theorem kX7_tooMany : Cond.code yX7_tooMany cX7_tooMany 7 (Option.some Jvm.ClassFile.FieldType.int) ∈ lw_g := mgT 744 (by decide +kernel) rfl
theorem kX0_wantedBy : Cond.code yX0_wantedBy cX0_wantedBy 4 (Option.some Jvm.ClassFile.FieldType.int) ∈ lw_g := mgT 750 (by decide +kernel) rfl
theorem kX10_enough : Cond.code yX10_enough cX10_enough 2 (Option.some Jvm.ClassFile.FieldType.int) ∈ lw_g := mgT 755 (by decide +kernel) rfl
theorem kX7_fewest : Cond.code yX7_fewest cX7_fewest 6 (Option.some Jvm.ClassFile.FieldType.int) ∈ lw_g := mgT 758 (by decide +kernel) rfl
theorem kX10_steps : Cond.code yX10_steps cX10_steps 3 (Option.some Jvm.ClassFile.FieldType.int) ∈ lw_g := mgT 762 (by decide +kernel) rfl
theorem kX5_rouses : Cond.code yX5_rouses cX5_rouses 4 (Option.some Jvm.ClassFile.FieldType.boolean) ∈ lw_g := mgT 767 (by decide +kernel) rfl
theorem kX10_stepFrom : Cond.code yX10_stepFrom cX10_stepFrom 5 (Option.some Jvm.ClassFile.FieldType.int) ∈ lw_g := mgT 772 (by decide +kernel) rfl
theorem kX10_turnsTrial : Cond.code yX10_turnsTrial cX10_turnsTrial 2 (Option.some Jvm.ClassFile.FieldType.boolean) ∈ lw_g := mgT 776 (by decide +kernel) rfl
theorem kX10_twoSteps : Cond.code yX10_twoSteps cX10_twoSteps 4 (Option.some Jvm.ClassFile.FieldType.int) ∈ lw_g := mgT 780 (by decide +kernel) rfl
theorem kX10_sleeps : Cond.code yX10_sleeps cX10_sleeps 6 (Option.some Jvm.ClassFile.FieldType.int) ∈ lw_g := mgT 784 (by decide +kernel) rfl
theorem kX10_worth : Cond.code yX10_worth cX10_worth 5 (Option.some Jvm.ClassFile.FieldType.int) ∈ lw_g := mgT 788 (by decide +kernel) rfl
theorem kX10_spares : Cond.code yX10_spares cX10_spares 5 (Option.some Jvm.ClassFile.FieldType.int) ∈ lw_g := mgT 792 (by decide +kernel) rfl
theorem kX10_follows : Cond.code yX10_follows cX10_follows 2 (Option.some Jvm.ClassFile.FieldType.int) ∈ lw_g := mgT 796 (by decide +kernel) rfl
theorem kX4_tellsLongest : Cond.code yX4_tellsLongest cX4_tellsLongest 5 (Option.some Jvm.ClassFile.FieldType.int) ∈ lw_g := mgT 800 (by decide +kernel) rfl
theorem kX4_goesOn : Cond.code yX4_goesOn cX4_goesOn 8 (Option.none : Option Jvm.ClassFile.FieldType) ∈ lw_g := mgT 804 (by decide +kernel) rfl
theorem kX10_ring : Cond.code yX10_ring cX10_ring 1 (Option.some Jvm.ClassFile.FieldType.int) ∈ lw_g := mgT 811 (by decide +kernel) rfl
theorem kX4_tellsRing : Cond.code yX4_tellsRing cX4_tellsRing 7 (Option.some Jvm.ClassFile.FieldType.int) ∈ lw_g := mgT 815 (by decide +kernel) rfl
theorem kX4_roundFrom : Cond.code yX4_roundFrom cX4_roundFrom 4 (Option.some Jvm.ClassFile.FieldType.int) ∈ lw_g := mgT 819 (by decide +kernel) rfl
theorem kX4_measures : Cond.code yX4_measures cX4_measures 8 (Option.none : Option Jvm.ClassFile.FieldType) ∈ lw_g := mgT 824 (by decide +kernel) rfl
theorem kX4_nearer : Cond.code yX4_nearer cX4_nearer 5 (Option.some Jvm.ClassFile.FieldType.int) ∈ lw_g := mgT 828 (by decide +kernel) rfl
theorem kX10_friends : Cond.code yX10_friends cX10_friends 6 (Option.some Jvm.ClassFile.FieldType.int) ∈ lw_g := mgT 833 (by decide +kernel) rfl
theorem kX0_areFriends : Cond.code yX0_areFriends cX0_areFriends 3 (Option.some Jvm.ClassFile.FieldType.boolean) ∈ lw_g := mgT 837 (by decide +kernel) rfl
theorem kX10_way : Cond.code yX10_way cX10_way 3 (Option.some Jvm.ClassFile.FieldType.int) ∈ lw_g := mgT 841 (by decide +kernel) rfl
theorem kX4_tellsWay : Cond.code yX4_tellsWay cX4_tellsWay 8 (Option.some Jvm.ClassFile.FieldType.int) ∈ lw_g := mgT 845 (by decide +kernel) rfl
theorem kX4_farOf : Cond.code yX4_farOf cX4_farOf 2 (Option.some Jvm.ClassFile.FieldType.int) ∈ lw_g := mgT 849 (by decide +kernel) rfl
theorem kX10_heard : Cond.code yX10_heard cX10_heard 3 (Option.some Jvm.ClassFile.FieldType.int) ∈ lw_g := mgT 853 (by decide +kernel) rfl
theorem kX1_takes : Cond.code yX1_takes cX1_takes 3 (Option.some Jvm.ClassFile.FieldType.boolean) ∈ lw_g := mgT 857 (by decide +kernel) rfl
theorem kX1_mayBe : Cond.code yX1_mayBe cX1_mayBe 2 (Option.some Jvm.ClassFile.FieldType.boolean) ∈ lw_g := mgT 860 (by decide +kernel) rfl
theorem kX1_highest : Cond.code yX1_highest cX1_highest 1 (Option.some Jvm.ClassFile.FieldType.int) ∈ lw_g := mgT 863 (by decide +kernel) rfl
theorem kX10_forget : Cond.code yX10_forget cX10_forget 1 (Option.some Jvm.ClassFile.FieldType.int) ∈ lw_g := mgT 867 (by decide +kernel) rfl
theorem kX1_empties : Cond.code yX1_empties cX1_empties 2 (Option.some Jvm.ClassFile.FieldType.int) ∈ lw_g := mgT 871 (by decide +kernel) rfl
theorem kX10_fits : Cond.code yX10_fits cX10_fits 2 (Option.some Jvm.ClassFile.FieldType.int) ∈ lw_g := mgT 875 (by decide +kernel) rfl
theorem kX1_fitting : Cond.code yX1_fitting cX1_fitting 5 (Option.some Jvm.ClassFile.FieldType.int) ∈ lw_g := mgT 879 (by decide +kernel) rfl
theorem kX1_such : Cond.code yX1_such cX1_such 6 (Option.some Jvm.ClassFile.FieldType.int) ∈ lw_g := mgT 883 (by decide +kernel) rfl
theorem kX1_isSo : Cond.code yX1_isSo cX1_isSo 5 (Option.some Jvm.ClassFile.FieldType.boolean) ∈ lw_g := mgT 886 (by decide +kernel) rfl
theorem kX10_asks : Cond.code yX10_asks cX10_asks 9 (Option.some Jvm.ClassFile.FieldType.int) ∈ lw_g := mgT 891 (by decide +kernel) rfl
theorem kX10_saw : Cond.code yX10_saw cX10_saw 4 (Option.some Jvm.ClassFile.FieldType.int) ∈ lw_g := mgT 898 (by decide +kernel) rfl
theorem kX8_takes : Cond.code yX8_takes cX8_takes 5 (Option.some Jvm.ClassFile.FieldType.boolean) ∈ lw_g := mgT 902 (by decide +kernel) rfl
theorem kX10_denies : Cond.code yX10_denies cX10_denies 1 (Option.some Jvm.ClassFile.FieldType.int) ∈ lw_g := mgT 906 (by decide +kernel) rfl
theorem kX8_empties : Cond.code yX8_empties cX8_empties 2 (Option.some Jvm.ClassFile.FieldType.int) ∈ lw_g := mgT 910 (by decide +kernel) rfl
theorem kX10_laws : Cond.code yX10_laws cX10_laws 3 (Option.some Jvm.ClassFile.FieldType.int) ∈ lw_g := mgT 914 (by decide +kernel) rfl
theorem kX8_sifts : Cond.code yX8_sifts cX8_sifts 4 (Option.some Jvm.ClassFile.FieldType.int) ∈ lw_g := mgT 918 (by decide +kernel) rfl
theorem kX8_rouses : Cond.code yX8_rouses cX8_rouses 3 (Option.some Jvm.ClassFile.FieldType.boolean) ∈ lw_g := mgT 921 (by decide +kernel) rfl
theorem kX8_leastLaw : Cond.code yX8_leastLaw cX8_leastLaw 2 (Option.some Jvm.ClassFile.FieldType.int) ∈ lw_g := mgT 925 (by decide +kernel) rfl
theorem kX10_looks : Cond.code yX10_looks cX10_looks 7 (Option.some Jvm.ClassFile.FieldType.int) ∈ lw_g := mgT 930 (by decide +kernel) rfl
theorem kX8_waking : Cond.code yX8_waking cX8_waking 5 (Option.some Jvm.ClassFile.FieldType.int) ∈ lw_g := mgT 934 (by decide +kernel) rfl
theorem kX10_odds : Cond.code yX10_odds cX10_odds 8 (Option.some Jvm.ClassFile.FieldType.int) ∈ lw_g := mgT 938 (by decide +kernel) rfl
theorem kX10_power : Cond.code yX10_power cX10_power 4 (Option.some Jvm.ClassFile.FieldType.int) ∈ lw_g := mgT 941 (by decide +kernel) rfl
theorem kX10_tellsFraction : Cond.code yX10_tellsFraction cX10_tellsFraction 7 (Option.none : Option Jvm.ClassFile.FieldType) ∈ lw_g := mgT 945 (by decide +kernel) rfl
theorem kX10_vigil : Cond.code yX10_vigil cX10_vigil 5 (Option.some Jvm.ClassFile.FieldType.int) ∈ lw_g := mgT 949 (by decide +kernel) rfl
theorem kX10_leastTurn : Cond.code yX10_leastTurn cX10_leastTurn 5 (Option.some Jvm.ClassFile.FieldType.int) ∈ lw_g := mgT 952 (by decide +kernel) rfl
theorem kX10_rests : Cond.code yX10_rests cX10_rests 5 (Option.some Jvm.ClassFile.FieldType.int) ∈ lw_g := mgT 956 (by decide +kernel) rfl
theorem kX10_isContent : Cond.code yX10_isContent cX10_isContent 5 (Option.some Jvm.ClassFile.FieldType.boolean) ∈ lw_g := mgT 959 (by decide +kernel) rfl
theorem kX10_gain : Cond.code yX10_gain cX10_gain 3 (Option.some Jvm.ClassFile.FieldType.int) ∈ lw_g := mgT 962 (by decide +kernel) rfl
theorem kX10_law : Cond.code yX10_law cX10_law 5 (Option.some Jvm.ClassFile.FieldType.int) ∈ lw_g := mgT 966 (by decide +kernel) rfl
theorem kX10_years : Cond.code yX10_years cX10_years 7 (Option.some Jvm.ClassFile.FieldType.int) ∈ lw_g := mgT 971 (by decide +kernel) rfl
theorem kX10_draw : Cond.code yX10_draw cX10_draw 2 (Option.some Jvm.ClassFile.FieldType.int) ∈ lw_g := mgT 975 (by decide +kernel) rfl
theorem kX10_keep : Cond.code yX10_keep cX10_keep 2 (Option.some Jvm.ClassFile.FieldType.boolean) ∈ lw_g := mgT 980 (by decide +kernel) rfl
theorem kX3_keeps : Cond.code yX3_keeps cX3_keeps 3 (Option.some Jvm.ClassFile.FieldType.boolean) ∈ lw_g := mgT 984 (by decide +kernel) rfl
theorem kX10_again : Cond.code yX10_again cX10_again 2 (Option.some Jvm.ClassFile.FieldType.boolean) ∈ lw_g := mgT 988 (by decide +kernel) rfl
theorem kX3_bringsKept : Cond.code yX3_bringsKept cX3_bringsKept 3 (Option.some Jvm.ClassFile.FieldType.boolean) ∈ lw_g := mgT 992 (by decide +kernel) rfl
theorem kX10_count : Cond.code yX10_count cX10_count 2 (Option.some Jvm.ClassFile.FieldType.int) ∈ lw_g := mgT 996 (by decide +kernel) rfl
theorem kX10_one : Cond.code yX10_one cX10_one 3 (Option.some Jvm.ClassFile.FieldType.int) ∈ lw_g := mgT 1005 (by decide +kernel) rfl
theorem kX10_row : Cond.code yX10_row cX10_row 2 (Option.some Jvm.ClassFile.FieldType.long) ∈ lw_g := mgT 1073 (by decide +kernel) rfl
theorem kX11_init : Cond.code yX11_init cX11_init 1 (Option.none : Option Jvm.ClassFile.FieldType) ∈ lw_g := mgT 1078 (by decide +kernel) rfl
theorem kX11_thrown : Cond.code yX11_thrown cX11_thrown 1 (Option.some Jvm.ClassFile.FieldType.int) ∈ lw_g := mgT 1207 (by decide +kernel) rfl
theorem kX11_sign : Cond.code yX11_sign cX11_sign 3 (Option.some Jvm.ClassFile.FieldType.int) ∈ lw_g := mgT 1211 (by decide +kernel) rfl
theorem kX11_end : Cond.code yX11_end cX11_end 2 (Option.some Jvm.ClassFile.FieldType.boolean) ∈ lw_g := mgT 1215 (by decide +kernel) rfl
theorem kX11_in : Cond.code yX11_in cX11_in 3 (Option.some Jvm.ClassFile.FieldType.boolean) ∈ lw_g := mgT 1218 (by decide +kernel) rfl
theorem kX11_people : Cond.code yX11_people cX11_people 4 (Option.some Jvm.ClassFile.FieldType.int) ∈ lw_g := mgT 1222 (by decide +kernel) rfl
theorem kX11_beginText : Cond.code yX11_beginText cX11_beginText 2 (Option.none : Option Jvm.ClassFile.FieldType) ∈ lw_g := mgT 1226 (by decide +kernel) rfl
theorem kX11_begin : Cond.code yX11_begin cX11_begin 4 (Option.none : Option Jvm.ClassFile.FieldType) ∈ lw_g := mgT 1230 (by decide +kernel) rfl
theorem kX11_fine : Cond.code yX11_fine cX11_fine 1 (Option.some Jvm.ClassFile.FieldType.boolean) ∈ lw_g := mgT 1234 (by decide +kernel) rfl
theorem kX11_fault : Cond.code yX11_fault cX11_fault 2 (Option.none : Option Jvm.ClassFile.FieldType) ∈ lw_g := mgT 1238 (by decide +kernel) rfl
theorem kX11_oneOf : Cond.code yX11_oneOf cX11_oneOf 3 (Option.some Jvm.ClassFile.FieldType.int) ∈ lw_g := mgT 1242 (by decide +kernel) rfl
theorem kX11_here : Cond.code yX11_here cX11_here 1 (Option.some Jvm.ClassFile.FieldType.int) ∈ lw_g := mgT 1246 (by decide +kernel) rfl
theorem kX11_passes : Cond.code yX11_passes cX11_passes 2 (Option.some Jvm.ClassFile.FieldType.boolean) ∈ lw_g := mgT 1250 (by decide +kernel) rfl
theorem kX11_wasRight : Cond.code yX11_wasRight cX11_wasRight 1 (Option.some Jvm.ClassFile.FieldType.boolean) ∈ lw_g := mgT 1254 (by decide +kernel) rfl
theorem kX11_told : Cond.code yX11_told cX11_told 1 (Option.none : Option Jvm.ClassFile.FieldType) ∈ lw_g := mgT 1258 (by decide +kernel) rfl
theorem kX11_wants : Cond.code yX11_wants cX11_wants 4 (Option.some Jvm.ClassFile.FieldType.int) ∈ lw_g := mgT 1262 (by decide +kernel) rfl
theorem kX11_readWants : Cond.code yX11_readWants cX11_readWants 6 (Option.none : Option Jvm.ClassFile.FieldType) ∈ lw_g := mgT 1266 (by decide +kernel) rfl
theorem kX11_rule : Cond.code yX11_rule cX11_rule 3 (Option.some Jvm.ClassFile.FieldType.int) ∈ lw_g := mgT 1270 (by decide +kernel) rfl
theorem kX11_readRule : Cond.code yX11_readRule cX11_readRule 1 (Option.some Jvm.ClassFile.FieldType.boolean) ∈ lw_g := mgT 1274 (by decide +kernel) rfl
theorem kX11_held : Cond.code yX11_held cX11_held 3 (Option.some Jvm.ClassFile.FieldType.int) ∈ lw_g := mgT 1278 (by decide +kernel) rfl
theorem kX11_sum : Cond.code yX11_sum cX11_sum 5 (Option.some Jvm.ClassFile.FieldType.int) ∈ lw_g := mgT 1282 (by decide +kernel) rfl
theorem kX11_product : Cond.code yX11_product cX11_product 5 (Option.some Jvm.ClassFile.FieldType.int) ∈ lw_g := mgT 1286 (by decide +kernel) rfl
theorem kX11_thing : Cond.code yX11_thing cX11_thing 4 (Option.some Jvm.ClassFile.FieldType.int) ∈ lw_g := mgT 1290 (by decide +kernel) rfl
theorem kX11_need : Cond.code yX11_need cX11_need 2 (Option.none : Option Jvm.ClassFile.FieldType) ∈ lw_g := mgT 1294 (by decide +kernel) rfl
theorem kX11_number : Cond.code yX11_number cX11_number 4 (Option.some Jvm.ClassFile.FieldType.int) ∈ lw_g := mgT 1298 (by decide +kernel) rfl
theorem kX11_letterOf : Cond.code yX11_letterOf cX11_letterOf 1 (Option.some Jvm.ClassFile.FieldType.int) ∈ lw_g := mgT 1301 (by decide +kernel) rfl
theorem kX11_one : Cond.code yX11_one cX11_one 3 (Option.some Jvm.ClassFile.FieldType.int) ∈ lw_g := mgT 1305 (by decide +kernel) rfl
theorem kX11_isOne : Cond.code yX11_isOne cX11_isOne 2 (Option.some Jvm.ClassFile.FieldType.boolean) ∈ lw_g := mgT 1309 (by decide +kernel) rfl
theorem kX11_lost : Cond.code yX11_lost cX11_lost 1 (Option.some Jvm.ClassFile.FieldType.int) ∈ lw_g := mgT 1313 (by decide +kernel) rfl
theorem kX11_wantedBy : Cond.code yX11_wantedBy cX11_wantedBy 5 (Option.some Jvm.ClassFile.FieldType.int) ∈ lw_g := mgT 1317 (by decide +kernel) rfl
theorem kX11_has : Cond.code yX11_has cX11_has 2 (Option.some Jvm.ClassFile.FieldType.boolean) ∈ lw_g := mgT 1320 (by decide +kernel) rfl
theorem kX11_neededBy : Cond.code yX11_neededBy cX11_neededBy 6 (Option.some Jvm.ClassFile.FieldType.int) ∈ lw_g := mgT 1324 (by decide +kernel) rfl
theorem kX11_needs : Cond.code yX11_needs cX11_needs 6 (Option.some Jvm.ClassFile.FieldType.boolean) ∈ lw_g := mgT 1328 (by decide +kernel) rfl
theorem kX11_sheet : Cond.code yX11_sheet cX11_sheet 8 (Option.some Jvm.ClassFile.FieldType.int) ∈ lw_g := mgT 1333 (by decide +kernel) rfl
theorem kX11_sumOf : Cond.code yX11_sumOf cX11_sumOf 5 (Option.some Jvm.ClassFile.FieldType.int) ∈ lw_g := mgT 1339 (by decide +kernel) rfl
theorem kX11_mornings : Cond.code yX11_mornings cX11_mornings 4 (Option.some Jvm.ClassFile.FieldType.int) ∈ lw_g := mgT 1343 (by decide +kernel) rfl
theorem kX11_remember : Cond.code yX11_remember cX11_remember 3 (Option.none : Option Jvm.ClassFile.FieldType) ∈ lw_g := mgT 1347 (by decide +kernel) rfl
theorem kX11_lay : Cond.code yX11_lay cX11_lay 4 (Option.none : Option Jvm.ClassFile.FieldType) ∈ lw_g := mgT 1350 (by decide +kernel) rfl
theorem kX11_goMornings : Cond.code yX11_goMornings cX11_goMornings 5 (Option.some Jvm.ClassFile.FieldType.int) ∈ lw_g := mgT 1354 (by decide +kernel) rfl
theorem kX11_goMorning : Cond.code yX11_goMorning cX11_goMorning 4 (Option.some Jvm.ClassFile.FieldType.int) ∈ lw_g := mgT 1358 (by decide +kernel) rfl
theorem kX11_awake : Cond.code yX11_awake cX11_awake 4 (Option.some Jvm.ClassFile.FieldType.int) ∈ lw_g := mgT 1362 (by decide +kernel) rfl
theorem kX11_isAwake : Cond.code yX11_isAwake cX11_isAwake 3 (Option.some Jvm.ClassFile.FieldType.boolean) ∈ lw_g := mgT 1366 (by decide +kernel) rfl
theorem kX11_unmet : Cond.code yX11_unmet cX11_unmet 5 (Option.some Jvm.ClassFile.FieldType.int) ∈ lw_g := mgT 1370 (by decide +kernel) rfl
theorem kX11_tell : Cond.code yX11_tell cX11_tell 3 (Option.none : Option Jvm.ClassFile.FieldType) ∈ lw_g := mgT 1374 (by decide +kernel) rfl
theorem kX11_wishes : Cond.code yX11_wishes cX11_wishes 3 (Option.some Jvm.ClassFile.FieldType.int) ∈ lw_g := mgT 1378 (by decide +kernel) rfl
theorem kX11_areTwo : Cond.code yX11_areTwo cX11_areTwo 3 (Option.some Jvm.ClassFile.FieldType.boolean) ∈ lw_g := mgT 1382 (by decide +kernel) rfl
theorem kX11_pills : Cond.code yX11_pills cX11_pills 4 (Option.some Jvm.ClassFile.FieldType.int) ∈ lw_g := mgT 1386 (by decide +kernel) rfl
theorem kX11_refusesPills : Cond.code yX11_refusesPills cX11_refusesPills 3 (Option.some Jvm.ClassFile.FieldType.int) ∈ lw_g := mgT 1390 (by decide +kernel) rfl
theorem kX11_learns : Cond.code yX11_learns cX11_learns 5 (Option.some Jvm.ClassFile.FieldType.int) ∈ lw_g := mgT 1394 (by decide +kernel) rfl
theorem kX11_refusesSkill : Cond.code yX11_refusesSkill cX11_refusesSkill 3 (Option.some Jvm.ClassFile.FieldType.int) ∈ lw_g := mgT 1398 (by decide +kernel) rfl
theorem kX11_leaves : Cond.code yX11_leaves cX11_leaves 4 (Option.some Jvm.ClassFile.FieldType.int) ∈ lw_g := mgT 1402 (by decide +kernel) rfl
theorem kX11_refusesLeave : Cond.code yX11_refusesLeave cX11_refusesLeave 2 (Option.some Jvm.ClassFile.FieldType.int) ∈ lw_g := mgT 1406 (by decide +kernel) rfl
theorem kX11_wantsOf : Cond.code yX11_wantsOf cX11_wantsOf 3 (Option.some Jvm.ClassFile.FieldType.int) ∈ lw_g := mgT 1410 (by decide +kernel) rfl
theorem kX11_goAway : Cond.code yX11_goAway cX11_goAway 4 (Option.none : Option Jvm.ClassFile.FieldType) ∈ lw_g := mgT 1414 (by decide +kernel) rfl
theorem kX11_week : Cond.code yX11_week cX11_week 3 (Option.some Jvm.ClassFile.FieldType.int) ∈ lw_g := mgT 1418 (by decide +kernel) rfl
theorem kX11_readAct : Cond.code yX11_readAct cX11_readAct 3 (Option.none : Option Jvm.ClassFile.FieldType) ∈ lw_g := mgT 1422 (by decide +kernel) rfl
theorem kX11_act : Cond.code yX11_act cX11_act 4 (Option.some Jvm.ClassFile.FieldType.boolean) ∈ lw_g := mgT 1426 (by decide +kernel) rfl
theorem kX11_undo : Cond.code yX11_undo cX11_undo 2 (Option.some Jvm.ClassFile.FieldType.int) ∈ lw_g := mgT 1430 (by decide +kernel) rfl
theorem kX11_wakes : Cond.code yX11_wakes cX11_wakes 2 (Option.some Jvm.ClassFile.FieldType.int) ∈ lw_g := mgT 1434 (by decide +kernel) rfl
theorem kX11_later : Cond.code yX11_later cX11_later 5 (Option.some Jvm.ClassFile.FieldType.int) ∈ lw_g := mgT 1438 (by decide +kernel) rfl
theorem kX11_when : Cond.code yX11_when cX11_when 5 (Option.some Jvm.ClassFile.FieldType.int) ∈ lw_g := mgT 1442 (by decide +kernel) rfl
theorem kX11_quiet : Cond.code yX11_quiet cX11_quiet 4 (Option.some Jvm.ClassFile.FieldType.int) ∈ lw_g := mgT 1446 (by decide +kernel) rfl
theorem kX11_runs : Cond.code yX11_runs cX11_runs 7 (Option.some Jvm.ClassFile.FieldType.int) ∈ lw_g := mgT 1450 (by decide +kernel) rfl
theorem kX11_each : Cond.code yX11_each cX11_each 4 (Option.some Jvm.ClassFile.FieldType.int) ∈ lw_g := mgT 1454 (by decide +kernel) rfl
theorem kX11_everybody : Cond.code yX11_everybody cX11_everybody 1 (Option.some Jvm.ClassFile.FieldType.int) ∈ lw_g := mgT 1458 (by decide +kernel) rfl
theorem kX11_busiest : Cond.code yX11_busiest cX11_busiest 5 (Option.some Jvm.ClassFile.FieldType.int) ∈ lw_g := mgT 1462 (by decide +kernel) rfl
theorem kX11_serves : Cond.code yX11_serves cX11_serves 6 (Option.some Jvm.ClassFile.FieldType.int) ∈ lw_g := mgT 1466 (by decide +kernel) rfl
theorem kX11_boot : Cond.code yX11_boot cX11_boot 5 (Option.some Jvm.ClassFile.FieldType.int) ∈ lw_g := mgT 1470 (by decide +kernel) rfl
theorem kX11_wanting : Cond.code yX11_wanting cX11_wanting 3 (Option.some Jvm.ClassFile.FieldType.int) ∈ lw_g := mgT 1474 (by decide +kernel) rfl
theorem kX11_wantsOfAll : Cond.code yX11_wantsOfAll cX11_wantsOfAll 4 (Option.some Jvm.ClassFile.FieldType.int) ∈ lw_g := mgT 1478 (by decide +kernel) rfl
theorem kX11_enough : Cond.code yX11_enough cX11_enough 4 (Option.some Jvm.ClassFile.FieldType.int) ∈ lw_g := mgT 1482 (by decide +kernel) rfl
theorem kX11_areEnough : Cond.code yX11_areEnough cX11_areEnough 4 (Option.some Jvm.ClassFile.FieldType.boolean) ∈ lw_g := mgT 1486 (by decide +kernel) rfl
theorem kX11_steps : Cond.code yX11_steps cX11_steps 5 (Option.some Jvm.ClassFile.FieldType.int) ∈ lw_g := mgT 1490 (by decide +kernel) rfl
theorem kX11_isWant : Cond.code yX11_isWant cX11_isWant 2 (Option.some Jvm.ClassFile.FieldType.boolean) ∈ lw_g := mgT 1494 (by decide +kernel) rfl
theorem kX11_turn : Cond.code yX11_turn cX11_turn 3 (Option.none : Option Jvm.ClassFile.FieldType) ∈ lw_g := mgT 1498 (by decide +kernel) rfl
theorem kX11_sleeps : Cond.code yX11_sleeps cX11_sleeps 5 (Option.some Jvm.ClassFile.FieldType.int) ∈ lw_g := mgT 1502 (by decide +kernel) rfl
theorem kX11_beginDropped : Cond.code yX11_beginDropped cX11_beginDropped 4 (Option.none : Option Jvm.ClassFile.FieldType) ∈ lw_g := mgT 1506 (by decide +kernel) rfl
theorem kX11_worth : Cond.code yX11_worth cX11_worth 5 (Option.some Jvm.ClassFile.FieldType.int) ∈ lw_g := mgT 1510 (by decide +kernel) rfl
theorem kX11_spares : Cond.code yX11_spares cX11_spares 5 (Option.some Jvm.ClassFile.FieldType.int) ∈ lw_g := mgT 1514 (by decide +kernel) rfl
theorem kX11_follows : Cond.code yX11_follows cX11_follows 2 (Option.some Jvm.ClassFile.FieldType.int) ∈ lw_g := mgT 1519 (by decide +kernel) rfl
theorem kX11_goRow : Cond.code yX11_goRow cX11_goRow 4 (Option.none : Option Jvm.ClassFile.FieldType) ∈ lw_g := mgT 1523 (by decide +kernel) rfl
theorem kX11_layBest : Cond.code yX11_layBest cX11_layBest 3 (Option.none : Option Jvm.ClassFile.FieldType) ∈ lw_g := mgT 1527 (by decide +kernel) rfl
theorem kX11_tellBest : Cond.code yX11_tellBest cX11_tellBest 2 (Option.some Jvm.ClassFile.FieldType.int) ∈ lw_g := mgT 1531 (by decide +kernel) rfl
theorem kX11_ring : Cond.code yX11_ring cX11_ring 2 (Option.some Jvm.ClassFile.FieldType.int) ∈ lw_g := mgT 1535 (by decide +kernel) rfl
theorem kX11_goRing : Cond.code yX11_goRing cX11_goRing 4 (Option.none : Option Jvm.ClassFile.FieldType) ∈ lw_g := mgT 1539 (by decide +kernel) rfl
theorem kX11_friends : Cond.code yX11_friends cX11_friends 5 (Option.some Jvm.ClassFile.FieldType.int) ∈ lw_g := mgT 1543 (by decide +kernel) rfl
theorem kX11_areFriends : Cond.code yX11_areFriends cX11_areFriends 3 (Option.some Jvm.ClassFile.FieldType.boolean) ∈ lw_g := mgT 1547 (by decide +kernel) rfl
theorem kX11_way : Cond.code yX11_way cX11_way 6 (Option.some Jvm.ClassFile.FieldType.int) ∈ lw_g := mgT 1551 (by decide +kernel) rfl
theorem kX11_heard : Cond.code yX11_heard cX11_heard 4 (Option.some Jvm.ClassFile.FieldType.int) ∈ lw_g := mgT 1555 (by decide +kernel) rfl
theorem kX11_forget : Cond.code yX11_forget cX11_forget 2 (Option.some Jvm.ClassFile.FieldType.int) ∈ lw_g := mgT 1559 (by decide +kernel) rfl
theorem kX11_fits : Cond.code yX11_fits cX11_fits 2 (Option.some Jvm.ClassFile.FieldType.int) ∈ lw_g := mgT 1563 (by decide +kernel) rfl
theorem kX11_fitting : Cond.code yX11_fitting cX11_fitting 5 (Option.some Jvm.ClassFile.FieldType.int) ∈ lw_g := mgT 1567 (by decide +kernel) rfl
theorem kX11_isSo : Cond.code yX11_isSo cX11_isSo 4 (Option.some Jvm.ClassFile.FieldType.boolean) ∈ lw_g := mgT 1571 (by decide +kernel) rfl
theorem kX11_asks : Cond.code yX11_asks cX11_asks 7 (Option.some Jvm.ClassFile.FieldType.int) ∈ lw_g := mgT 1575 (by decide +kernel) rfl
theorem kX11_saw : Cond.code yX11_saw cX11_saw 4 (Option.some Jvm.ClassFile.FieldType.int) ∈ lw_g := mgT 1579 (by decide +kernel) rfl
theorem kX11_denies : Cond.code yX11_denies cX11_denies 2 (Option.some Jvm.ClassFile.FieldType.int) ∈ lw_g := mgT 1583 (by decide +kernel) rfl
theorem kX11_laws : Cond.code yX11_laws cX11_laws 3 (Option.some Jvm.ClassFile.FieldType.int) ∈ lw_g := mgT 1587 (by decide +kernel) rfl
theorem kX11_isLaw : Cond.code yX11_isLaw cX11_isLaw 3 (Option.some Jvm.ClassFile.FieldType.boolean) ∈ lw_g := mgT 1591 (by decide +kernel) rfl
theorem kX11_lets : Cond.code yX11_lets cX11_lets 2 (Option.some Jvm.ClassFile.FieldType.boolean) ∈ lw_g := mgT 1594 (by decide +kernel) rfl
theorem kX11_looks : Cond.code yX11_looks cX11_looks 7 (Option.some Jvm.ClassFile.FieldType.int) ∈ lw_g := mgT 1598 (by decide +kernel) rfl
theorem kX11_odds : Cond.code yX11_odds cX11_odds 12 (Option.some Jvm.ClassFile.FieldType.int) ∈ lw_g := mgT 1602 (by decide +kernel) rfl
theorem kX11_common : Cond.code yX11_common cX11_common 4 (Option.some Jvm.ClassFile.FieldType.long) ∈ lw_g := mgT 1606 (by decide +kernel) rfl
theorem kX11_vigil : Cond.code yX11_vigil cX11_vigil 3 (Option.some Jvm.ClassFile.FieldType.int) ∈ lw_g := mgT 1610 (by decide +kernel) rfl
theorem kX11_sitsBy : Cond.code yX11_sitsBy cX11_sitsBy 2 (Option.some Jvm.ClassFile.FieldType.int) ∈ lw_g := mgT 1614 (by decide +kernel) rfl
theorem kX11_greatest : Cond.code yX11_greatest cX11_greatest 2 (Option.some Jvm.ClassFile.FieldType.int) ∈ lw_g := mgT 1617 (by decide +kernel) rfl
theorem kX11_rests : Cond.code yX11_rests cX11_rests 5 (Option.some Jvm.ClassFile.FieldType.int) ∈ lw_g := mgT 1621 (by decide +kernel) rfl
theorem kX11_isBest : Cond.code yX11_isBest cX11_isBest 4 (Option.some Jvm.ClassFile.FieldType.boolean) ∈ lw_g := mgT 1624 (by decide +kernel) rfl
theorem kX11_gets : Cond.code yX11_gets cX11_gets 3 (Option.some Jvm.ClassFile.FieldType.int) ∈ lw_g := mgT 1627 (by decide +kernel) rfl
theorem kX11_law : Cond.code yX11_law cX11_law 7 (Option.some Jvm.ClassFile.FieldType.int) ∈ lw_g := mgT 1631 (by decide +kernel) rfl
theorem kX11_years : Cond.code yX11_years cX11_years 8 (Option.some Jvm.ClassFile.FieldType.int) ∈ lw_g := mgT 1635 (by decide +kernel) rfl
theorem kX11_draw : Cond.code yX11_draw cX11_draw 2 (Option.some Jvm.ClassFile.FieldType.int) ∈ lw_g := mgT 1639 (by decide +kernel) rfl
theorem kX11_keep : Cond.code yX11_keep cX11_keep 2 (Option.some Jvm.ClassFile.FieldType.boolean) ∈ lw_g := mgT 1644 (by decide +kernel) rfl
theorem kX11_again : Cond.code yX11_again cX11_again 3 (Option.some Jvm.ClassFile.FieldType.boolean) ∈ lw_g := mgT 1648 (by decide +kernel) rfl
theorem kX11_count : Cond.code yX11_count cX11_count 2 (Option.some Jvm.ClassFile.FieldType.int) ∈ lw_g := mgT 1652 (by decide +kernel) rfl
theorem kX11_allWants : Cond.code yX11_allWants cX11_allWants 3 (Option.some Jvm.ClassFile.FieldType.int) ∈ lw_g := mgT 1656 (by decide +kernel) rfl
theorem kX11_row : Cond.code yX11_row cX11_row 2 (Option.some Jvm.ClassFile.FieldType.long) ∈ lw_g := mgT 1660 (by decide +kernel) rfl
theorem ilL_19 : MLk RL 19 yX10_init 0 ∧ Cond.instanceMethod yX10_init ∈ lw_g := ⟨⟨Or.inl (mgT 26 (by decide +kernel) rfl), mgT 1 (by decide +kernel) rfl, by decide, by decide, by decide +kernel⟩, mgT 27 (by decide +kernel) rfl⟩
theorem ilX10_11 : MLk RX10 11 yX9_init 0 ∧ Cond.instanceMethod yX9_init ∈ lw_g := ⟨⟨Or.inr ⟨"BellForWanted", mgT 34 (by decide +kernel) rfl⟩, mgT 2 (by decide +kernel) rfl, by decide, by decide, by decide +kernel⟩, mgT 35 (by decide +kernel) rfl⟩
theorem ilX10_18 : MLk RX10 18 yX2_init 0 ∧ Cond.instanceMethod yX2_init ∈ lw_g := ⟨⟨Or.inr ⟨"BellForWanted", mgT 50 (by decide +kernel) rfl⟩, mgT 3 (by decide +kernel) rfl, by decide, by decide, by decide +kernel⟩, mgT 51 (by decide +kernel) rfl⟩
theorem ilX10_25 : MLk RX10 25 yX0_init 0 ∧ Cond.instanceMethod yX0_init ∈ lw_g := ⟨⟨Or.inr ⟨"BellForWanted", mgT 66 (by decide +kernel) rfl⟩, mgT 4 (by decide +kernel) rfl, by decide, by decide, by decide +kernel⟩, mgT 67 (by decide +kernel) rfl⟩
theorem ilX10_35 : MLk RX10 35 yX3_init 0 ∧ Cond.instanceMethod yX3_init ∈ lw_g := ⟨⟨Or.inr ⟨"BellForWanted", mgT 120 (by decide +kernel) rfl⟩, mgT 5 (by decide +kernel) rfl, by decide, by decide, by decide +kernel⟩, mgT 121 (by decide +kernel) rfl⟩
theorem ilX3_29 : MLk RX3 29 yX0_init 0 ∧ Cond.instanceMethod yX0_init ∈ lw_g := ⟨⟨Or.inr ⟨"BellForWanted", mgT 126 (by decide +kernel) rfl⟩, mgT 4 (by decide +kernel) rfl, by decide, by decide, by decide +kernel⟩, mgT 67 (by decide +kernel) rfl⟩
theorem ilX10_42 : MLk RX10 42 yX6_init 0 ∧ Cond.instanceMethod yX6_init ∈ lw_g := ⟨⟨Or.inr ⟨"BellForWanted", mgT 147 (by decide +kernel) rfl⟩, mgT 6 (by decide +kernel) rfl, by decide, by decide, by decide +kernel⟩, mgT 148 (by decide +kernel) rfl⟩
theorem ilX10_49 : MLk RX10 49 yX5_init 0 ∧ Cond.instanceMethod yX5_init ∈ lw_g := ⟨⟨Or.inr ⟨"BellForWanted", mgT 172 (by decide +kernel) rfl⟩, mgT 7 (by decide +kernel) rfl, by decide, by decide, by decide +kernel⟩, mgT 173 (by decide +kernel) rfl⟩
theorem ilX10_59 : MLk RX10 59 yX7_init 0 ∧ Cond.instanceMethod yX7_init ∈ lw_g := ⟨⟨Or.inr ⟨"BellForWanted", mgT 191 (by decide +kernel) rfl⟩, mgT 8 (by decide +kernel) rfl, by decide, by decide, by decide +kernel⟩, mgT 192 (by decide +kernel) rfl⟩
theorem ilX10_66 : MLk RX10 66 yX4_init 0 ∧ Cond.instanceMethod yX4_init ∈ lw_g := ⟨⟨Or.inr ⟨"BellForWanted", mgT 201 (by decide +kernel) rfl⟩, mgT 9 (by decide +kernel) rfl, by decide, by decide, by decide +kernel⟩, mgT 202 (by decide +kernel) rfl⟩
theorem ilX10_73 : MLk RX10 73 yX1_init 0 ∧ Cond.instanceMethod yX1_init ∈ lw_g := ⟨⟨Or.inr ⟨"BellForWanted", mgT 220 (by decide +kernel) rfl⟩, mgT 10 (by decide +kernel) rfl, by decide, by decide, by decide +kernel⟩, mgT 221 (by decide +kernel) rfl⟩
theorem ilX10_80 : MLk RX10 80 yX8_init 0 ∧ Cond.instanceMethod yX8_init ∈ lw_g := ⟨⟨Or.inr ⟨"BellForWanted", mgT 237 (by decide +kernel) rfl⟩, mgT 11 (by decide +kernel) rfl, by decide, by decide, by decide +kernel⟩, mgT 238 (by decide +kernel) rfl⟩
theorem vlX10_93 : VL RX10 93 yX6_faultIn 3 := ⟨⟨Or.inr ⟨"BellForWanted", mgT 260 (by decide +kernel) rfl⟩, mgT 6 (by decide +kernel) rfl, by decide, by decide, by decide +kernel⟩, mgT 262 (by decide +kernel) rfl, mgS (q := (yX6_faultIn, 6)) 0 (by decide +kernel) rfl⟩
theorem vlX6_32 : VL RX6 32 yX5_clears 0 := ⟨⟨Or.inr ⟨"BellForWanted", mgT 264 (by decide +kernel) rfl⟩, mgT 7 (by decide +kernel) rfl, by decide, by decide, by decide +kernel⟩, mgT 266 (by decide +kernel) rfl, mgS (q := (yX5_clears, 4)) 1 (by decide +kernel) rfl⟩
theorem vlX6_37 : VL RX6 37 yX6_goesBehind 2 := ⟨⟨Or.inl (mgT 268 (by decide +kernel) rfl), mgT 6 (by decide +kernel) rfl, by decide, by decide, by decide +kernel⟩, mgT 270 (by decide +kernel) rfl, mgS (q := (yX6_goesBehind, 6)) 2 (by decide +kernel) rfl⟩
theorem vlX6_63 : VL RX6 63 yX6_goesOnNumber 2 := ⟨⟨Or.inl (mgT 272 (by decide +kernel) rfl), mgT 6 (by decide +kernel) rfl, by decide, by decide, by decide +kernel⟩, mgT 274 (by decide +kernel) rfl, mgS (q := (yX6_goesOnNumber, 6)) 3 (by decide +kernel) rfl⟩
theorem vlX6_76 : VL RX6 76 yX5_widens 1 := ⟨⟨Or.inr ⟨"BellForWanted", mgT 276 (by decide +kernel) rfl⟩, mgT 7 (by decide +kernel) rfl, by decide, by decide, by decide +kernel⟩, mgT 278 (by decide +kernel) rfl, mgS (q := (yX5_widens, 4)) 4 (by decide +kernel) rfl⟩
theorem vlX6_67 : VL RX6 67 yX6_closes 1 := ⟨⟨Or.inl (mgT 280 (by decide +kernel) rfl), mgT 6 (by decide +kernel) rfl, by decide, by decide, by decide +kernel⟩, mgT 282 (by decide +kernel) rfl, mgS (q := (yX6_closes, 6)) 5 (by decide +kernel) rfl⟩
theorem vlX6_44 : VL RX6 44 yX6_settles 2 := ⟨⟨Or.inl (mgT 284 (by decide +kernel) rfl), mgT 6 (by decide +kernel) rfl, by decide, by decide, by decide +kernel⟩, mgT 286 (by decide +kernel) rfl, mgS (q := (yX6_settles, 6)) 6 (by decide +kernel) rfl⟩
theorem slX6_73 : SL RX6 73 yX6_bindingOf 1 := ⟨⟨Or.inl (mgT 288 (by decide +kernel) rfl), mgT 6 (by decide +kernel) rfl, by decide, by decide, by decide +kernel⟩, mgT 289 (by decide +kernel) rfl⟩
theorem vlX6_56 : VL RX6 56 yX5_adds 1 := ⟨⟨Or.inr ⟨"BellForWanted", mgT 291 (by decide +kernel) rfl⟩, mgT 7 (by decide +kernel) rfl, by decide, by decide, by decide +kernel⟩, mgT 293 (by decide +kernel) rfl, mgS (q := (yX5_adds, 4)) 7 (by decide +kernel) rfl⟩
theorem slX6_79 : SL RX6 79 yJ9_max_7cf53 2 := ⟨⟨Or.inl (mgT 295 (by decide +kernel) rfl), mgT 12 (by decide +kernel) rfl, by decide, by decide, by decide +kernel⟩, mgT 296 (by decide +kernel) rfl⟩
theorem vlX6_50 : VL RX6 50 yJ0_indexOf_0f7a4 1 := ⟨⟨Or.inl (mgT 299 (by decide +kernel) rfl), mgT 13 (by decide +kernel) rfl, by decide, by decide, by decide +kernel⟩, mgT 300 (by decide +kernel) rfl, mgT 301 (by decide +kernel) rfl⟩
theorem vlJ0_633 : VL RJ0 633 yJ0_indexOf_7cf53 2 := ⟨⟨Or.inl (mgT 303 (by decide +kernel) rfl), mgT 13 (by decide +kernel) rfl, by decide, by decide, by decide +kernel⟩, mgT 304 (by decide +kernel) rfl, mgT 305 (by decide +kernel) rfl⟩
theorem vlJ0_492 : VL RJ0 492 yJ0_isLatin1_aae02 0 := ⟨⟨Or.inl (mgT 307 (by decide +kernel) rfl), mgT 13 (by decide +kernel) rfl, by decide, by decide, by decide +kernel⟩, mgT 308 (by decide +kernel) rfl, mgT 309 (by decide +kernel) rfl⟩
theorem vlJ0_505 : VL RJ0 505 yJ0_length_8abf5 0 := ⟨⟨Or.inl (mgT 313 (by decide +kernel) rfl), mgT 13 (by decide +kernel) rfl, by decide, by decide, by decide +kernel⟩, mgT 314 (by decide +kernel) rfl, mgT 315 (by decide +kernel) rfl⟩
theorem vlJ0_335 : VL RJ0 335 yJ0_coder_7d493 0 := ⟨⟨Or.inl (mgT 317 (by decide +kernel) rfl), mgT 13 (by decide +kernel) rfl, by decide, by decide, by decide +kernel⟩, mgT 318 (by decide +kernel) rfl, mgT 319 (by decide +kernel) rfl⟩
theorem slJ0_637 : SL RJ0 637 yJ1_indexOf_4cfef 4 := ⟨⟨Or.inl (mgT 321 (by decide +kernel) rfl), mgT 14 (by decide +kernel) rfl, by decide, by decide, by decide +kernel⟩, mgT 322 (by decide +kernel) rfl⟩
theorem slJ1_88 : SL RJ1 88 yJ1_canEncode_9a6ad 1 := ⟨⟨Or.inl (mgT 324 (by decide +kernel) rfl), mgT 14 (by decide +kernel) rfl, by decide, by decide, by decide +kernel⟩, mgT 325 (by decide +kernel) rfl⟩
theorem slJ1_92 : SL RJ1 92 yJ9_max_7cf53 2 := ⟨⟨Or.inl (mgT 327 (by decide +kernel) rfl), mgT 12 (by decide +kernel) rfl, by decide, by decide, by decide +kernel⟩, mgT 296 (by decide +kernel) rfl⟩
theorem slJ1_38 : SL RJ1 38 yJ9_min_7cf53 2 := ⟨⟨Or.inl (mgT 328 (by decide +kernel) rfl), mgT 12 (by decide +kernel) rfl, by decide, by decide, by decide +kernel⟩, mgT 329 (by decide +kernel) rfl⟩
theorem slJ1_95 : SL RJ1 95 yJ1_indexOfChar_4cfef 4 := ⟨⟨Or.inl (mgT 331 (by decide +kernel) rfl), mgT 14 (by decide +kernel) rfl, by decide, by decide, by decide +kernel⟩, mgT 332 (by decide +kernel) rfl⟩
theorem slJ0_640 : SL RJ0 640 yJ2_indexOf_4cfef 4 := ⟨⟨Or.inl (mgT 334 (by decide +kernel) rfl), mgT 15 (by decide +kernel) rfl, by decide, by decide, by decide +kernel⟩, mgT 335 (by decide +kernel) rfl⟩
theorem slJ2_224 : SL RJ2 224 yJ9_max_7cf53 2 := ⟨⟨Or.inl (mgT 337 (by decide +kernel) rfl), mgT 12 (by decide +kernel) rfl, by decide, by decide, by decide +kernel⟩, mgT 296 (by decide +kernel) rfl⟩
theorem slJ2_183 : SL RJ2 183 yJ9_min_7cf53 2 := ⟨⟨Or.inl (mgT 338 (by decide +kernel) rfl), mgT 12 (by decide +kernel) rfl, by decide, by decide, by decide +kernel⟩, mgT 329 (by decide +kernel) rfl⟩
theorem slJ2_228 : SL RJ2 228 yJ2_indexOfChar_4cfef 4 := ⟨⟨Or.inl (mgT 340 (by decide +kernel) rfl), mgT 15 (by decide +kernel) rfl, by decide, by decide, by decide +kernel⟩, mgT 341 (by decide +kernel) rfl⟩
theorem slJ2_96 : SL RJ2 96 yJ2_checkBoundsBeginEnd_d044e 3 := ⟨⟨Or.inl (mgT 343 (by decide +kernel) rfl), mgT 15 (by decide +kernel) rfl, by decide, by decide, by decide +kernel⟩, mgT 344 (by decide +kernel) rfl⟩
theorem slJ2_48 : SL RJ2 48 yJ2_length_9d52b 1 := ⟨⟨Or.inl (mgT 346 (by decide +kernel) rfl), mgT 15 (by decide +kernel) rfl, by decide, by decide, by decide +kernel⟩, mgT 347 (by decide +kernel) rfl⟩
theorem slJ2_241 : SL RJ2 241 yJ0_checkBoundsBeginEnd_23922 3 := ⟨⟨Or.inl (mgT 349 (by decide +kernel) rfl), mgT 13 (by decide +kernel) rfl, by decide, by decide, by decide +kernel⟩, mgT 350 (by decide +kernel) rfl⟩
theorem slJ0_1062 : SL RJ0 1062 yJ3_checkFromToIndex_8c36e 4 := ⟨⟨Or.inl (mgT 354 (by decide +kernel) rfl), mgT 16 (by decide +kernel) rfl, by decide, by decide, by decide +kernel⟩, mgT 355 (by decide +kernel) rfl⟩
theorem slJ2_244 : SL RJ2 244 yJ2_indexOfCharUnsafe_4cfef 4 := ⟨⟨Or.inl (mgT 357 (by decide +kernel) rfl), mgT 15 (by decide +kernel) rfl, by decide, by decide, by decide +kernel⟩, mgT 358 (by decide +kernel) rfl⟩
theorem slJ2_71 : SL RJ2 71 yJ2_getChar_3b067 2 := ⟨⟨Or.inl (mgT 360 (by decide +kernel) rfl), mgT 15 (by decide +kernel) rfl, by decide, by decide, by decide +kernel⟩, mgT 361 (by decide +kernel) rfl⟩
theorem slJ2_232 : SL RJ2 232 yJ2_indexOfSupplementary_4cfef 4 := ⟨⟨Or.inl (mgT 369 (by decide +kernel) rfl), mgT 15 (by decide +kernel) rfl, by decide, by decide, by decide +kernel⟩, mgT 370 (by decide +kernel) rfl⟩
theorem slJ2_164 : SL RJ2 164 yJ11_isValidCodePoint_9a6ad 1 := ⟨⟨Or.inl (mgT 372 (by decide +kernel) rfl), mgT 17 (by decide +kernel) rfl, by decide, by decide, by decide +kernel⟩, mgT 373 (by decide +kernel) rfl⟩
theorem slJ2_157 : SL RJ2 157 yJ11_highSurrogate_5068e 1 := ⟨⟨Or.inl (mgT 375 (by decide +kernel) rfl), mgT 17 (by decide +kernel) rfl, by decide, by decide, by decide +kernel⟩, mgT 376 (by decide +kernel) rfl⟩
theorem slJ2_161 : SL RJ2 161 yJ11_lowSurrogate_5068e 1 := ⟨⟨Or.inl (mgT 379 (by decide +kernel) rfl), mgT 17 (by decide +kernel) rfl, by decide, by decide, by decide +kernel⟩, mgT 380 (by decide +kernel) rfl⟩
theorem vlX6_60 : VL RX6 60 yX6_waitsFor 1 := ⟨⟨Or.inl (mgT 383 (by decide +kernel) rfl), mgT 6 (by decide +kernel) rfl, by decide, by decide, by decide +kernel⟩, mgT 385 (by decide +kernel) rfl, mgS (q := (yX6_waitsFor, 6)) 8 (by decide +kernel) rfl⟩
theorem vlX6_41 : VL RX6 41 yX6_begins 2 := ⟨⟨Or.inl (mgT 387 (by decide +kernel) rfl), mgT 6 (by decide +kernel) rfl, by decide, by decide, by decide +kernel⟩, mgT 389 (by decide +kernel) rfl, mgS (q := (yX6_begins, 6)) 9 (by decide +kernel) rfl⟩
theorem vlL_23 : VL RL 23 yX10_sign 1 := ⟨⟨Or.inl (mgT 433 (by decide +kernel) rfl), mgT 1 (by decide +kernel) rfl, by decide, by decide, by decide +kernel⟩, mgT 434 (by decide +kernel) rfl, mgT 435 (by decide +kernel) rfl⟩
theorem vlX10_97 : VL RX10 97 yX9_takes 1 := ⟨⟨Or.inr ⟨"BellForWanted", mgT 437 (by decide +kernel) rfl⟩, mgT 2 (by decide +kernel) rfl, by decide, by decide, by decide +kernel⟩, mgT 439 (by decide +kernel) rfl, mgS (q := (yX9_takes, 2)) 10 (by decide +kernel) rfl⟩
theorem vlL_28 : VL RL 28 yX10_end 1 := ⟨⟨Or.inl (mgT 441 (by decide +kernel) rfl), mgT 1 (by decide +kernel) rfl, by decide, by decide, by decide +kernel⟩, mgT 442 (by decide +kernel) rfl, mgT 443 (by decide +kernel) rfl⟩
theorem vlX10_104 : VL RX10 104 yX9_cutsTo 1 := ⟨⟨Or.inr ⟨"BellForWanted", mgT 445 (by decide +kernel) rfl⟩, mgT 2 (by decide +kernel) rfl, by decide, by decide, by decide +kernel⟩, mgT 447 (by decide +kernel) rfl, mgS (q := (yX9_cutsTo, 2)) 11 (by decide +kernel) rfl⟩
theorem vlL_33 : VL RL 33 yX10_people 0 := ⟨⟨Or.inl (mgT 449 (by decide +kernel) rfl), mgT 1 (by decide +kernel) rfl, by decide, by decide, by decide +kernel⟩, mgT 450 (by decide +kernel) rfl, mgT 451 (by decide +kernel) rfl⟩
theorem vlX10_110 : VL RX10 110 yX9_peopleFault 1 := ⟨⟨Or.inr ⟨"BellForWanted", mgT 453 (by decide +kernel) rfl⟩, mgT 2 (by decide +kernel) rfl, by decide, by decide, by decide +kernel⟩, mgT 455 (by decide +kernel) rfl, mgS (q := (yX9_peopleFault, 2)) 12 (by decide +kernel) rfl⟩
theorem vlX9_19 : VL RX9 19 yX9_at 1 := ⟨⟨Or.inl (mgT 457 (by decide +kernel) rfl), mgT 2 (by decide +kernel) rfl, by decide, by decide, by decide +kernel⟩, mgT 459 (by decide +kernel) rfl, mgS (q := (yX9_at, 2)) 13 (by decide +kernel) rfl⟩
theorem vlX9_23 : VL RX9 23 yX9_digitAt 1 := ⟨⟨Or.inl (mgT 461 (by decide +kernel) rfl), mgT 2 (by decide +kernel) rfl, by decide, by decide, by decide +kernel⟩, mgT 463 (by decide +kernel) rfl, mgS (q := (yX9_digitAt, 2)) 14 (by decide +kernel) rfl⟩
theorem vlX10_114 : VL RX10 114 yX9_empties 0 := ⟨⟨Or.inr ⟨"BellForWanted", mgT 465 (by decide +kernel) rfl⟩, mgT 2 (by decide +kernel) rfl, by decide, by decide, by decide +kernel⟩, mgT 467 (by decide +kernel) rfl, mgS (q := (yX9_empties, 2)) 15 (by decide +kernel) rfl⟩
theorem vlX10_117 : VL RX10 117 yX9_digitAt 1 := ⟨⟨Or.inr ⟨"BellForWanted", mgT 469 (by decide +kernel) rfl⟩, mgT 2 (by decide +kernel) rfl, by decide, by decide, by decide +kernel⟩, mgT 463 (by decide +kernel) rfl, mgS (q := (yX9_digitAt, 2)) 14 (by decide +kernel) rfl⟩
theorem vlX10_120 : VL RX10 120 yX0_comes 2 := ⟨⟨Or.inr ⟨"BellForWanted", mgT 470 (by decide +kernel) rfl⟩, mgT 4 (by decide +kernel) rfl, by decide, by decide, by decide +kernel⟩, mgT 472 (by decide +kernel) rfl, mgS (q := (yX0_comes, 8)) 16 (by decide +kernel) rfl⟩
theorem vlX10_124 : VL RX10 124 yX3_forgetsAll 0 := ⟨⟨Or.inr ⟨"BellForWanted", mgT 474 (by decide +kernel) rfl⟩, mgT 5 (by decide +kernel) rfl, by decide, by decide, by decide +kernel⟩, mgT 476 (by decide +kernel) rfl, mgS (q := (yX3_forgetsAll, 5)) 17 (by decide +kernel) rfl⟩
theorem vlL_38 : VL RL 38 yX10_wants 0 := ⟨⟨Or.inl (mgT 478 (by decide +kernel) rfl), mgT 1 (by decide +kernel) rfl, by decide, by decide, by decide +kernel⟩, mgT 479 (by decide +kernel) rfl, mgT 480 (by decide +kernel) rfl⟩
theorem vlX10_127 : VL RX10 127 yX9_wantsFault 1 := ⟨⟨Or.inr ⟨"BellForWanted", mgT 482 (by decide +kernel) rfl⟩, mgT 2 (by decide +kernel) rfl, by decide, by decide, by decide +kernel⟩, mgT 484 (by decide +kernel) rfl, mgS (q := (yX9_wantsFault, 2)) 18 (by decide +kernel) rfl⟩
theorem vlX10_130 : VL RX10 130 yX0_wantsNobody 1 := ⟨⟨Or.inr ⟨"BellForWanted", mgT 486 (by decide +kernel) rfl⟩, mgT 4 (by decide +kernel) rfl, by decide, by decide, by decide +kernel⟩, mgT 488 (by decide +kernel) rfl, mgS (q := (yX0_wantsNobody, 8)) 19 (by decide +kernel) rfl⟩
theorem vlX0_37 : VL RX0 37 yX0_has 1 := ⟨⟨Or.inl (mgT 490 (by decide +kernel) rfl), mgT 4 (by decide +kernel) rfl, by decide, by decide, by decide +kernel⟩, mgT 492 (by decide +kernel) rfl, mgS (q := (yX0_has, 8)) 20 (by decide +kernel) rfl⟩
theorem vlX10_134 : VL RX10 134 yX9_at 1 := ⟨⟨Or.inr ⟨"BellForWanted", mgT 494 (by decide +kernel) rfl⟩, mgT 2 (by decide +kernel) rfl, by decide, by decide, by decide +kernel⟩, mgT 459 (by decide +kernel) rfl, mgS (q := (yX9_at, 2)) 13 (by decide +kernel) rfl⟩
theorem vlX10_138 : VL RX10 138 yX0_wantsToo 2 := ⟨⟨Or.inr ⟨"BellForWanted", mgT 495 (by decide +kernel) rfl⟩, mgT 4 (by decide +kernel) rfl, by decide, by decide, by decide +kernel⟩, mgT 497 (by decide +kernel) rfl, mgS (q := (yX0_wantsToo, 8)) 21 (by decide +kernel) rfl⟩
theorem vlL_42 : VL RL 42 yX10_rule 0 := ⟨⟨Or.inl (mgT 499 (by decide +kernel) rfl), mgT 1 (by decide +kernel) rfl, by decide, by decide, by decide +kernel⟩, mgT 500 (by decide +kernel) rfl, mgT 501 (by decide +kernel) rfl⟩
theorem vlX10_141 : VL RX10 141 yX10_readsSpare 0 := ⟨⟨Or.inl (mgT 503 (by decide +kernel) rfl), mgT 1 (by decide +kernel) rfl, by decide, by decide, by decide +kernel⟩, mgT 505 (by decide +kernel) rfl, mgS (q := (yX10_readsSpare, 13)) 22 (by decide +kernel) rfl⟩
theorem vlL_55 : VL RL 55 yX10_sheet 4 := ⟨⟨Or.inl (mgT 507 (by decide +kernel) rfl), mgT 1 (by decide +kernel) rfl, by decide, by decide, by decide +kernel⟩, mgT 508 (by decide +kernel) rfl, mgT 509 (by decide +kernel) rfl⟩
theorem vlX10_177 : VL RX10 177 yX0_skillsFrom 4 := ⟨⟨Or.inr ⟨"BellForWanted", mgT 511 (by decide +kernel) rfl⟩, mgT 4 (by decide +kernel) rfl, by decide, by decide, by decide +kernel⟩, mgT 513 (by decide +kernel) rfl, mgS (q := (yX0_skillsFrom, 8)) 23 (by decide +kernel) rfl⟩
theorem slX0_41 : SL RX0 41 yJ9_min_7cf53 2 := ⟨⟨Or.inl (mgT 515 (by decide +kernel) rfl), mgT 12 (by decide +kernel) rfl, by decide, by decide, by decide +kernel⟩, mgT 329 (by decide +kernel) rfl⟩
theorem slX0_47 : SL RX0 47 yJ9_max_7cf53 2 := ⟨⟨Or.inl (mgT 516 (by decide +kernel) rfl), mgT 12 (by decide +kernel) rfl, by decide, by decide, by decide +kernel⟩, mgT 296 (by decide +kernel) rfl⟩
theorem vlX10_181 : VL RX10 181 yX0_sum 1 := ⟨⟨Or.inr ⟨"BellForWanted", mgT 517 (by decide +kernel) rfl⟩, mgT 4 (by decide +kernel) rfl, by decide, by decide, by decide +kernel⟩, mgT 519 (by decide +kernel) rfl, mgS (q := (yX0_sum, 8)) 24 (by decide +kernel) rfl⟩
theorem vlL_60 : VL RL 60 yX10_mornings 1 := ⟨⟨Or.inl (mgT 521 (by decide +kernel) rfl), mgT 1 (by decide +kernel) rfl, by decide, by decide, by decide +kernel⟩, mgT 522 (by decide +kernel) rfl, mgT 523 (by decide +kernel) rfl⟩
theorem vlX10_185 : VL RX10 185 yX3_marks 1 := ⟨⟨Or.inr ⟨"BellForWanted", mgT 525 (by decide +kernel) rfl⟩, mgT 5 (by decide +kernel) rfl, by decide, by decide, by decide +kernel⟩, mgT 527 (by decide +kernel) rfl, mgS (q := (yX3_marks, 5)) 25 (by decide +kernel) rfl⟩
theorem vlX3_30 : VL RX3 30 yX0_becomes 1 := ⟨⟨Or.inr ⟨"BellForWanted", mgT 529 (by decide +kernel) rfl⟩, mgT 4 (by decide +kernel) rfl, by decide, by decide, by decide +kernel⟩, mgT 531 (by decide +kernel) rfl, mgS (q := (yX0_becomes, 8)) 26 (by decide +kernel) rfl⟩
theorem vlX10_192 : VL RX10 192 yX10_goBy 2 := ⟨⟨Or.inl (mgT 533 (by decide +kernel) rfl), mgT 1 (by decide +kernel) rfl, by decide, by decide, by decide +kernel⟩, mgT 535 (by decide +kernel) rfl, mgS (q := (yX10_goBy, 13)) 27 (by decide +kernel) rfl⟩
theorem vlX10_234 : VL RX10 234 yX5_wakers 1 := ⟨⟨Or.inr ⟨"BellForWanted", mgT 537 (by decide +kernel) rfl⟩, mgT 7 (by decide +kernel) rfl, by decide, by decide, by decide +kernel⟩, mgT 539 (by decide +kernel) rfl, mgS (q := (yX5_wakers, 4)) 28 (by decide +kernel) rfl⟩
theorem vlX5_33 : VL RX5 33 yX0_wanting 1 := ⟨⟨Or.inr ⟨"BellForWanted", mgT 541 (by decide +kernel) rfl⟩, mgT 4 (by decide +kernel) rfl, by decide, by decide, by decide +kernel⟩, mgT 543 (by decide +kernel) rfl, mgS (q := (yX0_wanting, 8)) 29 (by decide +kernel) rfl⟩
theorem vlX5_37 : VL RX5 37 yX5_needers 3 := ⟨⟨Or.inl (mgT 545 (by decide +kernel) rfl), mgT 7 (by decide +kernel) rfl, by decide, by decide, by decide +kernel⟩, mgT 547 (by decide +kernel) rfl, mgS (q := (yX5_needers, 4)) 30 (by decide +kernel) rfl⟩
theorem vlX5_41 : VL RX5 41 yX0_has 1 := ⟨⟨Or.inr ⟨"BellForWanted", mgT 549 (by decide +kernel) rfl⟩, mgT 4 (by decide +kernel) rfl, by decide, by decide, by decide +kernel⟩, mgT 492 (by decide +kernel) rfl, mgS (q := (yX0_has, 8)) 20 (by decide +kernel) rfl⟩
theorem slX5_48 : SL RX5 48 yJ6_bitCount_0f7a4 1 := ⟨⟨Or.inl (mgT 550 (by decide +kernel) rfl), mgT 23 (by decide +kernel) rfl, by decide, by decide, by decide +kernel⟩, mgT 551 (by decide +kernel) rfl⟩
theorem vlX5_62 : VL RX5 62 yX5_value 0 := ⟨⟨Or.inl (mgT 556 (by decide +kernel) rfl), mgT 7 (by decide +kernel) rfl, by decide, by decide, by decide +kernel⟩, mgT 558 (by decide +kernel) rfl, mgS (q := (yX5_value, 4)) 31 (by decide +kernel) rfl⟩
theorem slX5_66 : SL RX5 66 yX5_joined 3 := ⟨⟨Or.inl (mgT 560 (by decide +kernel) rfl), mgT 7 (by decide +kernel) rfl, by decide, by decide, by decide +kernel⟩, mgT 561 (by decide +kernel) rfl⟩
theorem vlX10_238 : VL RX10 238 yX0_passMorning 1 := ⟨⟨Or.inr ⟨"BellForWanted", mgT 563 (by decide +kernel) rfl⟩, mgT 4 (by decide +kernel) rfl, by decide, by decide, by decide +kernel⟩, mgT 565 (by decide +kernel) rfl, mgS (q := (yX0_passMorning, 8)) 32 (by decide +kernel) rfl⟩
theorem vlX0_66 : VL RX0 66 yX0_unserved 1 := ⟨⟨Or.inl (mgT 567 (by decide +kernel) rfl), mgT 4 (by decide +kernel) rfl, by decide, by decide, by decide +kernel⟩, mgT 569 (by decide +kernel) rfl, mgS (q := (yX0_unserved, 8)) 33 (by decide +kernel) rfl⟩
theorem vlX0_54 : VL RX0 54 yX0_everybody 0 := ⟨⟨Or.inl (mgT 571 (by decide +kernel) rfl), mgT 4 (by decide +kernel) rfl, by decide, by decide, by decide +kernel⟩, mgT 573 (by decide +kernel) rfl, mgS (q := (yX0_everybody, 8)) 34 (by decide +kernel) rfl⟩
theorem vlX0_57 : VL RX0 57 yX0_wantingSome 1 := ⟨⟨Or.inl (mgT 575 (by decide +kernel) rfl), mgT 4 (by decide +kernel) rfl, by decide, by decide, by decide +kernel⟩, mgT 577 (by decide +kernel) rfl, mgS (q := (yX0_wantingSome, 8)) 35 (by decide +kernel) rfl⟩
theorem slX0_61 : SL RX0 61 yJ6_bitCount_0f7a4 1 := ⟨⟨Or.inl (mgT 579 (by decide +kernel) rfl), mgT 23 (by decide +kernel) rfl, by decide, by decide, by decide +kernel⟩, mgT 551 (by decide +kernel) rfl⟩
theorem vlX10_196 : VL RX10 196 yX3_keepsMark 0 := ⟨⟨Or.inr ⟨"BellForWanted", mgT 580 (by decide +kernel) rfl⟩, mgT 5 (by decide +kernel) rfl, by decide, by decide, by decide +kernel⟩, mgT 582 (by decide +kernel) rfl, mgS (q := (yX3_keepsMark, 5)) 36 (by decide +kernel) rfl⟩
theorem slX3_34 : SL RX3 34 yJ9_min_7cf53 2 := ⟨⟨Or.inl (mgT 584 (by decide +kernel) rfl), mgT 12 (by decide +kernel) rfl, by decide, by decide, by decide +kernel⟩, mgT 329 (by decide +kernel) rfl⟩
theorem vlX10_199 : VL RX10 199 yX2_tellsBoth 2 := ⟨⟨Or.inr ⟨"BellForWanted", mgT 585 (by decide +kernel) rfl⟩, mgT 3 (by decide +kernel) rfl, by decide, by decide, by decide +kernel⟩, mgT 587 (by decide +kernel) rfl, mgS (q := (yX2_tellsBoth, 2)) 37 (by decide +kernel) rfl⟩
theorem vlX2_17 : VL RX2 17 yX2_clears 0 := ⟨⟨Or.inl (mgT 589 (by decide +kernel) rfl), mgT 3 (by decide +kernel) rfl, by decide, by decide, by decide +kernel⟩, mgT 591 (by decide +kernel) rfl, mgS (q := (yX2_clears, 2)) 38 (by decide +kernel) rfl⟩
theorem vlX2_20 : VL RX2 20 yX2_adds 1 := ⟨⟨Or.inl (mgT 593 (by decide +kernel) rfl), mgT 3 (by decide +kernel) rfl, by decide, by decide, by decide +kernel⟩, mgT 595 (by decide +kernel) rfl, mgS (q := (yX2_adds, 2)) 39 (by decide +kernel) rfl⟩
theorem vlL_64 : VL RL 64 yX10_wishes 2 := ⟨⟨Or.inl (mgT 597 (by decide +kernel) rfl), mgT 1 (by decide +kernel) rfl, by decide, by decide, by decide +kernel⟩, mgT 598 (by decide +kernel) rfl, mgT 599 (by decide +kernel) rfl⟩
theorem vlX10_203 : VL RX10 203 yX0_turns 2 := ⟨⟨Or.inr ⟨"BellForWanted", mgT 601 (by decide +kernel) rfl⟩, mgT 4 (by decide +kernel) rfl, by decide, by decide, by decide +kernel⟩, mgT 603 (by decide +kernel) rfl, mgS (q := (yX0_turns, 8)) 40 (by decide +kernel) rfl⟩
theorem vlX10_207 : VL RX10 207 yX10_done 1 := ⟨⟨Or.inl (mgT 605 (by decide +kernel) rfl), mgT 1 (by decide +kernel) rfl, by decide, by decide, by decide +kernel⟩, mgT 607 (by decide +kernel) rfl, mgS (q := (yX10_done, 13)) 41 (by decide +kernel) rfl⟩
theorem vlL_68 : VL RL 68 yX10_pills 2 := ⟨⟨Or.inl (mgT 609 (by decide +kernel) rfl), mgT 1 (by decide +kernel) rfl, by decide, by decide, by decide +kernel⟩, mgT 610 (by decide +kernel) rfl, mgT 611 (by decide +kernel) rfl⟩
theorem vlX10_210 : VL RX10 210 yX0_takesPills 2 := ⟨⟨Or.inr ⟨"BellForWanted", mgT 613 (by decide +kernel) rfl⟩, mgT 4 (by decide +kernel) rfl, by decide, by decide, by decide +kernel⟩, mgT 615 (by decide +kernel) rfl, mgS (q := (yX0_takesPills, 8)) 42 (by decide +kernel) rfl⟩
theorem vlL_72 : VL RL 72 yX10_learns 2 := ⟨⟨Or.inl (mgT 617 (by decide +kernel) rfl), mgT 1 (by decide +kernel) rfl, by decide, by decide, by decide +kernel⟩, mgT 618 (by decide +kernel) rfl, mgT 619 (by decide +kernel) rfl⟩
theorem vlX10_213 : VL RX10 213 yX0_becomesSkilled 2 := ⟨⟨Or.inr ⟨"BellForWanted", mgT 621 (by decide +kernel) rfl⟩, mgT 4 (by decide +kernel) rfl, by decide, by decide, by decide +kernel⟩, mgT 623 (by decide +kernel) rfl, mgS (q := (yX0_becomesSkilled, 8)) 43 (by decide +kernel) rfl⟩
theorem vlL_76 : VL RL 76 yX10_leaves 1 := ⟨⟨Or.inl (mgT 625 (by decide +kernel) rfl), mgT 1 (by decide +kernel) rfl, by decide, by decide, by decide +kernel⟩, mgT 626 (by decide +kernel) rfl, mgT 627 (by decide +kernel) rfl⟩
theorem vlX10_216 : VL RX10 216 yX0_isRidOf 1 := ⟨⟨Or.inr ⟨"BellForWanted", mgT 629 (by decide +kernel) rfl⟩, mgT 4 (by decide +kernel) rfl, by decide, by decide, by decide +kernel⟩, mgT 631 (by decide +kernel) rfl, mgS (q := (yX0_isRidOf, 8)) 44 (by decide +kernel) rfl⟩
theorem vlX0_50 : VL RX0 50 yX0_wantsOfAll 0 := ⟨⟨Or.inl (mgT 633 (by decide +kernel) rfl), mgT 4 (by decide +kernel) rfl, by decide, by decide, by decide +kernel⟩, mgT 635 (by decide +kernel) rfl, mgS (q := (yX0_wantsOfAll, 8)) 45 (by decide +kernel) rfl⟩
theorem vlL_80 : VL RL 80 yX10_week 0 := ⟨⟨Or.inl (mgT 637 (by decide +kernel) rfl), mgT 1 (by decide +kernel) rfl, by decide, by decide, by decide +kernel⟩, mgT 638 (by decide +kernel) rfl, mgT 639 (by decide +kernel) rfl⟩
theorem vlX10_219 : VL RX10 219 yX9_weekFault 0 := ⟨⟨Or.inr ⟨"BellForWanted", mgT 641 (by decide +kernel) rfl⟩, mgT 2 (by decide +kernel) rfl, by decide, by decide, by decide +kernel⟩, mgT 643 (by decide +kernel) rfl, mgS (q := (yX9_weekFault, 2)) 46 (by decide +kernel) rfl⟩
theorem slX9_27 : SL RX9 27 yX9_digitsOf 1 := ⟨⟨Or.inl (mgT 645 (by decide +kernel) rfl), mgT 2 (by decide +kernel) rfl, by decide, by decide, by decide +kernel⟩, mgT 646 (by decide +kernel) rfl⟩
theorem vlX10_222 : VL RX10 222 yX10_act 1 := ⟨⟨Or.inl (mgT 648 (by decide +kernel) rfl), mgT 1 (by decide +kernel) rfl, by decide, by decide, by decide +kernel⟩, mgT 650 (by decide +kernel) rfl, mgS (q := (yX10_act, 13)) 47 (by decide +kernel) rfl⟩
theorem slX10_225 : SL RX10 225 yX9_digitsOf 1 := ⟨⟨Or.inr ⟨"BellForWanted", mgT 652 (by decide +kernel) rfl⟩, mgT 2 (by decide +kernel) rfl, by decide, by decide, by decide +kernel⟩, mgT 646 (by decide +kernel) rfl⟩
theorem vlL_84 : VL RL 84 yX10_undo 0 := ⟨⟨Or.inl (mgT 653 (by decide +kernel) rfl), mgT 1 (by decide +kernel) rfl, by decide, by decide, by decide +kernel⟩, mgT 654 (by decide +kernel) rfl, mgT 655 (by decide +kernel) rfl⟩
theorem vlX10_229 : VL RX10 229 yX3_comesBack 1 := ⟨⟨Or.inr ⟨"BellForWanted", mgT 657 (by decide +kernel) rfl⟩, mgT 5 (by decide +kernel) rfl, by decide, by decide, by decide +kernel⟩, mgT 659 (by decide +kernel) rfl, mgS (q := (yX3_comesBack, 5)) 48 (by decide +kernel) rfl⟩
theorem vlL_88 : VL RL 88 yX10_wakes 0 := ⟨⟨Or.inl (mgT 661 (by decide +kernel) rfl), mgT 1 (by decide +kernel) rfl, by decide, by decide, by decide +kernel⟩, mgT 662 (by decide +kernel) rfl, mgT 663 (by decide +kernel) rfl⟩
theorem slX10_241 : SL RX10 241 yJ6_bitCount_0f7a4 1 := ⟨⟨Or.inl (mgT 665 (by decide +kernel) rfl), mgT 23 (by decide +kernel) rfl, by decide, by decide, by decide +kernel⟩, mgT 551 (by decide +kernel) rfl⟩
theorem vlX10_246 : VL RX10 246 yX0_unserved 1 := ⟨⟨Or.inr ⟨"BellForWanted", mgT 666 (by decide +kernel) rfl⟩, mgT 4 (by decide +kernel) rfl, by decide, by decide, by decide +kernel⟩, mgT 569 (by decide +kernel) rfl, mgS (q := (yX0_unserved, 8)) 33 (by decide +kernel) rfl⟩
theorem vlL_92 : VL RL 92 yX10_later 2 := ⟨⟨Or.inl (mgT 667 (by decide +kernel) rfl), mgT 1 (by decide +kernel) rfl, by decide, by decide, by decide +kernel⟩, mgT 668 (by decide +kernel) rfl, mgT 669 (by decide +kernel) rfl⟩
theorem vlX10_148 : VL RX10 148 yX0_has 1 := ⟨⟨Or.inr ⟨"BellForWanted", mgT 671 (by decide +kernel) rfl⟩, mgT 4 (by decide +kernel) rfl, by decide, by decide, by decide +kernel⟩, mgT 492 (by decide +kernel) rfl, mgS (q := (yX0_has, 8)) 20 (by decide +kernel) rfl⟩
theorem vlX10_249 : VL RX10 249 yX0_becomes 1 := ⟨⟨Or.inr ⟨"BellForWanted", mgT 672 (by decide +kernel) rfl⟩, mgT 4 (by decide +kernel) rfl, by decide, by decide, by decide +kernel⟩, mgT 531 (by decide +kernel) rfl, mgS (q := (yX0_becomes, 8)) 26 (by decide +kernel) rfl⟩
theorem vlL_96 : VL RL 96 yX10_when 1 := ⟨⟨Or.inl (mgT 673 (by decide +kernel) rfl), mgT 1 (by decide +kernel) rfl, by decide, by decide, by decide +kernel⟩, mgT 674 (by decide +kernel) rfl, mgT 675 (by decide +kernel) rfl⟩
theorem vlX10_252 : VL RX10 252 yX10_tellsMornings 1 := ⟨⟨Or.inl (mgT 677 (by decide +kernel) rfl), mgT 1 (by decide +kernel) rfl, by decide, by decide, by decide +kernel⟩, mgT 679 (by decide +kernel) rfl, mgS (q := (yX10_tellsMornings, 13)) 49 (by decide +kernel) rfl⟩
theorem vlX10_255 : VL RX10 255 yX2_tellsOne 1 := ⟨⟨Or.inr ⟨"BellForWanted", mgT 681 (by decide +kernel) rfl⟩, mgT 3 (by decide +kernel) rfl, by decide, by decide, by decide +kernel⟩, mgT 683 (by decide +kernel) rfl, mgS (q := (yX2_tellsOne, 2)) 50 (by decide +kernel) rfl⟩
theorem vlL_100 : VL RL 100 yX10_quiet 0 := ⟨⟨Or.inl (mgT 685 (by decide +kernel) rfl), mgT 1 (by decide +kernel) rfl, by decide, by decide, by decide +kernel⟩, mgT 686 (by decide +kernel) rfl, mgT 687 (by decide +kernel) rfl⟩
theorem vlL_104 : VL RL 104 yX10_runs 2 := ⟨⟨Or.inl (mgT 689 (by decide +kernel) rfl), mgT 1 (by decide +kernel) rfl, by decide, by decide, by decide +kernel⟩, mgT 690 (by decide +kernel) rfl, mgT 691 (by decide +kernel) rfl⟩
theorem vlL_108 : VL RL 108 yX10_each 0 := ⟨⟨Or.inl (mgT 693 (by decide +kernel) rfl), mgT 1 (by decide +kernel) rfl, by decide, by decide, by decide +kernel⟩, mgT 694 (by decide +kernel) rfl, mgT 695 (by decide +kernel) rfl⟩
theorem vlX10_259 : VL RX10 259 yX0_everybody 0 := ⟨⟨Or.inr ⟨"BellForWanted", mgT 697 (by decide +kernel) rfl⟩, mgT 4 (by decide +kernel) rfl, by decide, by decide, by decide +kernel⟩, mgT 573 (by decide +kernel) rfl, mgS (q := (yX0_everybody, 8)) 34 (by decide +kernel) rfl⟩
theorem vlL_112 : VL RL 112 yX10_busiest 1 := ⟨⟨Or.inl (mgT 698 (by decide +kernel) rfl), mgT 1 (by decide +kernel) rfl, by decide, by decide, by decide +kernel⟩, mgT 699 (by decide +kernel) rfl, mgT 700 (by decide +kernel) rfl⟩
theorem vlX10_262 : VL RX10 262 yX0_restsWoken 0 := ⟨⟨Or.inr ⟨"BellForWanted", mgT 702 (by decide +kernel) rfl⟩, mgT 4 (by decide +kernel) rfl, by decide, by decide, by decide +kernel⟩, mgT 704 (by decide +kernel) rfl, mgS (q := (yX0_restsWoken, 8)) 51 (by decide +kernel) rfl⟩
theorem vlX10_265 : VL RX10 265 yX0_mostWoken 0 := ⟨⟨Or.inr ⟨"BellForWanted", mgT 706 (by decide +kernel) rfl⟩, mgT 4 (by decide +kernel) rfl, by decide, by decide, by decide +kernel⟩, mgT 708 (by decide +kernel) rfl, mgS (q := (yX0_mostWoken, 8)) 52 (by decide +kernel) rfl⟩
theorem vlL_116 : VL RL 116 yX10_serves 0 := ⟨⟨Or.inl (mgT 710 (by decide +kernel) rfl), mgT 1 (by decide +kernel) rfl, by decide, by decide, by decide +kernel⟩, mgT 711 (by decide +kernel) rfl, mgT 712 (by decide +kernel) rfl⟩
theorem vlX10_268 : VL RX10 268 yX7_tellsServed 3 := ⟨⟨Or.inr ⟨"BellForWanted", mgT 714 (by decide +kernel) rfl⟩, mgT 8 (by decide +kernel) rfl, by decide, by decide, by decide +kernel⟩, mgT 716 (by decide +kernel) rfl, mgS (q := (yX7_tellsServed, 1)) 53 (by decide +kernel) rfl⟩
theorem vlX7_15 : VL RX7 15 yX7_reckons 2 := ⟨⟨Or.inl (mgT 718 (by decide +kernel) rfl), mgT 8 (by decide +kernel) rfl, by decide, by decide, by decide +kernel⟩, mgT 720 (by decide +kernel) rfl, mgS (q := (yX7_reckons, 1)) 54 (by decide +kernel) rfl⟩
theorem vlX7_45 : VL RX7 45 yX0_everybody 0 := ⟨⟨Or.inr ⟨"BellForWanted", mgT 722 (by decide +kernel) rfl⟩, mgT 4 (by decide +kernel) rfl, by decide, by decide, by decide +kernel⟩, mgT 573 (by decide +kernel) rfl, mgS (q := (yX0_everybody, 8)) 34 (by decide +kernel) rfl⟩
theorem vlX7_49 : VL RX7 49 yX7_best 3 := ⟨⟨Or.inl (mgT 723 (by decide +kernel) rfl), mgT 8 (by decide +kernel) rfl, by decide, by decide, by decide +kernel⟩, mgT 725 (by decide +kernel) rfl, mgS (q := (yX7_best, 1)) 55 (by decide +kernel) rfl⟩
theorem vlX7_41 : VL RX7 41 yX7_mostFrom 2 := ⟨⟨Or.inl (mgT 727 (by decide +kernel) rfl), mgT 8 (by decide +kernel) rfl, by decide, by decide, by decide +kernel⟩, mgT 729 (by decide +kernel) rfl, mgS (q := (yX7_mostFrom, 1)) 56 (by decide +kernel) rfl⟩
theorem slX7_52 : SL RX7 52 yJ9_max_7cf53 2 := ⟨⟨Or.inl (mgT 731 (by decide +kernel) rfl), mgT 12 (by decide +kernel) rfl, by decide, by decide, by decide +kernel⟩, mgT 296 (by decide +kernel) rfl⟩
theorem vlX7_19 : VL RX7 19 yX2_clears 0 := ⟨⟨Or.inr ⟨"BellForWanted", mgT 732 (by decide +kernel) rfl⟩, mgT 3 (by decide +kernel) rfl, by decide, by decide, by decide +kernel⟩, mgT 591 (by decide +kernel) rfl, mgS (q := (yX2_clears, 2)) 38 (by decide +kernel) rfl⟩
theorem vlX7_33 : VL RX7 33 yX7_leastBy 3 := ⟨⟨Or.inl (mgT 733 (by decide +kernel) rfl), mgT 8 (by decide +kernel) rfl, by decide, by decide, by decide +kernel⟩, mgT 735 (by decide +kernel) rfl, mgS (q := (yX7_leastBy, 1)) 57 (by decide +kernel) rfl⟩
theorem vlX7_37 : VL RX7 37 yX2_adds 1 := ⟨⟨Or.inr ⟨"BellForWanted", mgT 737 (by decide +kernel) rfl⟩, mgT 3 (by decide +kernel) rfl, by decide, by decide, by decide +kernel⟩, mgT 595 (by decide +kernel) rfl, mgS (q := (yX2_adds, 2)) 39 (by decide +kernel) rfl⟩
theorem vlL_120 : VL RL 120 yX10_boot 0 := ⟨⟨Or.inl (mgT 738 (by decide +kernel) rfl), mgT 1 (by decide +kernel) rfl, by decide, by decide, by decide +kernel⟩, mgT 739 (by decide +kernel) rfl, mgT 740 (by decide +kernel) rfl⟩
theorem slX10_272 : SL RX10 272 yX7_tooMany 2 := ⟨⟨Or.inr ⟨"BellForWanted", mgT 742 (by decide +kernel) rfl⟩, mgT 8 (by decide +kernel) rfl, by decide, by decide, by decide +kernel⟩, mgT 743 (by decide +kernel) rfl⟩
theorem vlX7_57 : VL RX7 57 yX0_wantingSome 1 := ⟨⟨Or.inr ⟨"BellForWanted", mgT 745 (by decide +kernel) rfl⟩, mgT 4 (by decide +kernel) rfl, by decide, by decide, by decide +kernel⟩, mgT 577 (by decide +kernel) rfl, mgS (q := (yX0_wantingSome, 8)) 35 (by decide +kernel) rfl⟩
theorem slX7_61 : SL RX7 61 yJ6_bitCount_0f7a4 1 := ⟨⟨Or.inl (mgT 746 (by decide +kernel) rfl), mgT 23 (by decide +kernel) rfl, by decide, by decide, by decide +kernel⟩, mgT 551 (by decide +kernel) rfl⟩
theorem vlX7_66 : VL RX7 66 yX0_wantedBy 1 := ⟨⟨Or.inr ⟨"BellForWanted", mgT 747 (by decide +kernel) rfl⟩, mgT 4 (by decide +kernel) rfl, by decide, by decide, by decide +kernel⟩, mgT 749 (by decide +kernel) rfl, mgS (q := (yX0_wantedBy, 8)) 58 (by decide +kernel) rfl⟩
theorem vlX10_275 : VL RX10 275 yX0_wantedBy 1 := ⟨⟨Or.inr ⟨"BellForWanted", mgT 751 (by decide +kernel) rfl⟩, mgT 4 (by decide +kernel) rfl, by decide, by decide, by decide +kernel⟩, mgT 749 (by decide +kernel) rfl, mgS (q := (yX0_wantedBy, 8)) 58 (by decide +kernel) rfl⟩
theorem vlL_124 : VL RL 124 yX10_enough 0 := ⟨⟨Or.inl (mgT 752 (by decide +kernel) rfl), mgT 1 (by decide +kernel) rfl, by decide, by decide, by decide +kernel⟩, mgT 753 (by decide +kernel) rfl, mgT 754 (by decide +kernel) rfl⟩
theorem slX10_278 : SL RX10 278 yX7_fewest 2 := ⟨⟨Or.inr ⟨"BellForWanted", mgT 756 (by decide +kernel) rfl⟩, mgT 8 (by decide +kernel) rfl, by decide, by decide, by decide +kernel⟩, mgT 757 (by decide +kernel) rfl⟩
theorem vlL_128 : VL RL 128 yX10_steps 1 := ⟨⟨Or.inl (mgT 759 (by decide +kernel) rfl), mgT 1 (by decide +kernel) rfl, by decide, by decide, by decide +kernel⟩, mgT 760 (by decide +kernel) rfl, mgT 761 (by decide +kernel) rfl⟩
theorem vlX10_170 : VL RX10 170 yX0_wanting 1 := ⟨⟨Or.inr ⟨"BellForWanted", mgT 763 (by decide +kernel) rfl⟩, mgT 4 (by decide +kernel) rfl, by decide, by decide, by decide +kernel⟩, mgT 543 (by decide +kernel) rfl, mgS (q := (yX0_wanting, 8)) 29 (by decide +kernel) rfl⟩
theorem vlX10_281 : VL RX10 281 yX5_rouses 3 := ⟨⟨Or.inr ⟨"BellForWanted", mgT 764 (by decide +kernel) rfl⟩, mgT 7 (by decide +kernel) rfl, by decide, by decide, by decide +kernel⟩, mgT 766 (by decide +kernel) rfl, mgS (q := (yX5_rouses, 4)) 59 (by decide +kernel) rfl⟩
theorem vlX10_285 : VL RX10 285 yX2_clears 0 := ⟨⟨Or.inr ⟨"BellForWanted", mgT 768 (by decide +kernel) rfl⟩, mgT 3 (by decide +kernel) rfl, by decide, by decide, by decide +kernel⟩, mgT 591 (by decide +kernel) rfl, mgS (q := (yX2_clears, 2)) 38 (by decide +kernel) rfl⟩
theorem vlX10_288 : VL RX10 288 yX10_stepFrom 2 := ⟨⟨Or.inl (mgT 769 (by decide +kernel) rfl), mgT 1 (by decide +kernel) rfl, by decide, by decide, by decide +kernel⟩, mgT 771 (by decide +kernel) rfl, mgS (q := (yX10_stepFrom, 13)) 60 (by decide +kernel) rfl⟩
theorem vlX10_294 : VL RX10 294 yX10_turnsTrial 1 := ⟨⟨Or.inl (mgT 773 (by decide +kernel) rfl), mgT 1 (by decide +kernel) rfl, by decide, by decide, by decide +kernel⟩, mgT 775 (by decide +kernel) rfl, mgS (q := (yX10_turnsTrial, 13)) 61 (by decide +kernel) rfl⟩
theorem vlX10_291 : VL RX10 291 yX10_twoSteps 1 := ⟨⟨Or.inl (mgT 777 (by decide +kernel) rfl), mgT 1 (by decide +kernel) rfl, by decide, by decide, by decide +kernel⟩, mgT 779 (by decide +kernel) rfl, mgS (q := (yX10_twoSteps, 13)) 62 (by decide +kernel) rfl⟩
theorem vlL_132 : VL RL 132 yX10_sleeps 1 := ⟨⟨Or.inl (mgT 781 (by decide +kernel) rfl), mgT 1 (by decide +kernel) rfl, by decide, by decide, by decide +kernel⟩, mgT 782 (by decide +kernel) rfl, mgT 783 (by decide +kernel) rfl⟩
theorem vlL_136 : VL RL 136 yX10_worth 1 := ⟨⟨Or.inl (mgT 785 (by decide +kernel) rfl), mgT 1 (by decide +kernel) rfl, by decide, by decide, by decide +kernel⟩, mgT 786 (by decide +kernel) rfl, mgT 787 (by decide +kernel) rfl⟩
theorem vlL_140 : VL RL 140 yX10_spares 0 := ⟨⟨Or.inl (mgT 789 (by decide +kernel) rfl), mgT 1 (by decide +kernel) rfl, by decide, by decide, by decide +kernel⟩, mgT 790 (by decide +kernel) rfl, mgT 791 (by decide +kernel) rfl⟩
theorem vlL_144 : VL RL 144 yX10_follows 1 := ⟨⟨Or.inl (mgT 793 (by decide +kernel) rfl), mgT 1 (by decide +kernel) rfl, by decide, by decide, by decide +kernel⟩, mgT 794 (by decide +kernel) rfl, mgT 795 (by decide +kernel) rfl⟩
theorem vlX10_297 : VL RX10 297 yX4_tellsLongest 3 := ⟨⟨Or.inr ⟨"BellForWanted", mgT 797 (by decide +kernel) rfl⟩, mgT 9 (by decide +kernel) rfl, by decide, by decide, by decide +kernel⟩, mgT 799 (by decide +kernel) rfl, mgS (q := (yX4_tellsLongest, 4)) 63 (by decide +kernel) rfl⟩
theorem vlX4_25 : VL RX4 25 yX4_goesOn 4 := ⟨⟨Or.inl (mgT 801 (by decide +kernel) rfl), mgT 9 (by decide +kernel) rfl, by decide, by decide, by decide +kernel⟩, mgT 803 (by decide +kernel) rfl, mgS (q := (yX4_goesOn, 4)) 64 (by decide +kernel) rfl⟩
theorem vlX4_43 : VL RX4 43 yX0_has 1 := ⟨⟨Or.inr ⟨"BellForWanted", mgT 805 (by decide +kernel) rfl⟩, mgT 4 (by decide +kernel) rfl, by decide, by decide, by decide +kernel⟩, mgT 492 (by decide +kernel) rfl, mgS (q := (yX0_has, 8)) 20 (by decide +kernel) rfl⟩
theorem vlX4_29 : VL RX4 29 yX2_clears 0 := ⟨⟨Or.inr ⟨"BellForWanted", mgT 806 (by decide +kernel) rfl⟩, mgT 3 (by decide +kernel) rfl, by decide, by decide, by decide +kernel⟩, mgT 591 (by decide +kernel) rfl, mgS (q := (yX2_clears, 2)) 38 (by decide +kernel) rfl⟩
theorem vlX4_34 : VL RX4 34 yX2_adds 1 := ⟨⟨Or.inr ⟨"BellForWanted", mgT 807 (by decide +kernel) rfl⟩, mgT 3 (by decide +kernel) rfl, by decide, by decide, by decide +kernel⟩, mgT 595 (by decide +kernel) rfl, mgS (q := (yX2_adds, 2)) 39 (by decide +kernel) rfl⟩
theorem vlL_148 : VL RL 148 yX10_ring 0 := ⟨⟨Or.inl (mgT 808 (by decide +kernel) rfl), mgT 1 (by decide +kernel) rfl, by decide, by decide, by decide +kernel⟩, mgT 809 (by decide +kernel) rfl, mgT 810 (by decide +kernel) rfl⟩
theorem vlX10_300 : VL RX10 300 yX4_tellsRing 2 := ⟨⟨Or.inr ⟨"BellForWanted", mgT 812 (by decide +kernel) rfl⟩, mgT 9 (by decide +kernel) rfl, by decide, by decide, by decide +kernel⟩, mgT 814 (by decide +kernel) rfl, mgS (q := (yX4_tellsRing, 4)) 65 (by decide +kernel) rfl⟩
theorem vlX4_69 : VL RX4 69 yX4_roundFrom 2 := ⟨⟨Or.inl (mgT 816 (by decide +kernel) rfl), mgT 9 (by decide +kernel) rfl, by decide, by decide, by decide +kernel⟩, mgT 818 (by decide +kernel) rfl, mgS (q := (yX4_roundFrom, 4)) 66 (by decide +kernel) rfl⟩
theorem vlX4_50 : VL RX4 50 yX0_everybody 0 := ⟨⟨Or.inr ⟨"BellForWanted", mgT 820 (by decide +kernel) rfl⟩, mgT 4 (by decide +kernel) rfl, by decide, by decide, by decide +kernel⟩, mgT 573 (by decide +kernel) rfl, mgS (q := (yX0_everybody, 8)) 34 (by decide +kernel) rfl⟩
theorem vlX4_54 : VL RX4 54 yX4_measures 3 := ⟨⟨Or.inl (mgT 821 (by decide +kernel) rfl), mgT 9 (by decide +kernel) rfl, by decide, by decide, by decide +kernel⟩, mgT 823 (by decide +kernel) rfl, mgS (q := (yX4_measures, 4)) 67 (by decide +kernel) rfl⟩
theorem vlX4_65 : VL RX4 65 yX4_nearer 3 := ⟨⟨Or.inl (mgT 825 (by decide +kernel) rfl), mgT 9 (by decide +kernel) rfl, by decide, by decide, by decide +kernel⟩, mgT 827 (by decide +kernel) rfl, mgS (q := (yX4_nearer, 4)) 68 (by decide +kernel) rfl⟩
theorem vlX4_62 : VL RX4 62 yX2_tellsOne 1 := ⟨⟨Or.inr ⟨"BellForWanted", mgT 829 (by decide +kernel) rfl⟩, mgT 3 (by decide +kernel) rfl, by decide, by decide, by decide +kernel⟩, mgT 683 (by decide +kernel) rfl, mgS (q := (yX2_tellsOne, 2)) 50 (by decide +kernel) rfl⟩
theorem vlL_152 : VL RL 152 yX10_friends 0 := ⟨⟨Or.inl (mgT 830 (by decide +kernel) rfl), mgT 1 (by decide +kernel) rfl, by decide, by decide, by decide +kernel⟩, mgT 831 (by decide +kernel) rfl, mgT 832 (by decide +kernel) rfl⟩
theorem vlX10_304 : VL RX10 304 yX0_areFriends 1 := ⟨⟨Or.inr ⟨"BellForWanted", mgT 834 (by decide +kernel) rfl⟩, mgT 4 (by decide +kernel) rfl, by decide, by decide, by decide +kernel⟩, mgT 836 (by decide +kernel) rfl, mgS (q := (yX0_areFriends, 8)) 69 (by decide +kernel) rfl⟩
theorem vlL_156 : VL RL 156 yX10_way 2 := ⟨⟨Or.inl (mgT 838 (by decide +kernel) rfl), mgT 1 (by decide +kernel) rfl, by decide, by decide, by decide +kernel⟩, mgT 839 (by decide +kernel) rfl, mgT 840 (by decide +kernel) rfl⟩
theorem vlX10_307 : VL RX10 307 yX4_tellsWay 4 := ⟨⟨Or.inr ⟨"BellForWanted", mgT 842 (by decide +kernel) rfl⟩, mgT 9 (by decide +kernel) rfl, by decide, by decide, by decide +kernel⟩, mgT 844 (by decide +kernel) rfl, mgS (q := (yX4_tellsWay, 4)) 70 (by decide +kernel) rfl⟩
theorem vlX4_58 : VL RX4 58 yX4_farOf 1 := ⟨⟨Or.inl (mgT 846 (by decide +kernel) rfl), mgT 9 (by decide +kernel) rfl, by decide, by decide, by decide +kernel⟩, mgT 848 (by decide +kernel) rfl, mgS (q := (yX4_farOf, 4)) 71 (by decide +kernel) rfl⟩
theorem vlL_160 : VL RL 160 yX10_heard 2 := ⟨⟨Or.inl (mgT 850 (by decide +kernel) rfl), mgT 1 (by decide +kernel) rfl, by decide, by decide, by decide +kernel⟩, mgT 851 (by decide +kernel) rfl, mgT 852 (by decide +kernel) rfl⟩
theorem vlX10_311 : VL RX10 311 yX1_takes 2 := ⟨⟨Or.inr ⟨"BellForWanted", mgT 854 (by decide +kernel) rfl⟩, mgT 10 (by decide +kernel) rfl, by decide, by decide, by decide +kernel⟩, mgT 856 (by decide +kernel) rfl, mgS (q := (yX1_takes, 3)) 72 (by decide +kernel) rfl⟩
theorem slX1_22 : SL RX1 22 yX1_mayBe 2 := ⟨⟨Or.inl (mgT 858 (by decide +kernel) rfl), mgT 10 (by decide +kernel) rfl, by decide, by decide, by decide +kernel⟩, mgT 859 (by decide +kernel) rfl⟩
theorem slX1_26 : SL RX1 26 yX1_highest 1 := ⟨⟨Or.inl (mgT 861 (by decide +kernel) rfl), mgT 10 (by decide +kernel) rfl, by decide, by decide, by decide +kernel⟩, mgT 862 (by decide +kernel) rfl⟩
theorem vlL_164 : VL RL 164 yX10_forget 0 := ⟨⟨Or.inl (mgT 864 (by decide +kernel) rfl), mgT 1 (by decide +kernel) rfl, by decide, by decide, by decide +kernel⟩, mgT 865 (by decide +kernel) rfl, mgT 866 (by decide +kernel) rfl⟩
theorem vlX10_315 : VL RX10 315 yX1_empties 0 := ⟨⟨Or.inr ⟨"BellForWanted", mgT 868 (by decide +kernel) rfl⟩, mgT 10 (by decide +kernel) rfl, by decide, by decide, by decide +kernel⟩, mgT 870 (by decide +kernel) rfl, mgS (q := (yX1_empties, 3)) 73 (by decide +kernel) rfl⟩
theorem vlL_168 : VL RL 168 yX10_fits 0 := ⟨⟨Or.inl (mgT 872 (by decide +kernel) rfl), mgT 1 (by decide +kernel) rfl, by decide, by decide, by decide +kernel⟩, mgT 873 (by decide +kernel) rfl, mgT 874 (by decide +kernel) rfl⟩
theorem vlX10_317 : VL RX10 317 yX1_fitting 2 := ⟨⟨Or.inr ⟨"BellForWanted", mgT 876 (by decide +kernel) rfl⟩, mgT 10 (by decide +kernel) rfl, by decide, by decide, by decide +kernel⟩, mgT 878 (by decide +kernel) rfl, mgS (q := (yX1_fitting, 3)) 74 (by decide +kernel) rfl⟩
theorem vlX1_30 : VL RX1 30 yX0_everybody 0 := ⟨⟨Or.inr ⟨"BellForWanted", mgT 880 (by decide +kernel) rfl⟩, mgT 4 (by decide +kernel) rfl, by decide, by decide, by decide +kernel⟩, mgT 573 (by decide +kernel) rfl, mgS (q := (yX0_everybody, 8)) 34 (by decide +kernel) rfl⟩
theorem slX1_36 : SL RX1 36 yX1_such 4 := ⟨⟨Or.inl (mgT 881 (by decide +kernel) rfl), mgT 10 (by decide +kernel) rfl, by decide, by decide, by decide +kernel⟩, mgT 882 (by decide +kernel) rfl⟩
theorem slX1_43 : SL RX1 43 yX1_isSo 5 := ⟨⟨Or.inl (mgT 884 (by decide +kernel) rfl), mgT 10 (by decide +kernel) rfl, by decide, by decide, by decide +kernel⟩, mgT 885 (by decide +kernel) rfl⟩
theorem vlX1_47 : VL RX1 47 yX0_has 1 := ⟨⟨Or.inr ⟨"BellForWanted", mgT 887 (by decide +kernel) rfl⟩, mgT 4 (by decide +kernel) rfl, by decide, by decide, by decide +kernel⟩, mgT 492 (by decide +kernel) rfl, mgS (q := (yX0_has, 8)) 20 (by decide +kernel) rfl⟩
theorem vlL_172 : VL RL 172 yX10_asks 0 := ⟨⟨Or.inl (mgT 888 (by decide +kernel) rfl), mgT 1 (by decide +kernel) rfl, by decide, by decide, by decide +kernel⟩, mgT 889 (by decide +kernel) rfl, mgT 890 (by decide +kernel) rfl⟩
theorem slX10_320 : SL RX10 320 yX1_mayBe 2 := ⟨⟨Or.inr ⟨"BellForWanted", mgT 892 (by decide +kernel) rfl⟩, mgT 10 (by decide +kernel) rfl, by decide, by decide, by decide +kernel⟩, mgT 859 (by decide +kernel) rfl⟩
theorem slX10_323 : SL RX10 323 yX1_such 4 := ⟨⟨Or.inr ⟨"BellForWanted", mgT 893 (by decide +kernel) rfl⟩, mgT 10 (by decide +kernel) rfl, by decide, by decide, by decide +kernel⟩, mgT 882 (by decide +kernel) rfl⟩
theorem slX10_327 : SL RX10 327 yJ9_max_7cf53 2 := ⟨⟨Or.inl (mgT 894 (by decide +kernel) rfl), mgT 12 (by decide +kernel) rfl, by decide, by decide, by decide +kernel⟩, mgT 296 (by decide +kernel) rfl⟩
theorem vlL_176 : VL RL 176 yX10_saw 3 := ⟨⟨Or.inl (mgT 895 (by decide +kernel) rfl), mgT 1 (by decide +kernel) rfl, by decide, by decide, by decide +kernel⟩, mgT 896 (by decide +kernel) rfl, mgT 897 (by decide +kernel) rfl⟩
theorem vlX10_332 : VL RX10 332 yX8_takes 3 := ⟨⟨Or.inr ⟨"BellForWanted", mgT 899 (by decide +kernel) rfl⟩, mgT 11 (by decide +kernel) rfl, by decide, by decide, by decide +kernel⟩, mgT 901 (by decide +kernel) rfl, mgS (q := (yX8_takes, 5)) 75 (by decide +kernel) rfl⟩
theorem vlL_181 : VL RL 181 yX10_denies 0 := ⟨⟨Or.inl (mgT 903 (by decide +kernel) rfl), mgT 1 (by decide +kernel) rfl, by decide, by decide, by decide +kernel⟩, mgT 904 (by decide +kernel) rfl, mgT 905 (by decide +kernel) rfl⟩
theorem vlX10_336 : VL RX10 336 yX8_empties 0 := ⟨⟨Or.inr ⟨"BellForWanted", mgT 907 (by decide +kernel) rfl⟩, mgT 11 (by decide +kernel) rfl, by decide, by decide, by decide +kernel⟩, mgT 909 (by decide +kernel) rfl, mgS (q := (yX8_empties, 5)) 76 (by decide +kernel) rfl⟩
theorem vlL_185 : VL RL 185 yX10_laws 0 := ⟨⟨Or.inl (mgT 911 (by decide +kernel) rfl), mgT 1 (by decide +kernel) rfl, by decide, by decide, by decide +kernel⟩, mgT 912 (by decide +kernel) rfl, mgT 913 (by decide +kernel) rfl⟩
theorem vlX10_337 : VL RX10 337 yX8_sifts 0 := ⟨⟨Or.inr ⟨"BellForWanted", mgT 915 (by decide +kernel) rfl⟩, mgT 11 (by decide +kernel) rfl, by decide, by decide, by decide +kernel⟩, mgT 917 (by decide +kernel) rfl, mgS (q := (yX8_sifts, 5)) 77 (by decide +kernel) rfl⟩
theorem slX8_29 : SL RX8 29 yX8_rouses 3 := ⟨⟨Or.inl (mgT 919 (by decide +kernel) rfl), mgT 11 (by decide +kernel) rfl, by decide, by decide, by decide +kernel⟩, mgT 920 (by decide +kernel) rfl⟩
theorem vlX10_340 : VL RX10 340 yX8_leastLaw 0 := ⟨⟨Or.inr ⟨"BellForWanted", mgT 922 (by decide +kernel) rfl⟩, mgT 11 (by decide +kernel) rfl, by decide, by decide, by decide +kernel⟩, mgT 924 (by decide +kernel) rfl, mgS (q := (yX8_leastLaw, 5)) 78 (by decide +kernel) rfl⟩
theorem vlX10_343 : VL RX10 343 yX2_adds 1 := ⟨⟨Or.inr ⟨"BellForWanted", mgT 926 (by decide +kernel) rfl⟩, mgT 3 (by decide +kernel) rfl, by decide, by decide, by decide +kernel⟩, mgT 595 (by decide +kernel) rfl, mgS (q := (yX2_adds, 2)) 39 (by decide +kernel) rfl⟩
theorem vlL_189 : VL RL 189 yX10_looks 0 := ⟨⟨Or.inl (mgT 927 (by decide +kernel) rfl), mgT 1 (by decide +kernel) rfl, by decide, by decide, by decide +kernel⟩, mgT 928 (by decide +kernel) rfl, mgT 929 (by decide +kernel) rfl⟩
theorem vlX10_346 : VL RX10 346 yX8_waking 2 := ⟨⟨Or.inr ⟨"BellForWanted", mgT 931 (by decide +kernel) rfl⟩, mgT 11 (by decide +kernel) rfl, by decide, by decide, by decide +kernel⟩, mgT 933 (by decide +kernel) rfl, mgS (q := (yX8_waking, 5)) 79 (by decide +kernel) rfl⟩
theorem vlL_193 : VL RL 193 yX10_odds 2 := ⟨⟨Or.inl (mgT 935 (by decide +kernel) rfl), mgT 1 (by decide +kernel) rfl, by decide, by decide, by decide +kernel⟩, mgT 936 (by decide +kernel) rfl, mgT 937 (by decide +kernel) rfl⟩
theorem slX10_349 : SL RX10 349 yX10_power 2 := ⟨⟨Or.inl (mgT 939 (by decide +kernel) rfl), mgT 1 (by decide +kernel) rfl, by decide, by decide, by decide +kernel⟩, mgT 940 (by decide +kernel) rfl⟩
theorem vlX10_352 : VL RX10 352 yX10_tellsFraction 2 := ⟨⟨Or.inl (mgT 942 (by decide +kernel) rfl), mgT 1 (by decide +kernel) rfl, by decide, by decide, by decide +kernel⟩, mgT 944 (by decide +kernel) rfl, mgS (q := (yX10_tellsFraction, 13)) 80 (by decide +kernel) rfl⟩
theorem vlL_197 : VL RL 197 yX10_vigil 1 := ⟨⟨Or.inl (mgT 946 (by decide +kernel) rfl), mgT 1 (by decide +kernel) rfl, by decide, by decide, by decide +kernel⟩, mgT 947 (by decide +kernel) rfl, mgT 948 (by decide +kernel) rfl⟩
theorem slX10_355 : SL RX10 355 yX10_leastTurn 2 := ⟨⟨Or.inl (mgT 950 (by decide +kernel) rfl), mgT 1 (by decide +kernel) rfl, by decide, by decide, by decide +kernel⟩, mgT 951 (by decide +kernel) rfl⟩
theorem vlL_201 : VL RL 201 yX10_rests 1 := ⟨⟨Or.inl (mgT 953 (by decide +kernel) rfl), mgT 1 (by decide +kernel) rfl, by decide, by decide, by decide +kernel⟩, mgT 954 (by decide +kernel) rfl, mgT 955 (by decide +kernel) rfl⟩
theorem slX10_359 : SL RX10 359 yX10_isContent 3 := ⟨⟨Or.inl (mgT 957 (by decide +kernel) rfl), mgT 1 (by decide +kernel) rfl, by decide, by decide, by decide +kernel⟩, mgT 958 (by decide +kernel) rfl⟩
theorem slX10_362 : SL RX10 362 yX10_gain 3 := ⟨⟨Or.inl (mgT 960 (by decide +kernel) rfl), mgT 1 (by decide +kernel) rfl, by decide, by decide, by decide +kernel⟩, mgT 961 (by decide +kernel) rfl⟩
theorem vlL_205 : VL RL 205 yX10_law 0 := ⟨⟨Or.inl (mgT 963 (by decide +kernel) rfl), mgT 1 (by decide +kernel) rfl, by decide, by decide, by decide +kernel⟩, mgT 964 (by decide +kernel) rfl, mgT 965 (by decide +kernel) rfl⟩
theorem vlX10_173 : VL RX10 173 yX5_needers 3 := ⟨⟨Or.inr ⟨"BellForWanted", mgT 967 (by decide +kernel) rfl⟩, mgT 7 (by decide +kernel) rfl, by decide, by decide, by decide +kernel⟩, mgT 547 (by decide +kernel) rfl, mgS (q := (yX5_needers, 4)) 30 (by decide +kernel) rfl⟩
theorem vlL_209 : VL RL 209 yX10_years 2 := ⟨⟨Or.inl (mgT 968 (by decide +kernel) rfl), mgT 1 (by decide +kernel) rfl, by decide, by decide, by decide +kernel⟩, mgT 969 (by decide +kernel) rfl, mgT 970 (by decide +kernel) rfl⟩
theorem vlX10_366 : VL RX10 366 yX10_draw 1 := ⟨⟨Or.inl (mgT 972 (by decide +kernel) rfl), mgT 1 (by decide +kernel) rfl, by decide, by decide, by decide +kernel⟩, mgT 974 (by decide +kernel) rfl, mgS (q := (yX10_draw, 13)) 81 (by decide +kernel) rfl⟩
theorem vlL_213 : VL RL 213 yX10_keep 1 := ⟨⟨Or.inl (mgT 977 (by decide +kernel) rfl), mgT 1 (by decide +kernel) rfl, by decide, by decide, by decide +kernel⟩, mgT 978 (by decide +kernel) rfl, mgT 979 (by decide +kernel) rfl⟩
theorem vlX10_370 : VL RX10 370 yX3_keeps 2 := ⟨⟨Or.inr ⟨"BellForWanted", mgT 981 (by decide +kernel) rfl⟩, mgT 5 (by decide +kernel) rfl, by decide, by decide, by decide +kernel⟩, mgT 983 (by decide +kernel) rfl, mgS (q := (yX3_keeps, 5)) 82 (by decide +kernel) rfl⟩
theorem vlL_217 : VL RL 217 yX10_again 1 := ⟨⟨Or.inl (mgT 985 (by decide +kernel) rfl), mgT 1 (by decide +kernel) rfl, by decide, by decide, by decide +kernel⟩, mgT 986 (by decide +kernel) rfl, mgT 987 (by decide +kernel) rfl⟩
theorem vlX10_374 : VL RX10 374 yX3_bringsKept 2 := ⟨⟨Or.inr ⟨"BellForWanted", mgT 989 (by decide +kernel) rfl⟩, mgT 5 (by decide +kernel) rfl, by decide, by decide, by decide +kernel⟩, mgT 991 (by decide +kernel) rfl, mgS (q := (yX3_bringsKept, 5)) 83 (by decide +kernel) rfl⟩
theorem vlL_221 : VL RL 221 yX10_count 1 := ⟨⟨Or.inl (mgT 993 (by decide +kernel) rfl), mgT 1 (by decide +kernel) rfl, by decide, by decide, by decide +kernel⟩, mgT 994 (by decide +kernel) rfl, mgT 995 (by decide +kernel) rfl⟩
theorem vlX10_380 : VL RX10 380 yX0_wantsOfAll 0 := ⟨⟨Or.inr ⟨"BellForWanted", mgT 997 (by decide +kernel) rfl⟩, mgT 4 (by decide +kernel) rfl, by decide, by decide, by decide +kernel⟩, mgT 635 (by decide +kernel) rfl, mgS (q := (yX0_wantsOfAll, 8)) 45 (by decide +kernel) rfl⟩
theorem slL_46 : SL RL 46 yL_one 4 := ⟨⟨Or.inl (mgT 998 (by decide +kernel) rfl), mgT 0 (by decide +kernel) rfl, by decide, by decide, by decide +kernel⟩, mgT 999 (by decide +kernel) rfl⟩
theorem vlL_7 : VL RL 7 yX10_one 2 := ⟨⟨Or.inl (mgT 1002 (by decide +kernel) rfl), mgT 1 (by decide +kernel) rfl, by decide, by decide, by decide +kernel⟩, mgT 1003 (by decide +kernel) rfl, mgT 1004 (by decide +kernel) rfl⟩
theorem slL_225 : SL RL 225 yL_row 3 := ⟨⟨Or.inl (mgT 1067 (by decide +kernel) rfl), mgT 0 (by decide +kernel) rfl, by decide, by decide, by decide +kernel⟩, mgT 1068 (by decide +kernel) rfl⟩
theorem vlL_15 : VL RL 15 yX10_row 1 := ⟨⟨Or.inl (mgT 1070 (by decide +kernel) rfl), mgT 1 (by decide +kernel) rfl, by decide, by decide, by decide +kernel⟩, mgT 1071 (by decide +kernel) rfl, mgT 1072 (by decide +kernel) rfl⟩
theorem ilL_22 : MLk RL 22 yX11_init 0 ∧ Cond.instanceMethod yX11_init ∈ lw_g := ⟨⟨Or.inl (mgT 1076 (by decide +kernel) rfl), mgT 18 (by decide +kernel) rfl, by decide, by decide, by decide +kernel⟩, mgT 1077 (by decide +kernel) rfl⟩
theorem vlL_52 : VL RL 52 yX11_thrown 0 := ⟨⟨Or.inl (mgT 1204 (by decide +kernel) rfl), mgT 18 (by decide +kernel) rfl, by decide, by decide, by decide +kernel⟩, mgT 1205 (by decide +kernel) rfl, mgT 1206 (by decide +kernel) rfl⟩
theorem vlL_27 : VL RL 27 yX11_sign 1 := ⟨⟨Or.inl (mgT 1208 (by decide +kernel) rfl), mgT 18 (by decide +kernel) rfl, by decide, by decide, by decide +kernel⟩, mgT 1209 (by decide +kernel) rfl, mgT 1210 (by decide +kernel) rfl⟩
theorem vlL_32 : VL RL 32 yX11_end 1 := ⟨⟨Or.inl (mgT 1212 (by decide +kernel) rfl), mgT 18 (by decide +kernel) rfl, by decide, by decide, by decide +kernel⟩, mgT 1213 (by decide +kernel) rfl, mgT 1214 (by decide +kernel) rfl⟩
theorem slX11_95 : SL RX11 95 yX11_in 3 := ⟨⟨Or.inl (mgT 1216 (by decide +kernel) rfl), mgT 18 (by decide +kernel) rfl, by decide, by decide, by decide +kernel⟩, mgT 1217 (by decide +kernel) rfl⟩
theorem vlL_37 : VL RL 37 yX11_people 0 := ⟨⟨Or.inl (mgT 1219 (by decide +kernel) rfl), mgT 18 (by decide +kernel) rfl, by decide, by decide, by decide +kernel⟩, mgT 1220 (by decide +kernel) rfl, mgT 1221 (by decide +kernel) rfl⟩
theorem vlX11_151 : VL RX11 151 yX11_beginText 1 := ⟨⟨Or.inl (mgT 1223 (by decide +kernel) rfl), mgT 18 (by decide +kernel) rfl, by decide, by decide, by decide +kernel⟩, mgT 1225 (by decide +kernel) rfl, mgS (q := (yX11_beginText, 41)) 85 (by decide +kernel) rfl⟩
theorem vlX11_121 : VL RX11 121 yX11_begin 3 := ⟨⟨Or.inl (mgT 1227 (by decide +kernel) rfl), mgT 18 (by decide +kernel) rfl, by decide, by decide, by decide +kernel⟩, mgT 1229 (by decide +kernel) rfl, mgS (q := (yX11_begin, 41)) 86 (by decide +kernel) rfl⟩
theorem vlX11_125 : VL RX11 125 yX11_fine 0 := ⟨⟨Or.inl (mgT 1231 (by decide +kernel) rfl), mgT 18 (by decide +kernel) rfl, by decide, by decide, by decide +kernel⟩, mgT 1233 (by decide +kernel) rfl, mgS (q := (yX11_fine, 41)) 87 (by decide +kernel) rfl⟩
theorem vlX11_137 : VL RX11 137 yX11_fault 1 := ⟨⟨Or.inl (mgT 1235 (by decide +kernel) rfl), mgT 18 (by decide +kernel) rfl, by decide, by decide, by decide +kernel⟩, mgT 1237 (by decide +kernel) rfl, mgS (q := (yX11_fault, 41)) 88 (by decide +kernel) rfl⟩
theorem vlX11_141 : VL RX11 141 yX11_oneOf 2 := ⟨⟨Or.inl (mgT 1239 (by decide +kernel) rfl), mgT 18 (by decide +kernel) rfl, by decide, by decide, by decide +kernel⟩, mgT 1241 (by decide +kernel) rfl, mgS (q := (yX11_oneOf, 41)) 89 (by decide +kernel) rfl⟩
theorem vlX11_129 : VL RX11 129 yX11_here 0 := ⟨⟨Or.inl (mgT 1243 (by decide +kernel) rfl), mgT 18 (by decide +kernel) rfl, by decide, by decide, by decide +kernel⟩, mgT 1245 (by decide +kernel) rfl, mgS (q := (yX11_here, 41)) 90 (by decide +kernel) rfl⟩
theorem vlX11_133 : VL RX11 133 yX11_passes 1 := ⟨⟨Or.inl (mgT 1247 (by decide +kernel) rfl), mgT 18 (by decide +kernel) rfl, by decide, by decide, by decide +kernel⟩, mgT 1249 (by decide +kernel) rfl, mgS (q := (yX11_passes, 41)) 91 (by decide +kernel) rfl⟩
theorem vlX11_154 : VL RX11 154 yX11_wasRight 0 := ⟨⟨Or.inl (mgT 1251 (by decide +kernel) rfl), mgT 18 (by decide +kernel) rfl, by decide, by decide, by decide +kernel⟩, mgT 1253 (by decide +kernel) rfl, mgS (q := (yX11_wasRight, 41)) 92 (by decide +kernel) rfl⟩
theorem vlX11_157 : VL RX11 157 yX11_told 0 := ⟨⟨Or.inl (mgT 1255 (by decide +kernel) rfl), mgT 18 (by decide +kernel) rfl, by decide, by decide, by decide +kernel⟩, mgT 1257 (by decide +kernel) rfl, mgS (q := (yX11_told, 41)) 93 (by decide +kernel) rfl⟩
theorem vlL_41 : VL RL 41 yX11_wants 0 := ⟨⟨Or.inl (mgT 1259 (by decide +kernel) rfl), mgT 18 (by decide +kernel) rfl, by decide, by decide, by decide +kernel⟩, mgT 1260 (by decide +kernel) rfl, mgT 1261 (by decide +kernel) rfl⟩
theorem vlX11_160 : VL RX11 160 yX11_readWants 0 := ⟨⟨Or.inl (mgT 1263 (by decide +kernel) rfl), mgT 18 (by decide +kernel) rfl, by decide, by decide, by decide +kernel⟩, mgT 1265 (by decide +kernel) rfl, mgS (q := (yX11_readWants, 41)) 94 (by decide +kernel) rfl⟩
theorem vlL_45 : VL RL 45 yX11_rule 0 := ⟨⟨Or.inl (mgT 1267 (by decide +kernel) rfl), mgT 18 (by decide +kernel) rfl, by decide, by decide, by decide +kernel⟩, mgT 1268 (by decide +kernel) rfl, mgT 1269 (by decide +kernel) rfl⟩
theorem vlX11_190 : VL RX11 190 yX11_readRule 0 := ⟨⟨Or.inl (mgT 1271 (by decide +kernel) rfl), mgT 18 (by decide +kernel) rfl, by decide, by decide, by decide +kernel⟩, mgT 1273 (by decide +kernel) rfl, mgS (q := (yX11_readRule, 41)) 95 (by decide +kernel) rfl⟩
theorem vlX11_173 : VL RX11 173 yX11_held 1 := ⟨⟨Or.inl (mgT 1275 (by decide +kernel) rfl), mgT 18 (by decide +kernel) rfl, by decide, by decide, by decide +kernel⟩, mgT 1277 (by decide +kernel) rfl, mgS (q := (yX11_held, 41)) 96 (by decide +kernel) rfl⟩
theorem vlX11_163 : VL RX11 163 yX11_sum 1 := ⟨⟨Or.inl (mgT 1279 (by decide +kernel) rfl), mgT 18 (by decide +kernel) rfl, by decide, by decide, by decide +kernel⟩, mgT 1281 (by decide +kernel) rfl, mgS (q := (yX11_sum, 41)) 97 (by decide +kernel) rfl⟩
theorem vlX11_167 : VL RX11 167 yX11_product 1 := ⟨⟨Or.inl (mgT 1283 (by decide +kernel) rfl), mgT 18 (by decide +kernel) rfl, by decide, by decide, by decide +kernel⟩, mgT 1285 (by decide +kernel) rfl, mgS (q := (yX11_product, 41)) 98 (by decide +kernel) rfl⟩
theorem vlX11_170 : VL RX11 170 yX11_thing 1 := ⟨⟨Or.inl (mgT 1287 (by decide +kernel) rfl), mgT 18 (by decide +kernel) rfl, by decide, by decide, by decide +kernel⟩, mgT 1289 (by decide +kernel) rfl, mgS (q := (yX11_thing, 41)) 99 (by decide +kernel) rfl⟩
theorem vlX11_176 : VL RX11 176 yX11_need 1 := ⟨⟨Or.inl (mgT 1291 (by decide +kernel) rfl), mgT 18 (by decide +kernel) rfl, by decide, by decide, by decide +kernel⟩, mgT 1293 (by decide +kernel) rfl, mgS (q := (yX11_need, 41)) 100 (by decide +kernel) rfl⟩
theorem vlX11_180 : VL RX11 180 yX11_number 1 := ⟨⟨Or.inl (mgT 1295 (by decide +kernel) rfl), mgT 18 (by decide +kernel) rfl, by decide, by decide, by decide +kernel⟩, mgT 1297 (by decide +kernel) rfl, mgS (q := (yX11_number, 41)) 101 (by decide +kernel) rfl⟩
theorem slX11_183 : SL RX11 183 yX11_letterOf 1 := ⟨⟨Or.inl (mgT 1299 (by decide +kernel) rfl), mgT 18 (by decide +kernel) rfl, by decide, by decide, by decide +kernel⟩, mgT 1300 (by decide +kernel) rfl⟩
theorem vlL_51 : VL RL 51 yX11_one 2 := ⟨⟨Or.inl (mgT 1302 (by decide +kernel) rfl), mgT 18 (by decide +kernel) rfl, by decide, by decide, by decide +kernel⟩, mgT 1303 (by decide +kernel) rfl, mgT 1304 (by decide +kernel) rfl⟩
theorem vlX11_99 : VL RX11 99 yX11_isOne 1 := ⟨⟨Or.inl (mgT 1306 (by decide +kernel) rfl), mgT 18 (by decide +kernel) rfl, by decide, by decide, by decide +kernel⟩, mgT 1308 (by decide +kernel) rfl, mgS (q := (yX11_isOne, 41)) 102 (by decide +kernel) rfl⟩
theorem vlX11_220 : VL RX11 220 yX11_lost 0 := ⟨⟨Or.inl (mgT 1310 (by decide +kernel) rfl), mgT 18 (by decide +kernel) rfl, by decide, by decide, by decide +kernel⟩, mgT 1312 (by decide +kernel) rfl, mgS (q := (yX11_lost, 41)) 103 (by decide +kernel) rfl⟩
theorem vlX11_200 : VL RX11 200 yX11_wantedBy 2 := ⟨⟨Or.inl (mgT 1314 (by decide +kernel) rfl), mgT 18 (by decide +kernel) rfl, by decide, by decide, by decide +kernel⟩, mgT 1316 (by decide +kernel) rfl, mgS (q := (yX11_wantedBy, 41)) 104 (by decide +kernel) rfl⟩
theorem slX11_196 : SL RX11 196 yX11_has 2 := ⟨⟨Or.inl (mgT 1318 (by decide +kernel) rfl), mgT 18 (by decide +kernel) rfl, by decide, by decide, by decide +kernel⟩, mgT 1319 (by decide +kernel) rfl⟩
theorem vlX11_213 : VL RX11 213 yX11_neededBy 2 := ⟨⟨Or.inl (mgT 1321 (by decide +kernel) rfl), mgT 18 (by decide +kernel) rfl, by decide, by decide, by decide +kernel⟩, mgT 1323 (by decide +kernel) rfl, mgS (q := (yX11_neededBy, 41)) 105 (by decide +kernel) rfl⟩
theorem vlX11_209 : VL RX11 209 yX11_needs 3 := ⟨⟨Or.inl (mgT 1325 (by decide +kernel) rfl), mgT 18 (by decide +kernel) rfl, by decide, by decide, by decide +kernel⟩, mgT 1327 (by decide +kernel) rfl, mgS (q := (yX11_needs, 41)) 106 (by decide +kernel) rfl⟩
theorem slX11_204 : SL RX11 204 yJ6_bitCount_0f7a4 1 := ⟨⟨Or.inl (mgT 1329 (by decide +kernel) rfl), mgT 23 (by decide +kernel) rfl, by decide, by decide, by decide +kernel⟩, mgT 551 (by decide +kernel) rfl⟩
theorem vlL_59 : VL RL 59 yX11_sheet 4 := ⟨⟨Or.inl (mgT 1330 (by decide +kernel) rfl), mgT 18 (by decide +kernel) rfl, by decide, by decide, by decide +kernel⟩, mgT 1331 (by decide +kernel) rfl, mgT 1332 (by decide +kernel) rfl⟩
theorem slX11_223 : SL RX11 223 yJ9_min_7cf53 2 := ⟨⟨Or.inl (mgT 1334 (by decide +kernel) rfl), mgT 12 (by decide +kernel) rfl, by decide, by decide, by decide +kernel⟩, mgT 329 (by decide +kernel) rfl⟩
theorem slX11_229 : SL RX11 229 yJ9_max_7cf53 2 := ⟨⟨Or.inl (mgT 1335 (by decide +kernel) rfl), mgT 12 (by decide +kernel) rfl, by decide, by decide, by decide +kernel⟩, mgT 296 (by decide +kernel) rfl⟩
theorem vlX11_232 : VL RX11 232 yX11_sumOf 2 := ⟨⟨Or.inl (mgT 1336 (by decide +kernel) rfl), mgT 18 (by decide +kernel) rfl, by decide, by decide, by decide +kernel⟩, mgT 1338 (by decide +kernel) rfl, mgS (q := (yX11_sumOf, 41)) 107 (by decide +kernel) rfl⟩
theorem vlL_63 : VL RL 63 yX11_mornings 1 := ⟨⟨Or.inl (mgT 1340 (by decide +kernel) rfl), mgT 18 (by decide +kernel) rfl, by decide, by decide, by decide +kernel⟩, mgT 1341 (by decide +kernel) rfl, mgT 1342 (by decide +kernel) rfl⟩
theorem vlX11_249 : VL RX11 249 yX11_remember 1 := ⟨⟨Or.inl (mgT 1344 (by decide +kernel) rfl), mgT 18 (by decide +kernel) rfl, by decide, by decide, by decide +kernel⟩, mgT 1346 (by decide +kernel) rfl, mgS (q := (yX11_remember, 41)) 108 (by decide +kernel) rfl⟩
theorem slX11_235 : SL RX11 235 yX11_lay 3 := ⟨⟨Or.inl (mgT 1348 (by decide +kernel) rfl), mgT 18 (by decide +kernel) rfl, by decide, by decide, by decide +kernel⟩, mgT 1349 (by decide +kernel) rfl⟩
theorem vlX11_253 : VL RX11 253 yX11_goMornings 2 := ⟨⟨Or.inl (mgT 1351 (by decide +kernel) rfl), mgT 18 (by decide +kernel) rfl, by decide, by decide, by decide +kernel⟩, mgT 1353 (by decide +kernel) rfl, mgS (q := (yX11_goMornings, 41)) 109 (by decide +kernel) rfl⟩
theorem vlX11_246 : VL RX11 246 yX11_goMorning 1 := ⟨⟨Or.inl (mgT 1355 (by decide +kernel) rfl), mgT 18 (by decide +kernel) rfl, by decide, by decide, by decide +kernel⟩, mgT 1357 (by decide +kernel) rfl, mgS (q := (yX11_goMorning, 41)) 110 (by decide +kernel) rfl⟩
theorem vlX11_239 : VL RX11 239 yX11_awake 1 := ⟨⟨Or.inl (mgT 1359 (by decide +kernel) rfl), mgT 18 (by decide +kernel) rfl, by decide, by decide, by decide +kernel⟩, mgT 1361 (by decide +kernel) rfl, mgS (q := (yX11_awake, 41)) 111 (by decide +kernel) rfl⟩
theorem vlX11_216 : VL RX11 216 yX11_isAwake 2 := ⟨⟨Or.inl (mgT 1363 (by decide +kernel) rfl), mgT 18 (by decide +kernel) rfl, by decide, by decide, by decide +kernel⟩, mgT 1365 (by decide +kernel) rfl, mgS (q := (yX11_isAwake, 41)) 112 (by decide +kernel) rfl⟩
theorem vlX11_243 : VL RX11 243 yX11_unmet 2 := ⟨⟨Or.inl (mgT 1367 (by decide +kernel) rfl), mgT 18 (by decide +kernel) rfl, by decide, by decide, by decide +kernel⟩, mgT 1369 (by decide +kernel) rfl, mgS (q := (yX11_unmet, 41)) 113 (by decide +kernel) rfl⟩
theorem vlX11_256 : VL RX11 256 yX11_tell 1 := ⟨⟨Or.inl (mgT 1371 (by decide +kernel) rfl), mgT 18 (by decide +kernel) rfl, by decide, by decide, by decide +kernel⟩, mgT 1373 (by decide +kernel) rfl, mgS (q := (yX11_tell, 41)) 114 (by decide +kernel) rfl⟩
theorem vlL_67 : VL RL 67 yX11_wishes 2 := ⟨⟨Or.inl (mgT 1375 (by decide +kernel) rfl), mgT 18 (by decide +kernel) rfl, by decide, by decide, by decide +kernel⟩, mgT 1376 (by decide +kernel) rfl, mgT 1377 (by decide +kernel) rfl⟩
theorem vlX11_260 : VL RX11 260 yX11_areTwo 2 := ⟨⟨Or.inl (mgT 1379 (by decide +kernel) rfl), mgT 18 (by decide +kernel) rfl, by decide, by decide, by decide +kernel⟩, mgT 1381 (by decide +kernel) rfl, mgS (q := (yX11_areTwo, 41)) 115 (by decide +kernel) rfl⟩
theorem vlL_71 : VL RL 71 yX11_pills 2 := ⟨⟨Or.inl (mgT 1383 (by decide +kernel) rfl), mgT 18 (by decide +kernel) rfl, by decide, by decide, by decide +kernel⟩, mgT 1384 (by decide +kernel) rfl, mgT 1385 (by decide +kernel) rfl⟩
theorem vlX11_263 : VL RX11 263 yX11_refusesPills 2 := ⟨⟨Or.inl (mgT 1387 (by decide +kernel) rfl), mgT 18 (by decide +kernel) rfl, by decide, by decide, by decide +kernel⟩, mgT 1389 (by decide +kernel) rfl, mgS (q := (yX11_refusesPills, 41)) 116 (by decide +kernel) rfl⟩
theorem vlL_75 : VL RL 75 yX11_learns 2 := ⟨⟨Or.inl (mgT 1391 (by decide +kernel) rfl), mgT 18 (by decide +kernel) rfl, by decide, by decide, by decide +kernel⟩, mgT 1392 (by decide +kernel) rfl, mgT 1393 (by decide +kernel) rfl⟩
theorem vlX11_266 : VL RX11 266 yX11_refusesSkill 2 := ⟨⟨Or.inl (mgT 1395 (by decide +kernel) rfl), mgT 18 (by decide +kernel) rfl, by decide, by decide, by decide +kernel⟩, mgT 1397 (by decide +kernel) rfl, mgS (q := (yX11_refusesSkill, 41)) 117 (by decide +kernel) rfl⟩
theorem vlL_79 : VL RL 79 yX11_leaves 1 := ⟨⟨Or.inl (mgT 1399 (by decide +kernel) rfl), mgT 18 (by decide +kernel) rfl, by decide, by decide, by decide +kernel⟩, mgT 1400 (by decide +kernel) rfl, mgT 1401 (by decide +kernel) rfl⟩
theorem vlX11_272 : VL RX11 272 yX11_refusesLeave 1 := ⟨⟨Or.inl (mgT 1403 (by decide +kernel) rfl), mgT 18 (by decide +kernel) rfl, by decide, by decide, by decide +kernel⟩, mgT 1405 (by decide +kernel) rfl, mgS (q := (yX11_refusesLeave, 41)) 118 (by decide +kernel) rfl⟩
theorem vlX11_269 : VL RX11 269 yX11_wantsOf 2 := ⟨⟨Or.inl (mgT 1407 (by decide +kernel) rfl), mgT 18 (by decide +kernel) rfl, by decide, by decide, by decide +kernel⟩, mgT 1409 (by decide +kernel) rfl, mgS (q := (yX11_wantsOf, 41)) 119 (by decide +kernel) rfl⟩
theorem vlX11_275 : VL RX11 275 yX11_goAway 2 := ⟨⟨Or.inl (mgT 1411 (by decide +kernel) rfl), mgT 18 (by decide +kernel) rfl, by decide, by decide, by decide +kernel⟩, mgT 1413 (by decide +kernel) rfl, mgS (q := (yX11_goAway, 41)) 120 (by decide +kernel) rfl⟩
theorem vlL_83 : VL RL 83 yX11_week 0 := ⟨⟨Or.inl (mgT 1415 (by decide +kernel) rfl), mgT 18 (by decide +kernel) rfl, by decide, by decide, by decide +kernel⟩, mgT 1416 (by decide +kernel) rfl, mgT 1417 (by decide +kernel) rfl⟩
theorem vlX11_279 : VL RX11 279 yX11_readAct 1 := ⟨⟨Or.inl (mgT 1419 (by decide +kernel) rfl), mgT 18 (by decide +kernel) rfl, by decide, by decide, by decide +kernel⟩, mgT 1421 (by decide +kernel) rfl, mgS (q := (yX11_readAct, 41)) 121 (by decide +kernel) rfl⟩
theorem vlX11_282 : VL RX11 282 yX11_act 3 := ⟨⟨Or.inl (mgT 1423 (by decide +kernel) rfl), mgT 18 (by decide +kernel) rfl, by decide, by decide, by decide +kernel⟩, mgT 1425 (by decide +kernel) rfl, mgS (q := (yX11_act, 41)) 122 (by decide +kernel) rfl⟩
theorem vlL_87 : VL RL 87 yX11_undo 0 := ⟨⟨Or.inl (mgT 1427 (by decide +kernel) rfl), mgT 18 (by decide +kernel) rfl, by decide, by decide, by decide +kernel⟩, mgT 1428 (by decide +kernel) rfl, mgT 1429 (by decide +kernel) rfl⟩
theorem vlL_91 : VL RL 91 yX11_wakes 0 := ⟨⟨Or.inl (mgT 1431 (by decide +kernel) rfl), mgT 18 (by decide +kernel) rfl, by decide, by decide, by decide +kernel⟩, mgT 1432 (by decide +kernel) rfl, mgT 1433 (by decide +kernel) rfl⟩
theorem vlL_95 : VL RL 95 yX11_later 2 := ⟨⟨Or.inl (mgT 1435 (by decide +kernel) rfl), mgT 18 (by decide +kernel) rfl, by decide, by decide, by decide +kernel⟩, mgT 1436 (by decide +kernel) rfl, mgT 1437 (by decide +kernel) rfl⟩
theorem vlL_99 : VL RL 99 yX11_when 1 := ⟨⟨Or.inl (mgT 1439 (by decide +kernel) rfl), mgT 18 (by decide +kernel) rfl, by decide, by decide, by decide +kernel⟩, mgT 1440 (by decide +kernel) rfl, mgT 1441 (by decide +kernel) rfl⟩
theorem vlL_103 : VL RL 103 yX11_quiet 0 := ⟨⟨Or.inl (mgT 1443 (by decide +kernel) rfl), mgT 18 (by decide +kernel) rfl, by decide, by decide, by decide +kernel⟩, mgT 1444 (by decide +kernel) rfl, mgT 1445 (by decide +kernel) rfl⟩
theorem vlL_107 : VL RL 107 yX11_runs 2 := ⟨⟨Or.inl (mgT 1447 (by decide +kernel) rfl), mgT 18 (by decide +kernel) rfl, by decide, by decide, by decide +kernel⟩, mgT 1448 (by decide +kernel) rfl, mgT 1449 (by decide +kernel) rfl⟩
theorem vlL_111 : VL RL 111 yX11_each 0 := ⟨⟨Or.inl (mgT 1451 (by decide +kernel) rfl), mgT 18 (by decide +kernel) rfl, by decide, by decide, by decide +kernel⟩, mgT 1452 (by decide +kernel) rfl, mgT 1453 (by decide +kernel) rfl⟩
theorem vlX11_285 : VL RX11 285 yX11_everybody 0 := ⟨⟨Or.inl (mgT 1455 (by decide +kernel) rfl), mgT 18 (by decide +kernel) rfl, by decide, by decide, by decide +kernel⟩, mgT 1457 (by decide +kernel) rfl, mgS (q := (yX11_everybody, 41)) 123 (by decide +kernel) rfl⟩
theorem vlL_115 : VL RL 115 yX11_busiest 1 := ⟨⟨Or.inl (mgT 1459 (by decide +kernel) rfl), mgT 18 (by decide +kernel) rfl, by decide, by decide, by decide +kernel⟩, mgT 1460 (by decide +kernel) rfl, mgT 1461 (by decide +kernel) rfl⟩
theorem vlL_119 : VL RL 119 yX11_serves 0 := ⟨⟨Or.inl (mgT 1463 (by decide +kernel) rfl), mgT 18 (by decide +kernel) rfl, by decide, by decide, by decide +kernel⟩, mgT 1464 (by decide +kernel) rfl, mgT 1465 (by decide +kernel) rfl⟩
theorem vlL_123 : VL RL 123 yX11_boot 0 := ⟨⟨Or.inl (mgT 1467 (by decide +kernel) rfl), mgT 18 (by decide +kernel) rfl, by decide, by decide, by decide +kernel⟩, mgT 1468 (by decide +kernel) rfl, mgT 1469 (by decide +kernel) rfl⟩
theorem vlX11_288 : VL RX11 288 yX11_wanting 0 := ⟨⟨Or.inl (mgT 1471 (by decide +kernel) rfl), mgT 18 (by decide +kernel) rfl, by decide, by decide, by decide +kernel⟩, mgT 1473 (by decide +kernel) rfl, mgS (q := (yX11_wanting, 41)) 124 (by decide +kernel) rfl⟩
theorem vlX11_291 : VL RX11 291 yX11_wantsOfAll 1 := ⟨⟨Or.inl (mgT 1475 (by decide +kernel) rfl), mgT 18 (by decide +kernel) rfl, by decide, by decide, by decide +kernel⟩, mgT 1477 (by decide +kernel) rfl, mgS (q := (yX11_wantsOfAll, 41)) 125 (by decide +kernel) rfl⟩
theorem vlL_127 : VL RL 127 yX11_enough 0 := ⟨⟨Or.inl (mgT 1479 (by decide +kernel) rfl), mgT 18 (by decide +kernel) rfl, by decide, by decide, by decide +kernel⟩, mgT 1480 (by decide +kernel) rfl, mgT 1481 (by decide +kernel) rfl⟩
theorem vlX11_294 : VL RX11 294 yX11_areEnough 2 := ⟨⟨Or.inl (mgT 1483 (by decide +kernel) rfl), mgT 18 (by decide +kernel) rfl, by decide, by decide, by decide +kernel⟩, mgT 1485 (by decide +kernel) rfl, mgS (q := (yX11_areEnough, 41)) 126 (by decide +kernel) rfl⟩
theorem vlL_131 : VL RL 131 yX11_steps 1 := ⟨⟨Or.inl (mgT 1487 (by decide +kernel) rfl), mgT 18 (by decide +kernel) rfl, by decide, by decide, by decide +kernel⟩, mgT 1488 (by decide +kernel) rfl, mgT 1489 (by decide +kernel) rfl⟩
theorem vlX11_297 : VL RX11 297 yX11_isWant 1 := ⟨⟨Or.inl (mgT 1491 (by decide +kernel) rfl), mgT 18 (by decide +kernel) rfl, by decide, by decide, by decide +kernel⟩, mgT 1493 (by decide +kernel) rfl, mgS (q := (yX11_isWant, 41)) 127 (by decide +kernel) rfl⟩
theorem vlX11_300 : VL RX11 300 yX11_turn 2 := ⟨⟨Or.inl (mgT 1495 (by decide +kernel) rfl), mgT 18 (by decide +kernel) rfl, by decide, by decide, by decide +kernel⟩, mgT 1497 (by decide +kernel) rfl, mgS (q := (yX11_turn, 41)) 128 (by decide +kernel) rfl⟩
theorem vlL_135 : VL RL 135 yX11_sleeps 1 := ⟨⟨Or.inl (mgT 1499 (by decide +kernel) rfl), mgT 18 (by decide +kernel) rfl, by decide, by decide, by decide +kernel⟩, mgT 1500 (by decide +kernel) rfl, mgT 1501 (by decide +kernel) rfl⟩
theorem vlX11_303 : VL RX11 303 yX11_beginDropped 2 := ⟨⟨Or.inl (mgT 1503 (by decide +kernel) rfl), mgT 18 (by decide +kernel) rfl, by decide, by decide, by decide +kernel⟩, mgT 1505 (by decide +kernel) rfl, mgS (q := (yX11_beginDropped, 41)) 129 (by decide +kernel) rfl⟩
theorem vlL_139 : VL RL 139 yX11_worth 1 := ⟨⟨Or.inl (mgT 1507 (by decide +kernel) rfl), mgT 18 (by decide +kernel) rfl, by decide, by decide, by decide +kernel⟩, mgT 1508 (by decide +kernel) rfl, mgT 1509 (by decide +kernel) rfl⟩
theorem vlL_143 : VL RL 143 yX11_spares 0 := ⟨⟨Or.inl (mgT 1511 (by decide +kernel) rfl), mgT 18 (by decide +kernel) rfl, by decide, by decide, by decide +kernel⟩, mgT 1512 (by decide +kernel) rfl, mgT 1513 (by decide +kernel) rfl⟩
theorem vlL_147 : VL RL 147 yX11_follows 1 := ⟨⟨Or.inl (mgT 1516 (by decide +kernel) rfl), mgT 18 (by decide +kernel) rfl, by decide, by decide, by decide +kernel⟩, mgT 1517 (by decide +kernel) rfl, mgT 1518 (by decide +kernel) rfl⟩
theorem vlX11_314 : VL RX11 314 yX11_goRow 2 := ⟨⟨Or.inl (mgT 1520 (by decide +kernel) rfl), mgT 18 (by decide +kernel) rfl, by decide, by decide, by decide +kernel⟩, mgT 1522 (by decide +kernel) rfl, mgS (q := (yX11_goRow, 41)) 130 (by decide +kernel) rfl⟩
theorem vlX11_311 : VL RX11 311 yX11_layBest 1 := ⟨⟨Or.inl (mgT 1524 (by decide +kernel) rfl), mgT 18 (by decide +kernel) rfl, by decide, by decide, by decide +kernel⟩, mgT 1526 (by decide +kernel) rfl, mgS (q := (yX11_layBest, 41)) 131 (by decide +kernel) rfl⟩
theorem vlX11_317 : VL RX11 317 yX11_tellBest 0 := ⟨⟨Or.inl (mgT 1528 (by decide +kernel) rfl), mgT 18 (by decide +kernel) rfl, by decide, by decide, by decide +kernel⟩, mgT 1530 (by decide +kernel) rfl, mgS (q := (yX11_tellBest, 41)) 132 (by decide +kernel) rfl⟩
theorem vlL_151 : VL RL 151 yX11_ring 0 := ⟨⟨Or.inl (mgT 1532 (by decide +kernel) rfl), mgT 18 (by decide +kernel) rfl, by decide, by decide, by decide +kernel⟩, mgT 1533 (by decide +kernel) rfl, mgT 1534 (by decide +kernel) rfl⟩
theorem vlX11_320 : VL RX11 320 yX11_goRing 2 := ⟨⟨Or.inl (mgT 1536 (by decide +kernel) rfl), mgT 18 (by decide +kernel) rfl, by decide, by decide, by decide +kernel⟩, mgT 1538 (by decide +kernel) rfl, mgS (q := (yX11_goRing, 41)) 133 (by decide +kernel) rfl⟩
theorem vlL_155 : VL RL 155 yX11_friends 0 := ⟨⟨Or.inl (mgT 1540 (by decide +kernel) rfl), mgT 18 (by decide +kernel) rfl, by decide, by decide, by decide +kernel⟩, mgT 1541 (by decide +kernel) rfl, mgT 1542 (by decide +kernel) rfl⟩
theorem vlX11_323 : VL RX11 323 yX11_areFriends 1 := ⟨⟨Or.inl (mgT 1544 (by decide +kernel) rfl), mgT 18 (by decide +kernel) rfl, by decide, by decide, by decide +kernel⟩, mgT 1546 (by decide +kernel) rfl, mgS (q := (yX11_areFriends, 41)) 134 (by decide +kernel) rfl⟩
theorem vlL_159 : VL RL 159 yX11_way 2 := ⟨⟨Or.inl (mgT 1548 (by decide +kernel) rfl), mgT 18 (by decide +kernel) rfl, by decide, by decide, by decide +kernel⟩, mgT 1549 (by decide +kernel) rfl, mgT 1550 (by decide +kernel) rfl⟩
theorem vlL_163 : VL RL 163 yX11_heard 2 := ⟨⟨Or.inl (mgT 1552 (by decide +kernel) rfl), mgT 18 (by decide +kernel) rfl, by decide, by decide, by decide +kernel⟩, mgT 1553 (by decide +kernel) rfl, mgT 1554 (by decide +kernel) rfl⟩
theorem vlL_167 : VL RL 167 yX11_forget 0 := ⟨⟨Or.inl (mgT 1556 (by decide +kernel) rfl), mgT 18 (by decide +kernel) rfl, by decide, by decide, by decide +kernel⟩, mgT 1557 (by decide +kernel) rfl, mgT 1558 (by decide +kernel) rfl⟩
theorem vlL_171 : VL RL 171 yX11_fits 0 := ⟨⟨Or.inl (mgT 1560 (by decide +kernel) rfl), mgT 18 (by decide +kernel) rfl, by decide, by decide, by decide +kernel⟩, mgT 1561 (by decide +kernel) rfl, mgT 1562 (by decide +kernel) rfl⟩
theorem vlX11_332 : VL RX11 332 yX11_fitting 0 := ⟨⟨Or.inl (mgT 1564 (by decide +kernel) rfl), mgT 18 (by decide +kernel) rfl, by decide, by decide, by decide +kernel⟩, mgT 1566 (by decide +kernel) rfl, mgS (q := (yX11_fitting, 41)) 135 (by decide +kernel) rfl⟩
theorem vlX11_329 : VL RX11 329 yX11_isSo 3 := ⟨⟨Or.inl (mgT 1568 (by decide +kernel) rfl), mgT 18 (by decide +kernel) rfl, by decide, by decide, by decide +kernel⟩, mgT 1570 (by decide +kernel) rfl, mgS (q := (yX11_isSo, 41)) 136 (by decide +kernel) rfl⟩
theorem vlL_175 : VL RL 175 yX11_asks 0 := ⟨⟨Or.inl (mgT 1572 (by decide +kernel) rfl), mgT 18 (by decide +kernel) rfl, by decide, by decide, by decide +kernel⟩, mgT 1573 (by decide +kernel) rfl, mgT 1574 (by decide +kernel) rfl⟩
theorem vlL_180 : VL RL 180 yX11_saw 3 := ⟨⟨Or.inl (mgT 1576 (by decide +kernel) rfl), mgT 18 (by decide +kernel) rfl, by decide, by decide, by decide +kernel⟩, mgT 1577 (by decide +kernel) rfl, mgT 1578 (by decide +kernel) rfl⟩
theorem vlL_184 : VL RL 184 yX11_denies 0 := ⟨⟨Or.inl (mgT 1580 (by decide +kernel) rfl), mgT 18 (by decide +kernel) rfl, by decide, by decide, by decide +kernel⟩, mgT 1581 (by decide +kernel) rfl, mgT 1582 (by decide +kernel) rfl⟩
theorem vlL_188 : VL RL 188 yX11_laws 0 := ⟨⟨Or.inl (mgT 1584 (by decide +kernel) rfl), mgT 18 (by decide +kernel) rfl, by decide, by decide, by decide +kernel⟩, mgT 1585 (by decide +kernel) rfl, mgT 1586 (by decide +kernel) rfl⟩
theorem vlX11_341 : VL RX11 341 yX11_isLaw 1 := ⟨⟨Or.inl (mgT 1588 (by decide +kernel) rfl), mgT 18 (by decide +kernel) rfl, by decide, by decide, by decide +kernel⟩, mgT 1590 (by decide +kernel) rfl, mgS (q := (yX11_isLaw, 41)) 137 (by decide +kernel) rfl⟩
theorem slX11_338 : SL RX11 338 yX11_lets 2 := ⟨⟨Or.inl (mgT 1592 (by decide +kernel) rfl), mgT 18 (by decide +kernel) rfl, by decide, by decide, by decide +kernel⟩, mgT 1593 (by decide +kernel) rfl⟩
theorem vlL_192 : VL RL 192 yX11_looks 0 := ⟨⟨Or.inl (mgT 1595 (by decide +kernel) rfl), mgT 18 (by decide +kernel) rfl, by decide, by decide, by decide +kernel⟩, mgT 1596 (by decide +kernel) rfl, mgT 1597 (by decide +kernel) rfl⟩
theorem vlL_196 : VL RL 196 yX11_odds 2 := ⟨⟨Or.inl (mgT 1599 (by decide +kernel) rfl), mgT 18 (by decide +kernel) rfl, by decide, by decide, by decide +kernel⟩, mgT 1600 (by decide +kernel) rfl, mgT 1601 (by decide +kernel) rfl⟩
theorem slX11_344 : SL RX11 344 yX11_common 2 := ⟨⟨Or.inl (mgT 1604 (by decide +kernel) rfl), mgT 18 (by decide +kernel) rfl, by decide, by decide, by decide +kernel⟩, mgT 1605 (by decide +kernel) rfl⟩
theorem vlL_200 : VL RL 200 yX11_vigil 1 := ⟨⟨Or.inl (mgT 1607 (by decide +kernel) rfl), mgT 18 (by decide +kernel) rfl, by decide, by decide, by decide +kernel⟩, mgT 1608 (by decide +kernel) rfl, mgT 1609 (by decide +kernel) rfl⟩
theorem vlX11_353 : VL RX11 353 yX11_sitsBy 1 := ⟨⟨Or.inl (mgT 1611 (by decide +kernel) rfl), mgT 18 (by decide +kernel) rfl, by decide, by decide, by decide +kernel⟩, mgT 1613 (by decide +kernel) rfl, mgS (q := (yX11_sitsBy, 41)) 138 (by decide +kernel) rfl⟩
theorem slX11_350 : SL RX11 350 yX11_greatest 1 := ⟨⟨Or.inl (mgT 1615 (by decide +kernel) rfl), mgT 18 (by decide +kernel) rfl, by decide, by decide, by decide +kernel⟩, mgT 1616 (by decide +kernel) rfl⟩
theorem vlL_204 : VL RL 204 yX11_rests 1 := ⟨⟨Or.inl (mgT 1618 (by decide +kernel) rfl), mgT 18 (by decide +kernel) rfl, by decide, by decide, by decide +kernel⟩, mgT 1619 (by decide +kernel) rfl, mgT 1620 (by decide +kernel) rfl⟩
theorem slX11_360 : SL RX11 360 yX11_isBest 3 := ⟨⟨Or.inl (mgT 1622 (by decide +kernel) rfl), mgT 18 (by decide +kernel) rfl, by decide, by decide, by decide +kernel⟩, mgT 1623 (by decide +kernel) rfl⟩
theorem slX11_356 : SL RX11 356 yX11_gets 3 := ⟨⟨Or.inl (mgT 1625 (by decide +kernel) rfl), mgT 18 (by decide +kernel) rfl, by decide, by decide, by decide +kernel⟩, mgT 1626 (by decide +kernel) rfl⟩
theorem vlL_208 : VL RL 208 yX11_law 0 := ⟨⟨Or.inl (mgT 1628 (by decide +kernel) rfl), mgT 18 (by decide +kernel) rfl, by decide, by decide, by decide +kernel⟩, mgT 1629 (by decide +kernel) rfl, mgT 1630 (by decide +kernel) rfl⟩
theorem vlL_212 : VL RL 212 yX11_years 2 := ⟨⟨Or.inl (mgT 1632 (by decide +kernel) rfl), mgT 18 (by decide +kernel) rfl, by decide, by decide, by decide +kernel⟩, mgT 1633 (by decide +kernel) rfl, mgT 1634 (by decide +kernel) rfl⟩
theorem vlX11_367 : VL RX11 367 yX11_draw 1 := ⟨⟨Or.inl (mgT 1636 (by decide +kernel) rfl), mgT 18 (by decide +kernel) rfl, by decide, by decide, by decide +kernel⟩, mgT 1638 (by decide +kernel) rfl, mgS (q := (yX11_draw, 41)) 139 (by decide +kernel) rfl⟩
theorem vlL_216 : VL RL 216 yX11_keep 1 := ⟨⟨Or.inl (mgT 1641 (by decide +kernel) rfl), mgT 18 (by decide +kernel) rfl, by decide, by decide, by decide +kernel⟩, mgT 1642 (by decide +kernel) rfl, mgT 1643 (by decide +kernel) rfl⟩
theorem vlL_220 : VL RL 220 yX11_again 1 := ⟨⟨Or.inl (mgT 1645 (by decide +kernel) rfl), mgT 18 (by decide +kernel) rfl, by decide, by decide, by decide +kernel⟩, mgT 1646 (by decide +kernel) rfl, mgT 1647 (by decide +kernel) rfl⟩
theorem vlL_224 : VL RL 224 yX11_count 1 := ⟨⟨Or.inl (mgT 1649 (by decide +kernel) rfl), mgT 18 (by decide +kernel) rfl, by decide, by decide, by decide +kernel⟩, mgT 1650 (by decide +kernel) rfl, mgT 1651 (by decide +kernel) rfl⟩
theorem vlX11_370 : VL RX11 370 yX11_allWants 0 := ⟨⟨Or.inl (mgT 1653 (by decide +kernel) rfl), mgT 18 (by decide +kernel) rfl, by decide, by decide, by decide +kernel⟩, mgT 1655 (by decide +kernel) rfl, mgS (q := (yX11_allWants, 41)) 140 (by decide +kernel) rfl⟩
theorem vlL_228 : VL RL 228 yX11_row 1 := ⟨⟨Or.inl (mgT 1657 (by decide +kernel) rfl), mgT 18 (by decide +kernel) rfl, by decide, by decide, by decide +kernel⟩, mgT 1658 (by decide +kernel) rfl, mgT 1659 (by decide +kernel) rfl⟩
