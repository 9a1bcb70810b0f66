theorem oi_i : Cond.instanceMethod Lib.objectInit ∈ lw_g := mgT 30 (by decide +kernel) rfl
theorem oi_c : Cond.code Lib.objectInit ⟨#[0xb1]⟩ 1 none ∈ lw_g := mgT 31 (by decide +kernel) rfl
theorem ac_I : Cond.arrayClass .int ∈ lw_g := mgT 117 (by decide +kernel) rfl
theorem ac_B : Cond.arrayClass .byte ∈ lw_g := mgT 432 (by decide +kernel) rfl
theorem ac_C : Cond.arrayClass .char ∈ lw_g := mgT 47 (by decide +kernel) rfl
theorem ac_Z : Cond.arrayClass .boolean ∈ lw_g := mgT 144 (by decide +kernel) rfl
theorem ac_J : Cond.arrayClass .long ∈ lw_g := mgT 63 (by decide +kernel) rfl
theorem inst_X0 : Cond.instantiable RX0 8 ∈ lw_g := mgT 65 (by decide +kernel) rfl
theorem dfX0 : ∀ j, j < 8 → defaultValue (tyX0 j) = vp_V [.null, .null, .null, .null, .null, .int 0, .int 0, .int 0] j := fun j hj => by
  rcases (show j = 0 ∨ j = 1 ∨ j = 2 ∨ j = 3 ∨ j = 4 ∨ j = 5 ∨ j = 6 ∨ j = 7 by omega) with rfl | rfl | rfl | rfl | rfl | rfl | rfl | rfl <;> rfl
theorem inst_X1 : Cond.instantiable RX1 3 ∈ lw_g := mgT 219 (by decide +kernel) rfl
theorem dfX1 : ∀ j, j < 3 → defaultValue (tyX1 j) = vp_V [.null, .null, .int 0] j := fun j hj => by
  rcases (show j = 0 ∨ j = 1 ∨ j = 2 by omega) with rfl | rfl | rfl <;> rfl
theorem inst_X2 : Cond.instantiable RX2 2 ∈ lw_g := mgT 49 (by decide +kernel) rfl
theorem dfX2 : ∀ j, j < 2 → defaultValue (tyX2 j) = vp_V [.null, .int 0] j := fun j hj => by
  rcases (show j = 0 ∨ j = 1 by omega) with rfl | rfl <;> rfl
theorem inst_X3 : Cond.instantiable RX3 5 ∈ lw_g := mgT 119 (by decide +kernel) rfl
theorem dfX3 : ∀ j, j < 5 → defaultValue (tyX3 j) = vp_V [.null, .null, .null, .int 0, .int 0] j := fun j hj => by
  rcases (show j = 0 ∨ j = 1 ∨ j = 2 ∨ j = 3 ∨ j = 4 by omega) with rfl | rfl | rfl | rfl | rfl <;> rfl
theorem inst_X4 : Cond.instantiable RX4 4 ∈ lw_g := mgT 200 (by decide +kernel) rfl
theorem dfX4 : ∀ j, j < 4 → defaultValue (tyX4 j) = vp_V [.null, .null, .null, .int 0] j := fun j hj => by
  rcases (show j = 0 ∨ j = 1 ∨ j = 2 ∨ j = 3 by omega) with rfl | rfl | rfl | rfl <;> rfl
theorem inst_X5 : Cond.instantiable RX5 4 ∈ lw_g := mgT 171 (by decide +kernel) rfl
theorem dfX5 : ∀ j, j < 4 → defaultValue (tyX5 j) = vp_V [.null, .null, .null, .int 0] j := fun j hj => by
  rcases (show j = 0 ∨ j = 1 ∨ j = 2 ∨ j = 3 by omega) with rfl | rfl | rfl | rfl <;> rfl
theorem inst_X6 : Cond.instantiable RX6 6 ∈ lw_g := mgT 146 (by decide +kernel) rfl
theorem dfX6 : ∀ j, j < 6 → defaultValue (tyX6 j) = vp_V [.null, .int 0, .int 0, .int 0, .int 0, .int 0] j := fun j hj => by
  rcases (show j = 0 ∨ j = 1 ∨ j = 2 ∨ j = 3 ∨ j = 4 ∨ j = 5 by omega) with rfl | rfl | rfl | rfl | rfl | rfl <;> rfl
theorem inst_X7 : Cond.instantiable RX7 1 ∈ lw_g := mgT 190 (by decide +kernel) rfl
theorem dfX7 : ∀ j, j < 1 → defaultValue (tyX7 j) = vp_V [.null] j := fun j hj => by
  rcases (show j = 0 by omega) with rfl <;> rfl
theorem inst_X8 : Cond.instantiable RX8 5 ∈ lw_g := mgT 236 (by decide +kernel) rfl
theorem dfX8 : ∀ j, j < 5 → defaultValue (tyX8 j) = vp_V [.null, .null, .null, .null, .int 0] j := fun j hj => by
  rcases (show j = 0 ∨ j = 1 ∨ j = 2 ∨ j = 3 ∨ j = 4 by omega) with rfl | rfl | rfl | rfl | rfl <;> rfl
theorem inst_X9 : Cond.instantiable RX9 2 ∈ lw_g := mgT 33 (by decide +kernel) rfl
theorem dfX9 : ∀ j, j < 2 → defaultValue (tyX9 j) = vp_V [.null, .int 0] j := fun j hj => by
  rcases (show j = 0 ∨ j = 1 by omega) with rfl | rfl <;> rfl
theorem inst_X10 : Cond.instantiable RX10 13 ∈ lw_g := mgT 25 (by decide +kernel) rfl
theorem dfX10 : ∀ j, j < 13 → defaultValue (tyX10 j) = vp_V [.null, .null, .null, .null, .null, .null, .null, .null, .null, .null, .null, .null, .int 0] j := fun j hj => by
  rcases (show j = 0 ∨ j = 1 ∨ j = 2 ∨ j = 3 ∨ j = 4 ∨ j = 5 ∨ j = 6 ∨ j = 7 ∨ j = 8 ∨ j = 9 ∨ j = 10 ∨ j = 11 ∨ j = 12 by omega) with rfl | rfl | rfl | rfl | rfl | rfl | rfl | rfl | rfl | rfl | rfl | rfl | rfl <;> rfl
theorem inst_X11 : Cond.instantiable RX11 41 ∈ lw_g := mgT 1075 (by decide +kernel) rfl
theorem dfX11 : ∀ j, j < 41 → defaultValue (tyX11 j) = vp_V [.null, .int 0, .null, .int 0, .null, .int 0, .int 0, .null, .int 0, .int 0, .int 0, .int 0, .null, .null, .null, .int 0, .int 0, .null, .null, .int 0, .null, .null, .null, .null, .null, .null, .null, .int 0, .null, .null, .null, .int 0, .null, .null, .int 0, .null, .int 0, .int 0, .null, .null, .null] j := fun j hj => by
  rcases (show j = 0 ∨ j = 1 ∨ j = 2 ∨ j = 3 ∨ j = 4 ∨ j = 5 ∨ j = 6 ∨ j = 7 ∨ j = 8 ∨ j = 9 ∨ j = 10 ∨ j = 11 ∨ j = 12 ∨ j = 13 ∨ j = 14 ∨ j = 15 ∨ j = 16 ∨ j = 17 ∨ j = 18 ∨ j = 19 ∨ j = 20 ∨ j = 21 ∨ j = 22 ∨ j = 23 ∨ j = 24 ∨ j = 25 ∨ j = 26 ∨ j = 27 ∨ j = 28 ∨ j = 29 ∨ j = 30 ∨ j = 31 ∨ j = 32 ∨ j = 33 ∨ j = 34 ∨ j = 35 ∨ j = 36 ∨ j = 37 ∨ j = 38 ∨ j = 39 ∨ j = 40 by omega) with rfl | rfl | rfl | rfl | rfl | rfl | rfl | rfl | rfl | rfl | rfl | rfl | rfl | rfl | rfl | rfl | rfl | rfl | rfl | rfl | rfl | rfl | rfl | rfl | rfl | rfl | rfl | rfl | rfl | rfl | rfl | rfl | rfl | rfl | rfl | rfl | rfl | rfl | rfl | rfl | rfl <;> rfl
theorem oi_X0 : Cond.methodLink RX0 3 Lib.objectInit ∈ lw_g := mgT 69 (by decide +kernel) rfl
theorem flX0_9 : Cond.fieldLink RX0 9 RX0 (TX0 0).2.1 (TX0 0).2.2.1 ∈ lw_g := mgT 70 (by decide +kernel) rfl
theorem flX0_15 : Cond.fieldLink RX0 15 RX0 (TX0 1).2.1 (TX0 1).2.2.1 ∈ lw_g := mgT 74 (by decide +kernel) rfl
theorem flX0_18 : Cond.fieldLink RX0 18 RX0 (TX0 2).2.1 (TX0 2).2.2.1 ∈ lw_g := mgT 77 (by decide +kernel) rfl
theorem flX0_21 : Cond.fieldLink RX0 21 RX0 (TX0 3).2.1 (TX0 3).2.2.1 ∈ lw_g := mgT 81 (by decide +kernel) rfl
theorem flX0_24 : Cond.fieldLink RX0 24 RX0 (TX0 4).2.1 (TX0 4).2.2.1 ∈ lw_g := mgT 83 (by decide +kernel) rfl
theorem oi_X1 : Cond.methodLink RX1 3 Lib.objectInit ∈ lw_g := mgT 223 (by decide +kernel) rfl
theorem flX1_11 : Cond.fieldLink RX1 11 RX1 (TX1 0).2.1 (TX1 0).2.2.1 ∈ lw_g := mgT 224 (by decide +kernel) rfl
theorem flX1_15 : Cond.fieldLink RX1 15 RX1 (TX1 1).2.1 (TX1 1).2.2.1 ∈ lw_g := mgT 225 (by decide +kernel) rfl
theorem oi_X2 : Cond.methodLink RX2 1 Lib.objectInit ∈ lw_g := mgT 53 (by decide +kernel) rfl
theorem flX2_7 : Cond.fieldLink RX2 7 RX2 (TX2 0).2.1 (TX2 0).2.2.1 ∈ lw_g := mgT 54 (by decide +kernel) rfl
theorem oi_X4 : Cond.methodLink RX4 3 Lib.objectInit ∈ lw_g := mgT 204 (by decide +kernel) rfl
theorem flX4_9 : Cond.fieldLink RX4 9 RX4 (TX4 0).2.1 (TX4 0).2.2.1 ∈ lw_g := mgT 205 (by decide +kernel) rfl
theorem flX4_15 : Cond.fieldLink RX4 15 RX4 (TX4 1).2.1 (TX4 1).2.2.1 ∈ lw_g := mgT 206 (by decide +kernel) rfl
theorem flX4_18 : Cond.fieldLink RX4 18 RX4 (TX4 2).2.1 (TX4 2).2.2.1 ∈ lw_g := mgT 207 (by decide +kernel) rfl
theorem oi_X5 : Cond.methodLink RX5 5 Lib.objectInit ∈ lw_g := mgT 175 (by decide +kernel) rfl
theorem flX5_11 : Cond.fieldLink RX5 11 RX5 (TX5 0).2.1 (TX5 0).2.2.1 ∈ lw_g := mgT 176 (by decide +kernel) rfl
theorem flX5_15 : Cond.fieldLink RX5 15 RX5 (TX5 1).2.1 (TX5 1).2.2.1 ∈ lw_g := mgT 177 (by decide +kernel) rfl
theorem flX5_18 : Cond.fieldLink RX5 18 RX5 (TX5 2).2.1 (TX5 2).2.2.1 ∈ lw_g := mgT 178 (by decide +kernel) rfl
theorem oi_X6 : Cond.methodLink RX6 3 Lib.objectInit ∈ lw_g := mgT 150 (by decide +kernel) rfl
theorem flX6_9 : Cond.fieldLink RX6 9 RX6 (TX6 0).2.1 (TX6 0).2.2.1 ∈ lw_g := mgT 151 (by decide +kernel) rfl
theorem oi_X7 : Cond.methodLink RX7 3 Lib.objectInit ∈ lw_g := mgT 194 (by decide +kernel) rfl
theorem flX7_9 : Cond.fieldLink RX7 9 RX7 (TX7 0).2.1 (TX7 0).2.2.1 ∈ lw_g := mgT 195 (by decide +kernel) rfl
theorem oi_X8 : Cond.methodLink RX8 3 Lib.objectInit ∈ lw_g := mgT 240 (by decide +kernel) rfl
theorem flX8_11 : Cond.fieldLink RX8 11 RX8 (TX8 0).2.1 (TX8 0).2.2.1 ∈ lw_g := mgT 241 (by decide +kernel) rfl
theorem flX8_15 : Cond.fieldLink RX8 15 RX8 (TX8 1).2.1 (TX8 1).2.2.1 ∈ lw_g := mgT 242 (by decide +kernel) rfl
theorem flX8_18 : Cond.fieldLink RX8 18 RX8 (TX8 2).2.1 (TX8 2).2.2.1 ∈ lw_g := mgT 243 (by decide +kernel) rfl
theorem flX8_22 : Cond.fieldLink RX8 22 RX8 (TX8 3).2.1 (TX8 3).2.2.1 ∈ lw_g := mgT 244 (by decide +kernel) rfl
theorem oi_X9 : Cond.methodLink RX9 3 Lib.objectInit ∈ lw_g := mgT 37 (by decide +kernel) rfl
theorem flX9_9 : Cond.fieldLink RX9 9 RX9 (TX9 0).2.1 (TX9 0).2.2.1 ∈ lw_g := mgT 38 (by decide +kernel) rfl
theorem oi_X11 : Cond.methodLink RX11 3 Lib.objectInit ∈ lw_g := mgT 1079 (by decide +kernel) rfl
theorem flX11_9 : Cond.fieldLink RX11 9 RX11 (TX11 0).2.1 (TX11 0).2.2.1 ∈ lw_g := mgT 1080 (by decide +kernel) rfl
theorem flX11_13 : Cond.fieldLink RX11 13 RX11 (TX11 2).2.1 (TX11 2).2.2.1 ∈ lw_g := mgT 1082 (by decide +kernel) rfl
theorem flX11_17 : Cond.fieldLink RX11 17 RX11 (TX11 4).2.1 (TX11 4).2.2.1 ∈ lw_g := mgT 1084 (by decide +kernel) rfl
theorem flX11_21 : Cond.fieldLink RX11 21 RX11 (TX11 12).2.1 (TX11 12).2.2.1 ∈ lw_g := mgT 1092 (by decide +kernel) rfl
theorem flX11_30 : Cond.fieldLink RX11 30 RX11 (TX11 17).2.1 (TX11 17).2.2.1 ∈ lw_g := mgT 1097 (by decide +kernel) rfl
theorem flX11_33 : Cond.fieldLink RX11 33 RX11 (TX11 18).2.1 (TX11 18).2.2.1 ∈ lw_g := mgT 1098 (by decide +kernel) rfl
theorem flX11_36 : Cond.fieldLink RX11 36 RX11 (TX11 20).2.1 (TX11 20).2.2.1 ∈ lw_g := mgT 1100 (by decide +kernel) rfl
theorem flX11_39 : Cond.fieldLink RX11 39 RX11 (TX11 21).2.1 (TX11 21).2.2.1 ∈ lw_g := mgT 1101 (by decide +kernel) rfl
theorem flX11_42 : Cond.fieldLink RX11 42 RX11 (TX11 22).2.1 (TX11 22).2.2.1 ∈ lw_g := mgT 1102 (by decide +kernel) rfl
theorem flX11_45 : Cond.fieldLink RX11 45 RX11 (TX11 23).2.1 (TX11 23).2.2.1 ∈ lw_g := mgT 1103 (by decide +kernel) rfl
theorem flX11_48 : Cond.fieldLink RX11 48 RX11 (TX11 24).2.1 (TX11 24).2.2.1 ∈ lw_g := mgT 1104 (by decide +kernel) rfl
theorem flX11_51 : Cond.fieldLink RX11 51 RX11 (TX11 25).2.1 (TX11 25).2.2.1 ∈ lw_g := mgT 1105 (by decide +kernel) rfl
theorem flX11_54 : Cond.fieldLink RX11 54 RX11 (TX11 26).2.1 (TX11 26).2.2.1 ∈ lw_g := mgT 1106 (by decide +kernel) rfl
theorem flX11_57 : Cond.fieldLink RX11 57 RX11 (TX11 28).2.1 (TX11 28).2.2.1 ∈ lw_g := mgT 1108 (by decide +kernel) rfl
theorem flX11_60 : Cond.fieldLink RX11 60 RX11 (TX11 29).2.1 (TX11 29).2.2.1 ∈ lw_g := mgT 1109 (by decide +kernel) rfl
theorem flX11_63 : Cond.fieldLink RX11 63 RX11 (TX11 30).2.1 (TX11 30).2.2.1 ∈ lw_g := mgT 1110 (by decide +kernel) rfl
theorem flX11_66 : Cond.fieldLink RX11 66 RX11 (TX11 32).2.1 (TX11 32).2.2.1 ∈ lw_g := mgT 1112 (by decide +kernel) rfl
theorem flX11_69 : Cond.fieldLink RX11 69 RX11 (TX11 33).2.1 (TX11 33).2.2.1 ∈ lw_g := mgT 1113 (by decide +kernel) rfl
theorem flX11_72 : Cond.fieldLink RX11 72 RX11 (TX11 35).2.1 (TX11 35).2.2.1 ∈ lw_g := mgT 1115 (by decide +kernel) rfl
theorem flX11_76 : Cond.fieldLink RX11 76 RX11 (TX11 38).2.1 (TX11 38).2.2.1 ∈ lw_g := mgT 1118 (by decide +kernel) rfl
theorem flX11_79 : Cond.fieldLink RX11 79 RX11 (TX11 39).2.1 (TX11 39).2.2.1 ∈ lw_g := mgT 1119 (by decide +kernel) rfl
theorem flX11_82 : Cond.fieldLink RX11 82 RX11 (TX11 40).2.1 (TX11 40).2.2.1 ∈ lw_g := mgT 1120 (by decide +kernel) rfl
theorem oi_X3 : Cond.methodLink RX3 3 Lib.objectInit ∈ lw_g := mgT 123 (by decide +kernel) rfl
theorem clX3_9 : Cond.classLink RX3 9 RX0 ∈ lw_g := mgT 124 (by decide +kernel) rfl
theorem flX3_11 : Cond.fieldLink RX3 11 RX3 (TX3 0).2.1 (TX3 0).2.2.1 ∈ lw_g := mgT 127 (by decide +kernel) rfl
theorem flX3_15 : Cond.fieldLink RX3 15 RX3 (TX3 1).2.1 (TX3 1).2.2.1 ∈ lw_g := mgT 128 (by decide +kernel) rfl
theorem flX3_18 : Cond.fieldLink RX3 18 RX3 (TX3 2).2.1 (TX3 2).2.2.1 ∈ lw_g := mgT 129 (by decide +kernel) rfl
theorem oi_X10 : Cond.methodLink RX10 3 Lib.objectInit ∈ lw_g := mgT 29 (by decide +kernel) rfl
theorem clX10_9 : Cond.classLink RX10 9 RX9 ∈ lw_g := mgT 32 (by decide +kernel) rfl
theorem flX10_12 : Cond.fieldLink RX10 12 RX10 (TX10 0).2.1 (TX10 0).2.2.1 ∈ lw_g := mgT 392 (by decide +kernel) rfl
theorem clX10_16 : Cond.classLink RX10 16 RX2 ∈ lw_g := mgT 48 (by decide +kernel) rfl
theorem flX10_19 : Cond.fieldLink RX10 19 RX10 (TX10 1).2.1 (TX10 1).2.2.1 ∈ lw_g := mgT 393 (by decide +kernel) rfl
theorem clX10_23 : Cond.classLink RX10 23 RX0 ∈ lw_g := mgT 64 (by decide +kernel) rfl
theorem flX10_26 : Cond.fieldLink RX10 26 RX10 (TX10 2).2.1 (TX10 2).2.2.1 ∈ lw_g := mgT 394 (by decide +kernel) rfl
theorem flX10_30 : Cond.fieldLink RX10 30 RX10 (TX10 3).2.1 (TX10 3).2.2.1 ∈ lw_g := mgT 395 (by decide +kernel) rfl
theorem clX10_33 : Cond.classLink RX10 33 RX3 ∈ lw_g := mgT 118 (by decide +kernel) rfl
theorem flX10_36 : Cond.fieldLink RX10 36 RX10 (TX10 4).2.1 (TX10 4).2.2.1 ∈ lw_g := mgT 396 (by decide +kernel) rfl
theorem clX10_40 : Cond.classLink RX10 40 RX6 ∈ lw_g := mgT 145 (by decide +kernel) rfl
theorem flX10_43 : Cond.fieldLink RX10 43 RX10 (TX10 5).2.1 (TX10 5).2.2.1 ∈ lw_g := mgT 397 (by decide +kernel) rfl
theorem clX10_47 : Cond.classLink RX10 47 RX5 ∈ lw_g := mgT 170 (by decide +kernel) rfl
theorem clX10_57 : Cond.classLink RX10 57 RX7 ∈ lw_g := mgT 189 (by decide +kernel) rfl
theorem flX10_60 : Cond.fieldLink RX10 60 RX10 (TX10 8).2.1 (TX10 8).2.2.1 ∈ lw_g := mgT 400 (by decide +kernel) rfl
theorem clX10_64 : Cond.classLink RX10 64 RX4 ∈ lw_g := mgT 199 (by decide +kernel) rfl
theorem flX10_67 : Cond.fieldLink RX10 67 RX10 (TX10 9).2.1 (TX10 9).2.2.1 ∈ lw_g := mgT 401 (by decide +kernel) rfl
theorem clX10_71 : Cond.classLink RX10 71 RX1 ∈ lw_g := mgT 218 (by decide +kernel) rfl
theorem flX10_74 : Cond.fieldLink RX10 74 RX10 (TX10 10).2.1 (TX10 10).2.2.1 ∈ lw_g := mgT 402 (by decide +kernel) rfl
theorem clX10_78 : Cond.classLink RX10 78 RX8 ∈ lw_g := mgT 235 (by decide +kernel) rfl
theorem flX10_81 : Cond.fieldLink RX10 81 RX10 (TX10 11).2.1 (TX10 11).2.2.1 ∈ lw_g := mgT 403 (by decide +kernel) rfl
