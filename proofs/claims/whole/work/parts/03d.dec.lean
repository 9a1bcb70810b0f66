theorem dX10_denies_0 : decode cX10_denies 0 = .ok (.aload_n 0, 1) := by decide +kernel
theorem dX10_denies_1 : decode cX10_denies 1 = .ok (.getfield 81, 3) := by decide +kernel
theorem dX10_denies_4 : decode cX10_denies 4 = .ok (.invokevirtual 336, 3) := by decide +kernel
theorem dX10_denies_7 : decode cX10_denies 7 = .ok (.ireturn, 1) := by decide +kernel
theorem dX10_laws_0 : decode cX10_laws 0 = .ok (.aload_n 0, 1) := by decide +kernel
theorem dX10_laws_1 : decode cX10_laws 1 = .ok (.getfield 81, 3) := by decide +kernel
theorem dX10_laws_4 : decode cX10_laws 4 = .ok (.invokevirtual 337, 3) := by decide +kernel
theorem dX10_laws_7 : decode cX10_laws 7 = .ok (.istore_n 1, 1) := by decide +kernel
theorem dX10_laws_8 : decode cX10_laws 8 = .ok (.aload_n 0, 1) := by decide +kernel
theorem dX10_laws_9 : decode cX10_laws 9 = .ok (.getfield 81, 3) := by decide +kernel
theorem dX10_laws_12 : decode cX10_laws 12 = .ok (.invokevirtual 340, 3) := by decide +kernel
theorem dX10_laws_15 : decode cX10_laws 15 = .ok (.istore_n 2, 1) := by decide +kernel
theorem dX10_laws_16 : decode cX10_laws 16 = .ok (.aload_n 0, 1) := by decide +kernel
theorem dX10_laws_17 : decode cX10_laws 17 = .ok (.getfield 19, 3) := by decide +kernel
theorem dX10_laws_20 : decode cX10_laws 20 = .ok (.invokevirtual 285, 3) := by decide +kernel
theorem dX10_laws_23 : decode cX10_laws 23 = .ok (.iload_n 2, 1) := by decide +kernel
theorem dX10_laws_24 : decode cX10_laws 24 = .ok (.ifCond .lt 41, 3) := by decide +kernel
theorem dX10_laws_27 : decode cX10_laws 27 = .ok (.aload_n 0, 1) := by decide +kernel
theorem dX10_laws_28 : decode cX10_laws 28 = .ok (.getfield 19, 3) := by decide +kernel
theorem dX10_laws_31 : decode cX10_laws 31 = .ok (.iload_n 2, 1) := by decide +kernel
theorem dX10_laws_32 : decode cX10_laws 32 = .ok (.bipush 40, 2) := by decide +kernel
theorem dX10_laws_34 : decode cX10_laws 34 = .ok (.idiv, 1) := by decide +kernel
theorem dX10_laws_35 : decode cX10_laws 35 = .ok (.i2l, 1) := by decide +kernel
theorem dX10_laws_36 : decode cX10_laws 36 = .ok (.invokevirtual 343, 3) := by decide +kernel
theorem dX10_laws_39 : decode cX10_laws 39 = .ok (.aload_n 0, 1) := by decide +kernel
theorem dX10_laws_40 : decode cX10_laws 40 = .ok (.getfield 19, 3) := by decide +kernel
theorem dX10_laws_43 : decode cX10_laws 43 = .ok (.iload_n 2, 1) := by decide +kernel
theorem dX10_laws_44 : decode cX10_laws 44 = .ok (.bipush 10, 2) := by decide +kernel
theorem dX10_laws_46 : decode cX10_laws 46 = .ok (.idiv, 1) := by decide +kernel
theorem dX10_laws_47 : decode cX10_laws 47 = .ok (.iconst 4, 1) := by decide +kernel
theorem dX10_laws_48 : decode cX10_laws 48 = .ok (.irem, 1) := by decide +kernel
theorem dX10_laws_49 : decode cX10_laws 49 = .ok (.i2l, 1) := by decide +kernel
theorem dX10_laws_50 : decode cX10_laws 50 = .ok (.invokevirtual 343, 3) := by decide +kernel
theorem dX10_laws_53 : decode cX10_laws 53 = .ok (.aload_n 0, 1) := by decide +kernel
theorem dX10_laws_54 : decode cX10_laws 54 = .ok (.getfield 19, 3) := by decide +kernel
theorem dX10_laws_57 : decode cX10_laws 57 = .ok (.iload_n 2, 1) := by decide +kernel
theorem dX10_laws_58 : decode cX10_laws 58 = .ok (.bipush 10, 2) := by decide +kernel
theorem dX10_laws_60 : decode cX10_laws 60 = .ok (.irem, 1) := by decide +kernel
theorem dX10_laws_61 : decode cX10_laws 61 = .ok (.i2l, 1) := by decide +kernel
theorem dX10_laws_62 : decode cX10_laws 62 = .ok (.invokevirtual 343, 3) := by decide +kernel
theorem dX10_laws_65 : decode cX10_laws 65 = .ok (.iload_n 1, 1) := by decide +kernel
theorem dX10_laws_66 : decode cX10_laws 66 = .ok (.ireturn, 1) := by decide +kernel
theorem dX10_looks_0 : decode cX10_looks 0 = .ok (.aload_n 0, 1) := by decide +kernel
theorem dX10_looks_1 : decode cX10_looks 1 = .ok (.getfield 81, 3) := by decide +kernel
theorem dX10_looks_4 : decode cX10_looks 4 = .ok (.invokevirtual 337, 3) := by decide +kernel
theorem dX10_looks_7 : decode cX10_looks 7 = .ok (.istore_n 1, 1) := by decide +kernel
theorem dX10_looks_8 : decode cX10_looks 8 = .ok (.iload_n 1, 1) := by decide +kernel
theorem dX10_looks_9 : decode cX10_looks 9 = .ok (.ifCond .ne 6, 3) := by decide +kernel
theorem dX10_looks_12 : decode cX10_looks 12 = .ok (.bipush (-2), 2) := by decide +kernel
theorem dX10_looks_14 : decode cX10_looks 14 = .ok (.ireturn, 1) := by decide +kernel
theorem dX10_looks_15 : decode cX10_looks 15 = .ok (.iconst 0, 1) := by decide +kernel
theorem dX10_looks_16 : decode cX10_looks 16 = .ok (.istore_n 2, 1) := by decide +kernel
theorem dX10_looks_17 : decode cX10_looks 17 = .ok (.iload_n 1, 1) := by decide +kernel
theorem dX10_looks_18 : decode cX10_looks 18 = .ok (.iconst 1, 1) := by decide +kernel
theorem dX10_looks_19 : decode cX10_looks 19 = .ok (.iadd, 1) := by decide +kernel
theorem dX10_looks_20 : decode cX10_looks 20 = .ok (.istore_n 3, 1) := by decide +kernel
theorem dX10_looks_21 : decode cX10_looks 21 = .ok (.iconst 0, 1) := by decide +kernel
theorem dX10_looks_22 : decode cX10_looks 22 = .ok (.istore 4, 2) := by decide +kernel
theorem dX10_looks_24 : decode cX10_looks 24 = .ok (.iload 4, 2) := by decide +kernel
theorem dX10_looks_26 : decode cX10_looks 26 = .ok (.bipush 100, 2) := by decide +kernel
theorem dX10_looks_28 : decode cX10_looks 28 = .ok (.if_icmp .ge 61, 3) := by decide +kernel
theorem dX10_looks_31 : decode cX10_looks 31 = .ok (.iload 4, 2) := by decide +kernel
theorem dX10_looks_33 : decode cX10_looks 33 = .ok (.bipush 10, 2) := by decide +kernel
theorem dX10_looks_35 : decode cX10_looks 35 = .ok (.irem, 1) := by decide +kernel
theorem dX10_looks_36 : decode cX10_looks 36 = .ok (.bipush 7, 2) := by decide +kernel
theorem dX10_looks_38 : decode cX10_looks 38 = .ok (.if_icmp .ge 45, 3) := by decide +kernel
theorem dX10_looks_41 : decode cX10_looks 41 = .ok (.aload_n 0, 1) := by decide +kernel
theorem dX10_looks_42 : decode cX10_looks 42 = .ok (.getfield 81, 3) := by decide +kernel
theorem dX10_looks_45 : decode cX10_looks 45 = .ok (.iload 4, 2) := by decide +kernel
theorem dX10_looks_47 : decode cX10_looks 47 = .ok (.bipush 10, 2) := by decide +kernel
theorem dX10_looks_49 : decode cX10_looks 49 = .ok (.idiv, 1) := by decide +kernel
theorem dX10_looks_50 : decode cX10_looks 50 = .ok (.iload 4, 2) := by decide +kernel
theorem dX10_looks_52 : decode cX10_looks 52 = .ok (.bipush 10, 2) := by decide +kernel
theorem dX10_looks_54 : decode cX10_looks 54 = .ok (.irem, 1) := by decide +kernel
theorem dX10_looks_55 : decode cX10_looks 55 = .ok (.invokevirtual 346, 3) := by decide +kernel
theorem dX10_looks_58 : decode cX10_looks 58 = .ok (.istore 5, 2) := by decide +kernel
theorem dX10_looks_60 : decode cX10_looks 60 = .ok (.iload 5, 2) := by decide +kernel
theorem dX10_looks_62 : decode cX10_looks 62 = .ok (.iload_n 1, 1) := by decide +kernel
theorem dX10_looks_63 : decode cX10_looks 63 = .ok (.iload 5, 2) := by decide +kernel
theorem dX10_looks_65 : decode cX10_looks 65 = .ok (.isub, 1) := by decide +kernel
theorem dX10_looks_66 : decode cX10_looks 66 = .ok (.invokestatic 327, 3) := by decide +kernel
theorem dX10_looks_69 : decode cX10_looks 69 = .ok (.istore 6, 2) := by decide +kernel
theorem dX10_looks_71 : decode cX10_looks 71 = .ok (.iload 6, 2) := by decide +kernel
theorem dX10_looks_73 : decode cX10_looks 73 = .ok (.iload_n 3, 1) := by decide +kernel
theorem dX10_looks_74 : decode cX10_looks 74 = .ok (.if_icmp .ge 9, 3) := by decide +kernel
theorem dX10_looks_77 : decode cX10_looks 77 = .ok (.iload 6, 2) := by decide +kernel
theorem dX10_looks_79 : decode cX10_looks 79 = .ok (.istore_n 3, 1) := by decide +kernel
theorem dX10_looks_80 : decode cX10_looks 80 = .ok (.iload 4, 2) := by decide +kernel
theorem dX10_looks_82 : decode cX10_looks 82 = .ok (.istore_n 2, 1) := by decide +kernel
theorem dX10_looks_83 : decode cX10_looks 83 = .ok (.iinc 4 1, 3) := by decide +kernel
theorem dX10_looks_86 : decode cX10_looks 86 = .ok (.goto (-62), 3) := by decide +kernel
theorem dX10_looks_89 : decode cX10_looks 89 = .ok (.aload_n 0, 1) := by decide +kernel
theorem dX10_looks_90 : decode cX10_looks 90 = .ok (.getfield 19, 3) := by decide +kernel
theorem dX10_looks_93 : decode cX10_looks 93 = .ok (.iload_n 3, 1) := by decide +kernel
theorem dX10_looks_94 : decode cX10_looks 94 = .ok (.i2l, 1) := by decide +kernel
theorem dX10_looks_95 : decode cX10_looks 95 = .ok (.invokevirtual 255, 3) := by decide +kernel
theorem dX10_looks_98 : decode cX10_looks 98 = .ok (.iload_n 2, 1) := by decide +kernel
theorem dX10_looks_99 : decode cX10_looks 99 = .ok (.ireturn, 1) := by decide +kernel
theorem dX10_odds_0 : decode cX10_odds 0 = .ok (.aload_n 0, 1) := by decide +kernel
theorem dX10_odds_1 : decode cX10_odds 1 = .ok (.getfield 26, 3) := by decide +kernel
theorem dX10_odds_4 : decode cX10_odds 4 = .ok (.iload_n 1, 1) := by decide +kernel
theorem dX10_odds_5 : decode cX10_odds 5 = .ok (.invokevirtual 148, 3) := by decide +kernel
theorem dX10_odds_8 : decode cX10_odds 8 = .ok (.ifCond .eq 13, 3) := by decide +kernel
theorem dX10_odds_11 : decode cX10_odds 11 = .ok (.iload_n 2, 1) := by decide +kernel
theorem dX10_odds_12 : decode cX10_odds 12 = .ok (.ifCond .lt 9, 3) := by decide +kernel
theorem dX10_odds_15 : decode cX10_odds 15 = .ok (.iload_n 2, 1) := by decide +kernel
theorem dX10_odds_16 : decode cX10_odds 16 = .ok (.bipush 10, 2) := by decide +kernel
theorem dX10_odds_18 : decode cX10_odds 18 = .ok (.if_icmp .le 5, 3) := by decide +kernel
theorem dX10_odds_21 : decode cX10_odds 21 = .ok (.iconst (-1), 1) := by decide +kernel
theorem dX10_odds_22 : decode cX10_odds 22 = .ok (.ireturn, 1) := by decide +kernel
theorem dX10_odds_23 : decode cX10_odds 23 = .ok (.aload_n 0, 1) := by decide +kernel
theorem dX10_odds_24 : decode cX10_odds 24 = .ok (.getfield 26, 3) := by decide +kernel
theorem dX10_odds_27 : decode cX10_odds 27 = .ok (.iload_n 1, 1) := by decide +kernel
theorem dX10_odds_28 : decode cX10_odds 28 = .ok (.invokevirtual 170, 3) := by decide +kernel
theorem dX10_odds_31 : decode cX10_odds 31 = .ok (.istore_n 3, 1) := by decide +kernel
theorem dX10_odds_32 : decode cX10_odds 32 = .ok (.iload_n 3, 1) := by decide +kernel
theorem dX10_odds_33 : decode cX10_odds 33 = .ok (.invokestatic 241, 3) := by decide +kernel
theorem dX10_odds_36 : decode cX10_odds 36 = .ok (.istore 4, 2) := by decide +kernel
theorem dX10_odds_38 : decode cX10_odds 38 = .ok (.iconst 0, 1) := by decide +kernel
theorem dX10_odds_39 : decode cX10_odds 39 = .ok (.istore 5, 2) := by decide +kernel
theorem dX10_odds_41 : decode cX10_odds 41 = .ok (.iconst 0, 1) := by decide +kernel
theorem dX10_odds_42 : decode cX10_odds 42 = .ok (.istore 6, 2) := by decide +kernel
theorem dX10_odds_44 : decode cX10_odds 44 = .ok (.iload 6, 2) := by decide +kernel
theorem dX10_odds_46 : decode cX10_odds 46 = .ok (.sipush 128, 3) := by decide +kernel
theorem dX10_odds_49 : decode cX10_odds 49 = .ok (.if_icmp .ge 66, 3) := by decide +kernel
theorem dX10_odds_52 : decode cX10_odds 52 = .ok (.iload 6, 2) := by decide +kernel
theorem dX10_odds_54 : decode cX10_odds 54 = .ok (.iload_n 3, 1) := by decide +kernel
theorem dX10_odds_55 : decode cX10_odds 55 = .ok (.iconst (-1), 1) := by decide +kernel
theorem dX10_odds_56 : decode cX10_odds 56 = .ok (.ixor, 1) := by decide +kernel
theorem dX10_odds_57 : decode cX10_odds 57 = .ok (.iand, 1) := by decide +kernel
theorem dX10_odds_58 : decode cX10_odds 58 = .ok (.ifCond .ne 51, 3) := by decide +kernel
theorem dX10_odds_61 : decode cX10_odds 61 = .ok (.aload_n 0, 1) := by decide +kernel
theorem dX10_odds_62 : decode cX10_odds 62 = .ok (.getfield 50, 3) := by decide +kernel
theorem dX10_odds_65 : decode cX10_odds 65 = .ok (.aload_n 0, 1) := by decide +kernel
theorem dX10_odds_66 : decode cX10_odds 66 = .ok (.getfield 26, 3) := by decide +kernel
theorem dX10_odds_69 : decode cX10_odds 69 = .ok (.iload_n 1, 1) := by decide +kernel
theorem dX10_odds_70 : decode cX10_odds 70 = .ok (.iload 6, 2) := by decide +kernel
theorem dX10_odds_72 : decode cX10_odds 72 = .ok (.invokevirtual 281, 3) := by decide +kernel
theorem dX10_odds_75 : decode cX10_odds 75 = .ok (.ifCond .eq 34, 3) := by decide +kernel
theorem dX10_odds_78 : decode cX10_odds 78 = .ok (.iload 6, 2) := by decide +kernel
theorem dX10_odds_80 : decode cX10_odds 80 = .ok (.invokestatic 241, 3) := by decide +kernel
theorem dX10_odds_83 : decode cX10_odds 83 = .ok (.istore 7, 2) := by decide +kernel
theorem dX10_odds_85 : decode cX10_odds 85 = .ok (.iload 5, 2) := by decide +kernel
theorem dX10_odds_87 : decode cX10_odds 87 = .ok (.iload_n 2, 1) := by decide +kernel
theorem dX10_odds_88 : decode cX10_odds 88 = .ok (.iload 7, 2) := by decide +kernel
theorem dX10_odds_90 : decode cX10_odds 90 = .ok (.invokestatic 349, 3) := by decide +kernel
theorem dX10_odds_93 : decode cX10_odds 93 = .ok (.bipush 10, 2) := by decide +kernel
theorem dX10_odds_95 : decode cX10_odds 95 = .ok (.iload_n 2, 1) := by decide +kernel
theorem dX10_odds_96 : decode cX10_odds 96 = .ok (.isub, 1) := by decide +kernel
theorem dX10_odds_97 : decode cX10_odds 97 = .ok (.iload 4, 2) := by decide +kernel
theorem dX10_odds_99 : decode cX10_odds 99 = .ok (.iload 7, 2) := by decide +kernel
theorem dX10_odds_101 : decode cX10_odds 101 = .ok (.isub, 1) := by decide +kernel
theorem dX10_odds_102 : decode cX10_odds 102 = .ok (.invokestatic 349, 3) := by decide +kernel
theorem dX10_odds_105 : decode cX10_odds 105 = .ok (.imul, 1) := by decide +kernel
theorem dX10_odds_106 : decode cX10_odds 106 = .ok (.iadd, 1) := by decide +kernel
theorem dX10_odds_107 : decode cX10_odds 107 = .ok (.istore 5, 2) := by decide +kernel
theorem dX10_odds_109 : decode cX10_odds 109 = .ok (.iinc 6 1, 3) := by decide +kernel
theorem dX10_odds_112 : decode cX10_odds 112 = .ok (.goto (-68), 3) := by decide +kernel
theorem dX10_odds_115 : decode cX10_odds 115 = .ok (.aload_n 0, 1) := by decide +kernel
theorem dX10_odds_116 : decode cX10_odds 116 = .ok (.iload 5, 2) := by decide +kernel
theorem dX10_odds_118 : decode cX10_odds 118 = .ok (.bipush 10, 2) := by decide +kernel
theorem dX10_odds_120 : decode cX10_odds 120 = .ok (.iload 4, 2) := by decide +kernel
theorem dX10_odds_122 : decode cX10_odds 122 = .ok (.invokestatic 349, 3) := by decide +kernel
theorem dX10_odds_125 : decode cX10_odds 125 = .ok (.invokevirtual 352, 3) := by decide +kernel
theorem dX10_odds_128 : decode cX10_odds 128 = .ok (.iconst 0, 1) := by decide +kernel
theorem dX10_odds_129 : decode cX10_odds 129 = .ok (.ireturn, 1) := by decide +kernel
theorem dX10_power_0 : decode cX10_power 0 = .ok (.iconst 1, 1) := by decide +kernel
theorem dX10_power_1 : decode cX10_power 1 = .ok (.istore_n 2, 1) := by decide +kernel
theorem dX10_power_2 : decode cX10_power 2 = .ok (.iconst 0, 1) := by decide +kernel
theorem dX10_power_3 : decode cX10_power 3 = .ok (.istore_n 3, 1) := by decide +kernel
theorem dX10_power_4 : decode cX10_power 4 = .ok (.iload_n 3, 1) := by decide +kernel
theorem dX10_power_5 : decode cX10_power 5 = .ok (.iload_n 1, 1) := by decide +kernel
theorem dX10_power_6 : decode cX10_power 6 = .ok (.if_icmp .ge 13, 3) := by decide +kernel
theorem dX10_power_9 : decode cX10_power 9 = .ok (.iload_n 2, 1) := by decide +kernel
theorem dX10_power_10 : decode cX10_power 10 = .ok (.iload_n 0, 1) := by decide +kernel
theorem dX10_power_11 : decode cX10_power 11 = .ok (.imul, 1) := by decide +kernel
theorem dX10_power_12 : decode cX10_power 12 = .ok (.istore_n 2, 1) := by decide +kernel
theorem dX10_power_13 : decode cX10_power 13 = .ok (.iinc 3 1, 3) := by decide +kernel
theorem dX10_power_16 : decode cX10_power 16 = .ok (.goto (-12), 3) := by decide +kernel
theorem dX10_power_19 : decode cX10_power 19 = .ok (.iload_n 2, 1) := by decide +kernel
theorem dX10_power_20 : decode cX10_power 20 = .ok (.ireturn, 1) := by decide +kernel
theorem dX10_tellsFraction_0 : decode cX10_tellsFraction 0 = .ok (.iload_n 2, 1) := by decide +kernel
theorem dX10_tellsFraction_1 : decode cX10_tellsFraction 1 = .ok (.istore_n 3, 1) := by decide +kernel
theorem dX10_tellsFraction_2 : decode cX10_tellsFraction 2 = .ok (.iload_n 1, 1) := by decide +kernel
theorem dX10_tellsFraction_3 : decode cX10_tellsFraction 3 = .ok (.istore 4, 2) := by decide +kernel
theorem dX10_tellsFraction_5 : decode cX10_tellsFraction 5 = .ok (.iconst 0, 1) := by decide +kernel
theorem dX10_tellsFraction_6 : decode cX10_tellsFraction 6 = .ok (.istore 5, 2) := by decide +kernel
theorem dX10_tellsFraction_8 : decode cX10_tellsFraction 8 = .ok (.iload 5, 2) := by decide +kernel
theorem dX10_tellsFraction_10 : decode cX10_tellsFraction 10 = .ok (.bipush 64, 2) := by decide +kernel
theorem dX10_tellsFraction_12 : decode cX10_tellsFraction 12 = .ok (.if_icmp .ge 27, 3) := by decide +kernel
theorem dX10_tellsFraction_15 : decode cX10_tellsFraction 15 = .ok (.iload 4, 2) := by decide +kernel
theorem dX10_tellsFraction_17 : decode cX10_tellsFraction 17 = .ok (.ifCond .eq 22, 3) := by decide +kernel
theorem dX10_tellsFraction_20 : decode cX10_tellsFraction 20 = .ok (.iload_n 3, 1) := by decide +kernel
theorem dX10_tellsFraction_21 : decode cX10_tellsFraction 21 = .ok (.iload 4, 2) := by decide +kernel
theorem dX10_tellsFraction_23 : decode cX10_tellsFraction 23 = .ok (.irem, 1) := by decide +kernel
theorem dX10_tellsFraction_24 : decode cX10_tellsFraction 24 = .ok (.istore 6, 2) := by decide +kernel
theorem dX10_tellsFraction_26 : decode cX10_tellsFraction 26 = .ok (.iload 4, 2) := by decide +kernel
theorem dX10_tellsFraction_28 : decode cX10_tellsFraction 28 = .ok (.istore_n 3, 1) := by decide +kernel
theorem dX10_tellsFraction_29 : decode cX10_tellsFraction 29 = .ok (.iload 6, 2) := by decide +kernel
theorem dX10_tellsFraction_31 : decode cX10_tellsFraction 31 = .ok (.istore 4, 2) := by decide +kernel
theorem dX10_tellsFraction_33 : decode cX10_tellsFraction 33 = .ok (.iinc 5 1, 3) := by decide +kernel
theorem dX10_tellsFraction_36 : decode cX10_tellsFraction 36 = .ok (.goto (-28), 3) := by decide +kernel
theorem dX10_tellsFraction_39 : decode cX10_tellsFraction 39 = .ok (.iload_n 3, 1) := by decide +kernel
theorem dX10_tellsFraction_40 : decode cX10_tellsFraction 40 = .ok (.ifCond .eq 18, 3) := by decide +kernel
theorem dX10_tellsFraction_43 : decode cX10_tellsFraction 43 = .ok (.aload_n 0, 1) := by decide +kernel
theorem dX10_tellsFraction_44 : decode cX10_tellsFraction 44 = .ok (.getfield 19, 3) := by decide +kernel
theorem dX10_tellsFraction_47 : decode cX10_tellsFraction 47 = .ok (.iload_n 1, 1) := by decide +kernel
theorem dX10_tellsFraction_48 : decode cX10_tellsFraction 48 = .ok (.iload_n 3, 1) := by decide +kernel
theorem dX10_tellsFraction_49 : decode cX10_tellsFraction 49 = .ok (.idiv, 1) := by decide +kernel
theorem dX10_tellsFraction_50 : decode cX10_tellsFraction 50 = .ok (.i2l, 1) := by decide +kernel
theorem dX10_tellsFraction_51 : decode cX10_tellsFraction 51 = .ok (.iload_n 2, 1) := by decide +kernel
theorem dX10_tellsFraction_52 : decode cX10_tellsFraction 52 = .ok (.iload_n 3, 1) := by decide +kernel
theorem dX10_tellsFraction_53 : decode cX10_tellsFraction 53 = .ok (.idiv, 1) := by decide +kernel
theorem dX10_tellsFraction_54 : decode cX10_tellsFraction 54 = .ok (.i2l, 1) := by decide +kernel
theorem dX10_tellsFraction_55 : decode cX10_tellsFraction 55 = .ok (.invokevirtual 199, 3) := by decide +kernel
theorem dX10_tellsFraction_58 : decode cX10_tellsFraction 58 = .ok (.return_, 1) := by decide +kernel
theorem dX10_vigil_0 : decode cX10_vigil 0 = .ok (.iload_n 1, 1) := by decide +kernel
theorem dX10_vigil_1 : decode cX10_vigil 1 = .ok (.ifCond .lt 9, 3) := by decide +kernel
theorem dX10_vigil_4 : decode cX10_vigil 4 = .ok (.iload_n 1, 1) := by decide +kernel
theorem dX10_vigil_5 : decode cX10_vigil 5 = .ok (.bipush 60, 2) := by decide +kernel
theorem dX10_vigil_7 : decode cX10_vigil 7 = .ok (.if_icmp .le 5, 3) := by decide +kernel
theorem dX10_vigil_10 : decode cX10_vigil 10 = .ok (.iconst (-1), 1) := by decide +kernel
theorem dX10_vigil_11 : decode cX10_vigil 11 = .ok (.ireturn, 1) := by decide +kernel
theorem dX10_vigil_12 : decode cX10_vigil 12 = .ok (.lconst 0, 1) := by decide +kernel
theorem dX10_vigil_13 : decode cX10_vigil 13 = .ok (.lstore_n 2, 1) := by decide +kernel
theorem dX10_vigil_14 : decode cX10_vigil 14 = .ok (.iconst 1, 1) := by decide +kernel
theorem dX10_vigil_15 : decode cX10_vigil 15 = .ok (.istore 4, 2) := by decide +kernel
theorem dX10_vigil_17 : decode cX10_vigil 17 = .ok (.iload 4, 2) := by decide +kernel
theorem dX10_vigil_19 : decode cX10_vigil 19 = .ok (.iload_n 1, 1) := by decide +kernel
theorem dX10_vigil_20 : decode cX10_vigil 20 = .ok (.if_icmp .gt 29, 3) := by decide +kernel
theorem dX10_vigil_23 : decode cX10_vigil 23 = .ok (.lload_n 2, 1) := by decide +kernel
theorem dX10_vigil_24 : decode cX10_vigil 24 = .ok (.lload_n 2, 1) := by decide +kernel
theorem dX10_vigil_25 : decode cX10_vigil 25 = .ok (.iload 4, 2) := by decide +kernel
theorem dX10_vigil_27 : decode cX10_vigil 27 = .ok (.invokestatic 355, 3) := by decide +kernel
theorem dX10_vigil_30 : decode cX10_vigil 30 = .ok (.ifCond .le 10, 3) := by decide +kernel
theorem dX10_vigil_33 : decode cX10_vigil 33 = .ok (.lconst 1, 1) := by decide +kernel
theorem dX10_vigil_34 : decode cX10_vigil 34 = .ok (.iload 4, 2) := by decide +kernel
theorem dX10_vigil_36 : decode cX10_vigil 36 = .ok (.lshl, 1) := by decide +kernel
theorem dX10_vigil_37 : decode cX10_vigil 37 = .ok (.goto 4, 3) := by decide +kernel
theorem dX10_vigil_40 : decode cX10_vigil 40 = .ok (.lconst 0, 1) := by decide +kernel
theorem dX10_vigil_41 : decode cX10_vigil 41 = .ok (.lor, 1) := by decide +kernel
theorem dX10_vigil_42 : decode cX10_vigil 42 = .ok (.lstore_n 2, 1) := by decide +kernel
theorem dX10_vigil_43 : decode cX10_vigil 43 = .ok (.iinc 4 1, 3) := by decide +kernel
theorem dX10_vigil_46 : decode cX10_vigil 46 = .ok (.goto (-29), 3) := by decide +kernel
theorem dX10_vigil_49 : decode cX10_vigil 49 = .ok (.lload_n 2, 1) := by decide +kernel
theorem dX10_vigil_50 : decode cX10_vigil 50 = .ok (.iload_n 1, 1) := by decide +kernel
theorem dX10_vigil_51 : decode cX10_vigil 51 = .ok (.invokestatic 355, 3) := by decide +kernel
theorem dX10_vigil_54 : decode cX10_vigil 54 = .ok (.istore 4, 2) := by decide +kernel
theorem dX10_vigil_56 : decode cX10_vigil 56 = .ok (.aload_n 0, 1) := by decide +kernel
theorem dX10_vigil_57 : decode cX10_vigil 57 = .ok (.getfield 19, 3) := by decide +kernel
theorem dX10_vigil_60 : decode cX10_vigil 60 = .ok (.invokevirtual 285, 3) := by decide +kernel
theorem dX10_vigil_63 : decode cX10_vigil 63 = .ok (.iload 4, 2) := by decide +kernel
theorem dX10_vigil_65 : decode cX10_vigil 65 = .ok (.ifCond .le 13, 3) := by decide +kernel
theorem dX10_vigil_68 : decode cX10_vigil 68 = .ok (.aload_n 0, 1) := by decide +kernel
theorem dX10_vigil_69 : decode cX10_vigil 69 = .ok (.getfield 19, 3) := by decide +kernel
theorem dX10_vigil_72 : decode cX10_vigil 72 = .ok (.iload 4, 2) := by decide +kernel
theorem dX10_vigil_74 : decode cX10_vigil 74 = .ok (.i2l, 1) := by decide +kernel
theorem dX10_vigil_75 : decode cX10_vigil 75 = .ok (.invokevirtual 343, 3) := by decide +kernel
theorem dX10_vigil_78 : decode cX10_vigil 78 = .ok (.iload 4, 2) := by decide +kernel
theorem dX10_vigil_80 : decode cX10_vigil 80 = .ok (.ifCond .le 7, 3) := by decide +kernel
theorem dX10_vigil_83 : decode cX10_vigil 83 = .ok (.iconst 1, 1) := by decide +kernel
theorem dX10_vigil_84 : decode cX10_vigil 84 = .ok (.goto 4, 3) := by decide +kernel
theorem dX10_vigil_87 : decode cX10_vigil 87 = .ok (.iconst 0, 1) := by decide +kernel
theorem dX10_vigil_88 : decode cX10_vigil 88 = .ok (.ireturn, 1) := by decide +kernel
theorem dX10_leastTurn_0 : decode cX10_leastTurn 0 = .ok (.iload_n 2, 1) := by decide +kernel
theorem dX10_leastTurn_1 : decode cX10_leastTurn 1 = .ok (.iconst 1, 1) := by decide +kernel
theorem dX10_leastTurn_2 : decode cX10_leastTurn 2 = .ok (.if_icmp .ge 5, 3) := by decide +kernel
theorem dX10_leastTurn_5 : decode cX10_leastTurn 5 = .ok (.iconst 0, 1) := by decide +kernel
theorem dX10_leastTurn_6 : decode cX10_leastTurn 6 = .ok (.ireturn, 1) := by decide +kernel
theorem dX10_leastTurn_7 : decode cX10_leastTurn 7 = .ok (.bipush 32, 2) := by decide +kernel
theorem dX10_leastTurn_9 : decode cX10_leastTurn 9 = .ok (.istore_n 3, 1) := by decide +kernel
theorem dX10_leastTurn_10 : decode cX10_leastTurn 10 = .ok (.iconst 0, 1) := by decide +kernel
theorem dX10_leastTurn_11 : decode cX10_leastTurn 11 = .ok (.istore 4, 2) := by decide +kernel
theorem dX10_leastTurn_13 : decode cX10_leastTurn 13 = .ok (.iload 4, 2) := by decide +kernel
theorem dX10_leastTurn_15 : decode cX10_leastTurn 15 = .ok (.bipush 6, 2) := by decide +kernel
theorem dX10_leastTurn_17 : decode cX10_leastTurn 17 = .ok (.if_icmp .ge 18, 3) := by decide +kernel
theorem dX10_leastTurn_20 : decode cX10_leastTurn 20 = .ok (.iload_n 3, 1) := by decide +kernel
theorem dX10_leastTurn_21 : decode cX10_leastTurn 21 = .ok (.iload_n 2, 1) := by decide +kernel
theorem dX10_leastTurn_22 : decode cX10_leastTurn 22 = .ok (.if_icmp .le 13, 3) := by decide +kernel
theorem dX10_leastTurn_25 : decode cX10_leastTurn 25 = .ok (.iload_n 3, 1) := by decide +kernel
theorem dX10_leastTurn_26 : decode cX10_leastTurn 26 = .ok (.iconst 2, 1) := by decide +kernel
theorem dX10_leastTurn_27 : decode cX10_leastTurn 27 = .ok (.idiv, 1) := by decide +kernel
theorem dX10_leastTurn_28 : decode cX10_leastTurn 28 = .ok (.istore_n 3, 1) := by decide +kernel
theorem dX10_leastTurn_29 : decode cX10_leastTurn 29 = .ok (.iinc 4 1, 3) := by decide +kernel
theorem dX10_leastTurn_32 : decode cX10_leastTurn 32 = .ok (.goto (-19), 3) := by decide +kernel
theorem dX10_leastTurn_35 : decode cX10_leastTurn 35 = .ok (.lload_n 0, 1) := by decide +kernel
theorem dX10_leastTurn_36 : decode cX10_leastTurn 36 = .ok (.iload_n 2, 1) := by decide +kernel
theorem dX10_leastTurn_37 : decode cX10_leastTurn 37 = .ok (.iconst 1, 1) := by decide +kernel
theorem dX10_leastTurn_38 : decode cX10_leastTurn 38 = .ok (.isub, 1) := by decide +kernel
theorem dX10_leastTurn_39 : decode cX10_leastTurn 39 = .ok (.lshr, 1) := by decide +kernel
theorem dX10_leastTurn_40 : decode cX10_leastTurn 40 = .ok (.lconst 1, 1) := by decide +kernel
theorem dX10_leastTurn_41 : decode cX10_leastTurn 41 = .ok (.land, 1) := by decide +kernel
theorem dX10_leastTurn_42 : decode cX10_leastTurn 42 = .ok (.lconst 0, 1) := by decide +kernel
theorem dX10_leastTurn_43 : decode cX10_leastTurn 43 = .ok (.lcmp, 1) := by decide +kernel
theorem dX10_leastTurn_44 : decode cX10_leastTurn 44 = .ok (.ifCond .ne 5, 3) := by decide +kernel
theorem dX10_leastTurn_47 : decode cX10_leastTurn 47 = .ok (.iconst 1, 1) := by decide +kernel
theorem dX10_leastTurn_48 : decode cX10_leastTurn 48 = .ok (.ireturn, 1) := by decide +kernel
theorem dX10_leastTurn_49 : decode cX10_leastTurn 49 = .ok (.lload_n 0, 1) := by decide +kernel
theorem dX10_leastTurn_50 : decode cX10_leastTurn 50 = .ok (.iload_n 2, 1) := by decide +kernel
theorem dX10_leastTurn_51 : decode cX10_leastTurn 51 = .ok (.iload_n 3, 1) := by decide +kernel
theorem dX10_leastTurn_52 : decode cX10_leastTurn 52 = .ok (.isub, 1) := by decide +kernel
theorem dX10_leastTurn_53 : decode cX10_leastTurn 53 = .ok (.lshr, 1) := by decide +kernel
theorem dX10_leastTurn_54 : decode cX10_leastTurn 54 = .ok (.lconst 1, 1) := by decide +kernel
theorem dX10_leastTurn_55 : decode cX10_leastTurn 55 = .ok (.land, 1) := by decide +kernel
theorem dX10_leastTurn_56 : decode cX10_leastTurn 56 = .ok (.lconst 0, 1) := by decide +kernel
theorem dX10_leastTurn_57 : decode cX10_leastTurn 57 = .ok (.lcmp, 1) := by decide +kernel
theorem dX10_leastTurn_58 : decode cX10_leastTurn 58 = .ok (.ifCond .ne 7, 3) := by decide +kernel
theorem dX10_leastTurn_61 : decode cX10_leastTurn 61 = .ok (.iload_n 3, 1) := by decide +kernel
theorem dX10_leastTurn_62 : decode cX10_leastTurn 62 = .ok (.goto 4, 3) := by decide +kernel
theorem dX10_leastTurn_65 : decode cX10_leastTurn 65 = .ok (.iconst 0, 1) := by decide +kernel
theorem dX10_leastTurn_66 : decode cX10_leastTurn 66 = .ok (.ireturn, 1) := by decide +kernel
theorem dX10_rests_0 : decode cX10_rests 0 = .ok (.iload_n 1, 1) := by decide +kernel
theorem dX10_rests_1 : decode cX10_rests 1 = .ok (.ifCond .lt 9, 3) := by decide +kernel
theorem dX10_rests_4 : decode cX10_rests 4 = .ok (.iload_n 1, 1) := by decide +kernel
theorem dX10_rests_5 : decode cX10_rests 5 = .ok (.bipush 20, 2) := by decide +kernel
theorem dX10_rests_7 : decode cX10_rests 7 = .ok (.if_icmp .le 5, 3) := by decide +kernel
theorem dX10_rests_10 : decode cX10_rests 10 = .ok (.iconst (-1), 1) := by decide +kernel
theorem dX10_rests_11 : decode cX10_rests 11 = .ok (.ireturn, 1) := by decide +kernel
theorem dX10_rests_12 : decode cX10_rests 12 = .ok (.aload_n 0, 1) := by decide +kernel
theorem dX10_rests_13 : decode cX10_rests 13 = .ok (.getfield 19, 3) := by decide +kernel
theorem dX10_rests_16 : decode cX10_rests 16 = .ok (.invokevirtual 285, 3) := by decide +kernel
theorem dX10_rests_19 : decode cX10_rests 19 = .ok (.iconst 0, 1) := by decide +kernel
theorem dX10_rests_20 : decode cX10_rests 20 = .ok (.istore_n 2, 1) := by decide +kernel
theorem dX10_rests_21 : decode cX10_rests 21 = .ok (.iconst 0, 1) := by decide +kernel
theorem dX10_rests_22 : decode cX10_rests 22 = .ok (.istore_n 3, 1) := by decide +kernel
theorem dX10_rests_23 : decode cX10_rests 23 = .ok (.iload_n 3, 1) := by decide +kernel
theorem dX10_rests_24 : decode cX10_rests 24 = .ok (.bipush 9, 2) := by decide +kernel
theorem dX10_rests_26 : decode cX10_rests 26 = .ok (.if_icmp .gt 64, 3) := by decide +kernel
theorem dX10_rests_29 : decode cX10_rests 29 = .ok (.iconst 0, 1) := by decide +kernel
theorem dX10_rests_30 : decode cX10_rests 30 = .ok (.istore 4, 2) := by decide +kernel
theorem dX10_rests_32 : decode cX10_rests 32 = .ok (.iload 4, 2) := by decide +kernel
theorem dX10_rests_34 : decode cX10_rests 34 = .ok (.bipush 9, 2) := by decide +kernel
theorem dX10_rests_36 : decode cX10_rests 36 = .ok (.if_icmp .gt 48, 3) := by decide +kernel
theorem dX10_rests_39 : decode cX10_rests 39 = .ok (.iload_n 3, 1) := by decide +kernel
theorem dX10_rests_40 : decode cX10_rests 40 = .ok (.iload 4, 2) := by decide +kernel
theorem dX10_rests_42 : decode cX10_rests 42 = .ok (.iload_n 1, 1) := by decide +kernel
theorem dX10_rests_43 : decode cX10_rests 43 = .ok (.invokestatic 359, 3) := by decide +kernel
theorem dX10_rests_46 : decode cX10_rests 46 = .ok (.ifCond .eq 32, 3) := by decide +kernel
theorem dX10_rests_49 : decode cX10_rests 49 = .ok (.iload 4, 2) := by decide +kernel
theorem dX10_rests_51 : decode cX10_rests 51 = .ok (.iload_n 3, 1) := by decide +kernel
theorem dX10_rests_52 : decode cX10_rests 52 = .ok (.iload_n 1, 1) := by decide +kernel
theorem dX10_rests_53 : decode cX10_rests 53 = .ok (.invokestatic 359, 3) := by decide +kernel
theorem dX10_rests_56 : decode cX10_rests 56 = .ok (.ifCond .eq 22, 3) := by decide +kernel
theorem dX10_rests_59 : decode cX10_rests 59 = .ok (.iload_n 2, 1) := by decide +kernel
theorem dX10_rests_60 : decode cX10_rests 60 = .ok (.ifCond .ne 15, 3) := by decide +kernel
theorem dX10_rests_63 : decode cX10_rests 63 = .ok (.aload_n 0, 1) := by decide +kernel
theorem dX10_rests_64 : decode cX10_rests 64 = .ok (.getfield 19, 3) := by decide +kernel
theorem dX10_rests_67 : decode cX10_rests 67 = .ok (.iload_n 3, 1) := by decide +kernel
theorem dX10_rests_68 : decode cX10_rests 68 = .ok (.i2l, 1) := by decide +kernel
theorem dX10_rests_69 : decode cX10_rests 69 = .ok (.iload 4, 2) := by decide +kernel
theorem dX10_rests_71 : decode cX10_rests 71 = .ok (.i2l, 1) := by decide +kernel
theorem dX10_rests_72 : decode cX10_rests 72 = .ok (.invokevirtual 199, 3) := by decide +kernel
theorem dX10_rests_75 : decode cX10_rests 75 = .ok (.iinc 2 1, 3) := by decide +kernel
theorem dX10_rests_78 : decode cX10_rests 78 = .ok (.iinc 4 1, 3) := by decide +kernel
theorem dX10_rests_81 : decode cX10_rests 81 = .ok (.goto (-49), 3) := by decide +kernel
theorem dX10_rests_84 : decode cX10_rests 84 = .ok (.iinc 3 1, 3) := by decide +kernel
theorem dX10_rests_87 : decode cX10_rests 87 = .ok (.goto (-64), 3) := by decide +kernel
theorem dX10_rests_90 : decode cX10_rests 90 = .ok (.iload_n 2, 1) := by decide +kernel
theorem dX10_rests_91 : decode cX10_rests 91 = .ok (.ireturn, 1) := by decide +kernel
theorem dX10_isContent_0 : decode cX10_isContent 0 = .ok (.iload_n 0, 1) := by decide +kernel
theorem dX10_isContent_1 : decode cX10_isContent 1 = .ok (.iload_n 1, 1) := by decide +kernel
theorem dX10_isContent_2 : decode cX10_isContent 2 = .ok (.iload_n 2, 1) := by decide +kernel
theorem dX10_isContent_3 : decode cX10_isContent 3 = .ok (.invokestatic 362, 3) := by decide +kernel
theorem dX10_isContent_6 : decode cX10_isContent 6 = .ok (.istore_n 3, 1) := by decide +kernel
theorem dX10_isContent_7 : decode cX10_isContent 7 = .ok (.iconst 0, 1) := by decide +kernel
theorem dX10_isContent_8 : decode cX10_isContent 8 = .ok (.istore 4, 2) := by decide +kernel
theorem dX10_isContent_10 : decode cX10_isContent 10 = .ok (.iload 4, 2) := by decide +kernel
theorem dX10_isContent_12 : decode cX10_isContent 12 = .ok (.bipush 9, 2) := by decide +kernel
theorem dX10_isContent_14 : decode cX10_isContent 14 = .ok (.if_icmp .gt 22, 3) := by decide +kernel
theorem dX10_isContent_17 : decode cX10_isContent 17 = .ok (.iload 4, 2) := by decide +kernel
theorem dX10_isContent_19 : decode cX10_isContent 19 = .ok (.iload_n 1, 1) := by decide +kernel
theorem dX10_isContent_20 : decode cX10_isContent 20 = .ok (.iload_n 2, 1) := by decide +kernel
theorem dX10_isContent_21 : decode cX10_isContent 21 = .ok (.invokestatic 362, 3) := by decide +kernel
theorem dX10_isContent_24 : decode cX10_isContent 24 = .ok (.iload_n 3, 1) := by decide +kernel
theorem dX10_isContent_25 : decode cX10_isContent 25 = .ok (.if_icmp .le 5, 3) := by decide +kernel
theorem dX10_isContent_28 : decode cX10_isContent 28 = .ok (.iconst 0, 1) := by decide +kernel
theorem dX10_isContent_29 : decode cX10_isContent 29 = .ok (.ireturn, 1) := by decide +kernel
theorem dX10_isContent_30 : decode cX10_isContent 30 = .ok (.iinc 4 1, 3) := by decide +kernel
theorem dX10_isContent_33 : decode cX10_isContent 33 = .ok (.goto (-23), 3) := by decide +kernel
theorem dX10_isContent_36 : decode cX10_isContent 36 = .ok (.iconst 1, 1) := by decide +kernel
theorem dX10_isContent_37 : decode cX10_isContent 37 = .ok (.ireturn, 1) := by decide +kernel
theorem dX10_gain_0 : decode cX10_gain 0 = .ok (.iconst 2, 1) := by decide +kernel
theorem dX10_gain_1 : decode cX10_gain 1 = .ok (.iload_n 0, 1) := by decide +kernel
theorem dX10_gain_2 : decode cX10_gain 2 = .ok (.imul, 1) := by decide +kernel
theorem dX10_gain_3 : decode cX10_gain 3 = .ok (.iload_n 0, 1) := by decide +kernel
theorem dX10_gain_4 : decode cX10_gain 4 = .ok (.iload_n 1, 1) := by decide +kernel
theorem dX10_gain_5 : decode cX10_gain 5 = .ok (.if_icmp .gt 7, 3) := by decide +kernel
theorem dX10_gain_8 : decode cX10_gain 8 = .ok (.iload_n 2, 1) := by decide +kernel
theorem dX10_gain_9 : decode cX10_gain 9 = .ok (.goto 4, 3) := by decide +kernel
theorem dX10_gain_12 : decode cX10_gain 12 = .ok (.iconst 0, 1) := by decide +kernel
theorem dX10_gain_13 : decode cX10_gain 13 = .ok (.iadd, 1) := by decide +kernel
theorem dX10_gain_14 : decode cX10_gain 14 = .ok (.iconst 0, 1) := by decide +kernel
theorem dX10_gain_15 : decode cX10_gain 15 = .ok (.iload_n 0, 1) := by decide +kernel
theorem dX10_gain_16 : decode cX10_gain 16 = .ok (.iload_n 1, 1) := by decide +kernel
theorem dX10_gain_17 : decode cX10_gain 17 = .ok (.iadd, 1) := by decide +kernel
theorem dX10_gain_18 : decode cX10_gain 18 = .ok (.bipush 8, 2) := by decide +kernel
theorem dX10_gain_20 : decode cX10_gain 20 = .ok (.isub, 1) := by decide +kernel
theorem dX10_gain_21 : decode cX10_gain 21 = .ok (.invokestatic 327, 3) := by decide +kernel
theorem dX10_gain_24 : decode cX10_gain 24 = .ok (.isub, 1) := by decide +kernel
theorem dX10_gain_25 : decode cX10_gain 25 = .ok (.ireturn, 1) := by decide +kernel
theorem dX10_law_0 : decode cX10_law 0 = .ok (.aload_n 0, 1) := by decide +kernel
theorem dX10_law_1 : decode cX10_law 1 = .ok (.invokevirtual 141, 3) := by decide +kernel
theorem dX10_law_4 : decode cX10_law 4 = .ok (.istore_n 1, 1) := by decide +kernel
theorem dX10_law_5 : decode cX10_law 5 = .ok (.iload_n 1, 1) := by decide +kernel
theorem dX10_law_6 : decode cX10_law 6 = .ok (.ifCond .lt 9, 3) := by decide +kernel
theorem dX10_law_9 : decode cX10_law 9 = .ok (.sipush (-10000), 3) := by decide +kernel
theorem dX10_law_12 : decode cX10_law 12 = .ok (.iload_n 1, 1) := by decide +kernel
theorem dX10_law_13 : decode cX10_law 13 = .ok (.isub, 1) := by decide +kernel
theorem dX10_law_14 : decode cX10_law 14 = .ok (.ireturn, 1) := by decide +kernel
theorem dX10_law_15 : decode cX10_law 15 = .ok (.aload_n 0, 1) := by decide +kernel
theorem dX10_law_16 : decode cX10_law 16 = .ok (.getfield 54, 3) := by decide +kernel
theorem dX10_law_19 : decode cX10_law 19 = .ok (.aload_n 0, 1) := by decide +kernel
theorem dX10_law_20 : decode cX10_law 20 = .ok (.getfield 26, 3) := by decide +kernel
theorem dX10_law_23 : decode cX10_law 23 = .ok (.invokevirtual 234, 3) := by decide +kernel
theorem dX10_law_26 : decode cX10_law 26 = .ok (.invokestatic 241, 3) := by decide +kernel
theorem dX10_law_29 : decode cX10_law 29 = .ok (.istore_n 2, 1) := by decide +kernel
theorem dX10_law_30 : decode cX10_law 30 = .ok (.aload_n 0, 1) := by decide +kernel
theorem dX10_law_31 : decode cX10_law 31 = .ok (.getfield 50, 3) := by decide +kernel
theorem dX10_law_34 : decode cX10_law 34 = .ok (.aload_n 0, 1) := by decide +kernel
theorem dX10_law_35 : decode cX10_law 35 = .ok (.getfield 26, 3) := by decide +kernel
theorem dX10_law_38 : decode cX10_law 38 = .ok (.invokevirtual 234, 3) := by decide +kernel
theorem dX10_law_41 : decode cX10_law 41 = .ok (.invokestatic 241, 3) := by decide +kernel
theorem dX10_law_44 : decode cX10_law 44 = .ok (.istore_n 3, 1) := by decide +kernel
theorem dX10_law_45 : decode cX10_law 45 = .ok (.aload_n 0, 1) := by decide +kernel
theorem dX10_law_46 : decode cX10_law 46 = .ok (.getfield 19, 3) := by decide +kernel
theorem dX10_law_49 : decode cX10_law 49 = .ok (.iload_n 2, 1) := by decide +kernel
theorem dX10_law_50 : decode cX10_law 50 = .ok (.i2l, 1) := by decide +kernel
theorem dX10_law_51 : decode cX10_law 51 = .ok (.iload_n 3, 1) := by decide +kernel
theorem dX10_law_52 : decode cX10_law 52 = .ok (.i2l, 1) := by decide +kernel
theorem dX10_law_53 : decode cX10_law 53 = .ok (.invokevirtual 199, 3) := by decide +kernel
theorem dX10_law_56 : decode cX10_law 56 = .ok (.iconst 0, 1) := by decide +kernel
theorem dX10_law_57 : decode cX10_law 57 = .ok (.istore 4, 2) := by decide +kernel
theorem dX10_law_59 : decode cX10_law 59 = .ok (.iload 4, 2) := by decide +kernel
theorem dX10_law_61 : decode cX10_law 61 = .ok (.aload_n 0, 1) := by decide +kernel
theorem dX10_law_62 : decode cX10_law 62 = .ok (.getfield 26, 3) := by decide +kernel
theorem dX10_law_65 : decode cX10_law 65 = .ok (.getfield 107, 3) := by decide +kernel
theorem dX10_law_68 : decode cX10_law 68 = .ok (.if_icmp .ge 39, 3) := by decide +kernel
theorem dX10_law_71 : decode cX10_law 71 = .ok (.aload_n 0, 1) := by decide +kernel
theorem dX10_law_72 : decode cX10_law 72 = .ok (.getfield 19, 3) := by decide +kernel
theorem dX10_law_75 : decode cX10_law 75 = .ok (.aload_n 0, 1) := by decide +kernel
theorem dX10_law_76 : decode cX10_law 76 = .ok (.getfield 54, 3) := by decide +kernel
theorem dX10_law_79 : decode cX10_law 79 = .ok (.aload_n 0, 1) := by decide +kernel
theorem dX10_law_80 : decode cX10_law 80 = .ok (.getfield 26, 3) := by decide +kernel
theorem dX10_law_83 : decode cX10_law 83 = .ok (.iload 4, 2) := by decide +kernel
theorem dX10_law_85 : decode cX10_law 85 = .ok (.aload_n 0, 1) := by decide +kernel
theorem dX10_law_86 : decode cX10_law 86 = .ok (.getfield 26, 3) := by decide +kernel
theorem dX10_law_89 : decode cX10_law 89 = .ok (.iload 4, 2) := by decide +kernel
theorem dX10_law_91 : decode cX10_law 91 = .ok (.invokevirtual 170, 3) := by decide +kernel
theorem dX10_law_94 : decode cX10_law 94 = .ok (.invokevirtual 173, 3) := by decide +kernel
theorem dX10_law_97 : decode cX10_law 97 = .ok (.i2l, 1) := by decide +kernel
theorem dX10_law_98 : decode cX10_law 98 = .ok (.invokevirtual 343, 3) := by decide +kernel
theorem dX10_law_101 : decode cX10_law 101 = .ok (.iinc 4 1, 3) := by decide +kernel
theorem dX10_law_104 : decode cX10_law 104 = .ok (.goto (-45), 3) := by decide +kernel
theorem dX10_law_107 : decode cX10_law 107 = .ok (.iload_n 2, 1) := by decide +kernel
theorem dX10_law_108 : decode cX10_law 108 = .ok (.iload_n 3, 1) := by decide +kernel
theorem dX10_law_109 : decode cX10_law 109 = .ok (.isub, 1) := by decide +kernel
theorem dX10_law_110 : decode cX10_law 110 = .ok (.ireturn, 1) := by decide +kernel
theorem dX10_years_0 : decode cX10_years 0 = .ok (.iload_n 2, 1) := by decide +kernel
theorem dX10_years_1 : decode cX10_years 1 = .ok (.iconst 1, 1) := by decide +kernel
theorem dX10_years_2 : decode cX10_years 2 = .ok (.if_icmp .lt 9, 3) := by decide +kernel
theorem dX10_years_5 : decode cX10_years 5 = .ok (.iload_n 2, 1) := by decide +kernel
theorem dX10_years_6 : decode cX10_years 6 = .ok (.bipush 60, 2) := by decide +kernel
theorem dX10_years_8 : decode cX10_years 8 = .ok (.if_icmp .le 5, 3) := by decide +kernel
theorem dX10_years_11 : decode cX10_years 11 = .ok (.iconst (-1), 1) := by decide +kernel
theorem dX10_years_12 : decode cX10_years 12 = .ok (.ireturn, 1) := by decide +kernel
theorem dX10_years_13 : decode cX10_years 13 = .ok (.aload_n 0, 1) := by decide +kernel
theorem dX10_years_14 : decode cX10_years 14 = .ok (.getfield 30, 3) := by decide +kernel
theorem dX10_years_17 : decode cX10_years 17 = .ok (.aload_n 0, 1) := by decide +kernel
theorem dX10_years_18 : decode cX10_years 18 = .ok (.getfield 26, 3) := by decide +kernel
theorem dX10_years_21 : decode cX10_years 21 = .ok (.invokevirtual 249, 3) := by decide +kernel
theorem dX10_years_24 : decode cX10_years 24 = .ok (.aload_n 0, 1) := by decide +kernel
theorem dX10_years_25 : decode cX10_years 25 = .ok (.iload_n 1, 1) := by decide +kernel
theorem dX10_years_26 : decode cX10_years 26 = .ok (.putfield 85, 3) := by decide +kernel
theorem dX10_years_29 : decode cX10_years 29 = .ok (.iconst 0, 1) := by decide +kernel
theorem dX10_years_30 : decode cX10_years 30 = .ok (.istore_n 3, 1) := by decide +kernel
theorem dX10_years_31 : decode cX10_years 31 = .ok (.iconst 0, 1) := by decide +kernel
theorem dX10_years_32 : decode cX10_years 32 = .ok (.istore 4, 2) := by decide +kernel
theorem dX10_years_34 : decode cX10_years 34 = .ok (.iload 4, 2) := by decide +kernel
theorem dX10_years_36 : decode cX10_years 36 = .ok (.iload_n 2, 1) := by decide +kernel
theorem dX10_years_37 : decode cX10_years 37 = .ok (.if_icmp .ge 109, 3) := by decide +kernel
theorem dX10_years_40 : decode cX10_years 40 = .ok (.aload_n 0, 1) := by decide +kernel
theorem dX10_years_41 : decode cX10_years 41 = .ok (.iconst 4, 1) := by decide +kernel
theorem dX10_years_42 : decode cX10_years 42 = .ok (.invokevirtual 366, 3) := by decide +kernel
theorem dX10_years_45 : decode cX10_years 45 = .ok (.istore 5, 2) := by decide +kernel
theorem dX10_years_47 : decode cX10_years 47 = .ok (.iload 5, 2) := by decide +kernel
theorem dX10_years_49 : decode cX10_years 49 = .ok (.iconst 2, 1) := by decide +kernel
theorem dX10_years_50 : decode cX10_years 50 = .ok (.if_icmp .ge 21, 3) := by decide +kernel
theorem dX10_years_53 : decode cX10_years 53 = .ok (.iload_n 3, 1) := by decide +kernel
theorem dX10_years_54 : decode cX10_years 54 = .ok (.aload_n 0, 1) := by decide +kernel
theorem dX10_years_55 : decode cX10_years 55 = .ok (.aload_n 0, 1) := by decide +kernel
theorem dX10_years_56 : decode cX10_years 56 = .ok (.getfield 30, 3) := by decide +kernel
theorem dX10_years_59 : decode cX10_years 59 = .ok (.iconst 1, 1) := by decide +kernel
theorem dX10_years_60 : decode cX10_years 60 = .ok (.invokevirtual 192, 3) := by decide +kernel
theorem dX10_years_63 : decode cX10_years 63 = .ok (.invokestatic 241, 3) := by decide +kernel
theorem dX10_years_66 : decode cX10_years 66 = .ok (.iadd, 1) := by decide +kernel
theorem dX10_years_67 : decode cX10_years 67 = .ok (.istore_n 3, 1) := by decide +kernel
theorem dX10_years_68 : decode cX10_years 68 = .ok (.goto 72, 3) := by decide +kernel
theorem dX10_years_71 : decode cX10_years 71 = .ok (.aload_n 0, 1) := by decide +kernel
theorem dX10_years_72 : decode cX10_years 72 = .ok (.getfield 30, 3) := by decide +kernel
theorem dX10_years_75 : decode cX10_years 75 = .ok (.getfield 107, 3) := by decide +kernel
theorem dX10_years_78 : decode cX10_years 78 = .ok (.ifCond .le 62, 3) := by decide +kernel
theorem dX10_years_81 : decode cX10_years 81 = .ok (.aload_n 0, 1) := by decide +kernel
theorem dX10_years_82 : decode cX10_years 82 = .ok (.aload_n 0, 1) := by decide +kernel
theorem dX10_years_83 : decode cX10_years 83 = .ok (.getfield 30, 3) := by decide +kernel
theorem dX10_years_86 : decode cX10_years 86 = .ok (.getfield 107, 3) := by decide +kernel
theorem dX10_years_89 : decode cX10_years 89 = .ok (.invokevirtual 366, 3) := by decide +kernel
theorem dX10_years_92 : decode cX10_years 92 = .ok (.istore 6, 2) := by decide +kernel
theorem dX10_years_94 : decode cX10_years 94 = .ok (.iload 5, 2) := by decide +kernel
theorem dX10_years_96 : decode cX10_years 96 = .ok (.iconst 2, 1) := by decide +kernel
theorem dX10_years_97 : decode cX10_years 97 = .ok (.if_icmp .ne 27, 3) := by decide +kernel
theorem dX10_years_100 : decode cX10_years 100 = .ok (.aload_n 0, 1) := by decide +kernel
theorem dX10_years_101 : decode cX10_years 101 = .ok (.getfield 30, 3) := by decide +kernel
theorem dX10_years_104 : decode cX10_years 104 = .ok (.iload 6, 2) := by decide +kernel
theorem dX10_years_106 : decode cX10_years 106 = .ok (.aload_n 0, 1) := by decide +kernel
theorem dX10_years_107 : decode cX10_years 107 = .ok (.aload_n 0, 1) := by decide +kernel
theorem dX10_years_108 : decode cX10_years 108 = .ok (.getfield 30, 3) := by decide +kernel
theorem dX10_years_111 : decode cX10_years 111 = .ok (.getfield 107, 3) := by decide +kernel
theorem dX10_years_114 : decode cX10_years 114 = .ok (.invokevirtual 366, 3) := by decide +kernel
theorem dX10_years_117 : decode cX10_years 117 = .ok (.invokevirtual 203, 3) := by decide +kernel
theorem dX10_years_120 : decode cX10_years 120 = .ok (.pop, 1) := by decide +kernel
theorem dX10_years_121 : decode cX10_years 121 = .ok (.goto 19, 3) := by decide +kernel
theorem dX10_years_124 : decode cX10_years 124 = .ok (.aload_n 0, 1) := by decide +kernel
theorem dX10_years_125 : decode cX10_years 125 = .ok (.getfield 30, 3) := by decide +kernel
theorem dX10_years_128 : decode cX10_years 128 = .ok (.iload 6, 2) := by decide +kernel
theorem dX10_years_130 : decode cX10_years 130 = .ok (.aload_n 0, 1) := by decide +kernel
theorem dX10_years_131 : decode cX10_years 131 = .ok (.bipush 10, 2) := by decide +kernel
theorem dX10_years_133 : decode cX10_years 133 = .ok (.invokevirtual 366, 3) := by decide +kernel
theorem dX10_years_136 : decode cX10_years 136 = .ok (.invokevirtual 213, 3) := by decide +kernel
theorem dX10_years_139 : decode cX10_years 139 = .ok (.pop, 1) := by decide +kernel
theorem dX10_years_140 : decode cX10_years 140 = .ok (.iinc 4 1, 3) := by decide +kernel
theorem dX10_years_143 : decode cX10_years 143 = .ok (.goto (-109), 3) := by decide +kernel
theorem dX10_years_146 : decode cX10_years 146 = .ok (.aload_n 0, 1) := by decide +kernel
theorem dX10_years_147 : decode cX10_years 147 = .ok (.getfield 19, 3) := by decide +kernel
theorem dX10_years_150 : decode cX10_years 150 = .ok (.aload_n 0, 1) := by decide +kernel
theorem dX10_years_151 : decode cX10_years 151 = .ok (.getfield 30, 3) := by decide +kernel
theorem dX10_years_154 : decode cX10_years 154 = .ok (.getfield 189, 3) := by decide +kernel
theorem dX10_years_157 : decode cX10_years 157 = .ok (.aload_n 0, 1) := by decide +kernel
theorem dX10_years_158 : decode cX10_years 158 = .ok (.getfield 26, 3) := by decide +kernel
theorem dX10_years_161 : decode cX10_years 161 = .ok (.getfield 189, 3) := by decide +kernel
theorem dX10_years_164 : decode cX10_years 164 = .ok (.isub, 1) := by decide +kernel
theorem dX10_years_165 : decode cX10_years 165 = .ok (.i2l, 1) := by decide +kernel
theorem dX10_years_166 : decode cX10_years 166 = .ok (.aload_n 0, 1) := by decide +kernel
theorem dX10_years_167 : decode cX10_years 167 = .ok (.getfield 50, 3) := by decide +kernel
theorem dX10_years_170 : decode cX10_years 170 = .ok (.aload_n 0, 1) := by decide +kernel
theorem dX10_years_171 : decode cX10_years 171 = .ok (.getfield 30, 3) := by decide +kernel
theorem dX10_years_174 : decode cX10_years 174 = .ok (.invokevirtual 234, 3) := by decide +kernel
theorem dX10_years_177 : decode cX10_years 177 = .ok (.i2l, 1) := by decide +kernel
theorem dX10_years_178 : decode cX10_years 178 = .ok (.invokevirtual 199, 3) := by decide +kernel
theorem dX10_years_181 : decode cX10_years 181 = .ok (.iload_n 3, 1) := by decide +kernel
theorem dX10_years_182 : decode cX10_years 182 = .ok (.ireturn, 1) := by decide +kernel
theorem dX10_draw_0 : decode cX10_draw 0 = .ok (.aload_n 0, 1) := by decide +kernel
theorem dX10_draw_1 : decode cX10_draw 1 = .ok (.aload_n 0, 1) := by decide +kernel
theorem dX10_draw_2 : decode cX10_draw 2 = .ok (.getfield 85, 3) := by decide +kernel
theorem dX10_draw_5 : decode cX10_draw 5 = .ok (.ldc_w 369, 3) := by decide +kernel
theorem dX10_draw_8 : decode cX10_draw 8 = .ok (.imul, 1) := by decide +kernel
theorem dX10_draw_9 : decode cX10_draw 9 = .ok (.sipush 12345, 3) := by decide +kernel
theorem dX10_draw_12 : decode cX10_draw 12 = .ok (.iadd, 1) := by decide +kernel
theorem dX10_draw_13 : decode cX10_draw 13 = .ok (.putfield 85, 3) := by decide +kernel
theorem dX10_draw_16 : decode cX10_draw 16 = .ok (.iload_n 1, 1) := by decide +kernel
theorem dX10_draw_17 : decode cX10_draw 17 = .ok (.ifCond .le 15, 3) := by decide +kernel
theorem dX10_draw_20 : decode cX10_draw 20 = .ok (.aload_n 0, 1) := by decide +kernel
theorem dX10_draw_21 : decode cX10_draw 21 = .ok (.getfield 85, 3) := by decide +kernel
theorem dX10_draw_24 : decode cX10_draw 24 = .ok (.bipush 16, 2) := by decide +kernel
theorem dX10_draw_26 : decode cX10_draw 26 = .ok (.iushr, 1) := by decide +kernel
theorem dX10_draw_27 : decode cX10_draw 27 = .ok (.iload_n 1, 1) := by decide +kernel
theorem dX10_draw_28 : decode cX10_draw 28 = .ok (.irem, 1) := by decide +kernel
theorem dX10_draw_29 : decode cX10_draw 29 = .ok (.goto 4, 3) := by decide +kernel
theorem dX10_draw_32 : decode cX10_draw 32 = .ok (.iconst 0, 1) := by decide +kernel
theorem dX10_draw_33 : decode cX10_draw 33 = .ok (.ireturn, 1) := by decide +kernel
theorem dX10_keep_0 : decode cX10_keep 0 = .ok (.aload_n 0, 1) := by decide +kernel
theorem dX10_keep_1 : decode cX10_keep 1 = .ok (.getfield 36, 3) := by decide +kernel
theorem dX10_keep_4 : decode cX10_keep 4 = .ok (.iload_n 1, 1) := by decide +kernel
theorem dX10_keep_5 : decode cX10_keep 5 = .ok (.aload_n 0, 1) := by decide +kernel
theorem dX10_keep_6 : decode cX10_keep 6 = .ok (.getfield 26, 3) := by decide +kernel
theorem dX10_keep_9 : decode cX10_keep 9 = .ok (.invokevirtual 370, 3) := by decide +kernel
theorem dX10_keep_12 : decode cX10_keep 12 = .ok (.ireturn, 1) := by decide +kernel
theorem dX10_again_0 : decode cX10_again 0 = .ok (.aload_n 0, 1) := by decide +kernel
theorem dX10_again_1 : decode cX10_again 1 = .ok (.getfield 36, 3) := by decide +kernel
theorem dX10_again_4 : decode cX10_again 4 = .ok (.iload_n 1, 1) := by decide +kernel
theorem dX10_again_5 : decode cX10_again 5 = .ok (.aload_n 0, 1) := by decide +kernel
theorem dX10_again_6 : decode cX10_again 6 = .ok (.getfield 26, 3) := by decide +kernel
theorem dX10_again_9 : decode cX10_again 9 = .ok (.invokevirtual 374, 3) := by decide +kernel
theorem dX10_again_12 : decode cX10_again 12 = .ok (.ireturn, 1) := by decide +kernel
theorem dX10_count_0 : decode cX10_count 0 = .ok (.iload_n 1, 1) := by decide +kernel
theorem dX10_count_1 : decode cX10_count 1 = .ok (.tableswitch 199 0 12 #[67, 75, 83, 91, 99, 114, 129, 144, 159, 167, 175, 183, 191], 67) := by decide +kernel
theorem dX10_count_68 : decode cX10_count 68 = .ok (.aload_n 0, 1) := by decide +kernel
theorem dX10_count_69 : decode cX10_count 69 = .ok (.getfield 26, 3) := by decide +kernel
theorem dX10_count_72 : decode cX10_count 72 = .ok (.getfield 107, 3) := by decide +kernel
theorem dX10_count_75 : decode cX10_count 75 = .ok (.ireturn, 1) := by decide +kernel
theorem dX10_count_76 : decode cX10_count 76 = .ok (.aload_n 0, 1) := by decide +kernel
theorem dX10_count_77 : decode cX10_count 77 = .ok (.getfield 26, 3) := by decide +kernel
theorem dX10_count_80 : decode cX10_count 80 = .ok (.getfield 377, 3) := by decide +kernel
theorem dX10_count_83 : decode cX10_count 83 = .ok (.ireturn, 1) := by decide +kernel
theorem dX10_count_84 : decode cX10_count 84 = .ok (.aload_n 0, 1) := by decide +kernel
theorem dX10_count_85 : decode cX10_count 85 = .ok (.getfield 26, 3) := by decide +kernel
theorem dX10_count_88 : decode cX10_count 88 = .ok (.getfield 189, 3) := by decide +kernel
theorem dX10_count_91 : decode cX10_count 91 = .ok (.ireturn, 1) := by decide +kernel
theorem dX10_count_92 : decode cX10_count 92 = .ok (.aload_n 0, 1) := by decide +kernel
theorem dX10_count_93 : decode cX10_count 93 = .ok (.getfield 26, 3) := by decide +kernel
theorem dX10_count_96 : decode cX10_count 96 = .ok (.invokevirtual 380, 3) := by decide +kernel
theorem dX10_count_99 : decode cX10_count 99 = .ok (.ireturn, 1) := by decide +kernel
theorem dX10_count_100 : decode cX10_count 100 = .ok (.aload_n 0, 1) := by decide +kernel
theorem dX10_count_101 : decode cX10_count 101 = .ok (.getfield 26, 3) := by decide +kernel
theorem dX10_count_104 : decode cX10_count 104 = .ok (.aload_n 0, 1) := by decide +kernel
theorem dX10_count_105 : decode cX10_count 105 = .ok (.getfield 26, 3) := by decide +kernel
theorem dX10_count_108 : decode cX10_count 108 = .ok (.getfield 154, 3) := by decide +kernel
theorem dX10_count_111 : decode cX10_count 111 = .ok (.invokevirtual 181, 3) := by decide +kernel
theorem dX10_count_114 : decode cX10_count 114 = .ok (.ireturn, 1) := by decide +kernel
theorem dX10_count_115 : decode cX10_count 115 = .ok (.aload_n 0, 1) := by decide +kernel
theorem dX10_count_116 : decode cX10_count 116 = .ok (.getfield 26, 3) := by decide +kernel
theorem dX10_count_119 : decode cX10_count 119 = .ok (.aload_n 0, 1) := by decide +kernel
theorem dX10_count_120 : decode cX10_count 120 = .ok (.getfield 26, 3) := by decide +kernel
theorem dX10_count_123 : decode cX10_count 123 = .ok (.getfield 158, 3) := by decide +kernel
theorem dX10_count_126 : decode cX10_count 126 = .ok (.invokevirtual 181, 3) := by decide +kernel
theorem dX10_count_129 : decode cX10_count 129 = .ok (.ireturn, 1) := by decide +kernel
theorem dX10_count_130 : decode cX10_count 130 = .ok (.aload_n 0, 1) := by decide +kernel
theorem dX10_count_131 : decode cX10_count 131 = .ok (.getfield 26, 3) := by decide +kernel
theorem dX10_count_134 : decode cX10_count 134 = .ok (.aload_n 0, 1) := by decide +kernel
theorem dX10_count_135 : decode cX10_count 135 = .ok (.getfield 26, 3) := by decide +kernel
theorem dX10_count_138 : decode cX10_count 138 = .ok (.getfield 161, 3) := by decide +kernel
theorem dX10_count_141 : decode cX10_count 141 = .ok (.invokevirtual 181, 3) := by decide +kernel
theorem dX10_count_144 : decode cX10_count 144 = .ok (.ireturn, 1) := by decide +kernel
theorem dX10_count_145 : decode cX10_count 145 = .ok (.aload_n 0, 1) := by decide +kernel
theorem dX10_count_146 : decode cX10_count 146 = .ok (.getfield 26, 3) := by decide +kernel
theorem dX10_count_149 : decode cX10_count 149 = .ok (.aload_n 0, 1) := by decide +kernel
theorem dX10_count_150 : decode cX10_count 150 = .ok (.getfield 26, 3) := by decide +kernel
theorem dX10_count_153 : decode cX10_count 153 = .ok (.getfield 164, 3) := by decide +kernel
theorem dX10_count_156 : decode cX10_count 156 = .ok (.invokevirtual 181, 3) := by decide +kernel
theorem dX10_count_159 : decode cX10_count 159 = .ok (.ireturn, 1) := by decide +kernel
theorem dX10_count_160 : decode cX10_count 160 = .ok (.aload_n 0, 1) := by decide +kernel
theorem dX10_count_161 : decode cX10_count 161 = .ok (.getfield 74, 3) := by decide +kernel
theorem dX10_count_164 : decode cX10_count 164 = .ok (.getfield 314, 3) := by decide +kernel
theorem dX10_count_167 : decode cX10_count 167 = .ok (.ireturn, 1) := by decide +kernel
theorem dX10_count_168 : decode cX10_count 168 = .ok (.aload_n 0, 1) := by decide +kernel
theorem dX10_count_169 : decode cX10_count 169 = .ok (.getfield 81, 3) := by decide +kernel
theorem dX10_count_172 : decode cX10_count 172 = .ok (.getfield 335, 3) := by decide +kernel
theorem dX10_count_175 : decode cX10_count 175 = .ok (.ireturn, 1) := by decide +kernel
theorem dX10_count_176 : decode cX10_count 176 = .ok (.aload_n 0, 1) := by decide +kernel
theorem dX10_count_177 : decode cX10_count 177 = .ok (.getfield 36, 3) := by decide +kernel
theorem dX10_count_180 : decode cX10_count 180 = .ok (.getfield 233, 3) := by decide +kernel
theorem dX10_count_183 : decode cX10_count 183 = .ok (.ireturn, 1) := by decide +kernel
theorem dX10_count_184 : decode cX10_count 184 = .ok (.aload_n 0, 1) := by decide +kernel
theorem dX10_count_185 : decode cX10_count 185 = .ok (.getfield 19, 3) := by decide +kernel
theorem dX10_count_188 : decode cX10_count 188 = .ok (.getfield 383, 3) := by decide +kernel
theorem dX10_count_191 : decode cX10_count 191 = .ok (.ireturn, 1) := by decide +kernel
theorem dX10_count_192 : decode cX10_count 192 = .ok (.aload_n 0, 1) := by decide +kernel
theorem dX10_count_193 : decode cX10_count 193 = .ok (.getfield 12, 3) := by decide +kernel
theorem dX10_count_196 : decode cX10_count 196 = .ok (.getfield 101, 3) := by decide +kernel
theorem dX10_count_199 : decode cX10_count 199 = .ok (.ireturn, 1) := by decide +kernel
theorem dX10_count_200 : decode cX10_count 200 = .ok (.iconst (-1), 1) := by decide +kernel
theorem dX10_count_201 : decode cX10_count 201 = .ok (.ireturn, 1) := by decide +kernel
theorem dX10_row_0 : decode cX10_row 0 = .ok (.iload_n 1, 1) := by decide +kernel
theorem dX10_row_1 : decode cX10_row 1 = .ok (.ifCond .lt 14, 3) := by decide +kernel
theorem dX10_row_4 : decode cX10_row 4 = .ok (.iload_n 1, 1) := by decide +kernel
theorem dX10_row_5 : decode cX10_row 5 = .ok (.aload_n 0, 1) := by decide +kernel
theorem dX10_row_6 : decode cX10_row 6 = .ok (.getfield 19, 3) := by decide +kernel
theorem dX10_row_9 : decode cX10_row 9 = .ok (.getfield 383, 3) := by decide +kernel
theorem dX10_row_12 : decode cX10_row 12 = .ok (.if_icmp .lt 11, 3) := by decide +kernel
theorem dX10_row_15 : decode cX10_row 15 = .ok (.new 151, 3) := by decide +kernel
theorem dX10_row_18 : decode cX10_row 18 = .ok (.dup, 1) := by decide +kernel
theorem dX10_row_19 : decode cX10_row 19 = .ok (.invokespecial 153, 3) := by decide +kernel
theorem dX10_row_22 : decode cX10_row 22 = .ok (.athrow, 1) := by decide +kernel
theorem dX10_row_23 : decode cX10_row 23 = .ok (.aload_n 0, 1) := by decide +kernel
theorem dX10_row_24 : decode cX10_row 24 = .ok (.getfield 19, 3) := by decide +kernel
theorem dX10_row_27 : decode cX10_row 27 = .ok (.getfield 384, 3) := by decide +kernel
theorem dX10_row_30 : decode cX10_row 30 = .ok (.iload_n 1, 1) := by decide +kernel
theorem dX10_row_31 : decode cX10_row 31 = .ok (.laload, 1) := by decide +kernel
theorem dX10_row_32 : decode cX10_row 32 = .ok (.lreturn, 1) := by decide +kernel
theorem dX11_init_0 : decode cX11_init 0 = .ok (.aload_n 0, 1) := by decide +kernel
theorem dX11_init_1 : decode cX11_init 1 = .ok (.invokespecial 3, 3) := by decide +kernel
theorem dX11_init_4 : decode cX11_init 4 = .ok (.aload_n 0, 1) := by decide +kernel
theorem dX11_init_5 : decode cX11_init 5 = .ok (.bipush 37, 2) := by decide +kernel
theorem dX11_init_7 : decode cX11_init 7 = .ok (.newarray .int, 2) := by decide +kernel
theorem dX11_init_9 : decode cX11_init 9 = .ok (.putfield 9, 3) := by decide +kernel
theorem dX11_init_12 : decode cX11_init 12 = .ok (.aload_n 0, 1) := by decide +kernel
theorem dX11_init_13 : decode cX11_init 13 = .ok (.bipush 80, 2) := by decide +kernel
theorem dX11_init_15 : decode cX11_init 15 = .ok (.newarray .byte, 2) := by decide +kernel
theorem dX11_init_17 : decode cX11_init 17 = .ok (.putfield 13, 3) := by decide +kernel
theorem dX11_init_20 : decode cX11_init 20 = .ok (.aload_n 0, 1) := by decide +kernel
theorem dX11_init_21 : decode cX11_init 21 = .ok (.bipush 16, 2) := by decide +kernel
theorem dX11_init_23 : decode cX11_init 23 = .ok (.newarray .long, 2) := by decide +kernel
theorem dX11_init_25 : decode cX11_init 25 = .ok (.putfield 17, 3) := by decide +kernel
theorem dX11_init_28 : decode cX11_init 28 = .ok (.aload_n 0, 1) := by decide +kernel
theorem dX11_init_29 : decode cX11_init 29 = .ok (.bipush 14, 2) := by decide +kernel
theorem dX11_init_31 : decode cX11_init 31 = .ok (.newarray .int, 2) := by decide +kernel
theorem dX11_init_33 : decode cX11_init 33 = .ok (.putfield 21, 3) := by decide +kernel
theorem dX11_init_36 : decode cX11_init 36 = .ok (.aload_n 0, 1) := by decide +kernel
theorem dX11_init_37 : decode cX11_init 37 = .ok (.bipush 40, 2) := by decide +kernel
theorem dX11_init_39 : decode cX11_init 39 = .ok (.newarray .byte, 2) := by decide +kernel
theorem dX11_init_41 : decode cX11_init 41 = .ok (.putfield 24, 3) := by decide +kernel
theorem dX11_init_44 : decode cX11_init 44 = .ok (.aload_n 0, 1) := by decide +kernel
theorem dX11_init_45 : decode cX11_init 45 = .ok (.bipush 40, 2) := by decide +kernel
theorem dX11_init_47 : decode cX11_init 47 = .ok (.newarray .byte, 2) := by decide +kernel
theorem dX11_init_49 : decode cX11_init 49 = .ok (.putfield 27, 3) := by decide +kernel
theorem dX11_init_52 : decode cX11_init 52 = .ok (.aload_n 0, 1) := by decide +kernel
theorem dX11_init_53 : decode cX11_init 53 = .ok (.bipush 7, 2) := by decide +kernel
theorem dX11_init_55 : decode cX11_init 55 = .ok (.newarray .int, 2) := by decide +kernel
theorem dX11_init_57 : decode cX11_init 57 = .ok (.putfield 30, 3) := by decide +kernel
theorem dX11_init_60 : decode cX11_init 60 = .ok (.aload_n 0, 1) := by decide +kernel
theorem dX11_init_61 : decode cX11_init 61 = .ok (.sipush 444, 3) := by decide +kernel
theorem dX11_init_64 : decode cX11_init 64 = .ok (.newarray .int, 2) := by decide +kernel
theorem dX11_init_66 : decode cX11_init 66 = .ok (.putfield 33, 3) := by decide +kernel
theorem dX11_init_69 : decode cX11_init 69 = .ok (.aload_n 0, 1) := by decide +kernel
theorem dX11_init_70 : decode cX11_init 70 = .ok (.bipush 37, 2) := by decide +kernel
theorem dX11_init_72 : decode cX11_init 72 = .ok (.newarray .int, 2) := by decide +kernel
theorem dX11_init_74 : decode cX11_init 74 = .ok (.putfield 36, 3) := by decide +kernel
theorem dX11_init_77 : decode cX11_init 77 = .ok (.aload_n 0, 1) := by decide +kernel
theorem dX11_init_78 : decode cX11_init 78 = .ok (.bipush 37, 2) := by decide +kernel
theorem dX11_init_80 : decode cX11_init 80 = .ok (.newarray .int, 2) := by decide +kernel
theorem dX11_init_82 : decode cX11_init 82 = .ok (.putfield 39, 3) := by decide +kernel
theorem dX11_init_85 : decode cX11_init 85 = .ok (.aload_n 0, 1) := by decide +kernel
theorem dX11_init_86 : decode cX11_init 86 = .ok (.sipush 240, 3) := by decide +kernel
theorem dX11_init_89 : decode cX11_init 89 = .ok (.newarray .int, 2) := by decide +kernel
theorem dX11_init_91 : decode cX11_init 91 = .ok (.putfield 42, 3) := by decide +kernel
theorem dX11_init_94 : decode cX11_init 94 = .ok (.aload_n 0, 1) := by decide +kernel
theorem dX11_init_95 : decode cX11_init 95 = .ok (.bipush 7, 2) := by decide +kernel
theorem dX11_init_97 : decode cX11_init 97 = .ok (.newarray .int, 2) := by decide +kernel
theorem dX11_init_99 : decode cX11_init 99 = .ok (.putfield 45, 3) := by decide +kernel
theorem dX11_init_102 : decode cX11_init 102 = .ok (.aload_n 0, 1) := by decide +kernel
theorem dX11_init_103 : decode cX11_init 103 = .ok (.sipush 1024, 3) := by decide +kernel
theorem dX11_init_106 : decode cX11_init 106 = .ok (.newarray .int, 2) := by decide +kernel
theorem dX11_init_108 : decode cX11_init 108 = .ok (.putfield 48, 3) := by decide +kernel
theorem dX11_init_111 : decode cX11_init 111 = .ok (.aload_n 0, 1) := by decide +kernel
theorem dX11_init_112 : decode cX11_init 112 = .ok (.bipush 7, 2) := by decide +kernel
theorem dX11_init_114 : decode cX11_init 114 = .ok (.newarray .int, 2) := by decide +kernel
theorem dX11_init_116 : decode cX11_init 116 = .ok (.putfield 51, 3) := by decide +kernel
theorem dX11_init_119 : decode cX11_init 119 = .ok (.aload_n 0, 1) := by decide +kernel
theorem dX11_init_120 : decode cX11_init 120 = .ok (.bipush 7, 2) := by decide +kernel
theorem dX11_init_122 : decode cX11_init 122 = .ok (.newarray .int, 2) := by decide +kernel
theorem dX11_init_124 : decode cX11_init 124 = .ok (.putfield 54, 3) := by decide +kernel
theorem dX11_init_127 : decode cX11_init 127 = .ok (.aload_n 0, 1) := by decide +kernel
theorem dX11_init_128 : decode cX11_init 128 = .ok (.bipush 7, 2) := by decide +kernel
theorem dX11_init_130 : decode cX11_init 130 = .ok (.newarray .int, 2) := by decide +kernel
theorem dX11_init_132 : decode cX11_init 132 = .ok (.putfield 57, 3) := by decide +kernel
theorem dX11_init_135 : decode cX11_init 135 = .ok (.aload_n 0, 1) := by decide +kernel
theorem dX11_init_136 : decode cX11_init 136 = .ok (.bipush 12, 2) := by decide +kernel
theorem dX11_init_138 : decode cX11_init 138 = .ok (.newarray .int, 2) := by decide +kernel
theorem dX11_init_140 : decode cX11_init 140 = .ok (.putfield 60, 3) := by decide +kernel
theorem dX11_init_143 : decode cX11_init 143 = .ok (.aload_n 0, 1) := by decide +kernel
theorem dX11_init_144 : decode cX11_init 144 = .ok (.bipush 12, 2) := by decide +kernel
theorem dX11_init_146 : decode cX11_init 146 = .ok (.newarray .int, 2) := by decide +kernel
theorem dX11_init_148 : decode cX11_init 148 = .ok (.putfield 63, 3) := by decide +kernel
theorem dX11_init_151 : decode cX11_init 151 = .ok (.aload_n 0, 1) := by decide +kernel
theorem dX11_init_152 : decode cX11_init 152 = .ok (.bipush 10, 2) := by decide +kernel
theorem dX11_init_154 : decode cX11_init 154 = .ok (.newarray .int, 2) := by decide +kernel
theorem dX11_init_156 : decode cX11_init 156 = .ok (.putfield 66, 3) := by decide +kernel
theorem dX11_init_159 : decode cX11_init 159 = .ok (.aload_n 0, 1) := by decide +kernel
theorem dX11_init_160 : decode cX11_init 160 = .ok (.bipush 10, 2) := by decide +kernel
theorem dX11_init_162 : decode cX11_init 162 = .ok (.newarray .int, 2) := by decide +kernel
theorem dX11_init_164 : decode cX11_init 164 = .ok (.putfield 69, 3) := by decide +kernel
theorem dX11_init_167 : decode cX11_init 167 = .ok (.aload_n 0, 1) := by decide +kernel
theorem dX11_init_168 : decode cX11_init 168 = .ok (.bipush 61, 2) := by decide +kernel
theorem dX11_init_170 : decode cX11_init 170 = .ok (.newarray .boolean, 2) := by decide +kernel
theorem dX11_init_172 : decode cX11_init 172 = .ok (.putfield 72, 3) := by decide +kernel
theorem dX11_init_175 : decode cX11_init 175 = .ok (.aload_n 0, 1) := by decide +kernel
theorem dX11_init_176 : decode cX11_init 176 = .ok (.bipush 74, 2) := by decide +kernel
theorem dX11_init_178 : decode cX11_init 178 = .ok (.newarray .int, 2) := by decide +kernel
theorem dX11_init_180 : decode cX11_init 180 = .ok (.putfield 76, 3) := by decide +kernel
theorem dX11_init_183 : decode cX11_init 183 = .ok (.aload_n 0, 1) := by decide +kernel
theorem dX11_init_184 : decode cX11_init 184 = .ok (.iconst 2, 1) := by decide +kernel
theorem dX11_init_185 : decode cX11_init 185 = .ok (.newarray .boolean, 2) := by decide +kernel
theorem dX11_init_187 : decode cX11_init 187 = .ok (.putfield 79, 3) := by decide +kernel
theorem dX11_init_190 : decode cX11_init 190 = .ok (.aload_n 0, 1) := by decide +kernel
theorem dX11_init_191 : decode cX11_init 191 = .ok (.iconst 2, 1) := by decide +kernel
theorem dX11_init_192 : decode cX11_init 192 = .ok (.newarray .int, 2) := by decide +kernel
theorem dX11_init_194 : decode cX11_init 194 = .ok (.putfield 82, 3) := by decide +kernel
theorem dX11_init_197 : decode cX11_init 197 = .ok (.return_, 1) := by decide +kernel
theorem dX11_thrown_0 : decode cX11_thrown 0 = .ok (.aload_n 0, 1) := by decide +kernel
theorem dX11_thrown_1 : decode cX11_thrown 1 = .ok (.getfield 85, 3) := by decide +kernel
theorem dX11_thrown_4 : decode cX11_thrown 4 = .ok (.ireturn, 1) := by decide +kernel
theorem dX11_in_0 : decode cX11_in 0 = .ok (.iload_n 0, 1) := by decide +kernel
theorem dX11_in_1 : decode cX11_in 1 = .ok (.iload_n 1, 1) := by decide +kernel
theorem dX11_in_2 : decode cX11_in 2 = .ok (.if_icmp .lt 12, 3) := by decide +kernel
theorem dX11_in_5 : decode cX11_in 5 = .ok (.iload_n 0, 1) := by decide +kernel
theorem dX11_in_6 : decode cX11_in 6 = .ok (.iload_n 2, 1) := by decide +kernel
theorem dX11_in_7 : decode cX11_in 7 = .ok (.if_icmp .gt 7, 3) := by decide +kernel
theorem dX11_in_10 : decode cX11_in 10 = .ok (.iconst 1, 1) := by decide +kernel
theorem dX11_in_11 : decode cX11_in 11 = .ok (.goto 4, 3) := by decide +kernel
theorem dX11_in_14 : decode cX11_in 14 = .ok (.iconst 0, 1) := by decide +kernel
theorem dX11_in_15 : decode cX11_in 15 = .ok (.ireturn, 1) := by decide +kernel
theorem dX11_has_0 : decode cX11_has 0 = .ok (.iload_n 0, 1) := by decide +kernel
theorem dX11_has_1 : decode cX11_has 1 = .ok (.iload_n 1, 1) := by decide +kernel
theorem dX11_has_2 : decode cX11_has 2 = .ok (.ishr, 1) := by decide +kernel
theorem dX11_has_3 : decode cX11_has 3 = .ok (.iconst 1, 1) := by decide +kernel
theorem dX11_has_4 : decode cX11_has 4 = .ok (.iand, 1) := by decide +kernel
theorem dX11_has_5 : decode cX11_has 5 = .ok (.iconst 1, 1) := by decide +kernel
theorem dX11_has_6 : decode cX11_has 6 = .ok (.if_icmp .ne 7, 3) := by decide +kernel
theorem dX11_has_9 : decode cX11_has 9 = .ok (.iconst 1, 1) := by decide +kernel
theorem dX11_has_10 : decode cX11_has 10 = .ok (.goto 4, 3) := by decide +kernel
theorem dX11_has_13 : decode cX11_has 13 = .ok (.iconst 0, 1) := by decide +kernel
theorem dX11_has_14 : decode cX11_has 14 = .ok (.ireturn, 1) := by decide +kernel
theorem dX11_lost_0 : decode cX11_lost 0 = .ok (.aload_n 0, 1) := by decide +kernel
theorem dX11_lost_1 : decode cX11_lost 1 = .ok (.iconst 1, 1) := by decide +kernel
theorem dX11_lost_2 : decode cX11_lost 2 = .ok (.putfield 85, 3) := by decide +kernel
theorem dX11_lost_5 : decode cX11_lost 5 = .ok (.iconst 0, 1) := by decide +kernel
theorem dX11_lost_6 : decode cX11_lost 6 = .ok (.ireturn, 1) := by decide +kernel
theorem dX11_tell_0 : decode cX11_tell 0 = .ok (.aload_n 0, 1) := by decide +kernel
theorem dX11_tell_1 : decode cX11_tell 1 = .ok (.getfield 17, 3) := by decide +kernel
theorem dX11_tell_4 : decode cX11_tell 4 = .ok (.aload_n 0, 1) := by decide +kernel
theorem dX11_tell_5 : decode cX11_tell 5 = .ok (.getfield 89, 3) := by decide +kernel
theorem dX11_tell_8 : decode cX11_tell 8 = .ok (.lload_n 1, 1) := by decide +kernel
theorem dX11_tell_9 : decode cX11_tell 9 = .ok (.lastore, 1) := by decide +kernel
theorem dX11_tell_10 : decode cX11_tell 10 = .ok (.aload_n 0, 1) := by decide +kernel
theorem dX11_tell_11 : decode cX11_tell 11 = .ok (.dup, 1) := by decide +kernel
theorem dX11_tell_12 : decode cX11_tell 12 = .ok (.getfield 89, 3) := by decide +kernel
theorem dX11_tell_15 : decode cX11_tell 15 = .ok (.iconst 1, 1) := by decide +kernel
theorem dX11_tell_16 : decode cX11_tell 16 = .ok (.iadd, 1) := by decide +kernel
theorem dX11_tell_17 : decode cX11_tell 17 = .ok (.putfield 89, 3) := by decide +kernel
theorem dX11_tell_20 : decode cX11_tell 20 = .ok (.return_, 1) := by decide +kernel
theorem dX11_isOne_0 : decode cX11_isOne 0 = .ok (.iload_n 1, 1) := by decide +kernel
theorem dX11_isOne_1 : decode cX11_isOne 1 = .ok (.iconst 0, 1) := by decide +kernel
theorem dX11_isOne_2 : decode cX11_isOne 2 = .ok (.aload_n 0, 1) := by decide +kernel
theorem dX11_isOne_3 : decode cX11_isOne 3 = .ok (.getfield 92, 3) := by decide +kernel
theorem dX11_isOne_6 : decode cX11_isOne 6 = .ok (.iconst 1, 1) := by decide +kernel
theorem dX11_isOne_7 : decode cX11_isOne 7 = .ok (.isub, 1) := by decide +kernel
theorem dX11_isOne_8 : decode cX11_isOne 8 = .ok (.invokestatic 95, 3) := by decide +kernel
theorem dX11_isOne_11 : decode cX11_isOne 11 = .ok (.ireturn, 1) := by decide +kernel
theorem dX11_areTwo_0 : decode cX11_areTwo 0 = .ok (.aload_n 0, 1) := by decide +kernel
theorem dX11_areTwo_1 : decode cX11_areTwo 1 = .ok (.iload_n 1, 1) := by decide +kernel
theorem dX11_areTwo_2 : decode cX11_areTwo 2 = .ok (.invokevirtual 99, 3) := by decide +kernel
theorem dX11_areTwo_5 : decode cX11_areTwo 5 = .ok (.ifCond .eq 20, 3) := by decide +kernel
theorem dX11_areTwo_8 : decode cX11_areTwo 8 = .ok (.aload_n 0, 1) := by decide +kernel
theorem dX11_areTwo_9 : decode cX11_areTwo 9 = .ok (.iload_n 2, 1) := by decide +kernel
theorem dX11_areTwo_10 : decode cX11_areTwo 10 = .ok (.invokevirtual 99, 3) := by decide +kernel
theorem dX11_areTwo_13 : decode cX11_areTwo 13 = .ok (.ifCond .eq 12, 3) := by decide +kernel
theorem dX11_areTwo_16 : decode cX11_areTwo 16 = .ok (.iload_n 1, 1) := by decide +kernel
theorem dX11_areTwo_17 : decode cX11_areTwo 17 = .ok (.iload_n 2, 1) := by decide +kernel
theorem dX11_areTwo_18 : decode cX11_areTwo 18 = .ok (.if_icmp .eq 7, 3) := by decide +kernel
theorem dX11_areTwo_21 : decode cX11_areTwo 21 = .ok (.iconst 1, 1) := by decide +kernel
theorem dX11_areTwo_22 : decode cX11_areTwo 22 = .ok (.goto 4, 3) := by decide +kernel
theorem dX11_areTwo_25 : decode cX11_areTwo 25 = .ok (.iconst 0, 1) := by decide +kernel
theorem dX11_areTwo_26 : decode cX11_areTwo 26 = .ok (.ireturn, 1) := by decide +kernel
theorem dX11_everybody_0 : decode cX11_everybody 0 = .ok (.iconst 1, 1) := by decide +kernel
theorem dX11_everybody_1 : decode cX11_everybody 1 = .ok (.aload_n 0, 1) := by decide +kernel
theorem dX11_everybody_2 : decode cX11_everybody 2 = .ok (.getfield 92, 3) := by decide +kernel
theorem dX11_everybody_5 : decode cX11_everybody 5 = .ok (.ishl, 1) := by decide +kernel
theorem dX11_everybody_6 : decode cX11_everybody 6 = .ok (.iconst 1, 1) := by decide +kernel
theorem dX11_everybody_7 : decode cX11_everybody 7 = .ok (.isub, 1) := by decide +kernel
theorem dX11_everybody_8 : decode cX11_everybody 8 = .ok (.ireturn, 1) := by decide +kernel
theorem dX11_sign_0 : decode cX11_sign 0 = .ok (.aload_n 0, 1) := by decide +kernel
theorem dX11_sign_1 : decode cX11_sign 1 = .ok (.iconst 0, 1) := by decide +kernel
theorem dX11_sign_2 : decode cX11_sign 2 = .ok (.putfield 85, 3) := by decide +kernel
theorem dX11_sign_5 : decode cX11_sign 5 = .ok (.aload_n 0, 1) := by decide +kernel
theorem dX11_sign_6 : decode cX11_sign 6 = .ok (.getfield 103, 3) := by decide +kernel
theorem dX11_sign_9 : decode cX11_sign 9 = .ok (.iconst 4, 1) := by decide +kernel
theorem dX11_sign_10 : decode cX11_sign 10 = .ok (.iadd, 1) := by decide +kernel
theorem dX11_sign_11 : decode cX11_sign 11 = .ok (.bipush 80, 2) := by decide +kernel
theorem dX11_sign_13 : decode cX11_sign 13 = .ok (.if_icmp .le 5, 3) := by decide +kernel
theorem dX11_sign_16 : decode cX11_sign 16 = .ok (.iconst (-1), 1) := by decide +kernel
theorem dX11_sign_17 : decode cX11_sign 17 = .ok (.ireturn, 1) := by decide +kernel
theorem dX11_sign_18 : decode cX11_sign 18 = .ok (.iconst 3, 1) := by decide +kernel
theorem dX11_sign_19 : decode cX11_sign 19 = .ok (.istore_n 2, 1) := by decide +kernel
theorem dX11_sign_20 : decode cX11_sign 20 = .ok (.iload_n 2, 1) := by decide +kernel
theorem dX11_sign_21 : decode cX11_sign 21 = .ok (.ifCond .lt 32, 3) := by decide +kernel
theorem dX11_sign_24 : decode cX11_sign 24 = .ok (.aload_n 0, 1) := by decide +kernel
theorem dX11_sign_25 : decode cX11_sign 25 = .ok (.getfield 13, 3) := by decide +kernel
theorem dX11_sign_28 : decode cX11_sign 28 = .ok (.aload_n 0, 1) := by decide +kernel
theorem dX11_sign_29 : decode cX11_sign 29 = .ok (.dup, 1) := by decide +kernel
theorem dX11_sign_30 : decode cX11_sign 30 = .ok (.getfield 103, 3) := by decide +kernel
theorem dX11_sign_33 : decode cX11_sign 33 = .ok (.dup_x1, 1) := by decide +kernel
theorem dX11_sign_34 : decode cX11_sign 34 = .ok (.iconst 1, 1) := by decide +kernel
theorem dX11_sign_35 : decode cX11_sign 35 = .ok (.iadd, 1) := by decide +kernel
theorem dX11_sign_36 : decode cX11_sign 36 = .ok (.putfield 103, 3) := by decide +kernel
theorem dX11_sign_39 : decode cX11_sign 39 = .ok (.iload_n 1, 1) := by decide +kernel
theorem dX11_sign_40 : decode cX11_sign 40 = .ok (.bipush 8, 2) := by decide +kernel
theorem dX11_sign_42 : decode cX11_sign 42 = .ok (.iload_n 2, 1) := by decide +kernel
theorem dX11_sign_43 : decode cX11_sign 43 = .ok (.imul, 1) := by decide +kernel
theorem dX11_sign_44 : decode cX11_sign 44 = .ok (.ishr, 1) := by decide +kernel
theorem dX11_sign_45 : decode cX11_sign 45 = .ok (.i2b, 1) := by decide +kernel
theorem dX11_sign_46 : decode cX11_sign 46 = .ok (.bastore, 1) := by decide +kernel
theorem dX11_sign_47 : decode cX11_sign 47 = .ok (.iinc 2 (-1), 3) := by decide +kernel
theorem dX11_sign_50 : decode cX11_sign 50 = .ok (.goto (-30), 3) := by decide +kernel
theorem dX11_sign_53 : decode cX11_sign 53 = .ok (.aload_n 0, 1) := by decide +kernel
theorem dX11_sign_54 : decode cX11_sign 54 = .ok (.getfield 103, 3) := by decide +kernel
theorem dX11_sign_57 : decode cX11_sign 57 = .ok (.ireturn, 1) := by decide +kernel
theorem dX11_end_0 : decode cX11_end 0 = .ok (.aload_n 0, 1) := by decide +kernel
theorem dX11_end_1 : decode cX11_end 1 = .ok (.iconst 0, 1) := by decide +kernel
theorem dX11_end_2 : decode cX11_end 2 = .ok (.putfield 85, 3) := by decide +kernel
theorem dX11_end_5 : decode cX11_end 5 = .ok (.iload_n 1, 1) := by decide +kernel
theorem dX11_end_6 : decode cX11_end 6 = .ok (.iconst 0, 1) := by decide +kernel
theorem dX11_end_7 : decode cX11_end 7 = .ok (.aload_n 0, 1) := by decide +kernel
theorem dX11_end_8 : decode cX11_end 8 = .ok (.getfield 103, 3) := by decide +kernel
theorem dX11_end_11 : decode cX11_end 11 = .ok (.invokestatic 95, 3) := by decide +kernel
theorem dX11_end_14 : decode cX11_end 14 = .ok (.ifCond .ne 5, 3) := by decide +kernel
theorem dX11_end_17 : decode cX11_end 17 = .ok (.iconst 0, 1) := by decide +kernel
theorem dX11_end_18 : decode cX11_end 18 = .ok (.ireturn, 1) := by decide +kernel
theorem dX11_end_19 : decode cX11_end 19 = .ok (.aload_n 0, 1) := by decide +kernel
theorem dX11_end_20 : decode cX11_end 20 = .ok (.iload_n 1, 1) := by decide +kernel
theorem dX11_end_21 : decode cX11_end 21 = .ok (.putfield 103, 3) := by decide +kernel
theorem dX11_end_24 : decode cX11_end 24 = .ok (.iconst 1, 1) := by decide +kernel
theorem dX11_end_25 : decode cX11_end 25 = .ok (.ireturn, 1) := by decide +kernel
theorem dX11_begin_0 : decode cX11_begin 0 = .ok (.aload_n 0, 1) := by decide +kernel
theorem dX11_begin_1 : decode cX11_begin 1 = .ok (.aload_n 1, 1) := by decide +kernel
theorem dX11_begin_2 : decode cX11_begin 2 = .ok (.putfield 106, 3) := by decide +kernel
theorem dX11_begin_5 : decode cX11_begin 5 = .ok (.aload_n 0, 1) := by decide +kernel
theorem dX11_begin_6 : decode cX11_begin 6 = .ok (.iload_n 2, 1) := by decide +kernel
theorem dX11_begin_7 : decode cX11_begin 7 = .ok (.putfield 109, 3) := by decide +kernel
theorem dX11_begin_10 : decode cX11_begin 10 = .ok (.aload_n 0, 1) := by decide +kernel
theorem dX11_begin_11 : decode cX11_begin 11 = .ok (.iload_n 3, 1) := by decide +kernel
theorem dX11_begin_12 : decode cX11_begin 12 = .ok (.putfield 112, 3) := by decide +kernel
theorem dX11_begin_15 : decode cX11_begin 15 = .ok (.aload_n 0, 1) := by decide +kernel
theorem dX11_begin_16 : decode cX11_begin 16 = .ok (.iconst 0, 1) := by decide +kernel
theorem dX11_begin_17 : decode cX11_begin 17 = .ok (.putfield 115, 3) := by decide +kernel
theorem dX11_begin_20 : decode cX11_begin 20 = .ok (.aload_n 0, 1) := by decide +kernel
theorem dX11_begin_21 : decode cX11_begin 21 = .ok (.iconst (-1), 1) := by decide +kernel
theorem dX11_begin_22 : decode cX11_begin 22 = .ok (.putfield 118, 3) := by decide +kernel
theorem dX11_begin_25 : decode cX11_begin 25 = .ok (.return_, 1) := by decide +kernel
theorem dX11_beginText_0 : decode cX11_beginText 0 = .ok (.aload_n 0, 1) := by decide +kernel
theorem dX11_beginText_1 : decode cX11_beginText 1 = .ok (.aload_n 0, 1) := by decide +kernel
theorem dX11_beginText_2 : decode cX11_beginText 2 = .ok (.getfield 13, 3) := by decide +kernel
theorem dX11_beginText_5 : decode cX11_beginText 5 = .ok (.aload_n 0, 1) := by decide +kernel
theorem dX11_beginText_6 : decode cX11_beginText 6 = .ok (.getfield 103, 3) := by decide +kernel
theorem dX11_beginText_9 : decode cX11_beginText 9 = .ok (.iload_n 1, 1) := by decide +kernel
theorem dX11_beginText_10 : decode cX11_beginText 10 = .ok (.invokevirtual 121, 3) := by decide +kernel
theorem dX11_beginText_13 : decode cX11_beginText 13 = .ok (.aload_n 0, 1) := by decide +kernel
theorem dX11_beginText_14 : decode cX11_beginText 14 = .ok (.iconst 0, 1) := by decide +kernel
theorem dX11_beginText_15 : decode cX11_beginText 15 = .ok (.putfield 103, 3) := by decide +kernel
theorem dX11_beginText_18 : decode cX11_beginText 18 = .ok (.return_, 1) := by decide +kernel
theorem dX11_here_0 : decode cX11_here 0 = .ok (.aload_n 0, 1) := by decide +kernel
theorem dX11_here_1 : decode cX11_here 1 = .ok (.getfield 115, 3) := by decide +kernel
theorem dX11_here_4 : decode cX11_here 4 = .ok (.aload_n 0, 1) := by decide +kernel
theorem dX11_here_5 : decode cX11_here 5 = .ok (.getfield 109, 3) := by decide +kernel
theorem dX11_here_8 : decode cX11_here 8 = .ok (.if_icmp .ge 30, 3) := by decide +kernel
theorem dX11_here_11 : decode cX11_here 11 = .ok (.aload_n 0, 1) := by decide +kernel
theorem dX11_here_12 : decode cX11_here 12 = .ok (.getfield 115, 3) := by decide +kernel
theorem dX11_here_15 : decode cX11_here 15 = .ok (.aload_n 0, 1) := by decide +kernel
theorem dX11_here_16 : decode cX11_here 16 = .ok (.getfield 112, 3) := by decide +kernel
theorem dX11_here_19 : decode cX11_here 19 = .ok (.if_icmp .ge 19, 3) := by decide +kernel
theorem dX11_here_22 : decode cX11_here 22 = .ok (.aload_n 0, 1) := by decide +kernel
theorem dX11_here_23 : decode cX11_here 23 = .ok (.getfield 106, 3) := by decide +kernel
theorem dX11_here_26 : decode cX11_here 26 = .ok (.aload_n 0, 1) := by decide +kernel
theorem dX11_here_27 : decode cX11_here 27 = .ok (.getfield 115, 3) := by decide +kernel
theorem dX11_here_30 : decode cX11_here 30 = .ok (.baload, 1) := by decide +kernel
theorem dX11_here_31 : decode cX11_here 31 = .ok (.sipush 255, 3) := by decide +kernel
theorem dX11_here_34 : decode cX11_here 34 = .ok (.iand, 1) := by decide +kernel
theorem dX11_here_35 : decode cX11_here 35 = .ok (.goto 4, 3) := by decide +kernel
theorem dX11_here_38 : decode cX11_here 38 = .ok (.iconst (-1), 1) := by decide +kernel
theorem dX11_here_39 : decode cX11_here 39 = .ok (.ireturn, 1) := by decide +kernel
theorem dX11_fine_0 : decode cX11_fine 0 = .ok (.aload_n 0, 1) := by decide +kernel
theorem dX11_fine_1 : decode cX11_fine 1 = .ok (.getfield 118, 3) := by decide +kernel
theorem dX11_fine_4 : decode cX11_fine 4 = .ok (.iconst (-1), 1) := by decide +kernel
theorem dX11_fine_5 : decode cX11_fine 5 = .ok (.if_icmp .ne 7, 3) := by decide +kernel
theorem dX11_fine_8 : decode cX11_fine 8 = .ok (.iconst 1, 1) := by decide +kernel
theorem dX11_fine_9 : decode cX11_fine 9 = .ok (.goto 4, 3) := by decide +kernel
theorem dX11_fine_12 : decode cX11_fine 12 = .ok (.iconst 0, 1) := by decide +kernel
theorem dX11_fine_13 : decode cX11_fine 13 = .ok (.ireturn, 1) := by decide +kernel
theorem dX11_fault_0 : decode cX11_fault 0 = .ok (.aload_n 0, 1) := by decide +kernel
theorem dX11_fault_1 : decode cX11_fault 1 = .ok (.invokevirtual 125, 3) := by decide +kernel
theorem dX11_fault_4 : decode cX11_fault 4 = .ok (.ifCond .eq 8, 3) := by decide +kernel
theorem dX11_fault_7 : decode cX11_fault 7 = .ok (.aload_n 0, 1) := by decide +kernel
theorem dX11_fault_8 : decode cX11_fault 8 = .ok (.iload_n 1, 1) := by decide +kernel
theorem dX11_fault_9 : decode cX11_fault 9 = .ok (.putfield 118, 3) := by decide +kernel
theorem dX11_fault_12 : decode cX11_fault 12 = .ok (.return_, 1) := by decide +kernel
theorem dX11_passes_0 : decode cX11_passes 0 = .ok (.aload_n 0, 1) := by decide +kernel
theorem dX11_passes_1 : decode cX11_passes 1 = .ok (.invokevirtual 125, 3) := by decide +kernel
theorem dX11_passes_4 : decode cX11_passes 4 = .ok (.ifCond .eq 11, 3) := by decide +kernel
theorem dX11_passes_7 : decode cX11_passes 7 = .ok (.aload_n 0, 1) := by decide +kernel
theorem dX11_passes_8 : decode cX11_passes 8 = .ok (.invokevirtual 129, 3) := by decide +kernel
theorem dX11_passes_11 : decode cX11_passes 11 = .ok (.iload_n 1, 1) := by decide +kernel
theorem dX11_passes_12 : decode cX11_passes 12 = .ok (.if_icmp .eq 5, 3) := by decide +kernel
theorem dX11_passes_15 : decode cX11_passes 15 = .ok (.iconst 0, 1) := by decide +kernel
theorem dX11_passes_16 : decode cX11_passes 16 = .ok (.ireturn, 1) := by decide +kernel
theorem dX11_passes_17 : decode cX11_passes 17 = .ok (.aload_n 0, 1) := by decide +kernel
theorem dX11_passes_18 : decode cX11_passes 18 = .ok (.dup, 1) := by decide +kernel
theorem dX11_passes_19 : decode cX11_passes 19 = .ok (.getfield 115, 3) := by decide +kernel
theorem dX11_passes_22 : decode cX11_passes 22 = .ok (.iconst 1, 1) := by decide +kernel
theorem dX11_passes_23 : decode cX11_passes 23 = .ok (.iadd, 1) := by decide +kernel
theorem dX11_passes_24 : decode cX11_passes 24 = .ok (.putfield 115, 3) := by decide +kernel
theorem dX11_passes_27 : decode cX11_passes 27 = .ok (.iconst 1, 1) := by decide +kernel
theorem dX11_passes_28 : decode cX11_passes 28 = .ok (.ireturn, 1) := by decide +kernel
theorem dX11_need_0 : decode cX11_need 0 = .ok (.aload_n 0, 1) := by decide +kernel
theorem dX11_need_1 : decode cX11_need 1 = .ok (.iload_n 1, 1) := by decide +kernel
theorem dX11_need_2 : decode cX11_need 2 = .ok (.invokevirtual 133, 3) := by decide +kernel
theorem dX11_need_5 : decode cX11_need 5 = .ok (.ifCond .ne 11, 3) := by decide +kernel
theorem dX11_need_8 : decode cX11_need 8 = .ok (.aload_n 0, 1) := by decide +kernel
theorem dX11_need_9 : decode cX11_need 9 = .ok (.aload_n 0, 1) := by decide +kernel
theorem dX11_need_10 : decode cX11_need 10 = .ok (.getfield 115, 3) := by decide +kernel
theorem dX11_need_13 : decode cX11_need 13 = .ok (.invokevirtual 137, 3) := by decide +kernel
theorem dX11_need_16 : decode cX11_need 16 = .ok (.return_, 1) := by decide +kernel
theorem dX11_oneOf_0 : decode cX11_oneOf 0 = .ok (.aload_n 0, 1) := by decide +kernel
theorem dX11_oneOf_1 : decode cX11_oneOf 1 = .ok (.invokevirtual 125, 3) := by decide +kernel
theorem dX11_oneOf_4 : decode cX11_oneOf 4 = .ok (.ifCond .ne 5, 3) := by decide +kernel
theorem dX11_oneOf_7 : decode cX11_oneOf 7 = .ok (.iconst 0, 1) := by decide +kernel
theorem dX11_oneOf_8 : decode cX11_oneOf 8 = .ok (.ireturn, 1) := by decide +kernel
theorem dX11_oneOf_9 : decode cX11_oneOf 9 = .ok (.aload_n 0, 1) := by decide +kernel
theorem dX11_oneOf_10 : decode cX11_oneOf 10 = .ok (.invokevirtual 129, 3) := by decide +kernel
theorem dX11_oneOf_13 : decode cX11_oneOf 13 = .ok (.iload_n 1, 1) := by decide +kernel
theorem dX11_oneOf_14 : decode cX11_oneOf 14 = .ok (.iload_n 1, 1) := by decide +kernel
theorem dX11_oneOf_15 : decode cX11_oneOf 15 = .ok (.iload_n 2, 1) := by decide +kernel
theorem dX11_oneOf_16 : decode cX11_oneOf 16 = .ok (.iadd, 1) := by decide +kernel
theorem dX11_oneOf_17 : decode cX11_oneOf 17 = .ok (.iconst 1, 1) := by decide +kernel
theorem dX11_oneOf_18 : decode cX11_oneOf 18 = .ok (.isub, 1) := by decide +kernel
theorem dX11_oneOf_19 : decode cX11_oneOf 19 = .ok (.invokestatic 95, 3) := by decide +kernel
theorem dX11_oneOf_22 : decode cX11_oneOf 22 = .ok (.ifCond .ne 13, 3) := by decide +kernel
theorem dX11_oneOf_25 : decode cX11_oneOf 25 = .ok (.aload_n 0, 1) := by decide +kernel
theorem dX11_oneOf_26 : decode cX11_oneOf 26 = .ok (.aload_n 0, 1) := by decide +kernel
theorem dX11_oneOf_27 : decode cX11_oneOf 27 = .ok (.getfield 115, 3) := by decide +kernel
theorem dX11_oneOf_30 : decode cX11_oneOf 30 = .ok (.invokevirtual 137, 3) := by decide +kernel
theorem dX11_oneOf_33 : decode cX11_oneOf 33 = .ok (.iconst 0, 1) := by decide +kernel
theorem dX11_oneOf_34 : decode cX11_oneOf 34 = .ok (.ireturn, 1) := by decide +kernel
theorem dX11_oneOf_35 : decode cX11_oneOf 35 = .ok (.aload_n 0, 1) := by decide +kernel
theorem dX11_oneOf_36 : decode cX11_oneOf 36 = .ok (.dup, 1) := by decide +kernel
theorem dX11_oneOf_37 : decode cX11_oneOf 37 = .ok (.getfield 115, 3) := by decide +kernel
theorem dX11_oneOf_40 : decode cX11_oneOf 40 = .ok (.iconst 1, 1) := by decide +kernel
theorem dX11_oneOf_41 : decode cX11_oneOf 41 = .ok (.iadd, 1) := by decide +kernel
theorem dX11_oneOf_42 : decode cX11_oneOf 42 = .ok (.putfield 115, 3) := by decide +kernel
theorem dX11_oneOf_45 : decode cX11_oneOf 45 = .ok (.aload_n 0, 1) := by decide +kernel
theorem dX11_oneOf_46 : decode cX11_oneOf 46 = .ok (.getfield 106, 3) := by decide +kernel
theorem dX11_oneOf_49 : decode cX11_oneOf 49 = .ok (.aload_n 0, 1) := by decide +kernel
theorem dX11_oneOf_50 : decode cX11_oneOf 50 = .ok (.getfield 115, 3) := by decide +kernel
theorem dX11_oneOf_53 : decode cX11_oneOf 53 = .ok (.iconst 1, 1) := by decide +kernel
theorem dX11_oneOf_54 : decode cX11_oneOf 54 = .ok (.isub, 1) := by decide +kernel
theorem dX11_oneOf_55 : decode cX11_oneOf 55 = .ok (.baload, 1) := by decide +kernel
theorem dX11_oneOf_56 : decode cX11_oneOf 56 = .ok (.iload_n 1, 1) := by decide +kernel
theorem dX11_oneOf_57 : decode cX11_oneOf 57 = .ok (.isub, 1) := by decide +kernel
theorem dX11_oneOf_58 : decode cX11_oneOf 58 = .ok (.ireturn, 1) := by decide +kernel
theorem dX11_number_0 : decode cX11_number 0 = .ok (.aload_n 0, 1) := by decide +kernel
theorem dX11_number_1 : decode cX11_number 1 = .ok (.bipush 48, 2) := by decide +kernel
theorem dX11_number_3 : decode cX11_number 3 = .ok (.bipush 10, 2) := by decide +kernel
theorem dX11_number_5 : decode cX11_number 5 = .ok (.invokevirtual 141, 3) := by decide +kernel
theorem dX11_number_8 : decode cX11_number 8 = .ok (.istore_n 2, 1) := by decide +kernel
theorem dX11_number_9 : decode cX11_number 9 = .ok (.iconst 1, 1) := by decide +kernel
theorem dX11_number_10 : decode cX11_number 10 = .ok (.istore_n 3, 1) := by decide +kernel
theorem dX11_number_11 : decode cX11_number 11 = .ok (.iload_n 3, 1) := by decide +kernel
theorem dX11_number_12 : decode cX11_number 12 = .ok (.iload_n 1, 1) := by decide +kernel
theorem dX11_number_13 : decode cX11_number 13 = .ok (.if_icmp .ge 44, 3) := by decide +kernel
theorem dX11_number_16 : decode cX11_number 16 = .ok (.aload_n 0, 1) := by decide +kernel
theorem dX11_number_17 : decode cX11_number 17 = .ok (.invokevirtual 125, 3) := by decide +kernel
theorem dX11_number_20 : decode cX11_number 20 = .ok (.ifCond .eq 37, 3) := by decide +kernel
theorem dX11_number_23 : decode cX11_number 23 = .ok (.aload_n 0, 1) := by decide +kernel
theorem dX11_number_24 : decode cX11_number 24 = .ok (.invokevirtual 129, 3) := by decide +kernel
theorem dX11_number_27 : decode cX11_number 27 = .ok (.bipush 48, 2) := by decide +kernel
theorem dX11_number_29 : decode cX11_number 29 = .ok (.bipush 57, 2) := by decide +kernel
theorem dX11_number_31 : decode cX11_number 31 = .ok (.invokestatic 95, 3) := by decide +kernel
theorem dX11_number_34 : decode cX11_number 34 = .ok (.ifCond .eq 23, 3) := by decide +kernel
theorem dX11_number_37 : decode cX11_number 37 = .ok (.bipush 10, 2) := by decide +kernel
theorem dX11_number_39 : decode cX11_number 39 = .ok (.iload_n 2, 1) := by decide +kernel
theorem dX11_number_40 : decode cX11_number 40 = .ok (.imul, 1) := by decide +kernel
theorem dX11_number_41 : decode cX11_number 41 = .ok (.aload_n 0, 1) := by decide +kernel
theorem dX11_number_42 : decode cX11_number 42 = .ok (.bipush 48, 2) := by decide +kernel
theorem dX11_number_44 : decode cX11_number 44 = .ok (.bipush 10, 2) := by decide +kernel
theorem dX11_number_46 : decode cX11_number 46 = .ok (.invokevirtual 141, 3) := by decide +kernel
theorem dX11_number_49 : decode cX11_number 49 = .ok (.iadd, 1) := by decide +kernel
theorem dX11_number_50 : decode cX11_number 50 = .ok (.istore_n 2, 1) := by decide +kernel
theorem dX11_number_51 : decode cX11_number 51 = .ok (.iinc 3 1, 3) := by decide +kernel
theorem dX11_number_54 : decode cX11_number 54 = .ok (.goto (-43), 3) := by decide +kernel
theorem dX11_number_57 : decode cX11_number 57 = .ok (.iload_n 2, 1) := by decide +kernel
theorem dX11_number_58 : decode cX11_number 58 = .ok (.ireturn, 1) := by decide +kernel
theorem dX11_wasRight_0 : decode cX11_wasRight 0 = .ok (.aload_n 0, 1) := by decide +kernel
theorem dX11_wasRight_1 : decode cX11_wasRight 1 = .ok (.getfield 115, 3) := by decide +kernel
theorem dX11_wasRight_4 : decode cX11_wasRight 4 = .ok (.aload_n 0, 1) := by decide +kernel
theorem dX11_wasRight_5 : decode cX11_wasRight 5 = .ok (.getfield 109, 3) := by decide +kernel
theorem dX11_wasRight_8 : decode cX11_wasRight 8 = .ok (.if_icmp .ge 11, 3) := by decide +kernel
theorem dX11_wasRight_11 : decode cX11_wasRight 11 = .ok (.aload_n 0, 1) := by decide +kernel
theorem dX11_wasRight_12 : decode cX11_wasRight 12 = .ok (.aload_n 0, 1) := by decide +kernel
theorem dX11_wasRight_13 : decode cX11_wasRight 13 = .ok (.getfield 115, 3) := by decide +kernel
theorem dX11_wasRight_16 : decode cX11_wasRight 16 = .ok (.invokevirtual 137, 3) := by decide +kernel
theorem dX11_wasRight_19 : decode cX11_wasRight 19 = .ok (.aload_n 0, 1) := by decide +kernel
theorem dX11_wasRight_20 : decode cX11_wasRight 20 = .ok (.invokevirtual 125, 3) := by decide +kernel
theorem dX11_wasRight_23 : decode cX11_wasRight 23 = .ok (.ireturn, 1) := by decide +kernel
theorem dX11_told_0 : decode cX11_told 0 = .ok (.aload_n 0, 1) := by decide +kernel
theorem dX11_told_1 : decode cX11_told 1 = .ok (.iconst 0, 1) := by decide +kernel
theorem dX11_told_2 : decode cX11_told 2 = .ok (.putfield 145, 3) := by decide +kernel
theorem dX11_told_5 : decode cX11_told 5 = .ok (.aload_n 0, 1) := by decide +kernel
theorem dX11_told_6 : decode cX11_told 6 = .ok (.dup, 1) := by decide +kernel
theorem dX11_told_7 : decode cX11_told 7 = .ok (.getfield 148, 3) := by decide +kernel
theorem dX11_told_10 : decode cX11_told 10 = .ok (.iconst 1, 1) := by decide +kernel
theorem dX11_told_11 : decode cX11_told 11 = .ok (.iadd, 1) := by decide +kernel
theorem dX11_told_12 : decode cX11_told 12 = .ok (.putfield 148, 3) := by decide +kernel
theorem dX11_told_15 : decode cX11_told 15 = .ok (.return_, 1) := by decide +kernel
theorem dX11_people_0 : decode cX11_people 0 = .ok (.aload_n 0, 1) := by decide +kernel
theorem dX11_people_1 : decode cX11_people 1 = .ok (.iconst 0, 1) := by decide +kernel
theorem dX11_people_2 : decode cX11_people 2 = .ok (.putfield 85, 3) := by decide +kernel
theorem dX11_people_5 : decode cX11_people 5 = .ok (.aload_n 0, 1) := by decide +kernel
theorem dX11_people_6 : decode cX11_people 6 = .ok (.bipush 20, 2) := by decide +kernel
theorem dX11_people_8 : decode cX11_people 8 = .ok (.invokevirtual 151, 3) := by decide +kernel
theorem dX11_people_11 : decode cX11_people 11 = .ok (.aload_n 0, 1) := by decide +kernel
theorem dX11_people_12 : decode cX11_people 12 = .ok (.getfield 109, 3) := by decide +kernel
theorem dX11_people_15 : decode cX11_people 15 = .ok (.ifCond .ne 5, 3) := by decide +kernel
theorem dX11_people_18 : decode cX11_people 18 = .ok (.iconst 0, 1) := by decide +kernel
theorem dX11_people_19 : decode cX11_people 19 = .ok (.ireturn, 1) := by decide +kernel
theorem dX11_people_20 : decode cX11_people 20 = .ok (.iconst 0, 1) := by decide +kernel
theorem dX11_people_21 : decode cX11_people 21 = .ok (.istore_n 1, 1) := by decide +kernel
theorem dX11_people_22 : decode cX11_people 22 = .ok (.iconst 1, 1) := by decide +kernel
theorem dX11_people_23 : decode cX11_people 23 = .ok (.istore_n 2, 1) := by decide +kernel
theorem dX11_people_24 : decode cX11_people 24 = .ok (.iload_n 2, 1) := by decide +kernel
theorem dX11_people_25 : decode cX11_people 25 = .ok (.ifCond .eq 79, 3) := by decide +kernel
theorem dX11_people_28 : decode cX11_people 28 = .ok (.aload_n 0, 1) := by decide +kernel
theorem dX11_people_29 : decode cX11_people 29 = .ok (.invokevirtual 125, 3) := by decide +kernel
theorem dX11_people_32 : decode cX11_people 32 = .ok (.ifCond .eq 72, 3) := by decide +kernel
theorem dX11_people_35 : decode cX11_people 35 = .ok (.aload_n 0, 1) := by decide +kernel
theorem dX11_people_36 : decode cX11_people 36 = .ok (.getfield 92, 3) := by decide +kernel
theorem dX11_people_39 : decode cX11_people 39 = .ok (.iload_n 1, 1) := by decide +kernel
theorem dX11_people_40 : decode cX11_people 40 = .ok (.iadd, 1) := by decide +kernel
theorem dX11_people_41 : decode cX11_people 41 = .ok (.bipush 7, 2) := by decide +kernel
theorem dX11_people_43 : decode cX11_people 43 = .ok (.if_icmp .ne 14, 3) := by decide +kernel
theorem dX11_people_46 : decode cX11_people 46 = .ok (.aload_n 0, 1) := by decide +kernel
theorem dX11_people_47 : decode cX11_people 47 = .ok (.aload_n 0, 1) := by decide +kernel
theorem dX11_people_48 : decode cX11_people 48 = .ok (.getfield 115, 3) := by decide +kernel
theorem dX11_people_51 : decode cX11_people 51 = .ok (.invokevirtual 137, 3) := by decide +kernel
theorem dX11_people_54 : decode cX11_people 54 = .ok (.goto 37, 3) := by decide +kernel
theorem dX11_people_57 : decode cX11_people 57 = .ok (.aload_n 0, 1) := by decide +kernel
theorem dX11_people_58 : decode cX11_people 58 = .ok (.getfield 21, 3) := by decide +kernel
theorem dX11_people_61 : decode cX11_people 61 = .ok (.iconst 2, 1) := by decide +kernel
theorem dX11_people_62 : decode cX11_people 62 = .ok (.iload_n 1, 1) := by decide +kernel
theorem dX11_people_63 : decode cX11_people 63 = .ok (.imul, 1) := by decide +kernel
theorem dX11_people_64 : decode cX11_people 64 = .ok (.aload_n 0, 1) := by decide +kernel
theorem dX11_people_65 : decode cX11_people 65 = .ok (.bipush 48, 2) := by decide +kernel
theorem dX11_people_67 : decode cX11_people 67 = .ok (.bipush 10, 2) := by decide +kernel
theorem dX11_people_69 : decode cX11_people 69 = .ok (.invokevirtual 141, 3) := by decide +kernel
theorem dX11_people_72 : decode cX11_people 72 = .ok (.iastore, 1) := by decide +kernel
theorem dX11_people_73 : decode cX11_people 73 = .ok (.aload_n 0, 1) := by decide +kernel
theorem dX11_people_74 : decode cX11_people 74 = .ok (.getfield 21, 3) := by decide +kernel
theorem dX11_people_77 : decode cX11_people 77 = .ok (.iconst 2, 1) := by decide +kernel
theorem dX11_people_78 : decode cX11_people 78 = .ok (.iload_n 1, 1) := by decide +kernel
theorem dX11_people_79 : decode cX11_people 79 = .ok (.imul, 1) := by decide +kernel
theorem dX11_people_80 : decode cX11_people 80 = .ok (.iconst 1, 1) := by decide +kernel
theorem dX11_people_81 : decode cX11_people 81 = .ok (.iadd, 1) := by decide +kernel
theorem dX11_people_82 : decode cX11_people 82 = .ok (.aload_n 0, 1) := by decide +kernel
theorem dX11_people_83 : decode cX11_people 83 = .ok (.bipush 48, 2) := by decide +kernel
theorem dX11_people_85 : decode cX11_people 85 = .ok (.bipush 10, 2) := by decide +kernel
theorem dX11_people_87 : decode cX11_people 87 = .ok (.invokevirtual 141, 3) := by decide +kernel
theorem dX11_people_90 : decode cX11_people 90 = .ok (.iastore, 1) := by decide +kernel
theorem dX11_people_91 : decode cX11_people 91 = .ok (.iinc 1 1, 3) := by decide +kernel
theorem dX11_people_94 : decode cX11_people 94 = .ok (.aload_n 0, 1) := by decide +kernel
theorem dX11_people_95 : decode cX11_people 95 = .ok (.bipush 59, 2) := by decide +kernel
theorem dX11_people_97 : decode cX11_people 97 = .ok (.invokevirtual 133, 3) := by decide +kernel
theorem dX11_people_100 : decode cX11_people 100 = .ok (.istore_n 2, 1) := by decide +kernel
theorem dX11_people_101 : decode cX11_people 101 = .ok (.goto (-77), 3) := by decide +kernel
theorem dX11_people_104 : decode cX11_people 104 = .ok (.aload_n 0, 1) := by decide +kernel
theorem dX11_people_105 : decode cX11_people 105 = .ok (.invokevirtual 154, 3) := by decide +kernel
theorem dX11_people_108 : decode cX11_people 108 = .ok (.ifCond .ne 10, 3) := by decide +kernel
theorem dX11_people_111 : decode cX11_people 111 = .ok (.iconst (-1), 1) := by decide +kernel
theorem dX11_people_112 : decode cX11_people 112 = .ok (.aload_n 0, 1) := by decide +kernel
theorem dX11_people_113 : decode cX11_people 113 = .ok (.getfield 118, 3) := by decide +kernel
theorem dX11_people_116 : decode cX11_people 116 = .ok (.isub, 1) := by decide +kernel
theorem dX11_people_117 : decode cX11_people 117 = .ok (.ireturn, 1) := by decide +kernel
theorem dX11_people_118 : decode cX11_people 118 = .ok (.iconst 0, 1) := by decide +kernel
theorem dX11_people_119 : decode cX11_people 119 = .ok (.istore_n 3, 1) := by decide +kernel
theorem dX11_people_120 : decode cX11_people 120 = .ok (.iload_n 3, 1) := by decide +kernel
theorem dX11_people_121 : decode cX11_people 121 = .ok (.iload_n 1, 1) := by decide +kernel
theorem dX11_people_122 : decode cX11_people 122 = .ok (.if_icmp .ge 97, 3) := by decide +kernel
theorem dX11_people_125 : decode cX11_people 125 = .ok (.aload_n 0, 1) := by decide +kernel
theorem dX11_people_126 : decode cX11_people 126 = .ok (.getfield 9, 3) := by decide +kernel
theorem dX11_people_129 : decode cX11_people 129 = .ok (.aload_n 0, 1) := by decide +kernel
theorem dX11_people_130 : decode cX11_people 130 = .ok (.getfield 92, 3) := by decide +kernel
theorem dX11_people_133 : decode cX11_people 133 = .ok (.aload_n 0, 1) := by decide +kernel
theorem dX11_people_134 : decode cX11_people 134 = .ok (.getfield 21, 3) := by decide +kernel
theorem dX11_people_137 : decode cX11_people 137 = .ok (.iconst 2, 1) := by decide +kernel
theorem dX11_people_138 : decode cX11_people 138 = .ok (.iload_n 3, 1) := by decide +kernel
theorem dX11_people_139 : decode cX11_people 139 = .ok (.imul, 1) := by decide +kernel
theorem dX11_people_140 : decode cX11_people 140 = .ok (.iaload, 1) := by decide +kernel
theorem dX11_people_141 : decode cX11_people 141 = .ok (.iastore, 1) := by decide +kernel
theorem dX11_people_142 : decode cX11_people 142 = .ok (.aload_n 0, 1) := by decide +kernel
theorem dX11_people_143 : decode cX11_people 143 = .ok (.getfield 9, 3) := by decide +kernel
theorem dX11_people_146 : decode cX11_people 146 = .ok (.bipush 7, 2) := by decide +kernel
theorem dX11_people_148 : decode cX11_people 148 = .ok (.aload_n 0, 1) := by decide +kernel
theorem dX11_people_149 : decode cX11_people 149 = .ok (.getfield 92, 3) := by decide +kernel
theorem dX11_people_152 : decode cX11_people 152 = .ok (.iadd, 1) := by decide +kernel
theorem dX11_people_153 : decode cX11_people 153 = .ok (.aload_n 0, 1) := by decide +kernel
theorem dX11_people_154 : decode cX11_people 154 = .ok (.getfield 21, 3) := by decide +kernel
theorem dX11_people_157 : decode cX11_people 157 = .ok (.iconst 2, 1) := by decide +kernel
theorem dX11_people_158 : decode cX11_people 158 = .ok (.iload_n 3, 1) := by decide +kernel
theorem dX11_people_159 : decode cX11_people 159 = .ok (.imul, 1) := by decide +kernel
theorem dX11_people_160 : decode cX11_people 160 = .ok (.iconst 1, 1) := by decide +kernel
theorem dX11_people_161 : decode cX11_people 161 = .ok (.iadd, 1) := by decide +kernel
theorem dX11_people_162 : decode cX11_people 162 = .ok (.iaload, 1) := by decide +kernel
theorem dX11_people_163 : decode cX11_people 163 = .ok (.iastore, 1) := by decide +kernel
theorem dX11_people_164 : decode cX11_people 164 = .ok (.aload_n 0, 1) := by decide +kernel
theorem dX11_people_165 : decode cX11_people 165 = .ok (.getfield 9, 3) := by decide +kernel
theorem dX11_people_168 : decode cX11_people 168 = .ok (.bipush 14, 2) := by decide +kernel
theorem dX11_people_170 : decode cX11_people 170 = .ok (.aload_n 0, 1) := by decide +kernel
theorem dX11_people_171 : decode cX11_people 171 = .ok (.getfield 92, 3) := by decide +kernel
theorem dX11_people_174 : decode cX11_people 174 = .ok (.iadd, 1) := by decide +kernel
theorem dX11_people_175 : decode cX11_people 175 = .ok (.iconst 0, 1) := by decide +kernel
theorem dX11_people_176 : decode cX11_people 176 = .ok (.iastore, 1) := by decide +kernel
theorem dX11_people_177 : decode cX11_people 177 = .ok (.aload_n 0, 1) := by decide +kernel
theorem dX11_people_178 : decode cX11_people 178 = .ok (.getfield 9, 3) := by decide +kernel
theorem dX11_people_181 : decode cX11_people 181 = .ok (.bipush 21, 2) := by decide +kernel
theorem dX11_people_183 : decode cX11_people 183 = .ok (.aload_n 0, 1) := by decide +kernel
theorem dX11_people_184 : decode cX11_people 184 = .ok (.getfield 92, 3) := by decide +kernel
theorem dX11_people_187 : decode cX11_people 187 = .ok (.iadd, 1) := by decide +kernel
theorem dX11_people_188 : decode cX11_people 188 = .ok (.iconst 0, 1) := by decide +kernel
theorem dX11_people_189 : decode cX11_people 189 = .ok (.iastore, 1) := by decide +kernel
theorem dX11_people_190 : decode cX11_people 190 = .ok (.aload_n 0, 1) := by decide +kernel
theorem dX11_people_191 : decode cX11_people 191 = .ok (.getfield 9, 3) := by decide +kernel
theorem dX11_people_194 : decode cX11_people 194 = .ok (.bipush 28, 2) := by decide +kernel
theorem dX11_people_196 : decode cX11_people 196 = .ok (.aload_n 0, 1) := by decide +kernel
theorem dX11_people_197 : decode cX11_people 197 = .ok (.getfield 92, 3) := by decide +kernel
theorem dX11_people_200 : decode cX11_people 200 = .ok (.iadd, 1) := by decide +kernel
theorem dX11_people_201 : decode cX11_people 201 = .ok (.iconst 0, 1) := by decide +kernel
theorem dX11_people_202 : decode cX11_people 202 = .ok (.iastore, 1) := by decide +kernel
theorem dX11_people_203 : decode cX11_people 203 = .ok (.aload_n 0, 1) := by decide +kernel
theorem dX11_people_204 : decode cX11_people 204 = .ok (.dup, 1) := by decide +kernel
theorem dX11_people_205 : decode cX11_people 205 = .ok (.getfield 92, 3) := by decide +kernel
theorem dX11_people_208 : decode cX11_people 208 = .ok (.iconst 1, 1) := by decide +kernel
theorem dX11_people_209 : decode cX11_people 209 = .ok (.iadd, 1) := by decide +kernel
theorem dX11_people_210 : decode cX11_people 210 = .ok (.putfield 92, 3) := by decide +kernel
theorem dX11_people_213 : decode cX11_people 213 = .ok (.iinc 3 1, 3) := by decide +kernel
theorem dX11_people_216 : decode cX11_people 216 = .ok (.goto (-96), 3) := by decide +kernel
theorem dX11_people_219 : decode cX11_people 219 = .ok (.aload_n 0, 1) := by decide +kernel
theorem dX11_people_220 : decode cX11_people 220 = .ok (.invokevirtual 157, 3) := by decide +kernel
theorem dX11_people_223 : decode cX11_people 223 = .ok (.iload_n 1, 1) := by decide +kernel
theorem dX11_people_224 : decode cX11_people 224 = .ok (.ireturn, 1) := by decide +kernel
theorem dX11_readWants_0 : decode cX11_readWants 0 = .ok (.aload_n 0, 1) := by decide +kernel
theorem dX11_readWants_1 : decode cX11_readWants 1 = .ok (.bipush 48, 2) := by decide +kernel
theorem dX11_readWants_3 : decode cX11_readWants 3 = .ok (.aload_n 0, 1) := by decide +kernel
theorem dX11_readWants_4 : decode cX11_readWants 4 = .ok (.getfield 92, 3) := by decide +kernel
theorem dX11_readWants_7 : decode cX11_readWants 7 = .ok (.invokevirtual 141, 3) := by decide +kernel
theorem dX11_readWants_10 : decode cX11_readWants 10 = .ok (.istore_n 1, 1) := by decide +kernel
theorem dX11_readWants_11 : decode cX11_readWants 11 = .ok (.iconst 0, 1) := by decide +kernel
theorem dX11_readWants_12 : decode cX11_readWants 12 = .ok (.istore_n 2, 1) := by decide +kernel
theorem dX11_readWants_13 : decode cX11_readWants 13 = .ok (.iconst (-1), 1) := by decide +kernel
theorem dX11_readWants_14 : decode cX11_readWants 14 = .ok (.istore_n 3, 1) := by decide +kernel
theorem dX11_readWants_15 : decode cX11_readWants 15 = .ok (.iconst 1, 1) := by decide +kernel
theorem dX11_readWants_16 : decode cX11_readWants 16 = .ok (.istore 4, 2) := by decide +kernel
theorem dX11_readWants_18 : decode cX11_readWants 18 = .ok (.iload 4, 2) := by decide +kernel
theorem dX11_readWants_20 : decode cX11_readWants 20 = .ok (.ifCond .eq 100, 3) := by decide +kernel
theorem dX11_readWants_23 : decode cX11_readWants 23 = .ok (.aload_n 0, 1) := by decide +kernel
theorem dX11_readWants_24 : decode cX11_readWants 24 = .ok (.invokevirtual 125, 3) := by decide +kernel
theorem dX11_readWants_27 : decode cX11_readWants 27 = .ok (.ifCond .eq 93, 3) := by decide +kernel
theorem dX11_readWants_30 : decode cX11_readWants 30 = .ok (.aload_n 0, 1) := by decide +kernel
theorem dX11_readWants_31 : decode cX11_readWants 31 = .ok (.invokevirtual 129, 3) := by decide +kernel
theorem dX11_readWants_34 : decode cX11_readWants 34 = .ok (.bipush 97, 2) := by decide +kernel
theorem dX11_readWants_36 : decode cX11_readWants 36 = .ok (.isub, 1) := by decide +kernel
theorem dX11_readWants_37 : decode cX11_readWants 37 = .ok (.istore 5, 2) := by decide +kernel
theorem dX11_readWants_39 : decode cX11_readWants 39 = .ok (.iload 5, 2) := by decide +kernel
theorem dX11_readWants_41 : decode cX11_readWants 41 = .ok (.iload_n 3, 1) := by decide +kernel
theorem dX11_readWants_42 : decode cX11_readWants 42 = .ok (.iconst 1, 1) := by decide +kernel
theorem dX11_readWants_43 : decode cX11_readWants 43 = .ok (.iadd, 1) := by decide +kernel
theorem dX11_readWants_44 : decode cX11_readWants 44 = .ok (.aload_n 0, 1) := by decide +kernel
theorem dX11_readWants_45 : decode cX11_readWants 45 = .ok (.getfield 92, 3) := by decide +kernel
theorem dX11_readWants_48 : decode cX11_readWants 48 = .ok (.iconst 1, 1) := by decide +kernel
theorem dX11_readWants_49 : decode cX11_readWants 49 = .ok (.isub, 1) := by decide +kernel
theorem dX11_readWants_50 : decode cX11_readWants 50 = .ok (.invokestatic 95, 3) := by decide +kernel
theorem dX11_readWants_53 : decode cX11_readWants 53 = .ok (.ifCond .eq 9, 3) := by decide +kernel
theorem dX11_readWants_56 : decode cX11_readWants 56 = .ok (.iload 5, 2) := by decide +kernel
theorem dX11_readWants_58 : decode cX11_readWants 58 = .ok (.iload_n 1, 1) := by decide +kernel
theorem dX11_readWants_59 : decode cX11_readWants 59 = .ok (.if_icmp .ne 14, 3) := by decide +kernel
theorem dX11_readWants_62 : decode cX11_readWants 62 = .ok (.aload_n 0, 1) := by decide +kernel
theorem dX11_readWants_63 : decode cX11_readWants 63 = .ok (.aload_n 0, 1) := by decide +kernel
theorem dX11_readWants_64 : decode cX11_readWants 64 = .ok (.getfield 115, 3) := by decide +kernel
theorem dX11_readWants_67 : decode cX11_readWants 67 = .ok (.invokevirtual 137, 3) := by decide +kernel
theorem dX11_readWants_70 : decode cX11_readWants 70 = .ok (.goto 23, 3) := by decide +kernel
theorem dX11_readWants_73 : decode cX11_readWants 73 = .ok (.iload_n 2, 1) := by decide +kernel
theorem dX11_readWants_74 : decode cX11_readWants 74 = .ok (.iconst 1, 1) := by decide +kernel
theorem dX11_readWants_75 : decode cX11_readWants 75 = .ok (.iload 5, 2) := by decide +kernel
theorem dX11_readWants_77 : decode cX11_readWants 77 = .ok (.ishl, 1) := by decide +kernel
theorem dX11_readWants_78 : decode cX11_readWants 78 = .ok (.ior, 1) := by decide +kernel
theorem dX11_readWants_79 : decode cX11_readWants 79 = .ok (.istore_n 2, 1) := by decide +kernel
theorem dX11_readWants_80 : decode cX11_readWants 80 = .ok (.iload 5, 2) := by decide +kernel
theorem dX11_readWants_82 : decode cX11_readWants 82 = .ok (.istore_n 3, 1) := by decide +kernel
theorem dX11_readWants_83 : decode cX11_readWants 83 = .ok (.aload_n 0, 1) := by decide +kernel
theorem dX11_readWants_84 : decode cX11_readWants 84 = .ok (.dup, 1) := by decide +kernel
theorem dX11_readWants_85 : decode cX11_readWants 85 = .ok (.getfield 115, 3) := by decide +kernel
theorem dX11_readWants_88 : decode cX11_readWants 88 = .ok (.iconst 1, 1) := by decide +kernel
theorem dX11_readWants_89 : decode cX11_readWants 89 = .ok (.iadd, 1) := by decide +kernel
theorem dX11_readWants_90 : decode cX11_readWants 90 = .ok (.putfield 115, 3) := by decide +kernel
theorem dX11_readWants_93 : decode cX11_readWants 93 = .ok (.aload_n 0, 1) := by decide +kernel
theorem dX11_readWants_94 : decode cX11_readWants 94 = .ok (.invokevirtual 129, 3) := by decide +kernel
theorem dX11_readWants_97 : decode cX11_readWants 97 = .ok (.iconst (-1), 1) := by decide +kernel
theorem dX11_readWants_98 : decode cX11_readWants 98 = .ok (.if_icmp .eq 16, 3) := by decide +kernel
theorem dX11_readWants_101 : decode cX11_readWants 101 = .ok (.aload_n 0, 1) := by decide +kernel
theorem dX11_readWants_102 : decode cX11_readWants 102 = .ok (.invokevirtual 129, 3) := by decide +kernel
theorem dX11_readWants_105 : decode cX11_readWants 105 = .ok (.bipush 59, 2) := by decide +kernel
theorem dX11_readWants_107 : decode cX11_readWants 107 = .ok (.if_icmp .eq 7, 3) := by decide +kernel
theorem dX11_readWants_110 : decode cX11_readWants 110 = .ok (.iconst 1, 1) := by decide +kernel
theorem dX11_readWants_111 : decode cX11_readWants 111 = .ok (.goto 4, 3) := by decide +kernel
theorem dX11_readWants_114 : decode cX11_readWants 114 = .ok (.iconst 0, 1) := by decide +kernel
theorem dX11_readWants_115 : decode cX11_readWants 115 = .ok (.istore 4, 2) := by decide +kernel
theorem dX11_readWants_117 : decode cX11_readWants 117 = .ok (.goto (-99), 3) := by decide +kernel
theorem dX11_readWants_120 : decode cX11_readWants 120 = .ok (.aload_n 0, 1) := by decide +kernel
theorem dX11_readWants_121 : decode cX11_readWants 121 = .ok (.invokevirtual 125, 3) := by decide +kernel
theorem dX11_readWants_124 : decode cX11_readWants 124 = .ok (.ifCond .eq 10, 3) := by decide +kernel
theorem dX11_readWants_127 : decode cX11_readWants 127 = .ok (.aload_n 0, 1) := by decide +kernel
theorem dX11_readWants_128 : decode cX11_readWants 128 = .ok (.getfield 21, 3) := by decide +kernel
theorem dX11_readWants_131 : decode cX11_readWants 131 = .ok (.iload_n 1, 1) := by decide +kernel
theorem dX11_readWants_132 : decode cX11_readWants 132 = .ok (.iload_n 2, 1) := by decide +kernel
theorem dX11_readWants_133 : decode cX11_readWants 133 = .ok (.iastore, 1) := by decide +kernel
theorem dX11_readWants_134 : decode cX11_readWants 134 = .ok (.return_, 1) := by decide +kernel
theorem dX11_wants_0 : decode cX11_wants 0 = .ok (.aload_n 0, 1) := by decide +kernel
theorem dX11_wants_1 : decode cX11_wants 1 = .ok (.iconst 0, 1) := by decide +kernel
theorem dX11_wants_2 : decode cX11_wants 2 = .ok (.putfield 85, 3) := by decide +kernel
theorem dX11_wants_5 : decode cX11_wants 5 = .ok (.aload_n 0, 1) := by decide +kernel
theorem dX11_wants_6 : decode cX11_wants 6 = .ok (.bipush 60, 2) := by decide +kernel
theorem dX11_wants_8 : decode cX11_wants 8 = .ok (.invokevirtual 151, 3) := by decide +kernel
theorem dX11_wants_11 : decode cX11_wants 11 = .ok (.aload_n 0, 1) := by decide +kernel
theorem dX11_wants_12 : decode cX11_wants 12 = .ok (.getfield 109, 3) := by decide +kernel
theorem dX11_wants_15 : decode cX11_wants 15 = .ok (.ifCond .ne 5, 3) := by decide +kernel
theorem dX11_wants_18 : decode cX11_wants 18 = .ok (.iconst 0, 1) := by decide +kernel
theorem dX11_wants_19 : decode cX11_wants 19 = .ok (.ireturn, 1) := by decide +kernel
theorem dX11_wants_20 : decode cX11_wants 20 = .ok (.iconst 0, 1) := by decide +kernel
theorem dX11_wants_21 : decode cX11_wants 21 = .ok (.istore_n 1, 1) := by decide +kernel
theorem dX11_wants_22 : decode cX11_wants 22 = .ok (.iload_n 1, 1) := by decide +kernel
theorem dX11_wants_23 : decode cX11_wants 23 = .ok (.aload_n 0, 1) := by decide +kernel
theorem dX11_wants_24 : decode cX11_wants 24 = .ok (.getfield 92, 3) := by decide +kernel
theorem dX11_wants_27 : decode cX11_wants 27 = .ok (.if_icmp .ge 24, 3) := by decide +kernel
theorem dX11_wants_30 : decode cX11_wants 30 = .ok (.aload_n 0, 1) := by decide +kernel
theorem dX11_wants_31 : decode cX11_wants 31 = .ok (.getfield 21, 3) := by decide +kernel
theorem dX11_wants_34 : decode cX11_wants 34 = .ok (.iload_n 1, 1) := by decide +kernel
theorem dX11_wants_35 : decode cX11_wants 35 = .ok (.aload_n 0, 1) := by decide +kernel
theorem dX11_wants_36 : decode cX11_wants 36 = .ok (.getfield 9, 3) := by decide +kernel
theorem dX11_wants_39 : decode cX11_wants 39 = .ok (.bipush 28, 2) := by decide +kernel
theorem dX11_wants_41 : decode cX11_wants 41 = .ok (.iload_n 1, 1) := by decide +kernel
theorem dX11_wants_42 : decode cX11_wants 42 = .ok (.iadd, 1) := by decide +kernel
theorem dX11_wants_43 : decode cX11_wants 43 = .ok (.iaload, 1) := by decide +kernel
theorem dX11_wants_44 : decode cX11_wants 44 = .ok (.iastore, 1) := by decide +kernel
theorem dX11_wants_45 : decode cX11_wants 45 = .ok (.iinc 1 1, 3) := by decide +kernel
theorem dX11_wants_48 : decode cX11_wants 48 = .ok (.goto (-26), 3) := by decide +kernel
theorem dX11_wants_51 : decode cX11_wants 51 = .ok (.iconst 0, 1) := by decide +kernel
theorem dX11_wants_52 : decode cX11_wants 52 = .ok (.istore_n 1, 1) := by decide +kernel
theorem dX11_wants_53 : decode cX11_wants 53 = .ok (.iconst 1, 1) := by decide +kernel
theorem dX11_wants_54 : decode cX11_wants 54 = .ok (.istore_n 2, 1) := by decide +kernel
theorem dX11_wants_55 : decode cX11_wants 55 = .ok (.iload_n 2, 1) := by decide +kernel
theorem dX11_wants_56 : decode cX11_wants 56 = .ok (.ifCond .eq 27, 3) := by decide +kernel
theorem dX11_wants_59 : decode cX11_wants 59 = .ok (.aload_n 0, 1) := by decide +kernel
theorem dX11_wants_60 : decode cX11_wants 60 = .ok (.invokevirtual 125, 3) := by decide +kernel
theorem dX11_wants_63 : decode cX11_wants 63 = .ok (.ifCond .eq 20, 3) := by decide +kernel
theorem dX11_wants_66 : decode cX11_wants 66 = .ok (.aload_n 0, 1) := by decide +kernel
theorem dX11_wants_67 : decode cX11_wants 67 = .ok (.invokevirtual 160, 3) := by decide +kernel
theorem dX11_wants_70 : decode cX11_wants 70 = .ok (.iinc 1 1, 3) := by decide +kernel
theorem dX11_wants_73 : decode cX11_wants 73 = .ok (.aload_n 0, 1) := by decide +kernel
theorem dX11_wants_74 : decode cX11_wants 74 = .ok (.bipush 59, 2) := by decide +kernel
theorem dX11_wants_76 : decode cX11_wants 76 = .ok (.invokevirtual 133, 3) := by decide +kernel
theorem dX11_wants_79 : decode cX11_wants 79 = .ok (.istore_n 2, 1) := by decide +kernel
theorem dX11_wants_80 : decode cX11_wants 80 = .ok (.goto (-25), 3) := by decide +kernel
theorem dX11_wants_83 : decode cX11_wants 83 = .ok (.aload_n 0, 1) := by decide +kernel
theorem dX11_wants_84 : decode cX11_wants 84 = .ok (.invokevirtual 154, 3) := by decide +kernel
theorem dX11_wants_87 : decode cX11_wants 87 = .ok (.ifCond .ne 10, 3) := by decide +kernel
theorem dX11_wants_90 : decode cX11_wants 90 = .ok (.iconst (-1), 1) := by decide +kernel
theorem dX11_wants_91 : decode cX11_wants 91 = .ok (.aload_n 0, 1) := by decide +kernel
theorem dX11_wants_92 : decode cX11_wants 92 = .ok (.getfield 118, 3) := by decide +kernel
theorem dX11_wants_95 : decode cX11_wants 95 = .ok (.isub, 1) := by decide +kernel
theorem dX11_wants_96 : decode cX11_wants 96 = .ok (.ireturn, 1) := by decide +kernel
theorem dX11_wants_97 : decode cX11_wants 97 = .ok (.iconst 0, 1) := by decide +kernel
theorem dX11_wants_98 : decode cX11_wants 98 = .ok (.istore_n 3, 1) := by decide +kernel
theorem dX11_wants_99 : decode cX11_wants 99 = .ok (.iload_n 3, 1) := by decide +kernel
theorem dX11_wants_100 : decode cX11_wants 100 = .ok (.aload_n 0, 1) := by decide +kernel
theorem dX11_wants_101 : decode cX11_wants 101 = .ok (.getfield 92, 3) := by decide +kernel
theorem dX11_wants_104 : decode cX11_wants 104 = .ok (.if_icmp .ge 24, 3) := by decide +kernel
theorem dX11_wants_107 : decode cX11_wants 107 = .ok (.aload_n 0, 1) := by decide +kernel
theorem dX11_wants_108 : decode cX11_wants 108 = .ok (.getfield 9, 3) := by decide +kernel
theorem dX11_wants_111 : decode cX11_wants 111 = .ok (.bipush 28, 2) := by decide +kernel
theorem dX11_wants_113 : decode cX11_wants 113 = .ok (.iload_n 3, 1) := by decide +kernel
theorem dX11_wants_114 : decode cX11_wants 114 = .ok (.iadd, 1) := by decide +kernel
theorem dX11_wants_115 : decode cX11_wants 115 = .ok (.aload_n 0, 1) := by decide +kernel
theorem dX11_wants_116 : decode cX11_wants 116 = .ok (.getfield 21, 3) := by decide +kernel
theorem dX11_wants_119 : decode cX11_wants 119 = .ok (.iload_n 3, 1) := by decide +kernel
theorem dX11_wants_120 : decode cX11_wants 120 = .ok (.iaload, 1) := by decide +kernel
theorem dX11_wants_121 : decode cX11_wants 121 = .ok (.iastore, 1) := by decide +kernel
theorem dX11_wants_122 : decode cX11_wants 122 = .ok (.iinc 3 1, 3) := by decide +kernel
theorem dX11_wants_125 : decode cX11_wants 125 = .ok (.goto (-26), 3) := by decide +kernel
theorem dX11_wants_128 : decode cX11_wants 128 = .ok (.aload_n 0, 1) := by decide +kernel
theorem dX11_wants_129 : decode cX11_wants 129 = .ok (.invokevirtual 157, 3) := by decide +kernel
theorem dX11_wants_132 : decode cX11_wants 132 = .ok (.iload_n 1, 1) := by decide +kernel
theorem dX11_wants_133 : decode cX11_wants 133 = .ok (.ireturn, 1) := by decide +kernel
theorem dX11_held_0 : decode cX11_held 0 = .ok (.aload_n 0, 1) := by decide +kernel
theorem dX11_held_1 : decode cX11_held 1 = .ok (.iload_n 1, 1) := by decide +kernel
theorem dX11_held_2 : decode cX11_held 2 = .ok (.invokevirtual 163, 3) := by decide +kernel
theorem dX11_held_5 : decode cX11_held 5 = .ok (.istore_n 2, 1) := by decide +kernel
theorem dX11_held_6 : decode cX11_held 6 = .ok (.aload_n 0, 1) := by decide +kernel
theorem dX11_held_7 : decode cX11_held 7 = .ok (.bipush 60, 2) := by decide +kernel
theorem dX11_held_9 : decode cX11_held 9 = .ok (.invokevirtual 133, 3) := by decide +kernel
theorem dX11_held_12 : decode cX11_held 12 = .ok (.ifCond .eq 18, 3) := by decide +kernel
theorem dX11_held_15 : decode cX11_held 15 = .ok (.iload_n 2, 1) := by decide +kernel
theorem dX11_held_16 : decode cX11_held 16 = .ok (.aload_n 0, 1) := by decide +kernel
theorem dX11_held_17 : decode cX11_held 17 = .ok (.iload_n 1, 1) := by decide +kernel
theorem dX11_held_18 : decode cX11_held 18 = .ok (.invokevirtual 163, 3) := by decide +kernel
theorem dX11_held_21 : decode cX11_held 21 = .ok (.if_icmp .ge 7, 3) := by decide +kernel
theorem dX11_held_24 : decode cX11_held 24 = .ok (.iconst 1, 1) := by decide +kernel
theorem dX11_held_25 : decode cX11_held 25 = .ok (.goto 4, 3) := by decide +kernel
theorem dX11_held_28 : decode cX11_held 28 = .ok (.iconst 0, 1) := by decide +kernel
theorem dX11_held_29 : decode cX11_held 29 = .ok (.ireturn, 1) := by decide +kernel
theorem dX11_held_30 : decode cX11_held 30 = .ok (.aload_n 0, 1) := by decide +kernel
theorem dX11_held_31 : decode cX11_held 31 = .ok (.bipush 62, 2) := by decide +kernel
theorem dX11_held_33 : decode cX11_held 33 = .ok (.invokevirtual 133, 3) := by decide +kernel
theorem dX11_held_36 : decode cX11_held 36 = .ok (.ifCond .eq 18, 3) := by decide +kernel
theorem dX11_held_39 : decode cX11_held 39 = .ok (.iload_n 2, 1) := by decide +kernel
theorem dX11_held_40 : decode cX11_held 40 = .ok (.aload_n 0, 1) := by decide +kernel
theorem dX11_held_41 : decode cX11_held 41 = .ok (.iload_n 1, 1) := by decide +kernel
theorem dX11_held_42 : decode cX11_held 42 = .ok (.invokevirtual 163, 3) := by decide +kernel
theorem dX11_held_45 : decode cX11_held 45 = .ok (.if_icmp .le 7, 3) := by decide +kernel
theorem dX11_held_48 : decode cX11_held 48 = .ok (.iconst 1, 1) := by decide +kernel
theorem dX11_held_49 : decode cX11_held 49 = .ok (.goto 4, 3) := by decide +kernel
theorem dX11_held_52 : decode cX11_held 52 = .ok (.iconst 0, 1) := by decide +kernel
theorem dX11_held_53 : decode cX11_held 53 = .ok (.ireturn, 1) := by decide +kernel
theorem dX11_held_54 : decode cX11_held 54 = .ok (.aload_n 0, 1) := by decide +kernel
theorem dX11_held_55 : decode cX11_held 55 = .ok (.bipush 61, 2) := by decide +kernel
theorem dX11_held_57 : decode cX11_held 57 = .ok (.invokevirtual 133, 3) := by decide +kernel
theorem dX11_held_60 : decode cX11_held 60 = .ok (.ifCond .eq 18, 3) := by decide +kernel
theorem dX11_held_63 : decode cX11_held 63 = .ok (.iload_n 2, 1) := by decide +kernel
theorem dX11_held_64 : decode cX11_held 64 = .ok (.aload_n 0, 1) := by decide +kernel
theorem dX11_held_65 : decode cX11_held 65 = .ok (.iload_n 1, 1) := by decide +kernel
theorem dX11_held_66 : decode cX11_held 66 = .ok (.invokevirtual 163, 3) := by decide +kernel
theorem dX11_held_69 : decode cX11_held 69 = .ok (.if_icmp .ne 7, 3) := by decide +kernel
theorem dX11_held_72 : decode cX11_held 72 = .ok (.iconst 1, 1) := by decide +kernel
theorem dX11_held_73 : decode cX11_held 73 = .ok (.goto 4, 3) := by decide +kernel
theorem dX11_held_76 : decode cX11_held 76 = .ok (.iconst 0, 1) := by decide +kernel
theorem dX11_held_77 : decode cX11_held 77 = .ok (.ireturn, 1) := by decide +kernel
theorem dX11_held_78 : decode cX11_held 78 = .ok (.iload_n 2, 1) := by decide +kernel
theorem dX11_held_79 : decode cX11_held 79 = .ok (.ireturn, 1) := by decide +kernel
theorem dX11_sum_0 : decode cX11_sum 0 = .ok (.aload_n 0, 1) := by decide +kernel
theorem dX11_sum_1 : decode cX11_sum 1 = .ok (.iload_n 1, 1) := by decide +kernel
theorem dX11_sum_2 : decode cX11_sum 2 = .ok (.invokevirtual 167, 3) := by decide +kernel
theorem dX11_sum_5 : decode cX11_sum 5 = .ok (.istore_n 2, 1) := by decide +kernel
theorem dX11_sum_6 : decode cX11_sum 6 = .ok (.aload_n 0, 1) := by decide +kernel
theorem dX11_sum_7 : decode cX11_sum 7 = .ok (.invokevirtual 125, 3) := by decide +kernel
theorem dX11_sum_10 : decode cX11_sum 10 = .ok (.ifCond .eq 72, 3) := by decide +kernel
theorem dX11_sum_13 : decode cX11_sum 13 = .ok (.aload_n 0, 1) := by decide +kernel
theorem dX11_sum_14 : decode cX11_sum 14 = .ok (.invokevirtual 129, 3) := by decide +kernel
theorem dX11_sum_17 : decode cX11_sum 17 = .ok (.bipush 43, 2) := by decide +kernel
theorem dX11_sum_19 : decode cX11_sum 19 = .ok (.if_icmp .eq 12, 3) := by decide +kernel
theorem dX11_sum_22 : decode cX11_sum 22 = .ok (.aload_n 0, 1) := by decide +kernel
theorem dX11_sum_23 : decode cX11_sum 23 = .ok (.invokevirtual 129, 3) := by decide +kernel
theorem dX11_sum_26 : decode cX11_sum 26 = .ok (.bipush 45, 2) := by decide +kernel
theorem dX11_sum_28 : decode cX11_sum 28 = .ok (.if_icmp .ne 54, 3) := by decide +kernel
theorem dX11_sum_31 : decode cX11_sum 31 = .ok (.aload_n 0, 1) := by decide +kernel
theorem dX11_sum_32 : decode cX11_sum 32 = .ok (.invokevirtual 129, 3) := by decide +kernel
theorem dX11_sum_35 : decode cX11_sum 35 = .ok (.bipush 43, 2) := by decide +kernel
theorem dX11_sum_37 : decode cX11_sum 37 = .ok (.if_icmp .ne 7, 3) := by decide +kernel
theorem dX11_sum_40 : decode cX11_sum 40 = .ok (.iconst 1, 1) := by decide +kernel
theorem dX11_sum_41 : decode cX11_sum 41 = .ok (.goto 4, 3) := by decide +kernel
theorem dX11_sum_44 : decode cX11_sum 44 = .ok (.iconst 0, 1) := by decide +kernel
theorem dX11_sum_45 : decode cX11_sum 45 = .ok (.istore_n 3, 1) := by decide +kernel
theorem dX11_sum_46 : decode cX11_sum 46 = .ok (.aload_n 0, 1) := by decide +kernel
theorem dX11_sum_47 : decode cX11_sum 47 = .ok (.dup, 1) := by decide +kernel
theorem dX11_sum_48 : decode cX11_sum 48 = .ok (.getfield 115, 3) := by decide +kernel
theorem dX11_sum_51 : decode cX11_sum 51 = .ok (.iconst 1, 1) := by decide +kernel
theorem dX11_sum_52 : decode cX11_sum 52 = .ok (.iadd, 1) := by decide +kernel
theorem dX11_sum_53 : decode cX11_sum 53 = .ok (.putfield 115, 3) := by decide +kernel
theorem dX11_sum_56 : decode cX11_sum 56 = .ok (.aload_n 0, 1) := by decide +kernel
theorem dX11_sum_57 : decode cX11_sum 57 = .ok (.iload_n 1, 1) := by decide +kernel
theorem dX11_sum_58 : decode cX11_sum 58 = .ok (.invokevirtual 167, 3) := by decide +kernel
theorem dX11_sum_61 : decode cX11_sum 61 = .ok (.istore 4, 2) := by decide +kernel
theorem dX11_sum_63 : decode cX11_sum 63 = .ok (.iload_n 3, 1) := by decide +kernel
theorem dX11_sum_64 : decode cX11_sum 64 = .ok (.ifCond .eq 10, 3) := by decide +kernel
theorem dX11_sum_67 : decode cX11_sum 67 = .ok (.iload_n 2, 1) := by decide +kernel
theorem dX11_sum_68 : decode cX11_sum 68 = .ok (.iload 4, 2) := by decide +kernel
theorem dX11_sum_70 : decode cX11_sum 70 = .ok (.iadd, 1) := by decide +kernel
theorem dX11_sum_71 : decode cX11_sum 71 = .ok (.goto 7, 3) := by decide +kernel
theorem dX11_sum_74 : decode cX11_sum 74 = .ok (.iload_n 2, 1) := by decide +kernel
theorem dX11_sum_75 : decode cX11_sum 75 = .ok (.iload 4, 2) := by decide +kernel
theorem dX11_sum_77 : decode cX11_sum 77 = .ok (.isub, 1) := by decide +kernel
theorem dX11_sum_78 : decode cX11_sum 78 = .ok (.istore_n 2, 1) := by decide +kernel
theorem dX11_sum_79 : decode cX11_sum 79 = .ok (.goto (-73), 3) := by decide +kernel
theorem dX11_sum_82 : decode cX11_sum 82 = .ok (.iload_n 2, 1) := by decide +kernel
theorem dX11_sum_83 : decode cX11_sum 83 = .ok (.ireturn, 1) := by decide +kernel
theorem dX11_product_0 : decode cX11_product 0 = .ok (.aload_n 0, 1) := by decide +kernel
theorem dX11_product_1 : decode cX11_product 1 = .ok (.iload_n 1, 1) := by decide +kernel
theorem dX11_product_2 : decode cX11_product 2 = .ok (.invokevirtual 170, 3) := by decide +kernel
theorem dX11_product_5 : decode cX11_product 5 = .ok (.istore_n 2, 1) := by decide +kernel
theorem dX11_product_6 : decode cX11_product 6 = .ok (.aload_n 0, 1) := by decide +kernel
theorem dX11_product_7 : decode cX11_product 7 = .ok (.invokevirtual 125, 3) := by decide +kernel
theorem dX11_product_10 : decode cX11_product 10 = .ok (.ifCond .eq 81, 3) := by decide +kernel
theorem dX11_product_13 : decode cX11_product 13 = .ok (.aload_n 0, 1) := by decide +kernel
theorem dX11_product_14 : decode cX11_product 14 = .ok (.invokevirtual 129, 3) := by decide +kernel
theorem dX11_product_17 : decode cX11_product 17 = .ok (.bipush 42, 2) := by decide +kernel
theorem dX11_product_19 : decode cX11_product 19 = .ok (.if_icmp .eq 12, 3) := by decide +kernel
theorem dX11_product_22 : decode cX11_product 22 = .ok (.aload_n 0, 1) := by decide +kernel
theorem dX11_product_23 : decode cX11_product 23 = .ok (.invokevirtual 129, 3) := by decide +kernel
theorem dX11_product_26 : decode cX11_product 26 = .ok (.bipush 47, 2) := by decide +kernel
theorem dX11_product_28 : decode cX11_product 28 = .ok (.if_icmp .ne 63, 3) := by decide +kernel
theorem dX11_product_31 : decode cX11_product 31 = .ok (.aload_n 0, 1) := by decide +kernel
theorem dX11_product_32 : decode cX11_product 32 = .ok (.invokevirtual 129, 3) := by decide +kernel
theorem dX11_product_35 : decode cX11_product 35 = .ok (.bipush 42, 2) := by decide +kernel
theorem dX11_product_37 : decode cX11_product 37 = .ok (.if_icmp .ne 7, 3) := by decide +kernel
theorem dX11_product_40 : decode cX11_product 40 = .ok (.iconst 1, 1) := by decide +kernel
theorem dX11_product_41 : decode cX11_product 41 = .ok (.goto 4, 3) := by decide +kernel
theorem dX11_product_44 : decode cX11_product 44 = .ok (.iconst 0, 1) := by decide +kernel
theorem dX11_product_45 : decode cX11_product 45 = .ok (.istore_n 3, 1) := by decide +kernel
theorem dX11_product_46 : decode cX11_product 46 = .ok (.aload_n 0, 1) := by decide +kernel
theorem dX11_product_47 : decode cX11_product 47 = .ok (.dup, 1) := by decide +kernel
theorem dX11_product_48 : decode cX11_product 48 = .ok (.getfield 115, 3) := by decide +kernel
theorem dX11_product_51 : decode cX11_product 51 = .ok (.iconst 1, 1) := by decide +kernel
theorem dX11_product_52 : decode cX11_product 52 = .ok (.iadd, 1) := by decide +kernel
theorem dX11_product_53 : decode cX11_product 53 = .ok (.putfield 115, 3) := by decide +kernel
theorem dX11_product_56 : decode cX11_product 56 = .ok (.aload_n 0, 1) := by decide +kernel
theorem dX11_product_57 : decode cX11_product 57 = .ok (.iload_n 1, 1) := by decide +kernel
theorem dX11_product_58 : decode cX11_product 58 = .ok (.invokevirtual 170, 3) := by decide +kernel
theorem dX11_product_61 : decode cX11_product 61 = .ok (.istore 4, 2) := by decide +kernel
theorem dX11_product_63 : decode cX11_product 63 = .ok (.iload_n 3, 1) := by decide +kernel
theorem dX11_product_64 : decode cX11_product 64 = .ok (.ifCond .eq 10, 3) := by decide +kernel
theorem dX11_product_67 : decode cX11_product 67 = .ok (.iload_n 2, 1) := by decide +kernel
theorem dX11_product_68 : decode cX11_product 68 = .ok (.iload 4, 2) := by decide +kernel
theorem dX11_product_70 : decode cX11_product 70 = .ok (.imul, 1) := by decide +kernel
theorem dX11_product_71 : decode cX11_product 71 = .ok (.goto 16, 3) := by decide +kernel
theorem dX11_product_74 : decode cX11_product 74 = .ok (.iload 4, 2) := by decide +kernel
theorem dX11_product_76 : decode cX11_product 76 = .ok (.ifCond .ne 7, 3) := by decide +kernel
theorem dX11_product_79 : decode cX11_product 79 = .ok (.iconst 0, 1) := by decide +kernel
theorem dX11_product_80 : decode cX11_product 80 = .ok (.goto 7, 3) := by decide +kernel
theorem dX11_product_83 : decode cX11_product 83 = .ok (.iload_n 2, 1) := by decide +kernel
theorem dX11_product_84 : decode cX11_product 84 = .ok (.iload 4, 2) := by decide +kernel
theorem dX11_product_86 : decode cX11_product 86 = .ok (.idiv, 1) := by decide +kernel
theorem dX11_product_87 : decode cX11_product 87 = .ok (.istore_n 2, 1) := by decide +kernel
theorem dX11_product_88 : decode cX11_product 88 = .ok (.goto (-82), 3) := by decide +kernel
theorem dX11_product_91 : decode cX11_product 91 = .ok (.iload_n 2, 1) := by decide +kernel
theorem dX11_product_92 : decode cX11_product 92 = .ok (.ireturn, 1) := by decide +kernel
theorem dX11_letterOf_0 : decode cX11_letterOf 0 = .ok (.iload_n 0, 1) := by decide +kernel
theorem dX11_letterOf_1 : decode cX11_letterOf 1 = .ok (.bipush 115, 2) := by decide +kernel
theorem dX11_letterOf_3 : decode cX11_letterOf 3 = .ok (.if_icmp .ne 7, 3) := by decide +kernel
