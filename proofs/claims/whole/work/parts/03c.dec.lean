theorem dX10_init_93 : decode cX10_init 93 = .ok (.new 57, 3) := by decide +kernel
theorem dX10_init_96 : decode cX10_init 96 = .ok (.dup, 1) := by decide +kernel
theorem dX10_init_97 : decode cX10_init 97 = .ok (.invokespecial 59, 3) := by decide +kernel
theorem dX10_init_100 : decode cX10_init 100 = .ok (.putfield 60, 3) := by decide +kernel
theorem dX10_init_103 : decode cX10_init 103 = .ok (.aload_n 0, 1) := by decide +kernel
theorem dX10_init_104 : decode cX10_init 104 = .ok (.new 64, 3) := by decide +kernel
theorem dX10_init_107 : decode cX10_init 107 = .ok (.dup, 1) := by decide +kernel
theorem dX10_init_108 : decode cX10_init 108 = .ok (.invokespecial 66, 3) := by decide +kernel
theorem dX10_init_111 : decode cX10_init 111 = .ok (.putfield 67, 3) := by decide +kernel
theorem dX10_init_114 : decode cX10_init 114 = .ok (.aload_n 0, 1) := by decide +kernel
theorem dX10_init_115 : decode cX10_init 115 = .ok (.new 71, 3) := by decide +kernel
theorem dX10_init_118 : decode cX10_init 118 = .ok (.dup, 1) := by decide +kernel
theorem dX10_init_119 : decode cX10_init 119 = .ok (.invokespecial 73, 3) := by decide +kernel
theorem dX10_init_122 : decode cX10_init 122 = .ok (.putfield 74, 3) := by decide +kernel
theorem dX10_init_125 : decode cX10_init 125 = .ok (.aload_n 0, 1) := by decide +kernel
theorem dX10_init_126 : decode cX10_init 126 = .ok (.new 78, 3) := by decide +kernel
theorem dX10_init_129 : decode cX10_init 129 = .ok (.dup, 1) := by decide +kernel
theorem dX10_init_130 : decode cX10_init 130 = .ok (.invokespecial 80, 3) := by decide +kernel
theorem dX10_init_133 : decode cX10_init 133 = .ok (.putfield 81, 3) := by decide +kernel
theorem dX10_init_136 : decode cX10_init 136 = .ok (.aload_n 0, 1) := by decide +kernel
theorem dX10_init_137 : decode cX10_init 137 = .ok (.iconst 0, 1) := by decide +kernel
theorem dX10_init_138 : decode cX10_init 138 = .ok (.putfield 85, 3) := by decide +kernel
theorem dX10_init_141 : decode cX10_init 141 = .ok (.aload_n 0, 1) := by decide +kernel
theorem dX10_init_142 : decode cX10_init 142 = .ok (.getfield 43, 3) := by decide +kernel
theorem dX10_init_145 : decode cX10_init 145 = .ok (.getstatic 89, 3) := by decide +kernel
theorem dX10_init_148 : decode cX10_init 148 = .ok (.getstatic 89, 3) := by decide +kernel
theorem dX10_init_151 : decode cX10_init 151 = .ok (.arraylength, 1) := by decide +kernel
theorem dX10_init_152 : decode cX10_init 152 = .ok (.aload_n 0, 1) := by decide +kernel
theorem dX10_init_153 : decode cX10_init 153 = .ok (.getfield 50, 3) := by decide +kernel
theorem dX10_init_156 : decode cX10_init 156 = .ok (.invokevirtual 93, 3) := by decide +kernel
theorem dX10_init_159 : decode cX10_init 159 = .ok (.pop, 1) := by decide +kernel
theorem dX10_init_160 : decode cX10_init 160 = .ok (.return_, 1) := by decide +kernel
theorem dX10_sign_0 : decode cX10_sign 0 = .ok (.aload_n 0, 1) := by decide +kernel
theorem dX10_sign_1 : decode cX10_sign 1 = .ok (.getfield 12, 3) := by decide +kernel
theorem dX10_sign_4 : decode cX10_sign 4 = .ok (.iload_n 1, 1) := by decide +kernel
theorem dX10_sign_5 : decode cX10_sign 5 = .ok (.invokevirtual 97, 3) := by decide +kernel
theorem dX10_sign_8 : decode cX10_sign 8 = .ok (.ifCond .eq 13, 3) := by decide +kernel
theorem dX10_sign_11 : decode cX10_sign 11 = .ok (.aload_n 0, 1) := by decide +kernel
theorem dX10_sign_12 : decode cX10_sign 12 = .ok (.getfield 12, 3) := by decide +kernel
theorem dX10_sign_15 : decode cX10_sign 15 = .ok (.getfield 101, 3) := by decide +kernel
theorem dX10_sign_18 : decode cX10_sign 18 = .ok (.goto 4, 3) := by decide +kernel
theorem dX10_sign_21 : decode cX10_sign 21 = .ok (.iconst (-1), 1) := by decide +kernel
theorem dX10_sign_22 : decode cX10_sign 22 = .ok (.ireturn, 1) := by decide +kernel
theorem dX10_end_0 : decode cX10_end 0 = .ok (.aload_n 0, 1) := by decide +kernel
theorem dX10_end_1 : decode cX10_end 1 = .ok (.getfield 12, 3) := by decide +kernel
theorem dX10_end_4 : decode cX10_end 4 = .ok (.iload_n 1, 1) := by decide +kernel
theorem dX10_end_5 : decode cX10_end 5 = .ok (.invokevirtual 104, 3) := by decide +kernel
theorem dX10_end_8 : decode cX10_end 8 = .ok (.ireturn, 1) := by decide +kernel
theorem dX10_people_0 : decode cX10_people 0 = .ok (.aload_n 0, 1) := by decide +kernel
theorem dX10_people_1 : decode cX10_people 1 = .ok (.getfield 12, 3) := by decide +kernel
theorem dX10_people_4 : decode cX10_people 4 = .ok (.getfield 101, 3) := by decide +kernel
theorem dX10_people_7 : decode cX10_people 7 = .ok (.istore_n 1, 1) := by decide +kernel
theorem dX10_people_8 : decode cX10_people 8 = .ok (.iload_n 1, 1) := by decide +kernel
theorem dX10_people_9 : decode cX10_people 9 = .ok (.ifCond .ne 7, 3) := by decide +kernel
theorem dX10_people_12 : decode cX10_people 12 = .ok (.iconst (-1), 1) := by decide +kernel
theorem dX10_people_13 : decode cX10_people 13 = .ok (.goto 20, 3) := by decide +kernel
theorem dX10_people_16 : decode cX10_people 16 = .ok (.aload_n 0, 1) := by decide +kernel
theorem dX10_people_17 : decode cX10_people 17 = .ok (.getfield 12, 3) := by decide +kernel
theorem dX10_people_20 : decode cX10_people 20 = .ok (.bipush 7, 2) := by decide +kernel
theorem dX10_people_22 : decode cX10_people 22 = .ok (.aload_n 0, 1) := by decide +kernel
theorem dX10_people_23 : decode cX10_people 23 = .ok (.getfield 26, 3) := by decide +kernel
theorem dX10_people_26 : decode cX10_people 26 = .ok (.getfield 107, 3) := by decide +kernel
theorem dX10_people_29 : decode cX10_people 29 = .ok (.isub, 1) := by decide +kernel
theorem dX10_people_30 : decode cX10_people 30 = .ok (.invokevirtual 110, 3) := by decide +kernel
theorem dX10_people_33 : decode cX10_people 33 = .ok (.istore_n 2, 1) := by decide +kernel
theorem dX10_people_34 : decode cX10_people 34 = .ok (.iload_n 2, 1) := by decide +kernel
theorem dX10_people_35 : decode cX10_people 35 = .ok (.ifCond .lt 14, 3) := by decide +kernel
theorem dX10_people_38 : decode cX10_people 38 = .ok (.aload_n 0, 1) := by decide +kernel
theorem dX10_people_39 : decode cX10_people 39 = .ok (.getfield 12, 3) := by decide +kernel
theorem dX10_people_42 : decode cX10_people 42 = .ok (.invokevirtual 114, 3) := by decide +kernel
theorem dX10_people_45 : decode cX10_people 45 = .ok (.iconst (-1), 1) := by decide +kernel
theorem dX10_people_46 : decode cX10_people 46 = .ok (.iload_n 2, 1) := by decide +kernel
theorem dX10_people_47 : decode cX10_people 47 = .ok (.isub, 1) := by decide +kernel
theorem dX10_people_48 : decode cX10_people 48 = .ok (.ireturn, 1) := by decide +kernel
theorem dX10_people_49 : decode cX10_people 49 = .ok (.iload_n 1, 1) := by decide +kernel
theorem dX10_people_50 : decode cX10_people 50 = .ok (.iconst 1, 1) := by decide +kernel
theorem dX10_people_51 : decode cX10_people 51 = .ok (.iadd, 1) := by decide +kernel
theorem dX10_people_52 : decode cX10_people 52 = .ok (.iconst 3, 1) := by decide +kernel
theorem dX10_people_53 : decode cX10_people 53 = .ok (.idiv, 1) := by decide +kernel
theorem dX10_people_54 : decode cX10_people 54 = .ok (.istore_n 3, 1) := by decide +kernel
theorem dX10_people_55 : decode cX10_people 55 = .ok (.iconst 0, 1) := by decide +kernel
theorem dX10_people_56 : decode cX10_people 56 = .ok (.istore 4, 2) := by decide +kernel
theorem dX10_people_58 : decode cX10_people 58 = .ok (.iload 4, 2) := by decide +kernel
theorem dX10_people_60 : decode cX10_people 60 = .ok (.iload_n 3, 1) := by decide +kernel
theorem dX10_people_61 : decode cX10_people 61 = .ok (.if_icmp .ge 40, 3) := by decide +kernel
theorem dX10_people_64 : decode cX10_people 64 = .ok (.aload_n 0, 1) := by decide +kernel
theorem dX10_people_65 : decode cX10_people 65 = .ok (.getfield 26, 3) := by decide +kernel
theorem dX10_people_68 : decode cX10_people 68 = .ok (.aload_n 0, 1) := by decide +kernel
theorem dX10_people_69 : decode cX10_people 69 = .ok (.getfield 12, 3) := by decide +kernel
theorem dX10_people_72 : decode cX10_people 72 = .ok (.iconst 3, 1) := by decide +kernel
theorem dX10_people_73 : decode cX10_people 73 = .ok (.iload 4, 2) := by decide +kernel
theorem dX10_people_75 : decode cX10_people 75 = .ok (.imul, 1) := by decide +kernel
theorem dX10_people_76 : decode cX10_people 76 = .ok (.invokevirtual 117, 3) := by decide +kernel
theorem dX10_people_79 : decode cX10_people 79 = .ok (.aload_n 0, 1) := by decide +kernel
theorem dX10_people_80 : decode cX10_people 80 = .ok (.getfield 12, 3) := by decide +kernel
theorem dX10_people_83 : decode cX10_people 83 = .ok (.iconst 3, 1) := by decide +kernel
theorem dX10_people_84 : decode cX10_people 84 = .ok (.iload 4, 2) := by decide +kernel
theorem dX10_people_86 : decode cX10_people 86 = .ok (.imul, 1) := by decide +kernel
theorem dX10_people_87 : decode cX10_people 87 = .ok (.iconst 1, 1) := by decide +kernel
theorem dX10_people_88 : decode cX10_people 88 = .ok (.iadd, 1) := by decide +kernel
theorem dX10_people_89 : decode cX10_people 89 = .ok (.invokevirtual 117, 3) := by decide +kernel
theorem dX10_people_92 : decode cX10_people 92 = .ok (.invokevirtual 120, 3) := by decide +kernel
theorem dX10_people_95 : decode cX10_people 95 = .ok (.iinc 4 1, 3) := by decide +kernel
theorem dX10_people_98 : decode cX10_people 98 = .ok (.goto (-40), 3) := by decide +kernel
theorem dX10_people_101 : decode cX10_people 101 = .ok (.iload_n 3, 1) := by decide +kernel
theorem dX10_people_102 : decode cX10_people 102 = .ok (.ifCond .le 10, 3) := by decide +kernel
theorem dX10_people_105 : decode cX10_people 105 = .ok (.aload_n 0, 1) := by decide +kernel
theorem dX10_people_106 : decode cX10_people 106 = .ok (.getfield 36, 3) := by decide +kernel
theorem dX10_people_109 : decode cX10_people 109 = .ok (.invokevirtual 124, 3) := by decide +kernel
theorem dX10_people_112 : decode cX10_people 112 = .ok (.aload_n 0, 1) := by decide +kernel
theorem dX10_people_113 : decode cX10_people 113 = .ok (.getfield 12, 3) := by decide +kernel
theorem dX10_people_116 : decode cX10_people 116 = .ok (.invokevirtual 114, 3) := by decide +kernel
theorem dX10_people_119 : decode cX10_people 119 = .ok (.iload_n 3, 1) := by decide +kernel
theorem dX10_people_120 : decode cX10_people 120 = .ok (.ireturn, 1) := by decide +kernel
theorem dX10_wants_0 : decode cX10_wants 0 = .ok (.aload_n 0, 1) := by decide +kernel
theorem dX10_wants_1 : decode cX10_wants 1 = .ok (.getfield 12, 3) := by decide +kernel
theorem dX10_wants_4 : decode cX10_wants 4 = .ok (.getfield 101, 3) := by decide +kernel
theorem dX10_wants_7 : decode cX10_wants 7 = .ok (.istore_n 1, 1) := by decide +kernel
theorem dX10_wants_8 : decode cX10_wants 8 = .ok (.iload_n 1, 1) := by decide +kernel
theorem dX10_wants_9 : decode cX10_wants 9 = .ok (.ifCond .ne 7, 3) := by decide +kernel
theorem dX10_wants_12 : decode cX10_wants 12 = .ok (.iconst (-1), 1) := by decide +kernel
theorem dX10_wants_13 : decode cX10_wants 13 = .ok (.goto 17, 3) := by decide +kernel
theorem dX10_wants_16 : decode cX10_wants 16 = .ok (.aload_n 0, 1) := by decide +kernel
theorem dX10_wants_17 : decode cX10_wants 17 = .ok (.getfield 12, 3) := by decide +kernel
theorem dX10_wants_20 : decode cX10_wants 20 = .ok (.aload_n 0, 1) := by decide +kernel
theorem dX10_wants_21 : decode cX10_wants 21 = .ok (.getfield 26, 3) := by decide +kernel
theorem dX10_wants_24 : decode cX10_wants 24 = .ok (.getfield 107, 3) := by decide +kernel
theorem dX10_wants_27 : decode cX10_wants 27 = .ok (.invokevirtual 127, 3) := by decide +kernel
theorem dX10_wants_30 : decode cX10_wants 30 = .ok (.istore_n 2, 1) := by decide +kernel
theorem dX10_wants_31 : decode cX10_wants 31 = .ok (.iload_n 2, 1) := by decide +kernel
theorem dX10_wants_32 : decode cX10_wants 32 = .ok (.ifCond .lt 14, 3) := by decide +kernel
theorem dX10_wants_35 : decode cX10_wants 35 = .ok (.aload_n 0, 1) := by decide +kernel
theorem dX10_wants_36 : decode cX10_wants 36 = .ok (.getfield 12, 3) := by decide +kernel
theorem dX10_wants_39 : decode cX10_wants 39 = .ok (.invokevirtual 114, 3) := by decide +kernel
theorem dX10_wants_42 : decode cX10_wants 42 = .ok (.iconst (-1), 1) := by decide +kernel
theorem dX10_wants_43 : decode cX10_wants 43 = .ok (.iload_n 2, 1) := by decide +kernel
theorem dX10_wants_44 : decode cX10_wants 44 = .ok (.isub, 1) := by decide +kernel
theorem dX10_wants_45 : decode cX10_wants 45 = .ok (.ireturn, 1) := by decide +kernel
theorem dX10_wants_46 : decode cX10_wants 46 = .ok (.iconst 0, 1) := by decide +kernel
theorem dX10_wants_47 : decode cX10_wants 47 = .ok (.istore_n 3, 1) := by decide +kernel
theorem dX10_wants_48 : decode cX10_wants 48 = .ok (.iconst (-1), 1) := by decide +kernel
theorem dX10_wants_49 : decode cX10_wants 49 = .ok (.istore 4, 2) := by decide +kernel
theorem dX10_wants_51 : decode cX10_wants 51 = .ok (.iconst 0, 1) := by decide +kernel
theorem dX10_wants_52 : decode cX10_wants 52 = .ok (.istore 5, 2) := by decide +kernel
theorem dX10_wants_54 : decode cX10_wants 54 = .ok (.iload 5, 2) := by decide +kernel
theorem dX10_wants_56 : decode cX10_wants 56 = .ok (.iload_n 1, 1) := by decide +kernel
theorem dX10_wants_57 : decode cX10_wants 57 = .ok (.if_icmp .ge 79, 3) := by decide +kernel
theorem dX10_wants_60 : decode cX10_wants 60 = .ok (.aload_n 0, 1) := by decide +kernel
theorem dX10_wants_61 : decode cX10_wants 61 = .ok (.getfield 12, 3) := by decide +kernel
theorem dX10_wants_64 : decode cX10_wants 64 = .ok (.iload 5, 2) := by decide +kernel
theorem dX10_wants_66 : decode cX10_wants 66 = .ok (.invokevirtual 117, 3) := by decide +kernel
theorem dX10_wants_69 : decode cX10_wants 69 = .ok (.istore 6, 2) := by decide +kernel
theorem dX10_wants_71 : decode cX10_wants 71 = .ok (.iload 6, 2) := by decide +kernel
theorem dX10_wants_73 : decode cX10_wants 73 = .ok (.ifCond .lt 22, 3) := by decide +kernel
theorem dX10_wants_76 : decode cX10_wants 76 = .ok (.iinc 3 1, 3) := by decide +kernel
theorem dX10_wants_79 : decode cX10_wants 79 = .ok (.iload 6, 2) := by decide +kernel
theorem dX10_wants_81 : decode cX10_wants 81 = .ok (.istore 4, 2) := by decide +kernel
theorem dX10_wants_83 : decode cX10_wants 83 = .ok (.aload_n 0, 1) := by decide +kernel
theorem dX10_wants_84 : decode cX10_wants 84 = .ok (.getfield 26, 3) := by decide +kernel
theorem dX10_wants_87 : decode cX10_wants 87 = .ok (.iload 4, 2) := by decide +kernel
theorem dX10_wants_89 : decode cX10_wants 89 = .ok (.invokevirtual 130, 3) := by decide +kernel
theorem dX10_wants_92 : decode cX10_wants 92 = .ok (.goto 38, 3) := by decide +kernel
theorem dX10_wants_95 : decode cX10_wants 95 = .ok (.aload_n 0, 1) := by decide +kernel
theorem dX10_wants_96 : decode cX10_wants 96 = .ok (.getfield 12, 3) := by decide +kernel
theorem dX10_wants_99 : decode cX10_wants 99 = .ok (.iload 5, 2) := by decide +kernel
theorem dX10_wants_101 : decode cX10_wants 101 = .ok (.invokevirtual 134, 3) := by decide +kernel
theorem dX10_wants_104 : decode cX10_wants 104 = .ok (.bipush 59, 2) := by decide +kernel
theorem dX10_wants_106 : decode cX10_wants 106 = .ok (.if_icmp .eq 24, 3) := by decide +kernel
theorem dX10_wants_109 : decode cX10_wants 109 = .ok (.aload_n 0, 1) := by decide +kernel
theorem dX10_wants_110 : decode cX10_wants 110 = .ok (.getfield 26, 3) := by decide +kernel
theorem dX10_wants_113 : decode cX10_wants 113 = .ok (.iload 4, 2) := by decide +kernel
theorem dX10_wants_115 : decode cX10_wants 115 = .ok (.aload_n 0, 1) := by decide +kernel
theorem dX10_wants_116 : decode cX10_wants 116 = .ok (.getfield 12, 3) := by decide +kernel
theorem dX10_wants_119 : decode cX10_wants 119 = .ok (.iload 5, 2) := by decide +kernel
theorem dX10_wants_121 : decode cX10_wants 121 = .ok (.invokevirtual 134, 3) := by decide +kernel
theorem dX10_wants_124 : decode cX10_wants 124 = .ok (.bipush 97, 2) := by decide +kernel
theorem dX10_wants_126 : decode cX10_wants 126 = .ok (.isub, 1) := by decide +kernel
theorem dX10_wants_127 : decode cX10_wants 127 = .ok (.invokevirtual 138, 3) := by decide +kernel
theorem dX10_wants_130 : decode cX10_wants 130 = .ok (.iinc 5 1, 3) := by decide +kernel
theorem dX10_wants_133 : decode cX10_wants 133 = .ok (.goto (-79), 3) := by decide +kernel
theorem dX10_wants_136 : decode cX10_wants 136 = .ok (.iload_n 3, 1) := by decide +kernel
theorem dX10_wants_137 : decode cX10_wants 137 = .ok (.ifCond .le 10, 3) := by decide +kernel
theorem dX10_wants_140 : decode cX10_wants 140 = .ok (.aload_n 0, 1) := by decide +kernel
theorem dX10_wants_141 : decode cX10_wants 141 = .ok (.getfield 36, 3) := by decide +kernel
theorem dX10_wants_144 : decode cX10_wants 144 = .ok (.invokevirtual 124, 3) := by decide +kernel
theorem dX10_wants_147 : decode cX10_wants 147 = .ok (.aload_n 0, 1) := by decide +kernel
theorem dX10_wants_148 : decode cX10_wants 148 = .ok (.getfield 12, 3) := by decide +kernel
theorem dX10_wants_151 : decode cX10_wants 151 = .ok (.invokevirtual 114, 3) := by decide +kernel
theorem dX10_wants_154 : decode cX10_wants 154 = .ok (.iload_n 3, 1) := by decide +kernel
theorem dX10_wants_155 : decode cX10_wants 155 = .ok (.ireturn, 1) := by decide +kernel
theorem dX10_rule_0 : decode cX10_rule 0 = .ok (.aload_n 0, 1) := by decide +kernel
theorem dX10_rule_1 : decode cX10_rule 1 = .ok (.invokevirtual 141, 3) := by decide +kernel
theorem dX10_rule_4 : decode cX10_rule 4 = .ok (.istore_n 1, 1) := by decide +kernel
theorem dX10_rule_5 : decode cX10_rule 5 = .ok (.iload_n 1, 1) := by decide +kernel
theorem dX10_rule_6 : decode cX10_rule 6 = .ok (.ifCond .lt 7, 3) := by decide +kernel
theorem dX10_rule_9 : decode cX10_rule 9 = .ok (.iconst (-1), 1) := by decide +kernel
theorem dX10_rule_10 : decode cX10_rule 10 = .ok (.iload_n 1, 1) := by decide +kernel
theorem dX10_rule_11 : decode cX10_rule 11 = .ok (.isub, 1) := by decide +kernel
theorem dX10_rule_12 : decode cX10_rule 12 = .ok (.ireturn, 1) := by decide +kernel
theorem dX10_rule_13 : decode cX10_rule 13 = .ok (.aload_n 0, 1) := by decide +kernel
theorem dX10_rule_14 : decode cX10_rule 14 = .ok (.getfield 54, 3) := by decide +kernel
theorem dX10_rule_17 : decode cX10_rule 17 = .ok (.astore_n 2, 1) := by decide +kernel
theorem dX10_rule_18 : decode cX10_rule 18 = .ok (.aload_n 0, 1) := by decide +kernel
theorem dX10_rule_19 : decode cX10_rule 19 = .ok (.aload_n 0, 1) := by decide +kernel
theorem dX10_rule_20 : decode cX10_rule 20 = .ok (.getfield 50, 3) := by decide +kernel
theorem dX10_rule_23 : decode cX10_rule 23 = .ok (.putfield 54, 3) := by decide +kernel
theorem dX10_rule_26 : decode cX10_rule 26 = .ok (.aload_n 0, 1) := by decide +kernel
theorem dX10_rule_27 : decode cX10_rule 27 = .ok (.aload_n 2, 1) := by decide +kernel
theorem dX10_rule_28 : decode cX10_rule 28 = .ok (.putfield 50, 3) := by decide +kernel
theorem dX10_rule_31 : decode cX10_rule 31 = .ok (.iconst 0, 1) := by decide +kernel
theorem dX10_rule_32 : decode cX10_rule 32 = .ok (.ireturn, 1) := by decide +kernel
theorem dX10_readsSpare_0 : decode cX10_readsSpare 0 = .ok (.aload_n 0, 1) := by decide +kernel
theorem dX10_readsSpare_1 : decode cX10_readsSpare 1 = .ok (.getfield 12, 3) := by decide +kernel
theorem dX10_readsSpare_4 : decode cX10_readsSpare 4 = .ok (.getfield 101, 3) := by decide +kernel
theorem dX10_readsSpare_7 : decode cX10_readsSpare 7 = .ok (.ifCond .ne 24, 3) := by decide +kernel
theorem dX10_readsSpare_10 : decode cX10_readsSpare 10 = .ok (.aload_n 0, 1) := by decide +kernel
theorem dX10_readsSpare_11 : decode cX10_readsSpare 11 = .ok (.getfield 43, 3) := by decide +kernel
theorem dX10_readsSpare_14 : decode cX10_readsSpare 14 = .ok (.getstatic 89, 3) := by decide +kernel
theorem dX10_readsSpare_17 : decode cX10_readsSpare 17 = .ok (.getstatic 89, 3) := by decide +kernel
theorem dX10_readsSpare_20 : decode cX10_readsSpare 20 = .ok (.arraylength, 1) := by decide +kernel
theorem dX10_readsSpare_21 : decode cX10_readsSpare 21 = .ok (.aload_n 0, 1) := by decide +kernel
theorem dX10_readsSpare_22 : decode cX10_readsSpare 22 = .ok (.getfield 54, 3) := by decide +kernel
theorem dX10_readsSpare_25 : decode cX10_readsSpare 25 = .ok (.invokevirtual 93, 3) := by decide +kernel
theorem dX10_readsSpare_28 : decode cX10_readsSpare 28 = .ok (.goto 28, 3) := by decide +kernel
theorem dX10_readsSpare_31 : decode cX10_readsSpare 31 = .ok (.aload_n 0, 1) := by decide +kernel
theorem dX10_readsSpare_32 : decode cX10_readsSpare 32 = .ok (.getfield 43, 3) := by decide +kernel
theorem dX10_readsSpare_35 : decode cX10_readsSpare 35 = .ok (.aload_n 0, 1) := by decide +kernel
theorem dX10_readsSpare_36 : decode cX10_readsSpare 36 = .ok (.getfield 12, 3) := by decide +kernel
theorem dX10_readsSpare_39 : decode cX10_readsSpare 39 = .ok (.getfield 145, 3) := by decide +kernel
theorem dX10_readsSpare_42 : decode cX10_readsSpare 42 = .ok (.aload_n 0, 1) := by decide +kernel
theorem dX10_readsSpare_43 : decode cX10_readsSpare 43 = .ok (.getfield 12, 3) := by decide +kernel
theorem dX10_readsSpare_46 : decode cX10_readsSpare 46 = .ok (.getfield 101, 3) := by decide +kernel
theorem dX10_readsSpare_49 : decode cX10_readsSpare 49 = .ok (.aload_n 0, 1) := by decide +kernel
theorem dX10_readsSpare_50 : decode cX10_readsSpare 50 = .ok (.getfield 54, 3) := by decide +kernel
theorem dX10_readsSpare_53 : decode cX10_readsSpare 53 = .ok (.invokevirtual 93, 3) := by decide +kernel
theorem dX10_readsSpare_56 : decode cX10_readsSpare 56 = .ok (.istore_n 1, 1) := by decide +kernel
theorem dX10_readsSpare_57 : decode cX10_readsSpare 57 = .ok (.aload_n 0, 1) := by decide +kernel
theorem dX10_readsSpare_58 : decode cX10_readsSpare 58 = .ok (.getfield 12, 3) := by decide +kernel
theorem dX10_readsSpare_61 : decode cX10_readsSpare 61 = .ok (.invokevirtual 114, 3) := by decide +kernel
theorem dX10_readsSpare_64 : decode cX10_readsSpare 64 = .ok (.iload_n 1, 1) := by decide +kernel
theorem dX10_readsSpare_65 : decode cX10_readsSpare 65 = .ok (.ireturn, 1) := by decide +kernel
theorem dX10_one_0 : decode cX10_one 0 = .ok (.aload_n 0, 1) := by decide +kernel
theorem dX10_one_1 : decode cX10_one 1 = .ok (.getfield 26, 3) := by decide +kernel
theorem dX10_one_4 : decode cX10_one 4 = .ok (.iload_n 1, 1) := by decide +kernel
theorem dX10_one_5 : decode cX10_one 5 = .ok (.invokevirtual 148, 3) := by decide +kernel
theorem dX10_one_8 : decode cX10_one 8 = .ok (.ifCond .eq 13, 3) := by decide +kernel
theorem dX10_one_11 : decode cX10_one 11 = .ok (.iload_n 2, 1) := by decide +kernel
theorem dX10_one_12 : decode cX10_one 12 = .ok (.ifCond .lt 9, 3) := by decide +kernel
theorem dX10_one_15 : decode cX10_one 15 = .ok (.iload_n 2, 1) := by decide +kernel
theorem dX10_one_16 : decode cX10_one 16 = .ok (.bipush 6, 2) := by decide +kernel
theorem dX10_one_18 : decode cX10_one 18 = .ok (.if_icmp .le 11, 3) := by decide +kernel
theorem dX10_one_21 : decode cX10_one 21 = .ok (.new 151, 3) := by decide +kernel
theorem dX10_one_24 : decode cX10_one 24 = .ok (.dup, 1) := by decide +kernel
theorem dX10_one_25 : decode cX10_one 25 = .ok (.invokespecial 153, 3) := by decide +kernel
theorem dX10_one_28 : decode cX10_one 28 = .ok (.athrow, 1) := by decide +kernel
theorem dX10_one_29 : decode cX10_one 29 = .ok (.iload_n 2, 1) := by decide +kernel
theorem dX10_one_30 : decode cX10_one 30 = .ok (.tableswitch 97 0 5 #[38, 48, 58, 68, 78, 88], 38) := by decide +kernel
theorem dX10_one_68 : decode cX10_one 68 = .ok (.aload_n 0, 1) := by decide +kernel
theorem dX10_one_69 : decode cX10_one 69 = .ok (.getfield 26, 3) := by decide +kernel
theorem dX10_one_72 : decode cX10_one 72 = .ok (.getfield 154, 3) := by decide +kernel
theorem dX10_one_75 : decode cX10_one 75 = .ok (.iload_n 1, 1) := by decide +kernel
theorem dX10_one_76 : decode cX10_one 76 = .ok (.iaload, 1) := by decide +kernel
theorem dX10_one_77 : decode cX10_one 77 = .ok (.ireturn, 1) := by decide +kernel
theorem dX10_one_78 : decode cX10_one 78 = .ok (.aload_n 0, 1) := by decide +kernel
theorem dX10_one_79 : decode cX10_one 79 = .ok (.getfield 26, 3) := by decide +kernel
theorem dX10_one_82 : decode cX10_one 82 = .ok (.getfield 158, 3) := by decide +kernel
theorem dX10_one_85 : decode cX10_one 85 = .ok (.iload_n 1, 1) := by decide +kernel
theorem dX10_one_86 : decode cX10_one 86 = .ok (.iaload, 1) := by decide +kernel
theorem dX10_one_87 : decode cX10_one 87 = .ok (.ireturn, 1) := by decide +kernel
theorem dX10_one_88 : decode cX10_one 88 = .ok (.aload_n 0, 1) := by decide +kernel
theorem dX10_one_89 : decode cX10_one 89 = .ok (.getfield 26, 3) := by decide +kernel
theorem dX10_one_92 : decode cX10_one 92 = .ok (.getfield 161, 3) := by decide +kernel
theorem dX10_one_95 : decode cX10_one 95 = .ok (.iload_n 1, 1) := by decide +kernel
theorem dX10_one_96 : decode cX10_one 96 = .ok (.iaload, 1) := by decide +kernel
theorem dX10_one_97 : decode cX10_one 97 = .ok (.ireturn, 1) := by decide +kernel
theorem dX10_one_98 : decode cX10_one 98 = .ok (.aload_n 0, 1) := by decide +kernel
theorem dX10_one_99 : decode cX10_one 99 = .ok (.getfield 26, 3) := by decide +kernel
theorem dX10_one_102 : decode cX10_one 102 = .ok (.getfield 164, 3) := by decide +kernel
theorem dX10_one_105 : decode cX10_one 105 = .ok (.iload_n 1, 1) := by decide +kernel
theorem dX10_one_106 : decode cX10_one 106 = .ok (.iaload, 1) := by decide +kernel
theorem dX10_one_107 : decode cX10_one 107 = .ok (.ireturn, 1) := by decide +kernel
theorem dX10_one_108 : decode cX10_one 108 = .ok (.aload_n 0, 1) := by decide +kernel
theorem dX10_one_109 : decode cX10_one 109 = .ok (.getfield 26, 3) := by decide +kernel
theorem dX10_one_112 : decode cX10_one 112 = .ok (.getfield 167, 3) := by decide +kernel
theorem dX10_one_115 : decode cX10_one 115 = .ok (.iload_n 1, 1) := by decide +kernel
theorem dX10_one_116 : decode cX10_one 116 = .ok (.iaload, 1) := by decide +kernel
theorem dX10_one_117 : decode cX10_one 117 = .ok (.ireturn, 1) := by decide +kernel
theorem dX10_one_118 : decode cX10_one 118 = .ok (.aload_n 0, 1) := by decide +kernel
theorem dX10_one_119 : decode cX10_one 119 = .ok (.getfield 26, 3) := by decide +kernel
theorem dX10_one_122 : decode cX10_one 122 = .ok (.iload_n 1, 1) := by decide +kernel
theorem dX10_one_123 : decode cX10_one 123 = .ok (.invokevirtual 170, 3) := by decide +kernel
theorem dX10_one_126 : decode cX10_one 126 = .ok (.ireturn, 1) := by decide +kernel
theorem dX10_one_127 : decode cX10_one 127 = .ok (.aload_n 0, 1) := by decide +kernel
theorem dX10_one_128 : decode cX10_one 128 = .ok (.getfield 50, 3) := by decide +kernel
theorem dX10_one_131 : decode cX10_one 131 = .ok (.aload_n 0, 1) := by decide +kernel
theorem dX10_one_132 : decode cX10_one 132 = .ok (.getfield 26, 3) := by decide +kernel
theorem dX10_one_135 : decode cX10_one 135 = .ok (.iload_n 1, 1) := by decide +kernel
theorem dX10_one_136 : decode cX10_one 136 = .ok (.aload_n 0, 1) := by decide +kernel
theorem dX10_one_137 : decode cX10_one 137 = .ok (.getfield 26, 3) := by decide +kernel
theorem dX10_one_140 : decode cX10_one 140 = .ok (.iload_n 1, 1) := by decide +kernel
theorem dX10_one_141 : decode cX10_one 141 = .ok (.invokevirtual 170, 3) := by decide +kernel
theorem dX10_one_144 : decode cX10_one 144 = .ok (.invokevirtual 173, 3) := by decide +kernel
theorem dX10_one_147 : decode cX10_one 147 = .ok (.ireturn, 1) := by decide +kernel
theorem dX10_sheet_0 : decode cX10_sheet 0 = .ok (.iload_n 1, 1) := by decide +kernel
theorem dX10_sheet_1 : decode cX10_sheet 1 = .ok (.ifCond .lt 14, 3) := by decide +kernel
theorem dX10_sheet_4 : decode cX10_sheet 4 = .ok (.iload_n 1, 1) := by decide +kernel
theorem dX10_sheet_5 : decode cX10_sheet 5 = .ok (.iconst 3, 1) := by decide +kernel
theorem dX10_sheet_6 : decode cX10_sheet 6 = .ok (.if_icmp .gt 9, 3) := by decide +kernel
theorem dX10_sheet_9 : decode cX10_sheet 9 = .ok (.iload_n 2, 1) := by decide +kernel
theorem dX10_sheet_10 : decode cX10_sheet 10 = .ok (.bipush 7, 2) := by decide +kernel
theorem dX10_sheet_12 : decode cX10_sheet 12 = .ok (.if_icmp .le 5, 3) := by decide +kernel
theorem dX10_sheet_15 : decode cX10_sheet 15 = .ok (.iconst (-1), 1) := by decide +kernel
theorem dX10_sheet_16 : decode cX10_sheet 16 = .ok (.ireturn, 1) := by decide +kernel
theorem dX10_sheet_17 : decode cX10_sheet 17 = .ok (.iload_n 1, 1) := by decide +kernel
theorem dX10_sheet_18 : decode cX10_sheet 18 = .ok (.iconst 3, 1) := by decide +kernel
theorem dX10_sheet_19 : decode cX10_sheet 19 = .ok (.if_icmp .ne 17, 3) := by decide +kernel
theorem dX10_sheet_22 : decode cX10_sheet 22 = .ok (.aload_n 0, 1) := by decide +kernel
theorem dX10_sheet_23 : decode cX10_sheet 23 = .ok (.getfield 26, 3) := by decide +kernel
theorem dX10_sheet_26 : decode cX10_sheet 26 = .ok (.iconst 3, 1) := by decide +kernel
theorem dX10_sheet_27 : decode cX10_sheet 27 = .ok (.iconst 0, 1) := by decide +kernel
theorem dX10_sheet_28 : decode cX10_sheet 28 = .ok (.iconst 0, 1) := by decide +kernel
theorem dX10_sheet_29 : decode cX10_sheet 29 = .ok (.iconst 0, 1) := by decide +kernel
theorem dX10_sheet_30 : decode cX10_sheet 30 = .ok (.invokevirtual 177, 3) := by decide +kernel
theorem dX10_sheet_33 : decode cX10_sheet 33 = .ok (.bipush (-3), 2) := by decide +kernel
theorem dX10_sheet_35 : decode cX10_sheet 35 = .ok (.ireturn, 1) := by decide +kernel
theorem dX10_sheet_36 : decode cX10_sheet 36 = .ok (.iload_n 2, 1) := by decide +kernel
theorem dX10_sheet_37 : decode cX10_sheet 37 = .ok (.ifCond .ge 6, 3) := by decide +kernel
theorem dX10_sheet_40 : decode cX10_sheet 40 = .ok (.bipush (-2), 2) := by decide +kernel
theorem dX10_sheet_42 : decode cX10_sheet 42 = .ok (.ireturn, 1) := by decide +kernel
theorem dX10_sheet_43 : decode cX10_sheet 43 = .ok (.aload_n 0, 1) := by decide +kernel
theorem dX10_sheet_44 : decode cX10_sheet 44 = .ok (.getfield 26, 3) := by decide +kernel
theorem dX10_sheet_47 : decode cX10_sheet 47 = .ok (.iload_n 1, 1) := by decide +kernel
theorem dX10_sheet_48 : decode cX10_sheet 48 = .ok (.iload_n 2, 1) := by decide +kernel
theorem dX10_sheet_49 : decode cX10_sheet 49 = .ok (.iload_n 3, 1) := by decide +kernel
theorem dX10_sheet_50 : decode cX10_sheet 50 = .ok (.iload 4, 2) := by decide +kernel
theorem dX10_sheet_52 : decode cX10_sheet 52 = .ok (.invokevirtual 177, 3) := by decide +kernel
theorem dX10_sheet_55 : decode cX10_sheet 55 = .ok (.aload_n 0, 1) := by decide +kernel
theorem dX10_sheet_56 : decode cX10_sheet 56 = .ok (.getfield 26, 3) := by decide +kernel
theorem dX10_sheet_59 : decode cX10_sheet 59 = .ok (.aload_n 0, 1) := by decide +kernel
theorem dX10_sheet_60 : decode cX10_sheet 60 = .ok (.getfield 26, 3) := by decide +kernel
theorem dX10_sheet_63 : decode cX10_sheet 63 = .ok (.getfield 154, 3) := by decide +kernel
theorem dX10_sheet_66 : decode cX10_sheet 66 = .ok (.invokevirtual 181, 3) := by decide +kernel
theorem dX10_sheet_69 : decode cX10_sheet 69 = .ok (.ireturn, 1) := by decide +kernel
theorem dX10_mornings_0 : decode cX10_mornings 0 = .ok (.iload_n 1, 1) := by decide +kernel
theorem dX10_mornings_1 : decode cX10_mornings 1 = .ok (.ifCond .lt 9, 3) := by decide +kernel
theorem dX10_mornings_4 : decode cX10_mornings 4 = .ok (.iload_n 1, 1) := by decide +kernel
theorem dX10_mornings_5 : decode cX10_mornings 5 = .ok (.bipush 60, 2) := by decide +kernel
theorem dX10_mornings_7 : decode cX10_mornings 7 = .ok (.if_icmp .le 5, 3) := by decide +kernel
theorem dX10_mornings_10 : decode cX10_mornings 10 = .ok (.iconst (-1), 1) := by decide +kernel
theorem dX10_mornings_11 : decode cX10_mornings 11 = .ok (.ireturn, 1) := by decide +kernel
theorem dX10_mornings_12 : decode cX10_mornings 12 = .ok (.aload_n 0, 1) := by decide +kernel
theorem dX10_mornings_13 : decode cX10_mornings 13 = .ok (.getfield 36, 3) := by decide +kernel
theorem dX10_mornings_16 : decode cX10_mornings 16 = .ok (.aload_n 0, 1) := by decide +kernel
theorem dX10_mornings_17 : decode cX10_mornings 17 = .ok (.getfield 26, 3) := by decide +kernel
theorem dX10_mornings_20 : decode cX10_mornings 20 = .ok (.invokevirtual 185, 3) := by decide +kernel
theorem dX10_mornings_23 : decode cX10_mornings 23 = .ok (.aload_n 0, 1) := by decide +kernel
theorem dX10_mornings_24 : decode cX10_mornings 24 = .ok (.getfield 26, 3) := by decide +kernel
theorem dX10_mornings_27 : decode cX10_mornings 27 = .ok (.getfield 189, 3) := by decide +kernel
theorem dX10_mornings_30 : decode cX10_mornings 30 = .ok (.istore_n 2, 1) := by decide +kernel
theorem dX10_mornings_31 : decode cX10_mornings 31 = .ok (.aload_n 0, 1) := by decide +kernel
theorem dX10_mornings_32 : decode cX10_mornings 32 = .ok (.aload_n 0, 1) := by decide +kernel
theorem dX10_mornings_33 : decode cX10_mornings 33 = .ok (.getfield 26, 3) := by decide +kernel
theorem dX10_mornings_36 : decode cX10_mornings 36 = .ok (.iload_n 1, 1) := by decide +kernel
theorem dX10_mornings_37 : decode cX10_mornings 37 = .ok (.invokevirtual 192, 3) := by decide +kernel
theorem dX10_mornings_40 : decode cX10_mornings 40 = .ok (.istore_n 3, 1) := by decide +kernel
theorem dX10_mornings_41 : decode cX10_mornings 41 = .ok (.iload_n 1, 1) := by decide +kernel
theorem dX10_mornings_42 : decode cX10_mornings 42 = .ok (.ifCond .le 10, 3) := by decide +kernel
theorem dX10_mornings_45 : decode cX10_mornings 45 = .ok (.aload_n 0, 1) := by decide +kernel
theorem dX10_mornings_46 : decode cX10_mornings 46 = .ok (.getfield 36, 3) := by decide +kernel
theorem dX10_mornings_49 : decode cX10_mornings 49 = .ok (.invokevirtual 196, 3) := by decide +kernel
theorem dX10_mornings_52 : decode cX10_mornings 52 = .ok (.aload_n 0, 1) := by decide +kernel
theorem dX10_mornings_53 : decode cX10_mornings 53 = .ok (.getfield 19, 3) := by decide +kernel
theorem dX10_mornings_56 : decode cX10_mornings 56 = .ok (.aload_n 0, 1) := by decide +kernel
theorem dX10_mornings_57 : decode cX10_mornings 57 = .ok (.getfield 26, 3) := by decide +kernel
theorem dX10_mornings_60 : decode cX10_mornings 60 = .ok (.getfield 189, 3) := by decide +kernel
theorem dX10_mornings_63 : decode cX10_mornings 63 = .ok (.iload_n 2, 1) := by decide +kernel
theorem dX10_mornings_64 : decode cX10_mornings 64 = .ok (.isub, 1) := by decide +kernel
theorem dX10_mornings_65 : decode cX10_mornings 65 = .ok (.i2l, 1) := by decide +kernel
theorem dX10_mornings_66 : decode cX10_mornings 66 = .ok (.aload_n 0, 1) := by decide +kernel
theorem dX10_mornings_67 : decode cX10_mornings 67 = .ok (.getfield 26, 3) := by decide +kernel
theorem dX10_mornings_70 : decode cX10_mornings 70 = .ok (.aload_n 0, 1) := by decide +kernel
theorem dX10_mornings_71 : decode cX10_mornings 71 = .ok (.getfield 26, 3) := by decide +kernel
theorem dX10_mornings_74 : decode cX10_mornings 74 = .ok (.getfield 164, 3) := by decide +kernel
theorem dX10_mornings_77 : decode cX10_mornings 77 = .ok (.invokevirtual 181, 3) := by decide +kernel
theorem dX10_mornings_80 : decode cX10_mornings 80 = .ok (.i2l, 1) := by decide +kernel
theorem dX10_mornings_81 : decode cX10_mornings 81 = .ok (.invokevirtual 199, 3) := by decide +kernel
theorem dX10_mornings_84 : decode cX10_mornings 84 = .ok (.iload_n 3, 1) := by decide +kernel
theorem dX10_mornings_85 : decode cX10_mornings 85 = .ok (.ireturn, 1) := by decide +kernel
theorem dX10_wishes_0 : decode cX10_wishes 0 = .ok (.aload_n 0, 1) := by decide +kernel
theorem dX10_wishes_1 : decode cX10_wishes 1 = .ok (.getfield 36, 3) := by decide +kernel
theorem dX10_wishes_4 : decode cX10_wishes 4 = .ok (.aload_n 0, 1) := by decide +kernel
theorem dX10_wishes_5 : decode cX10_wishes 5 = .ok (.getfield 26, 3) := by decide +kernel
theorem dX10_wishes_8 : decode cX10_wishes 8 = .ok (.invokevirtual 185, 3) := by decide +kernel
theorem dX10_wishes_11 : decode cX10_wishes 11 = .ok (.aload_n 0, 1) := by decide +kernel
theorem dX10_wishes_12 : decode cX10_wishes 12 = .ok (.aload_n 0, 1) := by decide +kernel
theorem dX10_wishes_13 : decode cX10_wishes 13 = .ok (.getfield 26, 3) := by decide +kernel
theorem dX10_wishes_16 : decode cX10_wishes 16 = .ok (.iload_n 1, 1) := by decide +kernel
theorem dX10_wishes_17 : decode cX10_wishes 17 = .ok (.iload_n 2, 1) := by decide +kernel
theorem dX10_wishes_18 : decode cX10_wishes 18 = .ok (.invokevirtual 203, 3) := by decide +kernel
theorem dX10_wishes_21 : decode cX10_wishes 21 = .ok (.invokevirtual 207, 3) := by decide +kernel
theorem dX10_wishes_24 : decode cX10_wishes 24 = .ok (.ireturn, 1) := by decide +kernel
theorem dX10_pills_0 : decode cX10_pills 0 = .ok (.aload_n 0, 1) := by decide +kernel
theorem dX10_pills_1 : decode cX10_pills 1 = .ok (.getfield 36, 3) := by decide +kernel
theorem dX10_pills_4 : decode cX10_pills 4 = .ok (.aload_n 0, 1) := by decide +kernel
theorem dX10_pills_5 : decode cX10_pills 5 = .ok (.getfield 26, 3) := by decide +kernel
theorem dX10_pills_8 : decode cX10_pills 8 = .ok (.invokevirtual 185, 3) := by decide +kernel
theorem dX10_pills_11 : decode cX10_pills 11 = .ok (.aload_n 0, 1) := by decide +kernel
theorem dX10_pills_12 : decode cX10_pills 12 = .ok (.aload_n 0, 1) := by decide +kernel
theorem dX10_pills_13 : decode cX10_pills 13 = .ok (.getfield 26, 3) := by decide +kernel
theorem dX10_pills_16 : decode cX10_pills 16 = .ok (.iload_n 1, 1) := by decide +kernel
theorem dX10_pills_17 : decode cX10_pills 17 = .ok (.iload_n 2, 1) := by decide +kernel
theorem dX10_pills_18 : decode cX10_pills 18 = .ok (.invokevirtual 210, 3) := by decide +kernel
theorem dX10_pills_21 : decode cX10_pills 21 = .ok (.invokevirtual 207, 3) := by decide +kernel
theorem dX10_pills_24 : decode cX10_pills 24 = .ok (.ireturn, 1) := by decide +kernel
theorem dX10_learns_0 : decode cX10_learns 0 = .ok (.aload_n 0, 1) := by decide +kernel
theorem dX10_learns_1 : decode cX10_learns 1 = .ok (.getfield 36, 3) := by decide +kernel
theorem dX10_learns_4 : decode cX10_learns 4 = .ok (.aload_n 0, 1) := by decide +kernel
theorem dX10_learns_5 : decode cX10_learns 5 = .ok (.getfield 26, 3) := by decide +kernel
theorem dX10_learns_8 : decode cX10_learns 8 = .ok (.invokevirtual 185, 3) := by decide +kernel
theorem dX10_learns_11 : decode cX10_learns 11 = .ok (.aload_n 0, 1) := by decide +kernel
theorem dX10_learns_12 : decode cX10_learns 12 = .ok (.aload_n 0, 1) := by decide +kernel
theorem dX10_learns_13 : decode cX10_learns 13 = .ok (.getfield 26, 3) := by decide +kernel
theorem dX10_learns_16 : decode cX10_learns 16 = .ok (.iload_n 1, 1) := by decide +kernel
theorem dX10_learns_17 : decode cX10_learns 17 = .ok (.iload_n 2, 1) := by decide +kernel
theorem dX10_learns_18 : decode cX10_learns 18 = .ok (.invokevirtual 213, 3) := by decide +kernel
theorem dX10_learns_21 : decode cX10_learns 21 = .ok (.invokevirtual 207, 3) := by decide +kernel
theorem dX10_learns_24 : decode cX10_learns 24 = .ok (.ireturn, 1) := by decide +kernel
theorem dX10_leaves_0 : decode cX10_leaves 0 = .ok (.aload_n 0, 1) := by decide +kernel
theorem dX10_leaves_1 : decode cX10_leaves 1 = .ok (.getfield 36, 3) := by decide +kernel
theorem dX10_leaves_4 : decode cX10_leaves 4 = .ok (.aload_n 0, 1) := by decide +kernel
theorem dX10_leaves_5 : decode cX10_leaves 5 = .ok (.getfield 26, 3) := by decide +kernel
theorem dX10_leaves_8 : decode cX10_leaves 8 = .ok (.invokevirtual 185, 3) := by decide +kernel
theorem dX10_leaves_11 : decode cX10_leaves 11 = .ok (.aload_n 0, 1) := by decide +kernel
theorem dX10_leaves_12 : decode cX10_leaves 12 = .ok (.aload_n 0, 1) := by decide +kernel
theorem dX10_leaves_13 : decode cX10_leaves 13 = .ok (.getfield 26, 3) := by decide +kernel
theorem dX10_leaves_16 : decode cX10_leaves 16 = .ok (.iload_n 1, 1) := by decide +kernel
theorem dX10_leaves_17 : decode cX10_leaves 17 = .ok (.invokevirtual 216, 3) := by decide +kernel
theorem dX10_leaves_20 : decode cX10_leaves 20 = .ok (.invokevirtual 207, 3) := by decide +kernel
theorem dX10_leaves_23 : decode cX10_leaves 23 = .ok (.ireturn, 1) := by decide +kernel
theorem dX10_week_0 : decode cX10_week 0 = .ok (.aload_n 0, 1) := by decide +kernel
theorem dX10_week_1 : decode cX10_week 1 = .ok (.getfield 12, 3) := by decide +kernel
theorem dX10_week_4 : decode cX10_week 4 = .ok (.invokevirtual 219, 3) := by decide +kernel
theorem dX10_week_7 : decode cX10_week 7 = .ok (.istore_n 1, 1) := by decide +kernel
theorem dX10_week_8 : decode cX10_week 8 = .ok (.iload_n 1, 1) := by decide +kernel
theorem dX10_week_9 : decode cX10_week 9 = .ok (.ifCond .lt 14, 3) := by decide +kernel
theorem dX10_week_12 : decode cX10_week 12 = .ok (.aload_n 0, 1) := by decide +kernel
theorem dX10_week_13 : decode cX10_week 13 = .ok (.getfield 12, 3) := by decide +kernel
theorem dX10_week_16 : decode cX10_week 16 = .ok (.invokevirtual 114, 3) := by decide +kernel
theorem dX10_week_19 : decode cX10_week 19 = .ok (.iconst (-1), 1) := by decide +kernel
theorem dX10_week_20 : decode cX10_week 20 = .ok (.iload_n 1, 1) := by decide +kernel
theorem dX10_week_21 : decode cX10_week 21 = .ok (.isub, 1) := by decide +kernel
theorem dX10_week_22 : decode cX10_week 22 = .ok (.ireturn, 1) := by decide +kernel
theorem dX10_week_23 : decode cX10_week 23 = .ok (.aload_n 0, 1) := by decide +kernel
theorem dX10_week_24 : decode cX10_week 24 = .ok (.getfield 36, 3) := by decide +kernel
theorem dX10_week_27 : decode cX10_week 27 = .ok (.aload_n 0, 1) := by decide +kernel
theorem dX10_week_28 : decode cX10_week 28 = .ok (.getfield 26, 3) := by decide +kernel
theorem dX10_week_31 : decode cX10_week 31 = .ok (.invokevirtual 185, 3) := by decide +kernel
theorem dX10_week_34 : decode cX10_week 34 = .ok (.iconst 0, 1) := by decide +kernel
theorem dX10_week_35 : decode cX10_week 35 = .ok (.istore_n 2, 1) := by decide +kernel
theorem dX10_week_36 : decode cX10_week 36 = .ok (.iconst 0, 1) := by decide +kernel
theorem dX10_week_37 : decode cX10_week 37 = .ok (.istore_n 3, 1) := by decide +kernel
theorem dX10_week_38 : decode cX10_week 38 = .ok (.iconst 0, 1) := by decide +kernel
theorem dX10_week_39 : decode cX10_week 39 = .ok (.istore 4, 2) := by decide +kernel
theorem dX10_week_41 : decode cX10_week 41 = .ok (.iconst 0, 1) := by decide +kernel
theorem dX10_week_42 : decode cX10_week 42 = .ok (.istore 5, 2) := by decide +kernel
theorem dX10_week_44 : decode cX10_week 44 = .ok (.iload 5, 2) := by decide +kernel
theorem dX10_week_46 : decode cX10_week 46 = .ok (.bipush 60, 2) := by decide +kernel
theorem dX10_week_48 : decode cX10_week 48 = .ok (.if_icmp .ge 61, 3) := by decide +kernel
theorem dX10_week_51 : decode cX10_week 51 = .ok (.iload 4, 2) := by decide +kernel
theorem dX10_week_53 : decode cX10_week 53 = .ok (.aload_n 0, 1) := by decide +kernel
theorem dX10_week_54 : decode cX10_week 54 = .ok (.getfield 12, 3) := by decide +kernel
theorem dX10_week_57 : decode cX10_week 57 = .ok (.getfield 101, 3) := by decide +kernel
theorem dX10_week_60 : decode cX10_week 60 = .ok (.if_icmp .ge 49, 3) := by decide +kernel
theorem dX10_week_63 : decode cX10_week 63 = .ok (.iload_n 3, 1) := by decide +kernel
theorem dX10_week_64 : decode cX10_week 64 = .ok (.ifCond .ne 45, 3) := by decide +kernel
theorem dX10_week_67 : decode cX10_week 67 = .ok (.aload_n 0, 1) := by decide +kernel
theorem dX10_week_68 : decode cX10_week 68 = .ok (.iload 4, 2) := by decide +kernel
theorem dX10_week_70 : decode cX10_week 70 = .ok (.invokevirtual 222, 3) := by decide +kernel
theorem dX10_week_73 : decode cX10_week 73 = .ok (.ifCond .ge 8, 3) := by decide +kernel
theorem dX10_week_76 : decode cX10_week 76 = .ok (.iconst 1, 1) := by decide +kernel
theorem dX10_week_77 : decode cX10_week 77 = .ok (.istore_n 3, 1) := by decide +kernel
theorem dX10_week_78 : decode cX10_week 78 = .ok (.goto 6, 3) := by decide +kernel
theorem dX10_week_81 : decode cX10_week 81 = .ok (.iinc 2 1, 3) := by decide +kernel
theorem dX10_week_84 : decode cX10_week 84 = .ok (.iload 4, 2) := by decide +kernel
theorem dX10_week_86 : decode cX10_week 86 = .ok (.iconst 1, 1) := by decide +kernel
theorem dX10_week_87 : decode cX10_week 87 = .ok (.aload_n 0, 1) := by decide +kernel
theorem dX10_week_88 : decode cX10_week 88 = .ok (.getfield 12, 3) := by decide +kernel
theorem dX10_week_91 : decode cX10_week 91 = .ok (.iload 4, 2) := by decide +kernel
theorem dX10_week_93 : decode cX10_week 93 = .ok (.invokevirtual 134, 3) := by decide +kernel
theorem dX10_week_96 : decode cX10_week 96 = .ok (.invokestatic 225, 3) := by decide +kernel
theorem dX10_week_99 : decode cX10_week 99 = .ok (.iadd, 1) := by decide +kernel
theorem dX10_week_100 : decode cX10_week 100 = .ok (.iadd, 1) := by decide +kernel
theorem dX10_week_101 : decode cX10_week 101 = .ok (.istore 4, 2) := by decide +kernel
theorem dX10_week_103 : decode cX10_week 103 = .ok (.iinc 5 1, 3) := by decide +kernel
theorem dX10_week_106 : decode cX10_week 106 = .ok (.goto (-62), 3) := by decide +kernel
theorem dX10_week_109 : decode cX10_week 109 = .ok (.aload_n 0, 1) := by decide +kernel
theorem dX10_week_110 : decode cX10_week 110 = .ok (.getfield 12, 3) := by decide +kernel
theorem dX10_week_113 : decode cX10_week 113 = .ok (.invokevirtual 114, 3) := by decide +kernel
theorem dX10_week_116 : decode cX10_week 116 = .ok (.iload_n 2, 1) := by decide +kernel
theorem dX10_week_117 : decode cX10_week 117 = .ok (.ifCond .le 10, 3) := by decide +kernel
theorem dX10_week_120 : decode cX10_week 120 = .ok (.aload_n 0, 1) := by decide +kernel
theorem dX10_week_121 : decode cX10_week 121 = .ok (.getfield 36, 3) := by decide +kernel
theorem dX10_week_124 : decode cX10_week 124 = .ok (.invokevirtual 196, 3) := by decide +kernel
theorem dX10_week_127 : decode cX10_week 127 = .ok (.aload_n 0, 1) := by decide +kernel
theorem dX10_week_128 : decode cX10_week 128 = .ok (.getfield 19, 3) := by decide +kernel
theorem dX10_week_131 : decode cX10_week 131 = .ok (.iload_n 3, 1) := by decide +kernel
theorem dX10_week_132 : decode cX10_week 132 = .ok (.i2l, 1) := by decide +kernel
theorem dX10_week_133 : decode cX10_week 133 = .ok (.aload_n 0, 1) := by decide +kernel
theorem dX10_week_134 : decode cX10_week 134 = .ok (.getfield 26, 3) := by decide +kernel
theorem dX10_week_137 : decode cX10_week 137 = .ok (.getfield 189, 3) := by decide +kernel
theorem dX10_week_140 : decode cX10_week 140 = .ok (.i2l, 1) := by decide +kernel
theorem dX10_week_141 : decode cX10_week 141 = .ok (.invokevirtual 199, 3) := by decide +kernel
theorem dX10_week_144 : decode cX10_week 144 = .ok (.iload_n 2, 1) := by decide +kernel
theorem dX10_week_145 : decode cX10_week 145 = .ok (.ireturn, 1) := by decide +kernel
theorem dX10_undo_0 : decode cX10_undo 0 = .ok (.aload_n 0, 1) := by decide +kernel
theorem dX10_undo_1 : decode cX10_undo 1 = .ok (.getfield 36, 3) := by decide +kernel
theorem dX10_undo_4 : decode cX10_undo 4 = .ok (.aload_n 0, 1) := by decide +kernel
theorem dX10_undo_5 : decode cX10_undo 5 = .ok (.getfield 26, 3) := by decide +kernel
theorem dX10_undo_8 : decode cX10_undo 8 = .ok (.invokevirtual 229, 3) := by decide +kernel
theorem dX10_undo_11 : decode cX10_undo 11 = .ok (.ifCond .eq 13, 3) := by decide +kernel
theorem dX10_undo_14 : decode cX10_undo 14 = .ok (.aload_n 0, 1) := by decide +kernel
theorem dX10_undo_15 : decode cX10_undo 15 = .ok (.getfield 36, 3) := by decide +kernel
theorem dX10_undo_18 : decode cX10_undo 18 = .ok (.getfield 233, 3) := by decide +kernel
theorem dX10_undo_21 : decode cX10_undo 21 = .ok (.goto 4, 3) := by decide +kernel
theorem dX10_undo_24 : decode cX10_undo 24 = .ok (.iconst (-1), 1) := by decide +kernel
theorem dX10_undo_25 : decode cX10_undo 25 = .ok (.ireturn, 1) := by decide +kernel
theorem dX10_act_0 : decode cX10_act 0 = .ok (.aload_n 0, 1) := by decide +kernel
theorem dX10_act_1 : decode cX10_act 1 = .ok (.getfield 12, 3) := by decide +kernel
theorem dX10_act_4 : decode cX10_act 4 = .ok (.iload_n 1, 1) := by decide +kernel
theorem dX10_act_5 : decode cX10_act 5 = .ok (.iconst 1, 1) := by decide +kernel
theorem dX10_act_6 : decode cX10_act 6 = .ok (.iadd, 1) := by decide +kernel
theorem dX10_act_7 : decode cX10_act 7 = .ok (.invokevirtual 117, 3) := by decide +kernel
theorem dX10_act_10 : decode cX10_act 10 = .ok (.istore_n 2, 1) := by decide +kernel
theorem dX10_act_11 : decode cX10_act 11 = .ok (.aload_n 0, 1) := by decide +kernel
theorem dX10_act_12 : decode cX10_act 12 = .ok (.getfield 12, 3) := by decide +kernel
theorem dX10_act_15 : decode cX10_act 15 = .ok (.iload_n 1, 1) := by decide +kernel
theorem dX10_act_16 : decode cX10_act 16 = .ok (.iconst 2, 1) := by decide +kernel
theorem dX10_act_17 : decode cX10_act 17 = .ok (.iadd, 1) := by decide +kernel
theorem dX10_act_18 : decode cX10_act 18 = .ok (.invokevirtual 117, 3) := by decide +kernel
theorem dX10_act_21 : decode cX10_act 21 = .ok (.istore_n 3, 1) := by decide +kernel
theorem dX10_act_22 : decode cX10_act 22 = .ok (.aload_n 0, 1) := by decide +kernel
theorem dX10_act_23 : decode cX10_act 23 = .ok (.getfield 12, 3) := by decide +kernel
theorem dX10_act_26 : decode cX10_act 26 = .ok (.iload_n 1, 1) := by decide +kernel
theorem dX10_act_27 : decode cX10_act 27 = .ok (.invokevirtual 134, 3) := by decide +kernel
theorem dX10_act_30 : decode cX10_act 30 = .ok (.tableswitch 82 110 116 #[42, 82, 62, 82, 82, 72, 52], 42) := by decide +kernel
theorem dX10_act_72 : decode cX10_act 72 = .ok (.aload_n 0, 1) := by decide +kernel
theorem dX10_act_73 : decode cX10_act 73 = .ok (.aload_n 0, 1) := by decide +kernel
theorem dX10_act_74 : decode cX10_act 74 = .ok (.getfield 26, 3) := by decide +kernel
theorem dX10_act_77 : decode cX10_act 77 = .ok (.iload_n 2, 1) := by decide +kernel
theorem dX10_act_78 : decode cX10_act 78 = .ok (.invokevirtual 192, 3) := by decide +kernel
theorem dX10_act_81 : decode cX10_act 81 = .ok (.ireturn, 1) := by decide +kernel
theorem dX10_act_82 : decode cX10_act 82 = .ok (.aload_n 0, 1) := by decide +kernel
theorem dX10_act_83 : decode cX10_act 83 = .ok (.getfield 26, 3) := by decide +kernel
theorem dX10_act_86 : decode cX10_act 86 = .ok (.iload_n 2, 1) := by decide +kernel
theorem dX10_act_87 : decode cX10_act 87 = .ok (.iload_n 3, 1) := by decide +kernel
theorem dX10_act_88 : decode cX10_act 88 = .ok (.invokevirtual 203, 3) := by decide +kernel
theorem dX10_act_91 : decode cX10_act 91 = .ok (.ireturn, 1) := by decide +kernel
theorem dX10_act_92 : decode cX10_act 92 = .ok (.aload_n 0, 1) := by decide +kernel
theorem dX10_act_93 : decode cX10_act 93 = .ok (.getfield 26, 3) := by decide +kernel
theorem dX10_act_96 : decode cX10_act 96 = .ok (.iload_n 2, 1) := by decide +kernel
theorem dX10_act_97 : decode cX10_act 97 = .ok (.iload_n 3, 1) := by decide +kernel
theorem dX10_act_98 : decode cX10_act 98 = .ok (.invokevirtual 210, 3) := by decide +kernel
theorem dX10_act_101 : decode cX10_act 101 = .ok (.ireturn, 1) := by decide +kernel
theorem dX10_act_102 : decode cX10_act 102 = .ok (.aload_n 0, 1) := by decide +kernel
theorem dX10_act_103 : decode cX10_act 103 = .ok (.getfield 26, 3) := by decide +kernel
theorem dX10_act_106 : decode cX10_act 106 = .ok (.iload_n 2, 1) := by decide +kernel
theorem dX10_act_107 : decode cX10_act 107 = .ok (.iload_n 3, 1) := by decide +kernel
theorem dX10_act_108 : decode cX10_act 108 = .ok (.invokevirtual 213, 3) := by decide +kernel
theorem dX10_act_111 : decode cX10_act 111 = .ok (.ireturn, 1) := by decide +kernel
theorem dX10_act_112 : decode cX10_act 112 = .ok (.aload_n 0, 1) := by decide +kernel
theorem dX10_act_113 : decode cX10_act 113 = .ok (.getfield 26, 3) := by decide +kernel
theorem dX10_act_116 : decode cX10_act 116 = .ok (.iload_n 2, 1) := by decide +kernel
theorem dX10_act_117 : decode cX10_act 117 = .ok (.invokevirtual 216, 3) := by decide +kernel
theorem dX10_act_120 : decode cX10_act 120 = .ok (.ireturn, 1) := by decide +kernel
theorem dX10_done_0 : decode cX10_done 0 = .ok (.iload_n 1, 1) := by decide +kernel
theorem dX10_done_1 : decode cX10_done 1 = .ok (.ifCond .lt 10, 3) := by decide +kernel
theorem dX10_done_4 : decode cX10_done 4 = .ok (.aload_n 0, 1) := by decide +kernel
theorem dX10_done_5 : decode cX10_done 5 = .ok (.getfield 36, 3) := by decide +kernel
theorem dX10_done_8 : decode cX10_done 8 = .ok (.invokevirtual 196, 3) := by decide +kernel
theorem dX10_done_11 : decode cX10_done 11 = .ok (.iload_n 1, 1) := by decide +kernel
theorem dX10_done_12 : decode cX10_done 12 = .ok (.ireturn, 1) := by decide +kernel
theorem dX10_goBy_0 : decode cX10_goBy 0 = .ok (.iconst 0, 1) := by decide +kernel
theorem dX10_goBy_1 : decode cX10_goBy 1 = .ok (.istore_n 3, 1) := by decide +kernel
theorem dX10_goBy_2 : decode cX10_goBy 2 = .ok (.iconst 0, 1) := by decide +kernel
theorem dX10_goBy_3 : decode cX10_goBy 3 = .ok (.istore 4, 2) := by decide +kernel
theorem dX10_goBy_5 : decode cX10_goBy 5 = .ok (.iload 4, 2) := by decide +kernel
theorem dX10_goBy_7 : decode cX10_goBy 7 = .ok (.iload_n 2, 1) := by decide +kernel
theorem dX10_goBy_8 : decode cX10_goBy 8 = .ok (.if_icmp .ge 23, 3) := by decide +kernel
theorem dX10_goBy_11 : decode cX10_goBy 11 = .ok (.aload_n 0, 1) := by decide +kernel
theorem dX10_goBy_12 : decode cX10_goBy 12 = .ok (.getfield 50, 3) := by decide +kernel
theorem dX10_goBy_15 : decode cX10_goBy 15 = .ok (.aload_n 1, 1) := by decide +kernel
theorem dX10_goBy_16 : decode cX10_goBy 16 = .ok (.invokevirtual 234, 3) := by decide +kernel
theorem dX10_goBy_19 : decode cX10_goBy 19 = .ok (.istore_n 3, 1) := by decide +kernel
theorem dX10_goBy_20 : decode cX10_goBy 20 = .ok (.aload_n 1, 1) := by decide +kernel
theorem dX10_goBy_21 : decode cX10_goBy 21 = .ok (.iload_n 3, 1) := by decide +kernel
theorem dX10_goBy_22 : decode cX10_goBy 22 = .ok (.invokevirtual 238, 3) := by decide +kernel
theorem dX10_goBy_25 : decode cX10_goBy 25 = .ok (.iinc 4 1, 3) := by decide +kernel
theorem dX10_goBy_28 : decode cX10_goBy 28 = .ok (.goto (-23), 3) := by decide +kernel
theorem dX10_goBy_31 : decode cX10_goBy 31 = .ok (.iload_n 3, 1) := by decide +kernel
theorem dX10_goBy_32 : decode cX10_goBy 32 = .ok (.ireturn, 1) := by decide +kernel
theorem dX10_wakes_0 : decode cX10_wakes 0 = .ok (.aload_n 0, 1) := by decide +kernel
theorem dX10_wakes_1 : decode cX10_wakes 1 = .ok (.getfield 50, 3) := by decide +kernel
theorem dX10_wakes_4 : decode cX10_wakes 4 = .ok (.aload_n 0, 1) := by decide +kernel
theorem dX10_wakes_5 : decode cX10_wakes 5 = .ok (.getfield 26, 3) := by decide +kernel
theorem dX10_wakes_8 : decode cX10_wakes 8 = .ok (.invokevirtual 234, 3) := by decide +kernel
theorem dX10_wakes_11 : decode cX10_wakes 11 = .ok (.istore_n 1, 1) := by decide +kernel
theorem dX10_wakes_12 : decode cX10_wakes 12 = .ok (.aload_n 0, 1) := by decide +kernel
theorem dX10_wakes_13 : decode cX10_wakes 13 = .ok (.getfield 19, 3) := by decide +kernel
theorem dX10_wakes_16 : decode cX10_wakes 16 = .ok (.iload_n 1, 1) := by decide +kernel
theorem dX10_wakes_17 : decode cX10_wakes 17 = .ok (.invokestatic 241, 3) := by decide +kernel
theorem dX10_wakes_20 : decode cX10_wakes 20 = .ok (.i2l, 1) := by decide +kernel
theorem dX10_wakes_21 : decode cX10_wakes 21 = .ok (.aload_n 0, 1) := by decide +kernel
theorem dX10_wakes_22 : decode cX10_wakes 22 = .ok (.getfield 26, 3) := by decide +kernel
theorem dX10_wakes_25 : decode cX10_wakes 25 = .ok (.iload_n 1, 1) := by decide +kernel
theorem dX10_wakes_26 : decode cX10_wakes 26 = .ok (.invokevirtual 246, 3) := by decide +kernel
theorem dX10_wakes_29 : decode cX10_wakes 29 = .ok (.i2l, 1) := by decide +kernel
theorem dX10_wakes_30 : decode cX10_wakes 30 = .ok (.invokevirtual 199, 3) := by decide +kernel
theorem dX10_wakes_33 : decode cX10_wakes 33 = .ok (.iload_n 1, 1) := by decide +kernel
theorem dX10_wakes_34 : decode cX10_wakes 34 = .ok (.ireturn, 1) := by decide +kernel
theorem dX10_later_0 : decode cX10_later 0 = .ok (.aload_n 0, 1) := by decide +kernel
theorem dX10_later_1 : decode cX10_later 1 = .ok (.getfield 26, 3) := by decide +kernel
theorem dX10_later_4 : decode cX10_later 4 = .ok (.iload_n 1, 1) := by decide +kernel
theorem dX10_later_5 : decode cX10_later 5 = .ok (.invokevirtual 148, 3) := by decide +kernel
theorem dX10_later_8 : decode cX10_later 8 = .ok (.ifCond .eq 13, 3) := by decide +kernel
theorem dX10_later_11 : decode cX10_later 11 = .ok (.iload_n 2, 1) := by decide +kernel
theorem dX10_later_12 : decode cX10_later 12 = .ok (.ifCond .lt 9, 3) := by decide +kernel
theorem dX10_later_15 : decode cX10_later 15 = .ok (.iload_n 2, 1) := by decide +kernel
theorem dX10_later_16 : decode cX10_later 16 = .ok (.bipush 99, 2) := by decide +kernel
theorem dX10_later_18 : decode cX10_later 18 = .ok (.if_icmp .le 5, 3) := by decide +kernel
theorem dX10_later_21 : decode cX10_later 21 = .ok (.iconst (-1), 1) := by decide +kernel
theorem dX10_later_22 : decode cX10_later 22 = .ok (.ireturn, 1) := by decide +kernel
theorem dX10_later_23 : decode cX10_later 23 = .ok (.aload_n 0, 1) := by decide +kernel
theorem dX10_later_24 : decode cX10_later 24 = .ok (.getfield 30, 3) := by decide +kernel
theorem dX10_later_27 : decode cX10_later 27 = .ok (.aload_n 0, 1) := by decide +kernel
theorem dX10_later_28 : decode cX10_later 28 = .ok (.getfield 26, 3) := by decide +kernel
theorem dX10_later_31 : decode cX10_later 31 = .ok (.invokevirtual 249, 3) := by decide +kernel
theorem dX10_later_34 : decode cX10_later 34 = .ok (.iconst 0, 1) := by decide +kernel
theorem dX10_later_35 : decode cX10_later 35 = .ok (.istore_n 3, 1) := by decide +kernel
theorem dX10_later_36 : decode cX10_later 36 = .ok (.iconst 0, 1) := by decide +kernel
theorem dX10_later_37 : decode cX10_later 37 = .ok (.istore 4, 2) := by decide +kernel
theorem dX10_later_39 : decode cX10_later 39 = .ok (.iload 4, 2) := by decide +kernel
theorem dX10_later_41 : decode cX10_later 41 = .ok (.iload_n 2, 1) := by decide +kernel
theorem dX10_later_42 : decode cX10_later 42 = .ok (.if_icmp .ge 25, 3) := by decide +kernel
theorem dX10_later_45 : decode cX10_later 45 = .ok (.iload_n 3, 1) := by decide +kernel
theorem dX10_later_46 : decode cX10_later 46 = .ok (.aload_n 0, 1) := by decide +kernel
theorem dX10_later_47 : decode cX10_later 47 = .ok (.aload_n 0, 1) := by decide +kernel
theorem dX10_later_48 : decode cX10_later 48 = .ok (.getfield 30, 3) := by decide +kernel
theorem dX10_later_51 : decode cX10_later 51 = .ok (.iconst 1, 1) := by decide +kernel
theorem dX10_later_52 : decode cX10_later 52 = .ok (.invokevirtual 192, 3) := by decide +kernel
theorem dX10_later_55 : decode cX10_later 55 = .ok (.iload_n 1, 1) := by decide +kernel
theorem dX10_later_56 : decode cX10_later 56 = .ok (.ishr, 1) := by decide +kernel
theorem dX10_later_57 : decode cX10_later 57 = .ok (.iconst 1, 1) := by decide +kernel
theorem dX10_later_58 : decode cX10_later 58 = .ok (.iand, 1) := by decide +kernel
theorem dX10_later_59 : decode cX10_later 59 = .ok (.iadd, 1) := by decide +kernel
theorem dX10_later_60 : decode cX10_later 60 = .ok (.istore_n 3, 1) := by decide +kernel
theorem dX10_later_61 : decode cX10_later 61 = .ok (.iinc 4 1, 3) := by decide +kernel
theorem dX10_later_64 : decode cX10_later 64 = .ok (.goto (-25), 3) := by decide +kernel
theorem dX10_later_67 : decode cX10_later 67 = .ok (.aload_n 0, 1) := by decide +kernel
theorem dX10_later_68 : decode cX10_later 68 = .ok (.getfield 19, 3) := by decide +kernel
theorem dX10_later_71 : decode cX10_later 71 = .ok (.iload_n 3, 1) := by decide +kernel
theorem dX10_later_72 : decode cX10_later 72 = .ok (.i2l, 1) := by decide +kernel
theorem dX10_later_73 : decode cX10_later 73 = .ok (.aload_n 0, 1) := by decide +kernel
theorem dX10_later_74 : decode cX10_later 74 = .ok (.getfield 50, 3) := by decide +kernel
theorem dX10_later_77 : decode cX10_later 77 = .ok (.aload_n 0, 1) := by decide +kernel
theorem dX10_later_78 : decode cX10_later 78 = .ok (.getfield 30, 3) := by decide +kernel
theorem dX10_later_81 : decode cX10_later 81 = .ok (.invokevirtual 234, 3) := by decide +kernel
theorem dX10_later_84 : decode cX10_later 84 = .ok (.i2l, 1) := by decide +kernel
theorem dX10_later_85 : decode cX10_later 85 = .ok (.invokevirtual 199, 3) := by decide +kernel
theorem dX10_later_88 : decode cX10_later 88 = .ok (.aload_n 0, 1) := by decide +kernel
theorem dX10_later_89 : decode cX10_later 89 = .ok (.getfield 30, 3) := by decide +kernel
theorem dX10_later_92 : decode cX10_later 92 = .ok (.getfield 161, 3) := by decide +kernel
theorem dX10_later_95 : decode cX10_later 95 = .ok (.iload_n 1, 1) := by decide +kernel
theorem dX10_later_96 : decode cX10_later 96 = .ok (.iaload, 1) := by decide +kernel
theorem dX10_later_97 : decode cX10_later 97 = .ok (.ireturn, 1) := by decide +kernel
theorem dX10_when_0 : decode cX10_when 0 = .ok (.aload_n 0, 1) := by decide +kernel
theorem dX10_when_1 : decode cX10_when 1 = .ok (.getfield 26, 3) := by decide +kernel
theorem dX10_when_4 : decode cX10_when 4 = .ok (.iload_n 1, 1) := by decide +kernel
theorem dX10_when_5 : decode cX10_when 5 = .ok (.invokevirtual 148, 3) := by decide +kernel
theorem dX10_when_8 : decode cX10_when 8 = .ok (.ifCond .eq 13, 3) := by decide +kernel
theorem dX10_when_11 : decode cX10_when 11 = .ok (.aload_n 0, 1) := by decide +kernel
theorem dX10_when_12 : decode cX10_when 12 = .ok (.iconst 1, 1) := by decide +kernel
theorem dX10_when_13 : decode cX10_when 13 = .ok (.iload_n 1, 1) := by decide +kernel
theorem dX10_when_14 : decode cX10_when 14 = .ok (.ishl, 1) := by decide +kernel
theorem dX10_when_15 : decode cX10_when 15 = .ok (.invokevirtual 252, 3) := by decide +kernel
theorem dX10_when_18 : decode cX10_when 18 = .ok (.goto 4, 3) := by decide +kernel
theorem dX10_when_21 : decode cX10_when 21 = .ok (.iconst (-1), 1) := by decide +kernel
theorem dX10_when_22 : decode cX10_when 22 = .ok (.ireturn, 1) := by decide +kernel
theorem dX10_quiet_0 : decode cX10_quiet 0 = .ok (.aload_n 0, 1) := by decide +kernel
theorem dX10_quiet_1 : decode cX10_quiet 1 = .ok (.iconst 0, 1) := by decide +kernel
theorem dX10_quiet_2 : decode cX10_quiet 2 = .ok (.invokevirtual 252, 3) := by decide +kernel
theorem dX10_quiet_5 : decode cX10_quiet 5 = .ok (.ireturn, 1) := by decide +kernel
theorem dX10_tellsMornings_0 : decode cX10_tellsMornings 0 = .ok (.aload_n 0, 1) := by decide +kernel
theorem dX10_tellsMornings_1 : decode cX10_tellsMornings 1 = .ok (.getfield 30, 3) := by decide +kernel
theorem dX10_tellsMornings_4 : decode cX10_tellsMornings 4 = .ok (.aload_n 0, 1) := by decide +kernel
theorem dX10_tellsMornings_5 : decode cX10_tellsMornings 5 = .ok (.getfield 26, 3) := by decide +kernel
theorem dX10_tellsMornings_8 : decode cX10_tellsMornings 8 = .ok (.invokevirtual 249, 3) := by decide +kernel
theorem dX10_tellsMornings_11 : decode cX10_tellsMornings 11 = .ok (.bipush (-2), 2) := by decide +kernel
theorem dX10_tellsMornings_13 : decode cX10_tellsMornings 13 = .ok (.istore_n 2, 1) := by decide +kernel
theorem dX10_tellsMornings_14 : decode cX10_tellsMornings 14 = .ok (.iconst 0, 1) := by decide +kernel
theorem dX10_tellsMornings_15 : decode cX10_tellsMornings 15 = .ok (.istore_n 3, 1) := by decide +kernel
theorem dX10_tellsMornings_16 : decode cX10_tellsMornings 16 = .ok (.iconst 1, 1) := by decide +kernel
theorem dX10_tellsMornings_17 : decode cX10_tellsMornings 17 = .ok (.istore 4, 2) := by decide +kernel
theorem dX10_tellsMornings_19 : decode cX10_tellsMornings 19 = .ok (.iload 4, 2) := by decide +kernel
theorem dX10_tellsMornings_21 : decode cX10_tellsMornings 21 = .ok (.bipush 99, 2) := by decide +kernel
theorem dX10_tellsMornings_23 : decode cX10_tellsMornings 23 = .ok (.if_icmp .gt 53, 3) := by decide +kernel
theorem dX10_tellsMornings_26 : decode cX10_tellsMornings 26 = .ok (.aload_n 0, 1) := by decide +kernel
theorem dX10_tellsMornings_27 : decode cX10_tellsMornings 27 = .ok (.aload_n 0, 1) := by decide +kernel
theorem dX10_tellsMornings_28 : decode cX10_tellsMornings 28 = .ok (.getfield 30, 3) := by decide +kernel
theorem dX10_tellsMornings_31 : decode cX10_tellsMornings 31 = .ok (.iconst 1, 1) := by decide +kernel
theorem dX10_tellsMornings_32 : decode cX10_tellsMornings 32 = .ok (.invokevirtual 192, 3) := by decide +kernel
theorem dX10_tellsMornings_35 : decode cX10_tellsMornings 35 = .ok (.istore 5, 2) := by decide +kernel
theorem dX10_tellsMornings_37 : decode cX10_tellsMornings 37 = .ok (.iload_n 1, 1) := by decide +kernel
theorem dX10_tellsMornings_38 : decode cX10_tellsMornings 38 = .ok (.ifCond .ne 11, 3) := by decide +kernel
theorem dX10_tellsMornings_41 : decode cX10_tellsMornings 41 = .ok (.iload 5, 2) := by decide +kernel
theorem dX10_tellsMornings_43 : decode cX10_tellsMornings 43 = .ok (.ifCond .ne 27, 3) := by decide +kernel
theorem dX10_tellsMornings_46 : decode cX10_tellsMornings 46 = .ok (.goto 10, 3) := by decide +kernel
theorem dX10_tellsMornings_49 : decode cX10_tellsMornings 49 = .ok (.iload 5, 2) := by decide +kernel
theorem dX10_tellsMornings_51 : decode cX10_tellsMornings 51 = .ok (.iload_n 1, 1) := by decide +kernel
theorem dX10_tellsMornings_52 : decode cX10_tellsMornings 52 = .ok (.iand, 1) := by decide +kernel
theorem dX10_tellsMornings_53 : decode cX10_tellsMornings 53 = .ok (.ifCond .eq 17, 3) := by decide +kernel
theorem dX10_tellsMornings_56 : decode cX10_tellsMornings 56 = .ok (.iload_n 3, 1) := by decide +kernel
theorem dX10_tellsMornings_57 : decode cX10_tellsMornings 57 = .ok (.ifCond .ne 8, 3) := by decide +kernel
theorem dX10_tellsMornings_60 : decode cX10_tellsMornings 60 = .ok (.iload 4, 2) := by decide +kernel
theorem dX10_tellsMornings_62 : decode cX10_tellsMornings 62 = .ok (.goto 4, 3) := by decide +kernel
theorem dX10_tellsMornings_65 : decode cX10_tellsMornings 65 = .ok (.iload_n 2, 1) := by decide +kernel
theorem dX10_tellsMornings_66 : decode cX10_tellsMornings 66 = .ok (.istore_n 2, 1) := by decide +kernel
theorem dX10_tellsMornings_67 : decode cX10_tellsMornings 67 = .ok (.iinc 3 1, 3) := by decide +kernel
theorem dX10_tellsMornings_70 : decode cX10_tellsMornings 70 = .ok (.iinc 4 1, 3) := by decide +kernel
theorem dX10_tellsMornings_73 : decode cX10_tellsMornings 73 = .ok (.goto (-54), 3) := by decide +kernel
theorem dX10_tellsMornings_76 : decode cX10_tellsMornings 76 = .ok (.iload_n 3, 1) := by decide +kernel
theorem dX10_tellsMornings_77 : decode cX10_tellsMornings 77 = .ok (.ifCond .le 12, 3) := by decide +kernel
theorem dX10_tellsMornings_80 : decode cX10_tellsMornings 80 = .ok (.aload_n 0, 1) := by decide +kernel
theorem dX10_tellsMornings_81 : decode cX10_tellsMornings 81 = .ok (.getfield 19, 3) := by decide +kernel
theorem dX10_tellsMornings_84 : decode cX10_tellsMornings 84 = .ok (.iload_n 3, 1) := by decide +kernel
theorem dX10_tellsMornings_85 : decode cX10_tellsMornings 85 = .ok (.i2l, 1) := by decide +kernel
theorem dX10_tellsMornings_86 : decode cX10_tellsMornings 86 = .ok (.invokevirtual 255, 3) := by decide +kernel
theorem dX10_tellsMornings_89 : decode cX10_tellsMornings 89 = .ok (.iload_n 2, 1) := by decide +kernel
theorem dX10_tellsMornings_90 : decode cX10_tellsMornings 90 = .ok (.ireturn, 1) := by decide +kernel
theorem dX10_runs_0 : decode cX10_runs 0 = .ok (.aload_n 0, 1) := by decide +kernel
theorem dX10_runs_1 : decode cX10_runs 1 = .ok (.getfield 26, 3) := by decide +kernel
theorem dX10_runs_4 : decode cX10_runs 4 = .ok (.iload_n 1, 1) := by decide +kernel
theorem dX10_runs_5 : decode cX10_runs 5 = .ok (.invokevirtual 148, 3) := by decide +kernel
theorem dX10_runs_8 : decode cX10_runs 8 = .ok (.ifCond .eq 14, 3) := by decide +kernel
theorem dX10_runs_11 : decode cX10_runs 11 = .ok (.iload_n 2, 1) := by decide +kernel
theorem dX10_runs_12 : decode cX10_runs 12 = .ok (.iconst 1, 1) := by decide +kernel
theorem dX10_runs_13 : decode cX10_runs 13 = .ok (.if_icmp .lt 9, 3) := by decide +kernel
theorem dX10_runs_16 : decode cX10_runs 16 = .ok (.iload_n 2, 1) := by decide +kernel
theorem dX10_runs_17 : decode cX10_runs 17 = .ok (.bipush 99, 2) := by decide +kernel
theorem dX10_runs_19 : decode cX10_runs 19 = .ok (.if_icmp .le 5, 3) := by decide +kernel
theorem dX10_runs_22 : decode cX10_runs 22 = .ok (.iconst (-1), 1) := by decide +kernel
theorem dX10_runs_23 : decode cX10_runs 23 = .ok (.ireturn, 1) := by decide +kernel
theorem dX10_runs_24 : decode cX10_runs 24 = .ok (.aload_n 0, 1) := by decide +kernel
theorem dX10_runs_25 : decode cX10_runs 25 = .ok (.getfield 30, 3) := by decide +kernel
theorem dX10_runs_28 : decode cX10_runs 28 = .ok (.aload_n 0, 1) := by decide +kernel
theorem dX10_runs_29 : decode cX10_runs 29 = .ok (.getfield 26, 3) := by decide +kernel
theorem dX10_runs_32 : decode cX10_runs 32 = .ok (.invokevirtual 249, 3) := by decide +kernel
theorem dX10_runs_35 : decode cX10_runs 35 = .ok (.iconst 0, 1) := by decide +kernel
theorem dX10_runs_36 : decode cX10_runs 36 = .ok (.istore_n 3, 1) := by decide +kernel
theorem dX10_runs_37 : decode cX10_runs 37 = .ok (.iconst 0, 1) := by decide +kernel
theorem dX10_runs_38 : decode cX10_runs 38 = .ok (.istore 4, 2) := by decide +kernel
theorem dX10_runs_40 : decode cX10_runs 40 = .ok (.iconst 0, 1) := by decide +kernel
theorem dX10_runs_41 : decode cX10_runs 41 = .ok (.istore 5, 2) := by decide +kernel
theorem dX10_runs_43 : decode cX10_runs 43 = .ok (.iconst 1, 1) := by decide +kernel
theorem dX10_runs_44 : decode cX10_runs 44 = .ok (.istore 6, 2) := by decide +kernel
theorem dX10_runs_46 : decode cX10_runs 46 = .ok (.iload 6, 2) := by decide +kernel
theorem dX10_runs_48 : decode cX10_runs 48 = .ok (.iload_n 2, 1) := by decide +kernel
theorem dX10_runs_49 : decode cX10_runs 49 = .ok (.if_icmp .gt 53, 3) := by decide +kernel
theorem dX10_runs_52 : decode cX10_runs 52 = .ok (.aload_n 0, 1) := by decide +kernel
theorem dX10_runs_53 : decode cX10_runs 53 = .ok (.aload_n 0, 1) := by decide +kernel
theorem dX10_runs_54 : decode cX10_runs 54 = .ok (.getfield 30, 3) := by decide +kernel
theorem dX10_runs_57 : decode cX10_runs 57 = .ok (.iconst 1, 1) := by decide +kernel
theorem dX10_runs_58 : decode cX10_runs 58 = .ok (.invokevirtual 192, 3) := by decide +kernel
theorem dX10_runs_61 : decode cX10_runs 61 = .ok (.iload_n 1, 1) := by decide +kernel
theorem dX10_runs_62 : decode cX10_runs 62 = .ok (.ishr, 1) := by decide +kernel
theorem dX10_runs_63 : decode cX10_runs 63 = .ok (.iconst 1, 1) := by decide +kernel
theorem dX10_runs_64 : decode cX10_runs 64 = .ok (.iand, 1) := by decide +kernel
theorem dX10_runs_65 : decode cX10_runs 65 = .ok (.ifCond .eq 10, 3) := by decide +kernel
theorem dX10_runs_68 : decode cX10_runs 68 = .ok (.iload 5, 2) := by decide +kernel
theorem dX10_runs_70 : decode cX10_runs 70 = .ok (.iconst 1, 1) := by decide +kernel
theorem dX10_runs_71 : decode cX10_runs 71 = .ok (.iadd, 1) := by decide +kernel
theorem dX10_runs_72 : decode cX10_runs 72 = .ok (.goto 4, 3) := by decide +kernel
theorem dX10_runs_75 : decode cX10_runs 75 = .ok (.iconst 0, 1) := by decide +kernel
theorem dX10_runs_76 : decode cX10_runs 76 = .ok (.istore 5, 2) := by decide +kernel
theorem dX10_runs_78 : decode cX10_runs 78 = .ok (.iload 5, 2) := by decide +kernel
theorem dX10_runs_80 : decode cX10_runs 80 = .ok (.iload_n 3, 1) := by decide +kernel
theorem dX10_runs_81 : decode cX10_runs 81 = .ok (.if_icmp .le 15, 3) := by decide +kernel
theorem dX10_runs_84 : decode cX10_runs 84 = .ok (.iload 5, 2) := by decide +kernel
theorem dX10_runs_86 : decode cX10_runs 86 = .ok (.istore_n 3, 1) := by decide +kernel
theorem dX10_runs_87 : decode cX10_runs 87 = .ok (.iload 6, 2) := by decide +kernel
theorem dX10_runs_89 : decode cX10_runs 89 = .ok (.iload 5, 2) := by decide +kernel
theorem dX10_runs_91 : decode cX10_runs 91 = .ok (.isub, 1) := by decide +kernel
theorem dX10_runs_92 : decode cX10_runs 92 = .ok (.iconst 1, 1) := by decide +kernel
theorem dX10_runs_93 : decode cX10_runs 93 = .ok (.iadd, 1) := by decide +kernel
theorem dX10_runs_94 : decode cX10_runs 94 = .ok (.istore 4, 2) := by decide +kernel
theorem dX10_runs_96 : decode cX10_runs 96 = .ok (.iinc 6 1, 3) := by decide +kernel
theorem dX10_runs_99 : decode cX10_runs 99 = .ok (.goto (-53), 3) := by decide +kernel
theorem dX10_runs_102 : decode cX10_runs 102 = .ok (.aload_n 0, 1) := by decide +kernel
theorem dX10_runs_103 : decode cX10_runs 103 = .ok (.getfield 19, 3) := by decide +kernel
theorem dX10_runs_106 : decode cX10_runs 106 = .ok (.iload 4, 2) := by decide +kernel
theorem dX10_runs_108 : decode cX10_runs 108 = .ok (.i2l, 1) := by decide +kernel
theorem dX10_runs_109 : decode cX10_runs 109 = .ok (.invokevirtual 255, 3) := by decide +kernel
theorem dX10_runs_112 : decode cX10_runs 112 = .ok (.iload_n 3, 1) := by decide +kernel
theorem dX10_runs_113 : decode cX10_runs 113 = .ok (.ireturn, 1) := by decide +kernel
theorem dX10_each_0 : decode cX10_each 0 = .ok (.aload_n 0, 1) := by decide +kernel
theorem dX10_each_1 : decode cX10_each 1 = .ok (.getfield 30, 3) := by decide +kernel
theorem dX10_each_4 : decode cX10_each 4 = .ok (.aload_n 0, 1) := by decide +kernel
theorem dX10_each_5 : decode cX10_each 5 = .ok (.getfield 26, 3) := by decide +kernel
theorem dX10_each_8 : decode cX10_each 8 = .ok (.invokevirtual 249, 3) := by decide +kernel
theorem dX10_each_11 : decode cX10_each 11 = .ok (.aload_n 0, 1) := by decide +kernel
theorem dX10_each_12 : decode cX10_each 12 = .ok (.getfield 26, 3) := by decide +kernel
theorem dX10_each_15 : decode cX10_each 15 = .ok (.invokevirtual 259, 3) := by decide +kernel
theorem dX10_each_18 : decode cX10_each 18 = .ok (.istore_n 1, 1) := by decide +kernel
theorem dX10_each_19 : decode cX10_each 19 = .ok (.iconst 0, 1) := by decide +kernel
theorem dX10_each_20 : decode cX10_each 20 = .ok (.istore_n 2, 1) := by decide +kernel
theorem dX10_each_21 : decode cX10_each 21 = .ok (.iconst 0, 1) := by decide +kernel
theorem dX10_each_22 : decode cX10_each 22 = .ok (.istore_n 3, 1) := by decide +kernel
theorem dX10_each_23 : decode cX10_each 23 = .ok (.iconst 1, 1) := by decide +kernel
theorem dX10_each_24 : decode cX10_each 24 = .ok (.istore 4, 2) := by decide +kernel
theorem dX10_each_26 : decode cX10_each 26 = .ok (.iload 4, 2) := by decide +kernel
theorem dX10_each_28 : decode cX10_each 28 = .ok (.bipush 99, 2) := by decide +kernel
theorem dX10_each_30 : decode cX10_each 30 = .ok (.if_icmp .gt 32, 3) := by decide +kernel
theorem dX10_each_33 : decode cX10_each 33 = .ok (.iload_n 1, 1) := by decide +kernel
theorem dX10_each_34 : decode cX10_each 34 = .ok (.ifCond .eq 28, 3) := by decide +kernel
theorem dX10_each_37 : decode cX10_each 37 = .ok (.aload_n 0, 1) := by decide +kernel
theorem dX10_each_38 : decode cX10_each 38 = .ok (.aload_n 0, 1) := by decide +kernel
theorem dX10_each_39 : decode cX10_each 39 = .ok (.getfield 30, 3) := by decide +kernel
theorem dX10_each_42 : decode cX10_each 42 = .ok (.iconst 1, 1) := by decide +kernel
theorem dX10_each_43 : decode cX10_each 43 = .ok (.invokevirtual 192, 3) := by decide +kernel
theorem dX10_each_46 : decode cX10_each 46 = .ok (.istore_n 2, 1) := by decide +kernel
theorem dX10_each_47 : decode cX10_each 47 = .ok (.iload_n 1, 1) := by decide +kernel
theorem dX10_each_48 : decode cX10_each 48 = .ok (.iload_n 2, 1) := by decide +kernel
theorem dX10_each_49 : decode cX10_each 49 = .ok (.iconst (-1), 1) := by decide +kernel
theorem dX10_each_50 : decode cX10_each 50 = .ok (.ixor, 1) := by decide +kernel
theorem dX10_each_51 : decode cX10_each 51 = .ok (.iand, 1) := by decide +kernel
theorem dX10_each_52 : decode cX10_each 52 = .ok (.istore_n 1, 1) := by decide +kernel
theorem dX10_each_53 : decode cX10_each 53 = .ok (.iload 4, 2) := by decide +kernel
theorem dX10_each_55 : decode cX10_each 55 = .ok (.istore_n 3, 1) := by decide +kernel
theorem dX10_each_56 : decode cX10_each 56 = .ok (.iinc 4 1, 3) := by decide +kernel
theorem dX10_each_59 : decode cX10_each 59 = .ok (.goto (-33), 3) := by decide +kernel
theorem dX10_each_62 : decode cX10_each 62 = .ok (.iload_n 1, 1) := by decide +kernel
theorem dX10_each_63 : decode cX10_each 63 = .ok (.ifCond .eq 6, 3) := by decide +kernel
theorem dX10_each_66 : decode cX10_each 66 = .ok (.bipush (-2), 2) := by decide +kernel
theorem dX10_each_68 : decode cX10_each 68 = .ok (.ireturn, 1) := by decide +kernel
theorem dX10_each_69 : decode cX10_each 69 = .ok (.aload_n 0, 1) := by decide +kernel
theorem dX10_each_70 : decode cX10_each 70 = .ok (.getfield 19, 3) := by decide +kernel
theorem dX10_each_73 : decode cX10_each 73 = .ok (.iload_n 2, 1) := by decide +kernel
theorem dX10_each_74 : decode cX10_each 74 = .ok (.i2l, 1) := by decide +kernel
theorem dX10_each_75 : decode cX10_each 75 = .ok (.invokevirtual 255, 3) := by decide +kernel
theorem dX10_each_78 : decode cX10_each 78 = .ok (.iload_n 3, 1) := by decide +kernel
theorem dX10_each_79 : decode cX10_each 79 = .ok (.ireturn, 1) := by decide +kernel
theorem dX10_busiest_0 : decode cX10_busiest 0 = .ok (.iload_n 1, 1) := by decide +kernel
theorem dX10_busiest_1 : decode cX10_busiest 1 = .ok (.iconst 1, 1) := by decide +kernel
theorem dX10_busiest_2 : decode cX10_busiest 2 = .ok (.if_icmp .lt 9, 3) := by decide +kernel
theorem dX10_busiest_5 : decode cX10_busiest 5 = .ok (.iload_n 1, 1) := by decide +kernel
theorem dX10_busiest_6 : decode cX10_busiest 6 = .ok (.bipush 99, 2) := by decide +kernel
theorem dX10_busiest_8 : decode cX10_busiest 8 = .ok (.if_icmp .le 5, 3) := by decide +kernel
theorem dX10_busiest_11 : decode cX10_busiest 11 = .ok (.iconst (-1), 1) := by decide +kernel
theorem dX10_busiest_12 : decode cX10_busiest 12 = .ok (.ireturn, 1) := by decide +kernel
theorem dX10_busiest_13 : decode cX10_busiest 13 = .ok (.aload_n 0, 1) := by decide +kernel
theorem dX10_busiest_14 : decode cX10_busiest 14 = .ok (.getfield 26, 3) := by decide +kernel
theorem dX10_busiest_17 : decode cX10_busiest 17 = .ok (.getfield 107, 3) := by decide +kernel
theorem dX10_busiest_20 : decode cX10_busiest 20 = .ok (.ifCond .ne 6, 3) := by decide +kernel
theorem dX10_busiest_23 : decode cX10_busiest 23 = .ok (.bipush (-2), 2) := by decide +kernel
theorem dX10_busiest_25 : decode cX10_busiest 25 = .ok (.ireturn, 1) := by decide +kernel
theorem dX10_busiest_26 : decode cX10_busiest 26 = .ok (.aload_n 0, 1) := by decide +kernel
theorem dX10_busiest_27 : decode cX10_busiest 27 = .ok (.getfield 30, 3) := by decide +kernel
theorem dX10_busiest_30 : decode cX10_busiest 30 = .ok (.aload_n 0, 1) := by decide +kernel
theorem dX10_busiest_31 : decode cX10_busiest 31 = .ok (.getfield 26, 3) := by decide +kernel
theorem dX10_busiest_34 : decode cX10_busiest 34 = .ok (.invokevirtual 249, 3) := by decide +kernel
theorem dX10_busiest_37 : decode cX10_busiest 37 = .ok (.aload_n 0, 1) := by decide +kernel
theorem dX10_busiest_38 : decode cX10_busiest 38 = .ok (.getfield 30, 3) := by decide +kernel
theorem dX10_busiest_41 : decode cX10_busiest 41 = .ok (.invokevirtual 262, 3) := by decide +kernel
theorem dX10_busiest_44 : decode cX10_busiest 44 = .ok (.aload_n 0, 1) := by decide +kernel
theorem dX10_busiest_45 : decode cX10_busiest 45 = .ok (.getfield 26, 3) := by decide +kernel
theorem dX10_busiest_48 : decode cX10_busiest 48 = .ok (.invokevirtual 259, 3) := by decide +kernel
theorem dX10_busiest_51 : decode cX10_busiest 51 = .ok (.istore_n 2, 1) := by decide +kernel
theorem dX10_busiest_52 : decode cX10_busiest 52 = .ok (.iconst 0, 1) := by decide +kernel
theorem dX10_busiest_53 : decode cX10_busiest 53 = .ok (.istore_n 3, 1) := by decide +kernel
theorem dX10_busiest_54 : decode cX10_busiest 54 = .ok (.iload_n 3, 1) := by decide +kernel
theorem dX10_busiest_55 : decode cX10_busiest 55 = .ok (.iload_n 1, 1) := by decide +kernel
theorem dX10_busiest_56 : decode cX10_busiest 56 = .ok (.if_icmp .ge 23, 3) := by decide +kernel
theorem dX10_busiest_59 : decode cX10_busiest 59 = .ok (.iload_n 2, 1) := by decide +kernel
theorem dX10_busiest_60 : decode cX10_busiest 60 = .ok (.aload_n 0, 1) := by decide +kernel
theorem dX10_busiest_61 : decode cX10_busiest 61 = .ok (.aload_n 0, 1) := by decide +kernel
theorem dX10_busiest_62 : decode cX10_busiest 62 = .ok (.getfield 30, 3) := by decide +kernel
theorem dX10_busiest_65 : decode cX10_busiest 65 = .ok (.iconst 1, 1) := by decide +kernel
theorem dX10_busiest_66 : decode cX10_busiest 66 = .ok (.invokevirtual 192, 3) := by decide +kernel
theorem dX10_busiest_69 : decode cX10_busiest 69 = .ok (.iconst (-1), 1) := by decide +kernel
theorem dX10_busiest_70 : decode cX10_busiest 70 = .ok (.ixor, 1) := by decide +kernel
theorem dX10_busiest_71 : decode cX10_busiest 71 = .ok (.iand, 1) := by decide +kernel
theorem dX10_busiest_72 : decode cX10_busiest 72 = .ok (.istore_n 2, 1) := by decide +kernel
theorem dX10_busiest_73 : decode cX10_busiest 73 = .ok (.iinc 3 1, 3) := by decide +kernel
theorem dX10_busiest_76 : decode cX10_busiest 76 = .ok (.goto (-22), 3) := by decide +kernel
theorem dX10_busiest_79 : decode cX10_busiest 79 = .ok (.aload_n 0, 1) := by decide +kernel
theorem dX10_busiest_80 : decode cX10_busiest 80 = .ok (.getfield 30, 3) := by decide +kernel
theorem dX10_busiest_83 : decode cX10_busiest 83 = .ok (.invokevirtual 265, 3) := by decide +kernel
theorem dX10_busiest_86 : decode cX10_busiest 86 = .ok (.istore_n 3, 1) := by decide +kernel
theorem dX10_busiest_87 : decode cX10_busiest 87 = .ok (.aload_n 0, 1) := by decide +kernel
theorem dX10_busiest_88 : decode cX10_busiest 88 = .ok (.getfield 19, 3) := by decide +kernel
theorem dX10_busiest_91 : decode cX10_busiest 91 = .ok (.aload_n 0, 1) := by decide +kernel
theorem dX10_busiest_92 : decode cX10_busiest 92 = .ok (.getfield 30, 3) := by decide +kernel
theorem dX10_busiest_95 : decode cX10_busiest 95 = .ok (.iload_n 3, 1) := by decide +kernel
theorem dX10_busiest_96 : decode cX10_busiest 96 = .ok (.invokevirtual 148, 3) := by decide +kernel
theorem dX10_busiest_99 : decode cX10_busiest 99 = .ok (.ifCond .eq 16, 3) := by decide +kernel
theorem dX10_busiest_102 : decode cX10_busiest 102 = .ok (.aload_n 0, 1) := by decide +kernel
theorem dX10_busiest_103 : decode cX10_busiest 103 = .ok (.getfield 30, 3) := by decide +kernel
theorem dX10_busiest_106 : decode cX10_busiest 106 = .ok (.getfield 164, 3) := by decide +kernel
theorem dX10_busiest_109 : decode cX10_busiest 109 = .ok (.iload_n 3, 1) := by decide +kernel
theorem dX10_busiest_110 : decode cX10_busiest 110 = .ok (.iaload, 1) := by decide +kernel
theorem dX10_busiest_111 : decode cX10_busiest 111 = .ok (.i2l, 1) := by decide +kernel
theorem dX10_busiest_112 : decode cX10_busiest 112 = .ok (.goto 4, 3) := by decide +kernel
theorem dX10_busiest_115 : decode cX10_busiest 115 = .ok (.lconst 0, 1) := by decide +kernel
theorem dX10_busiest_116 : decode cX10_busiest 116 = .ok (.iload_n 2, 1) := by decide +kernel
theorem dX10_busiest_117 : decode cX10_busiest 117 = .ok (.i2l, 1) := by decide +kernel
theorem dX10_busiest_118 : decode cX10_busiest 118 = .ok (.invokevirtual 199, 3) := by decide +kernel
theorem dX10_busiest_121 : decode cX10_busiest 121 = .ok (.iload_n 3, 1) := by decide +kernel
theorem dX10_busiest_122 : decode cX10_busiest 122 = .ok (.ireturn, 1) := by decide +kernel
theorem dX10_serves_0 : decode cX10_serves 0 = .ok (.aload_n 0, 1) := by decide +kernel
theorem dX10_serves_1 : decode cX10_serves 1 = .ok (.getfield 60, 3) := by decide +kernel
theorem dX10_serves_4 : decode cX10_serves 4 = .ok (.aload_n 0, 1) := by decide +kernel
theorem dX10_serves_5 : decode cX10_serves 5 = .ok (.getfield 26, 3) := by decide +kernel
theorem dX10_serves_8 : decode cX10_serves 8 = .ok (.aload_n 0, 1) := by decide +kernel
theorem dX10_serves_9 : decode cX10_serves 9 = .ok (.getfield 50, 3) := by decide +kernel
theorem dX10_serves_12 : decode cX10_serves 12 = .ok (.aload_n 0, 1) := by decide +kernel
theorem dX10_serves_13 : decode cX10_serves 13 = .ok (.getfield 26, 3) := by decide +kernel
theorem dX10_serves_16 : decode cX10_serves 16 = .ok (.invokevirtual 234, 3) := by decide +kernel
theorem dX10_serves_19 : decode cX10_serves 19 = .ok (.aload_n 0, 1) := by decide +kernel
theorem dX10_serves_20 : decode cX10_serves 20 = .ok (.getfield 19, 3) := by decide +kernel
theorem dX10_serves_23 : decode cX10_serves 23 = .ok (.invokevirtual 268, 3) := by decide +kernel
theorem dX10_serves_26 : decode cX10_serves 26 = .ok (.ireturn, 1) := by decide +kernel
theorem dX10_boot_0 : decode cX10_boot 0 = .ok (.aload_n 0, 1) := by decide +kernel
theorem dX10_boot_1 : decode cX10_boot 1 = .ok (.getfield 50, 3) := by decide +kernel
theorem dX10_boot_4 : decode cX10_boot 4 = .ok (.aload_n 0, 1) := by decide +kernel
theorem dX10_boot_5 : decode cX10_boot 5 = .ok (.getfield 26, 3) := by decide +kernel
theorem dX10_boot_8 : decode cX10_boot 8 = .ok (.invokevirtual 234, 3) := by decide +kernel
theorem dX10_boot_11 : decode cX10_boot 11 = .ok (.istore_n 1, 1) := by decide +kernel
theorem dX10_boot_12 : decode cX10_boot 12 = .ok (.aload_n 0, 1) := by decide +kernel
theorem dX10_boot_13 : decode cX10_boot 13 = .ok (.getfield 26, 3) := by decide +kernel
theorem dX10_boot_16 : decode cX10_boot 16 = .ok (.iload_n 1, 1) := by decide +kernel
theorem dX10_boot_17 : decode cX10_boot 17 = .ok (.invokestatic 272, 3) := by decide +kernel
theorem dX10_boot_20 : decode cX10_boot 20 = .ok (.istore_n 2, 1) := by decide +kernel
theorem dX10_boot_21 : decode cX10_boot 21 = .ok (.iload_n 2, 1) := by decide +kernel
theorem dX10_boot_22 : decode cX10_boot 22 = .ok (.ifCond .ne 6, 3) := by decide +kernel
theorem dX10_boot_25 : decode cX10_boot 25 = .ok (.bipush (-2), 2) := by decide +kernel
theorem dX10_boot_27 : decode cX10_boot 27 = .ok (.ireturn, 1) := by decide +kernel
theorem dX10_boot_28 : decode cX10_boot 28 = .ok (.aload_n 0, 1) := by decide +kernel
theorem dX10_boot_29 : decode cX10_boot 29 = .ok (.getfield 19, 3) := by decide +kernel
theorem dX10_boot_32 : decode cX10_boot 32 = .ok (.iload_n 2, 1) := by decide +kernel
theorem dX10_boot_33 : decode cX10_boot 33 = .ok (.i2l, 1) := by decide +kernel
theorem dX10_boot_34 : decode cX10_boot 34 = .ok (.aload_n 0, 1) := by decide +kernel
theorem dX10_boot_35 : decode cX10_boot 35 = .ok (.getfield 26, 3) := by decide +kernel
theorem dX10_boot_38 : decode cX10_boot 38 = .ok (.iload_n 2, 1) := by decide +kernel
theorem dX10_boot_39 : decode cX10_boot 39 = .ok (.invokevirtual 275, 3) := by decide +kernel
theorem dX10_boot_42 : decode cX10_boot 42 = .ok (.iload_n 1, 1) := by decide +kernel
theorem dX10_boot_43 : decode cX10_boot 43 = .ok (.iand, 1) := by decide +kernel
theorem dX10_boot_44 : decode cX10_boot 44 = .ok (.i2l, 1) := by decide +kernel
theorem dX10_boot_45 : decode cX10_boot 45 = .ok (.invokevirtual 199, 3) := by decide +kernel
theorem dX10_boot_48 : decode cX10_boot 48 = .ok (.iload_n 2, 1) := by decide +kernel
theorem dX10_boot_49 : decode cX10_boot 49 = .ok (.invokestatic 241, 3) := by decide +kernel
theorem dX10_boot_52 : decode cX10_boot 52 = .ok (.ireturn, 1) := by decide +kernel
theorem dX10_enough_0 : decode cX10_enough 0 = .ok (.aload_n 0, 1) := by decide +kernel
theorem dX10_enough_1 : decode cX10_enough 1 = .ok (.getfield 26, 3) := by decide +kernel
theorem dX10_enough_4 : decode cX10_enough 4 = .ok (.aload_n 0, 1) := by decide +kernel
theorem dX10_enough_5 : decode cX10_enough 5 = .ok (.getfield 50, 3) := by decide +kernel
theorem dX10_enough_8 : decode cX10_enough 8 = .ok (.aload_n 0, 1) := by decide +kernel
theorem dX10_enough_9 : decode cX10_enough 9 = .ok (.getfield 26, 3) := by decide +kernel
theorem dX10_enough_12 : decode cX10_enough 12 = .ok (.invokevirtual 234, 3) := by decide +kernel
theorem dX10_enough_15 : decode cX10_enough 15 = .ok (.invokestatic 278, 3) := by decide +kernel
theorem dX10_enough_18 : decode cX10_enough 18 = .ok (.istore_n 1, 1) := by decide +kernel
theorem dX10_enough_19 : decode cX10_enough 19 = .ok (.aload_n 0, 1) := by decide +kernel
theorem dX10_enough_20 : decode cX10_enough 20 = .ok (.getfield 19, 3) := by decide +kernel
theorem dX10_enough_23 : decode cX10_enough 23 = .ok (.iload_n 1, 1) := by decide +kernel
theorem dX10_enough_24 : decode cX10_enough 24 = .ok (.i2l, 1) := by decide +kernel
theorem dX10_enough_25 : decode cX10_enough 25 = .ok (.invokevirtual 255, 3) := by decide +kernel
theorem dX10_enough_28 : decode cX10_enough 28 = .ok (.iload_n 1, 1) := by decide +kernel
theorem dX10_enough_29 : decode cX10_enough 29 = .ok (.invokestatic 241, 3) := by decide +kernel
theorem dX10_enough_32 : decode cX10_enough 32 = .ok (.ireturn, 1) := by decide +kernel
theorem dX10_steps_0 : decode cX10_steps 0 = .ok (.aload_n 0, 1) := by decide +kernel
theorem dX10_steps_1 : decode cX10_steps 1 = .ok (.getfield 26, 3) := by decide +kernel
theorem dX10_steps_4 : decode cX10_steps 4 = .ok (.iload_n 1, 1) := by decide +kernel
theorem dX10_steps_5 : decode cX10_steps 5 = .ok (.invokevirtual 148, 3) := by decide +kernel
theorem dX10_steps_8 : decode cX10_steps 8 = .ok (.ifCond .ne 5, 3) := by decide +kernel
theorem dX10_steps_11 : decode cX10_steps 11 = .ok (.iconst (-1), 1) := by decide +kernel
theorem dX10_steps_12 : decode cX10_steps 12 = .ok (.ireturn, 1) := by decide +kernel
theorem dX10_steps_13 : decode cX10_steps 13 = .ok (.aload_n 0, 1) := by decide +kernel
theorem dX10_steps_14 : decode cX10_steps 14 = .ok (.getfield 30, 3) := by decide +kernel
theorem dX10_steps_17 : decode cX10_steps 17 = .ok (.aload_n 0, 1) := by decide +kernel
theorem dX10_steps_18 : decode cX10_steps 18 = .ok (.getfield 26, 3) := by decide +kernel
theorem dX10_steps_21 : decode cX10_steps 21 = .ok (.invokevirtual 249, 3) := by decide +kernel
theorem dX10_steps_24 : decode cX10_steps 24 = .ok (.aload_n 0, 1) := by decide +kernel
theorem dX10_steps_25 : decode cX10_steps 25 = .ok (.getfield 50, 3) := by decide +kernel
theorem dX10_steps_28 : decode cX10_steps 28 = .ok (.aload_n 0, 1) := by decide +kernel
theorem dX10_steps_29 : decode cX10_steps 29 = .ok (.getfield 30, 3) := by decide +kernel
theorem dX10_steps_32 : decode cX10_steps 32 = .ok (.iload_n 1, 1) := by decide +kernel
theorem dX10_steps_33 : decode cX10_steps 33 = .ok (.aload_n 0, 1) := by decide +kernel
theorem dX10_steps_34 : decode cX10_steps 34 = .ok (.getfield 30, 3) := by decide +kernel
theorem dX10_steps_37 : decode cX10_steps 37 = .ok (.iload_n 1, 1) := by decide +kernel
theorem dX10_steps_38 : decode cX10_steps 38 = .ok (.invokevirtual 170, 3) := by decide +kernel
theorem dX10_steps_41 : decode cX10_steps 41 = .ok (.invokevirtual 281, 3) := by decide +kernel
theorem dX10_steps_44 : decode cX10_steps 44 = .ok (.ifCond .eq 12, 3) := by decide +kernel
theorem dX10_steps_47 : decode cX10_steps 47 = .ok (.aload_n 0, 1) := by decide +kernel
theorem dX10_steps_48 : decode cX10_steps 48 = .ok (.getfield 19, 3) := by decide +kernel
theorem dX10_steps_51 : decode cX10_steps 51 = .ok (.invokevirtual 285, 3) := by decide +kernel
theorem dX10_steps_54 : decode cX10_steps 54 = .ok (.iconst 0, 1) := by decide +kernel
theorem dX10_steps_55 : decode cX10_steps 55 = .ok (.ireturn, 1) := by decide +kernel
theorem dX10_steps_56 : decode cX10_steps 56 = .ok (.aload_n 0, 1) := by decide +kernel
theorem dX10_steps_57 : decode cX10_steps 57 = .ok (.iload_n 1, 1) := by decide +kernel
theorem dX10_steps_58 : decode cX10_steps 58 = .ok (.iconst 0, 1) := by decide +kernel
theorem dX10_steps_59 : decode cX10_steps 59 = .ok (.invokevirtual 288, 3) := by decide +kernel
theorem dX10_steps_62 : decode cX10_steps 62 = .ok (.istore_n 2, 1) := by decide +kernel
theorem dX10_steps_63 : decode cX10_steps 63 = .ok (.iload_n 2, 1) := by decide +kernel
theorem dX10_steps_64 : decode cX10_steps 64 = .ok (.ifCond .lt 14, 3) := by decide +kernel
theorem dX10_steps_67 : decode cX10_steps 67 = .ok (.aload_n 0, 1) := by decide +kernel
theorem dX10_steps_68 : decode cX10_steps 68 = .ok (.getfield 19, 3) := by decide +kernel
theorem dX10_steps_71 : decode cX10_steps 71 = .ok (.iload_n 2, 1) := by decide +kernel
theorem dX10_steps_72 : decode cX10_steps 72 = .ok (.i2l, 1) := by decide +kernel
theorem dX10_steps_73 : decode cX10_steps 73 = .ok (.invokevirtual 255, 3) := by decide +kernel
theorem dX10_steps_76 : decode cX10_steps 76 = .ok (.iconst 1, 1) := by decide +kernel
theorem dX10_steps_77 : decode cX10_steps 77 = .ok (.ireturn, 1) := by decide +kernel
theorem dX10_steps_78 : decode cX10_steps 78 = .ok (.aload_n 0, 1) := by decide +kernel
theorem dX10_steps_79 : decode cX10_steps 79 = .ok (.iload_n 1, 1) := by decide +kernel
theorem dX10_steps_80 : decode cX10_steps 80 = .ok (.invokevirtual 291, 3) := by decide +kernel
theorem dX10_steps_83 : decode cX10_steps 83 = .ok (.ireturn, 1) := by decide +kernel
theorem dX10_twoSteps_0 : decode cX10_twoSteps 0 = .ok (.iconst 0, 1) := by decide +kernel
theorem dX10_twoSteps_1 : decode cX10_twoSteps 1 = .ok (.istore_n 2, 1) := by decide +kernel
theorem dX10_twoSteps_2 : decode cX10_twoSteps 2 = .ok (.iload_n 2, 1) := by decide +kernel
theorem dX10_twoSteps_3 : decode cX10_twoSteps 3 = .ok (.bipush 49, 2) := by decide +kernel
theorem dX10_twoSteps_5 : decode cX10_twoSteps 5 = .ok (.if_icmp .ge 49, 3) := by decide +kernel
theorem dX10_twoSteps_8 : decode cX10_twoSteps 8 = .ok (.aload_n 0, 1) := by decide +kernel
theorem dX10_twoSteps_9 : decode cX10_twoSteps 9 = .ok (.iload_n 2, 1) := by decide +kernel
theorem dX10_twoSteps_10 : decode cX10_twoSteps 10 = .ok (.invokevirtual 294, 3) := by decide +kernel
theorem dX10_twoSteps_13 : decode cX10_twoSteps 13 = .ok (.ifCond .eq 35, 3) := by decide +kernel
theorem dX10_twoSteps_16 : decode cX10_twoSteps 16 = .ok (.aload_n 0, 1) := by decide +kernel
theorem dX10_twoSteps_17 : decode cX10_twoSteps 17 = .ok (.iload_n 1, 1) := by decide +kernel
theorem dX10_twoSteps_18 : decode cX10_twoSteps 18 = .ok (.iload_n 2, 1) := by decide +kernel
theorem dX10_twoSteps_19 : decode cX10_twoSteps 19 = .ok (.iconst 1, 1) := by decide +kernel
theorem dX10_twoSteps_20 : decode cX10_twoSteps 20 = .ok (.iadd, 1) := by decide +kernel
theorem dX10_twoSteps_21 : decode cX10_twoSteps 21 = .ok (.invokevirtual 288, 3) := by decide +kernel
theorem dX10_twoSteps_24 : decode cX10_twoSteps 24 = .ok (.istore_n 3, 1) := by decide +kernel
theorem dX10_twoSteps_25 : decode cX10_twoSteps 25 = .ok (.aload_n 0, 1) := by decide +kernel
theorem dX10_twoSteps_26 : decode cX10_twoSteps 26 = .ok (.iload_n 2, 1) := by decide +kernel
theorem dX10_twoSteps_27 : decode cX10_twoSteps 27 = .ok (.invokevirtual 294, 3) := by decide +kernel
theorem dX10_twoSteps_30 : decode cX10_twoSteps 30 = .ok (.pop, 1) := by decide +kernel
theorem dX10_twoSteps_31 : decode cX10_twoSteps 31 = .ok (.iload_n 3, 1) := by decide +kernel
theorem dX10_twoSteps_32 : decode cX10_twoSteps 32 = .ok (.ifCond .lt 16, 3) := by decide +kernel
theorem dX10_twoSteps_35 : decode cX10_twoSteps 35 = .ok (.aload_n 0, 1) := by decide +kernel
theorem dX10_twoSteps_36 : decode cX10_twoSteps 36 = .ok (.getfield 19, 3) := by decide +kernel
theorem dX10_twoSteps_39 : decode cX10_twoSteps 39 = .ok (.iload_n 2, 1) := by decide +kernel
theorem dX10_twoSteps_40 : decode cX10_twoSteps 40 = .ok (.i2l, 1) := by decide +kernel
theorem dX10_twoSteps_41 : decode cX10_twoSteps 41 = .ok (.iload_n 3, 1) := by decide +kernel
theorem dX10_twoSteps_42 : decode cX10_twoSteps 42 = .ok (.i2l, 1) := by decide +kernel
theorem dX10_twoSteps_43 : decode cX10_twoSteps 43 = .ok (.invokevirtual 199, 3) := by decide +kernel
theorem dX10_twoSteps_46 : decode cX10_twoSteps 46 = .ok (.iconst 2, 1) := by decide +kernel
theorem dX10_twoSteps_47 : decode cX10_twoSteps 47 = .ok (.ireturn, 1) := by decide +kernel
theorem dX10_twoSteps_48 : decode cX10_twoSteps 48 = .ok (.iinc 2 1, 3) := by decide +kernel
theorem dX10_twoSteps_51 : decode cX10_twoSteps 51 = .ok (.goto (-49), 3) := by decide +kernel
theorem dX10_twoSteps_54 : decode cX10_twoSteps 54 = .ok (.bipush (-2), 2) := by decide +kernel
theorem dX10_twoSteps_56 : decode cX10_twoSteps 56 = .ok (.ireturn, 1) := by decide +kernel
theorem dX10_stepFrom_0 : decode cX10_stepFrom 0 = .ok (.iload_n 2, 1) := by decide +kernel
theorem dX10_stepFrom_1 : decode cX10_stepFrom 1 = .ok (.istore_n 3, 1) := by decide +kernel
theorem dX10_stepFrom_2 : decode cX10_stepFrom 2 = .ok (.iload_n 3, 1) := by decide +kernel
theorem dX10_stepFrom_3 : decode cX10_stepFrom 3 = .ok (.bipush 49, 2) := by decide +kernel
theorem dX10_stepFrom_5 : decode cX10_stepFrom 5 = .ok (.if_icmp .ge 52, 3) := by decide +kernel
theorem dX10_stepFrom_8 : decode cX10_stepFrom 8 = .ok (.aload_n 0, 1) := by decide +kernel
theorem dX10_stepFrom_9 : decode cX10_stepFrom 9 = .ok (.iload_n 3, 1) := by decide +kernel
theorem dX10_stepFrom_10 : decode cX10_stepFrom 10 = .ok (.invokevirtual 294, 3) := by decide +kernel
theorem dX10_stepFrom_13 : decode cX10_stepFrom 13 = .ok (.ifCond .eq 38, 3) := by decide +kernel
theorem dX10_stepFrom_16 : decode cX10_stepFrom 16 = .ok (.aload_n 0, 1) := by decide +kernel
theorem dX10_stepFrom_17 : decode cX10_stepFrom 17 = .ok (.getfield 50, 3) := by decide +kernel
theorem dX10_stepFrom_20 : decode cX10_stepFrom 20 = .ok (.aload_n 0, 1) := by decide +kernel
theorem dX10_stepFrom_21 : decode cX10_stepFrom 21 = .ok (.getfield 30, 3) := by decide +kernel
theorem dX10_stepFrom_24 : decode cX10_stepFrom 24 = .ok (.iload_n 1, 1) := by decide +kernel
theorem dX10_stepFrom_25 : decode cX10_stepFrom 25 = .ok (.aload_n 0, 1) := by decide +kernel
theorem dX10_stepFrom_26 : decode cX10_stepFrom 26 = .ok (.getfield 30, 3) := by decide +kernel
theorem dX10_stepFrom_29 : decode cX10_stepFrom 29 = .ok (.iload_n 1, 1) := by decide +kernel
theorem dX10_stepFrom_30 : decode cX10_stepFrom 30 = .ok (.invokevirtual 170, 3) := by decide +kernel
theorem dX10_stepFrom_33 : decode cX10_stepFrom 33 = .ok (.invokevirtual 281, 3) := by decide +kernel
theorem dX10_stepFrom_36 : decode cX10_stepFrom 36 = .ok (.istore 4, 2) := by decide +kernel
theorem dX10_stepFrom_38 : decode cX10_stepFrom 38 = .ok (.aload_n 0, 1) := by decide +kernel
theorem dX10_stepFrom_39 : decode cX10_stepFrom 39 = .ok (.iload_n 3, 1) := by decide +kernel
theorem dX10_stepFrom_40 : decode cX10_stepFrom 40 = .ok (.invokevirtual 294, 3) := by decide +kernel
theorem dX10_stepFrom_43 : decode cX10_stepFrom 43 = .ok (.pop, 1) := by decide +kernel
theorem dX10_stepFrom_44 : decode cX10_stepFrom 44 = .ok (.iload 4, 2) := by decide +kernel
theorem dX10_stepFrom_46 : decode cX10_stepFrom 46 = .ok (.ifCond .eq 5, 3) := by decide +kernel
theorem dX10_stepFrom_49 : decode cX10_stepFrom 49 = .ok (.iload_n 3, 1) := by decide +kernel
theorem dX10_stepFrom_50 : decode cX10_stepFrom 50 = .ok (.ireturn, 1) := by decide +kernel
theorem dX10_stepFrom_51 : decode cX10_stepFrom 51 = .ok (.iinc 3 1, 3) := by decide +kernel
theorem dX10_stepFrom_54 : decode cX10_stepFrom 54 = .ok (.goto (-52), 3) := by decide +kernel
theorem dX10_stepFrom_57 : decode cX10_stepFrom 57 = .ok (.iconst (-1), 1) := by decide +kernel
theorem dX10_stepFrom_58 : decode cX10_stepFrom 58 = .ok (.ireturn, 1) := by decide +kernel
theorem dX10_turnsTrial_0 : decode cX10_turnsTrial 0 = .ok (.aload_n 0, 1) := by decide +kernel
theorem dX10_turnsTrial_1 : decode cX10_turnsTrial 1 = .ok (.getfield 30, 3) := by decide +kernel
theorem dX10_turnsTrial_4 : decode cX10_turnsTrial 4 = .ok (.iload_n 1, 1) := by decide +kernel
theorem dX10_turnsTrial_5 : decode cX10_turnsTrial 5 = .ok (.bipush 7, 2) := by decide +kernel
theorem dX10_turnsTrial_7 : decode cX10_turnsTrial 7 = .ok (.idiv, 1) := by decide +kernel
theorem dX10_turnsTrial_8 : decode cX10_turnsTrial 8 = .ok (.iload_n 1, 1) := by decide +kernel
theorem dX10_turnsTrial_9 : decode cX10_turnsTrial 9 = .ok (.bipush 7, 2) := by decide +kernel
theorem dX10_turnsTrial_11 : decode cX10_turnsTrial 11 = .ok (.irem, 1) := by decide +kernel
theorem dX10_turnsTrial_12 : decode cX10_turnsTrial 12 = .ok (.invokevirtual 203, 3) := by decide +kernel
theorem dX10_turnsTrial_15 : decode cX10_turnsTrial 15 = .ok (.ifCond .lt 7, 3) := by decide +kernel
theorem dX10_turnsTrial_18 : decode cX10_turnsTrial 18 = .ok (.iconst 1, 1) := by decide +kernel
theorem dX10_turnsTrial_19 : decode cX10_turnsTrial 19 = .ok (.goto 4, 3) := by decide +kernel
theorem dX10_turnsTrial_22 : decode cX10_turnsTrial 22 = .ok (.iconst 0, 1) := by decide +kernel
theorem dX10_turnsTrial_23 : decode cX10_turnsTrial 23 = .ok (.ireturn, 1) := by decide +kernel
theorem dX10_sleeps_0 : decode cX10_sleeps 0 = .ok (.aload_n 0, 1) := by decide +kernel
theorem dX10_sleeps_1 : decode cX10_sleeps 1 = .ok (.getfield 26, 3) := by decide +kernel
theorem dX10_sleeps_4 : decode cX10_sleeps 4 = .ok (.iload_n 1, 1) := by decide +kernel
theorem dX10_sleeps_5 : decode cX10_sleeps 5 = .ok (.invokevirtual 148, 3) := by decide +kernel
theorem dX10_sleeps_8 : decode cX10_sleeps 8 = .ok (.ifCond .ne 5, 3) := by decide +kernel
theorem dX10_sleeps_11 : decode cX10_sleeps 11 = .ok (.iconst (-1), 1) := by decide +kernel
theorem dX10_sleeps_12 : decode cX10_sleeps 12 = .ok (.ireturn, 1) := by decide +kernel
theorem dX10_sleeps_13 : decode cX10_sleeps 13 = .ok (.aload_n 0, 1) := by decide +kernel
theorem dX10_sleeps_14 : decode cX10_sleeps 14 = .ok (.getfield 26, 3) := by decide +kernel
theorem dX10_sleeps_17 : decode cX10_sleeps 17 = .ok (.iload_n 1, 1) := by decide +kernel
theorem dX10_sleeps_18 : decode cX10_sleeps 18 = .ok (.invokevirtual 170, 3) := by decide +kernel
theorem dX10_sleeps_21 : decode cX10_sleeps 21 = .ok (.istore_n 2, 1) := by decide +kernel
theorem dX10_sleeps_22 : decode cX10_sleeps 22 = .ok (.iload_n 2, 1) := by decide +kernel
theorem dX10_sleeps_23 : decode cX10_sleeps 23 = .ok (.istore_n 3, 1) := by decide +kernel
theorem dX10_sleeps_24 : decode cX10_sleeps 24 = .ok (.iconst 0, 1) := by decide +kernel
theorem dX10_sleeps_25 : decode cX10_sleeps 25 = .ok (.istore 4, 2) := by decide +kernel
theorem dX10_sleeps_27 : decode cX10_sleeps 27 = .ok (.iload 4, 2) := by decide +kernel
theorem dX10_sleeps_29 : decode cX10_sleeps 29 = .ok (.sipush 128, 3) := by decide +kernel
theorem dX10_sleeps_32 : decode cX10_sleeps 32 = .ok (.if_icmp .ge 66, 3) := by decide +kernel
theorem dX10_sleeps_35 : decode cX10_sleeps 35 = .ok (.iload 4, 2) := by decide +kernel
theorem dX10_sleeps_37 : decode cX10_sleeps 37 = .ok (.iload_n 2, 1) := by decide +kernel
theorem dX10_sleeps_38 : decode cX10_sleeps 38 = .ok (.iconst (-1), 1) := by decide +kernel
theorem dX10_sleeps_39 : decode cX10_sleeps 39 = .ok (.ixor, 1) := by decide +kernel
theorem dX10_sleeps_40 : decode cX10_sleeps 40 = .ok (.iand, 1) := by decide +kernel
theorem dX10_sleeps_41 : decode cX10_sleeps 41 = .ok (.ifCond .ne 19, 3) := by decide +kernel
theorem dX10_sleeps_44 : decode cX10_sleeps 44 = .ok (.iload 4, 2) := by decide +kernel
theorem dX10_sleeps_46 : decode cX10_sleeps 46 = .ok (.invokestatic 241, 3) := by decide +kernel
theorem dX10_sleeps_49 : decode cX10_sleeps 49 = .ok (.iload_n 3, 1) := by decide +kernel
theorem dX10_sleeps_50 : decode cX10_sleeps 50 = .ok (.invokestatic 241, 3) := by decide +kernel
theorem dX10_sleeps_53 : decode cX10_sleeps 53 = .ok (.if_icmp .ge 7, 3) := by decide +kernel
theorem dX10_sleeps_56 : decode cX10_sleeps 56 = .ok (.iconst 1, 1) := by decide +kernel
theorem dX10_sleeps_57 : decode cX10_sleeps 57 = .ok (.goto 4, 3) := by decide +kernel
theorem dX10_sleeps_60 : decode cX10_sleeps 60 = .ok (.iconst 0, 1) := by decide +kernel
theorem dX10_sleeps_61 : decode cX10_sleeps 61 = .ok (.istore 5, 2) := by decide +kernel
theorem dX10_sleeps_63 : decode cX10_sleeps 63 = .ok (.iload 5, 2) := by decide +kernel
theorem dX10_sleeps_65 : decode cX10_sleeps 65 = .ok (.ifCond .eq 27, 3) := by decide +kernel
theorem dX10_sleeps_68 : decode cX10_sleeps 68 = .ok (.aload_n 0, 1) := by decide +kernel
theorem dX10_sleeps_69 : decode cX10_sleeps 69 = .ok (.getfield 50, 3) := by decide +kernel
theorem dX10_sleeps_72 : decode cX10_sleeps 72 = .ok (.aload_n 0, 1) := by decide +kernel
theorem dX10_sleeps_73 : decode cX10_sleeps 73 = .ok (.getfield 26, 3) := by decide +kernel
theorem dX10_sleeps_76 : decode cX10_sleeps 76 = .ok (.iload_n 1, 1) := by decide +kernel
theorem dX10_sleeps_77 : decode cX10_sleeps 77 = .ok (.iload_n 2, 1) := by decide +kernel
theorem dX10_sleeps_78 : decode cX10_sleeps 78 = .ok (.iload 4, 2) := by decide +kernel
theorem dX10_sleeps_80 : decode cX10_sleeps 80 = .ok (.iconst (-1), 1) := by decide +kernel
theorem dX10_sleeps_81 : decode cX10_sleeps 81 = .ok (.ixor, 1) := by decide +kernel
theorem dX10_sleeps_82 : decode cX10_sleeps 82 = .ok (.iand, 1) := by decide +kernel
theorem dX10_sleeps_83 : decode cX10_sleeps 83 = .ok (.invokevirtual 281, 3) := by decide +kernel
theorem dX10_sleeps_86 : decode cX10_sleeps 86 = .ok (.ifCond .ne 6, 3) := by decide +kernel
theorem dX10_sleeps_89 : decode cX10_sleeps 89 = .ok (.iload 4, 2) := by decide +kernel
theorem dX10_sleeps_91 : decode cX10_sleeps 91 = .ok (.istore_n 3, 1) := by decide +kernel
theorem dX10_sleeps_92 : decode cX10_sleeps 92 = .ok (.iinc 4 1, 3) := by decide +kernel
theorem dX10_sleeps_95 : decode cX10_sleeps 95 = .ok (.goto (-68), 3) := by decide +kernel
theorem dX10_sleeps_98 : decode cX10_sleeps 98 = .ok (.aload_n 0, 1) := by decide +kernel
theorem dX10_sleeps_99 : decode cX10_sleeps 99 = .ok (.getfield 19, 3) := by decide +kernel
theorem dX10_sleeps_102 : decode cX10_sleeps 102 = .ok (.iload_n 3, 1) := by decide +kernel
theorem dX10_sleeps_103 : decode cX10_sleeps 103 = .ok (.i2l, 1) := by decide +kernel
theorem dX10_sleeps_104 : decode cX10_sleeps 104 = .ok (.invokevirtual 255, 3) := by decide +kernel
theorem dX10_sleeps_107 : decode cX10_sleeps 107 = .ok (.iload_n 3, 1) := by decide +kernel
theorem dX10_sleeps_108 : decode cX10_sleeps 108 = .ok (.invokestatic 241, 3) := by decide +kernel
theorem dX10_sleeps_111 : decode cX10_sleeps 111 = .ok (.ireturn, 1) := by decide +kernel
theorem dX10_worth_0 : decode cX10_worth 0 = .ok (.aload_n 0, 1) := by decide +kernel
theorem dX10_worth_1 : decode cX10_worth 1 = .ok (.getfield 26, 3) := by decide +kernel
theorem dX10_worth_4 : decode cX10_worth 4 = .ok (.iload_n 1, 1) := by decide +kernel
theorem dX10_worth_5 : decode cX10_worth 5 = .ok (.invokevirtual 148, 3) := by decide +kernel
theorem dX10_worth_8 : decode cX10_worth 8 = .ok (.ifCond .ne 5, 3) := by decide +kernel
theorem dX10_worth_11 : decode cX10_worth 11 = .ok (.iconst (-1), 1) := by decide +kernel
theorem dX10_worth_12 : decode cX10_worth 12 = .ok (.ireturn, 1) := by decide +kernel
theorem dX10_worth_13 : decode cX10_worth 13 = .ok (.aload_n 0, 1) := by decide +kernel
theorem dX10_worth_14 : decode cX10_worth 14 = .ok (.getfield 30, 3) := by decide +kernel
theorem dX10_worth_17 : decode cX10_worth 17 = .ok (.aload_n 0, 1) := by decide +kernel
theorem dX10_worth_18 : decode cX10_worth 18 = .ok (.getfield 26, 3) := by decide +kernel
theorem dX10_worth_21 : decode cX10_worth 21 = .ok (.invokevirtual 249, 3) := by decide +kernel
theorem dX10_worth_24 : decode cX10_worth 24 = .ok (.bipush (-2), 2) := by decide +kernel
theorem dX10_worth_26 : decode cX10_worth 26 = .ok (.istore_n 2, 1) := by decide +kernel
theorem dX10_worth_27 : decode cX10_worth 27 = .ok (.iconst 0, 1) := by decide +kernel
theorem dX10_worth_28 : decode cX10_worth 28 = .ok (.istore_n 3, 1) := by decide +kernel
theorem dX10_worth_29 : decode cX10_worth 29 = .ok (.iconst 0, 1) := by decide +kernel
theorem dX10_worth_30 : decode cX10_worth 30 = .ok (.istore 4, 2) := by decide +kernel
theorem dX10_worth_32 : decode cX10_worth 32 = .ok (.iload 4, 2) := by decide +kernel
theorem dX10_worth_34 : decode cX10_worth 34 = .ok (.bipush 9, 2) := by decide +kernel
theorem dX10_worth_36 : decode cX10_worth 36 = .ok (.if_icmp .gt 57, 3) := by decide +kernel
theorem dX10_worth_39 : decode cX10_worth 39 = .ok (.aload_n 0, 1) := by decide +kernel
theorem dX10_worth_40 : decode cX10_worth 40 = .ok (.getfield 30, 3) := by decide +kernel
theorem dX10_worth_43 : decode cX10_worth 43 = .ok (.getfield 154, 3) := by decide +kernel
theorem dX10_worth_46 : decode cX10_worth 46 = .ok (.iload_n 1, 1) := by decide +kernel
theorem dX10_worth_47 : decode cX10_worth 47 = .ok (.iload 4, 2) := by decide +kernel
theorem dX10_worth_49 : decode cX10_worth 49 = .ok (.iastore, 1) := by decide +kernel
theorem dX10_worth_50 : decode cX10_worth 50 = .ok (.aload_n 0, 1) := by decide +kernel
theorem dX10_worth_51 : decode cX10_worth 51 = .ok (.getfield 50, 3) := by decide +kernel
theorem dX10_worth_54 : decode cX10_worth 54 = .ok (.aload_n 0, 1) := by decide +kernel
theorem dX10_worth_55 : decode cX10_worth 55 = .ok (.getfield 30, 3) := by decide +kernel
theorem dX10_worth_58 : decode cX10_worth 58 = .ok (.iload_n 1, 1) := by decide +kernel
theorem dX10_worth_59 : decode cX10_worth 59 = .ok (.aload_n 0, 1) := by decide +kernel
theorem dX10_worth_60 : decode cX10_worth 60 = .ok (.getfield 30, 3) := by decide +kernel
theorem dX10_worth_63 : decode cX10_worth 63 = .ok (.iload_n 1, 1) := by decide +kernel
theorem dX10_worth_64 : decode cX10_worth 64 = .ok (.invokevirtual 170, 3) := by decide +kernel
theorem dX10_worth_67 : decode cX10_worth 67 = .ok (.invokevirtual 281, 3) := by decide +kernel
theorem dX10_worth_70 : decode cX10_worth 70 = .ok (.ifCond .eq 17, 3) := by decide +kernel
theorem dX10_worth_73 : decode cX10_worth 73 = .ok (.iload_n 3, 1) := by decide +kernel
theorem dX10_worth_74 : decode cX10_worth 74 = .ok (.ifCond .ne 8, 3) := by decide +kernel
theorem dX10_worth_77 : decode cX10_worth 77 = .ok (.iload 4, 2) := by decide +kernel
theorem dX10_worth_79 : decode cX10_worth 79 = .ok (.goto 4, 3) := by decide +kernel
theorem dX10_worth_82 : decode cX10_worth 82 = .ok (.iload_n 2, 1) := by decide +kernel
theorem dX10_worth_83 : decode cX10_worth 83 = .ok (.istore_n 2, 1) := by decide +kernel
theorem dX10_worth_84 : decode cX10_worth 84 = .ok (.iinc 3 1, 3) := by decide +kernel
theorem dX10_worth_87 : decode cX10_worth 87 = .ok (.iinc 4 1, 3) := by decide +kernel
theorem dX10_worth_90 : decode cX10_worth 90 = .ok (.goto (-58), 3) := by decide +kernel
theorem dX10_worth_93 : decode cX10_worth 93 = .ok (.iload_n 3, 1) := by decide +kernel
theorem dX10_worth_94 : decode cX10_worth 94 = .ok (.ifCond .le 12, 3) := by decide +kernel
theorem dX10_worth_97 : decode cX10_worth 97 = .ok (.aload_n 0, 1) := by decide +kernel
theorem dX10_worth_98 : decode cX10_worth 98 = .ok (.getfield 19, 3) := by decide +kernel
theorem dX10_worth_101 : decode cX10_worth 101 = .ok (.iload_n 3, 1) := by decide +kernel
theorem dX10_worth_102 : decode cX10_worth 102 = .ok (.i2l, 1) := by decide +kernel
theorem dX10_worth_103 : decode cX10_worth 103 = .ok (.invokevirtual 255, 3) := by decide +kernel
theorem dX10_worth_106 : decode cX10_worth 106 = .ok (.iload_n 2, 1) := by decide +kernel
theorem dX10_worth_107 : decode cX10_worth 107 = .ok (.ireturn, 1) := by decide +kernel
theorem dX10_spares_0 : decode cX10_spares 0 = .ok (.bipush (-2), 2) := by decide +kernel
theorem dX10_spares_2 : decode cX10_spares 2 = .ok (.istore_n 1, 1) := by decide +kernel
theorem dX10_spares_3 : decode cX10_spares 3 = .ok (.bipush 8, 2) := by decide +kernel
theorem dX10_spares_5 : decode cX10_spares 5 = .ok (.istore_n 2, 1) := by decide +kernel
theorem dX10_spares_6 : decode cX10_spares 6 = .ok (.iconst 0, 1) := by decide +kernel
theorem dX10_spares_7 : decode cX10_spares 7 = .ok (.istore_n 3, 1) := by decide +kernel
theorem dX10_spares_8 : decode cX10_spares 8 = .ok (.iload_n 3, 1) := by decide +kernel
theorem dX10_spares_9 : decode cX10_spares 9 = .ok (.aload_n 0, 1) := by decide +kernel
theorem dX10_spares_10 : decode cX10_spares 10 = .ok (.getfield 26, 3) := by decide +kernel
theorem dX10_spares_13 : decode cX10_spares 13 = .ok (.getfield 107, 3) := by decide +kernel
theorem dX10_spares_16 : decode cX10_spares 16 = .ok (.if_icmp .ge 60, 3) := by decide +kernel
theorem dX10_spares_19 : decode cX10_spares 19 = .ok (.aload_n 0, 1) := by decide +kernel
theorem dX10_spares_20 : decode cX10_spares 20 = .ok (.getfield 30, 3) := by decide +kernel
theorem dX10_spares_23 : decode cX10_spares 23 = .ok (.aload_n 0, 1) := by decide +kernel
theorem dX10_spares_24 : decode cX10_spares 24 = .ok (.getfield 26, 3) := by decide +kernel
theorem dX10_spares_27 : decode cX10_spares 27 = .ok (.invokevirtual 249, 3) := by decide +kernel
theorem dX10_spares_30 : decode cX10_spares 30 = .ok (.aload_n 0, 1) := by decide +kernel
theorem dX10_spares_31 : decode cX10_spares 31 = .ok (.getfield 30, 3) := by decide +kernel
theorem dX10_spares_34 : decode cX10_spares 34 = .ok (.iload_n 3, 1) := by decide +kernel
theorem dX10_spares_35 : decode cX10_spares 35 = .ok (.invokevirtual 216, 3) := by decide +kernel
theorem dX10_spares_38 : decode cX10_spares 38 = .ok (.pop, 1) := by decide +kernel
theorem dX10_spares_39 : decode cX10_spares 39 = .ok (.aload_n 0, 1) := by decide +kernel
theorem dX10_spares_40 : decode cX10_spares 40 = .ok (.getfield 30, 3) := by decide +kernel
theorem dX10_spares_43 : decode cX10_spares 43 = .ok (.aload_n 0, 1) := by decide +kernel
theorem dX10_spares_44 : decode cX10_spares 44 = .ok (.getfield 50, 3) := by decide +kernel
theorem dX10_spares_47 : decode cX10_spares 47 = .ok (.aload_n 0, 1) := by decide +kernel
theorem dX10_spares_48 : decode cX10_spares 48 = .ok (.getfield 30, 3) := by decide +kernel
theorem dX10_spares_51 : decode cX10_spares 51 = .ok (.invokevirtual 234, 3) := by decide +kernel
theorem dX10_spares_54 : decode cX10_spares 54 = .ok (.invokevirtual 246, 3) := by decide +kernel
theorem dX10_spares_57 : decode cX10_spares 57 = .ok (.istore 4, 2) := by decide +kernel
theorem dX10_spares_59 : decode cX10_spares 59 = .ok (.iload 4, 2) := by decide +kernel
theorem dX10_spares_61 : decode cX10_spares 61 = .ok (.iload_n 2, 1) := by decide +kernel
theorem dX10_spares_62 : decode cX10_spares 62 = .ok (.if_icmp .ge 8, 3) := by decide +kernel
theorem dX10_spares_65 : decode cX10_spares 65 = .ok (.iload 4, 2) := by decide +kernel
theorem dX10_spares_67 : decode cX10_spares 67 = .ok (.istore_n 2, 1) := by decide +kernel
theorem dX10_spares_68 : decode cX10_spares 68 = .ok (.iload_n 3, 1) := by decide +kernel
theorem dX10_spares_69 : decode cX10_spares 69 = .ok (.istore_n 1, 1) := by decide +kernel
theorem dX10_spares_70 : decode cX10_spares 70 = .ok (.iinc 3 1, 3) := by decide +kernel
theorem dX10_spares_73 : decode cX10_spares 73 = .ok (.goto (-65), 3) := by decide +kernel
theorem dX10_spares_76 : decode cX10_spares 76 = .ok (.iload_n 1, 1) := by decide +kernel
theorem dX10_spares_77 : decode cX10_spares 77 = .ok (.ifCond .lt 31, 3) := by decide +kernel
theorem dX10_spares_80 : decode cX10_spares 80 = .ok (.aload_n 0, 1) := by decide +kernel
theorem dX10_spares_81 : decode cX10_spares 81 = .ok (.getfield 19, 3) := by decide +kernel
theorem dX10_spares_84 : decode cX10_spares 84 = .ok (.iload_n 2, 1) := by decide +kernel
theorem dX10_spares_85 : decode cX10_spares 85 = .ok (.i2l, 1) := by decide +kernel
theorem dX10_spares_86 : decode cX10_spares 86 = .ok (.aload_n 0, 1) := by decide +kernel
theorem dX10_spares_87 : decode cX10_spares 87 = .ok (.getfield 26, 3) := by decide +kernel
theorem dX10_spares_90 : decode cX10_spares 90 = .ok (.aload_n 0, 1) := by decide +kernel
theorem dX10_spares_91 : decode cX10_spares 91 = .ok (.getfield 50, 3) := by decide +kernel
theorem dX10_spares_94 : decode cX10_spares 94 = .ok (.aload_n 0, 1) := by decide +kernel
theorem dX10_spares_95 : decode cX10_spares 95 = .ok (.getfield 26, 3) := by decide +kernel
theorem dX10_spares_98 : decode cX10_spares 98 = .ok (.invokevirtual 234, 3) := by decide +kernel
theorem dX10_spares_101 : decode cX10_spares 101 = .ok (.invokevirtual 246, 3) := by decide +kernel
theorem dX10_spares_104 : decode cX10_spares 104 = .ok (.i2l, 1) := by decide +kernel
theorem dX10_spares_105 : decode cX10_spares 105 = .ok (.invokevirtual 199, 3) := by decide +kernel
theorem dX10_spares_108 : decode cX10_spares 108 = .ok (.iload_n 1, 1) := by decide +kernel
theorem dX10_spares_109 : decode cX10_spares 109 = .ok (.ireturn, 1) := by decide +kernel
theorem dX10_follows_0 : decode cX10_follows 0 = .ok (.aload_n 0, 1) := by decide +kernel
theorem dX10_follows_1 : decode cX10_follows 1 = .ok (.getfield 26, 3) := by decide +kernel
theorem dX10_follows_4 : decode cX10_follows 4 = .ok (.iload_n 1, 1) := by decide +kernel
theorem dX10_follows_5 : decode cX10_follows 5 = .ok (.invokevirtual 148, 3) := by decide +kernel
theorem dX10_follows_8 : decode cX10_follows 8 = .ok (.ifCond .eq 22, 3) := by decide +kernel
theorem dX10_follows_11 : decode cX10_follows 11 = .ok (.aload_n 0, 1) := by decide +kernel
theorem dX10_follows_12 : decode cX10_follows 12 = .ok (.getfield 67, 3) := by decide +kernel
theorem dX10_follows_15 : decode cX10_follows 15 = .ok (.aload_n 0, 1) := by decide +kernel
theorem dX10_follows_16 : decode cX10_follows 16 = .ok (.getfield 26, 3) := by decide +kernel
theorem dX10_follows_19 : decode cX10_follows 19 = .ok (.iload_n 1, 1) := by decide +kernel
theorem dX10_follows_20 : decode cX10_follows 20 = .ok (.aload_n 0, 1) := by decide +kernel
theorem dX10_follows_21 : decode cX10_follows 21 = .ok (.getfield 19, 3) := by decide +kernel
theorem dX10_follows_24 : decode cX10_follows 24 = .ok (.invokevirtual 297, 3) := by decide +kernel
theorem dX10_follows_27 : decode cX10_follows 27 = .ok (.goto 4, 3) := by decide +kernel
theorem dX10_follows_30 : decode cX10_follows 30 = .ok (.iconst (-1), 1) := by decide +kernel
theorem dX10_follows_31 : decode cX10_follows 31 = .ok (.ireturn, 1) := by decide +kernel
theorem dX10_ring_0 : decode cX10_ring 0 = .ok (.aload_n 0, 1) := by decide +kernel
theorem dX10_ring_1 : decode cX10_ring 1 = .ok (.getfield 67, 3) := by decide +kernel
theorem dX10_ring_4 : decode cX10_ring 4 = .ok (.aload_n 0, 1) := by decide +kernel
theorem dX10_ring_5 : decode cX10_ring 5 = .ok (.getfield 26, 3) := by decide +kernel
theorem dX10_ring_8 : decode cX10_ring 8 = .ok (.aload_n 0, 1) := by decide +kernel
theorem dX10_ring_9 : decode cX10_ring 9 = .ok (.getfield 19, 3) := by decide +kernel
theorem dX10_ring_12 : decode cX10_ring 12 = .ok (.invokevirtual 300, 3) := by decide +kernel
theorem dX10_ring_15 : decode cX10_ring 15 = .ok (.ireturn, 1) := by decide +kernel
theorem dX10_friends_0 : decode cX10_friends 0 = .ok (.iconst (-1), 1) := by decide +kernel
theorem dX10_friends_1 : decode cX10_friends 1 = .ok (.istore_n 1, 1) := by decide +kernel
theorem dX10_friends_2 : decode cX10_friends 2 = .ok (.iconst 0, 1) := by decide +kernel
theorem dX10_friends_3 : decode cX10_friends 3 = .ok (.istore_n 2, 1) := by decide +kernel
theorem dX10_friends_4 : decode cX10_friends 4 = .ok (.iconst 0, 1) := by decide +kernel
theorem dX10_friends_5 : decode cX10_friends 5 = .ok (.istore_n 3, 1) := by decide +kernel
theorem dX10_friends_6 : decode cX10_friends 6 = .ok (.iconst 0, 1) := by decide +kernel
theorem dX10_friends_7 : decode cX10_friends 7 = .ok (.istore 4, 2) := by decide +kernel
theorem dX10_friends_9 : decode cX10_friends 9 = .ok (.iload 4, 2) := by decide +kernel
theorem dX10_friends_11 : decode cX10_friends 11 = .ok (.aload_n 0, 1) := by decide +kernel
theorem dX10_friends_12 : decode cX10_friends 12 = .ok (.getfield 26, 3) := by decide +kernel
theorem dX10_friends_15 : decode cX10_friends 15 = .ok (.invokevirtual 259, 3) := by decide +kernel
theorem dX10_friends_18 : decode cX10_friends 18 = .ok (.if_icmp .gt 64, 3) := by decide +kernel
theorem dX10_friends_21 : decode cX10_friends 21 = .ok (.iload 4, 2) := by decide +kernel
theorem dX10_friends_23 : decode cX10_friends 23 = .ok (.invokestatic 241, 3) := by decide +kernel
theorem dX10_friends_26 : decode cX10_friends 26 = .ok (.istore 5, 2) := by decide +kernel
theorem dX10_friends_28 : decode cX10_friends 28 = .ok (.iload 5, 2) := by decide +kernel
theorem dX10_friends_30 : decode cX10_friends 30 = .ok (.iload_n 1, 1) := by decide +kernel
theorem dX10_friends_31 : decode cX10_friends 31 = .ok (.if_icmp .lt 45, 3) := by decide +kernel
theorem dX10_friends_34 : decode cX10_friends 34 = .ok (.aload_n 0, 1) := by decide +kernel
theorem dX10_friends_35 : decode cX10_friends 35 = .ok (.getfield 26, 3) := by decide +kernel
theorem dX10_friends_38 : decode cX10_friends 38 = .ok (.iload 4, 2) := by decide +kernel
theorem dX10_friends_40 : decode cX10_friends 40 = .ok (.invokevirtual 304, 3) := by decide +kernel
theorem dX10_friends_43 : decode cX10_friends 43 = .ok (.ifCond .eq 33, 3) := by decide +kernel
theorem dX10_friends_46 : decode cX10_friends 46 = .ok (.iload 5, 2) := by decide +kernel
theorem dX10_friends_48 : decode cX10_friends 48 = .ok (.iload_n 1, 1) := by decide +kernel
theorem dX10_friends_49 : decode cX10_friends 49 = .ok (.if_icmp .le 8, 3) := by decide +kernel
theorem dX10_friends_52 : decode cX10_friends 52 = .ok (.iload 4, 2) := by decide +kernel
theorem dX10_friends_54 : decode cX10_friends 54 = .ok (.goto 4, 3) := by decide +kernel
theorem dX10_friends_57 : decode cX10_friends 57 = .ok (.iload_n 2, 1) := by decide +kernel
theorem dX10_friends_58 : decode cX10_friends 58 = .ok (.istore_n 2, 1) := by decide +kernel
theorem dX10_friends_59 : decode cX10_friends 59 = .ok (.iload 5, 2) := by decide +kernel
theorem dX10_friends_61 : decode cX10_friends 61 = .ok (.iload_n 1, 1) := by decide +kernel
theorem dX10_friends_62 : decode cX10_friends 62 = .ok (.if_icmp .le 7, 3) := by decide +kernel
theorem dX10_friends_65 : decode cX10_friends 65 = .ok (.iconst 1, 1) := by decide +kernel
theorem dX10_friends_66 : decode cX10_friends 66 = .ok (.goto 6, 3) := by decide +kernel
theorem dX10_friends_69 : decode cX10_friends 69 = .ok (.iload_n 3, 1) := by decide +kernel
theorem dX10_friends_70 : decode cX10_friends 70 = .ok (.iconst 1, 1) := by decide +kernel
theorem dX10_friends_71 : decode cX10_friends 71 = .ok (.iadd, 1) := by decide +kernel
theorem dX10_friends_72 : decode cX10_friends 72 = .ok (.istore_n 3, 1) := by decide +kernel
theorem dX10_friends_73 : decode cX10_friends 73 = .ok (.iload 5, 2) := by decide +kernel
theorem dX10_friends_75 : decode cX10_friends 75 = .ok (.istore_n 1, 1) := by decide +kernel
theorem dX10_friends_76 : decode cX10_friends 76 = .ok (.iinc 4 1, 3) := by decide +kernel
theorem dX10_friends_79 : decode cX10_friends 79 = .ok (.goto (-70), 3) := by decide +kernel
theorem dX10_friends_82 : decode cX10_friends 82 = .ok (.aload_n 0, 1) := by decide +kernel
theorem dX10_friends_83 : decode cX10_friends 83 = .ok (.getfield 19, 3) := by decide +kernel
theorem dX10_friends_86 : decode cX10_friends 86 = .ok (.iload_n 2, 1) := by decide +kernel
theorem dX10_friends_87 : decode cX10_friends 87 = .ok (.i2l, 1) := by decide +kernel
theorem dX10_friends_88 : decode cX10_friends 88 = .ok (.iload_n 3, 1) := by decide +kernel
theorem dX10_friends_89 : decode cX10_friends 89 = .ok (.i2l, 1) := by decide +kernel
theorem dX10_friends_90 : decode cX10_friends 90 = .ok (.invokevirtual 199, 3) := by decide +kernel
theorem dX10_friends_93 : decode cX10_friends 93 = .ok (.iload_n 1, 1) := by decide +kernel
theorem dX10_friends_94 : decode cX10_friends 94 = .ok (.ireturn, 1) := by decide +kernel
theorem dX10_way_0 : decode cX10_way 0 = .ok (.aload_n 0, 1) := by decide +kernel
theorem dX10_way_1 : decode cX10_way 1 = .ok (.getfield 26, 3) := by decide +kernel
theorem dX10_way_4 : decode cX10_way 4 = .ok (.iload_n 1, 1) := by decide +kernel
theorem dX10_way_5 : decode cX10_way 5 = .ok (.invokevirtual 148, 3) := by decide +kernel
theorem dX10_way_8 : decode cX10_way 8 = .ok (.ifCond .eq 34, 3) := by decide +kernel
theorem dX10_way_11 : decode cX10_way 11 = .ok (.aload_n 0, 1) := by decide +kernel
theorem dX10_way_12 : decode cX10_way 12 = .ok (.getfield 26, 3) := by decide +kernel
theorem dX10_way_15 : decode cX10_way 15 = .ok (.iload_n 2, 1) := by decide +kernel
theorem dX10_way_16 : decode cX10_way 16 = .ok (.invokevirtual 148, 3) := by decide +kernel
theorem dX10_way_19 : decode cX10_way 19 = .ok (.ifCond .eq 23, 3) := by decide +kernel
theorem dX10_way_22 : decode cX10_way 22 = .ok (.aload_n 0, 1) := by decide +kernel
theorem dX10_way_23 : decode cX10_way 23 = .ok (.getfield 67, 3) := by decide +kernel
theorem dX10_way_26 : decode cX10_way 26 = .ok (.aload_n 0, 1) := by decide +kernel
theorem dX10_way_27 : decode cX10_way 27 = .ok (.getfield 26, 3) := by decide +kernel
theorem dX10_way_30 : decode cX10_way 30 = .ok (.iload_n 1, 1) := by decide +kernel
theorem dX10_way_31 : decode cX10_way 31 = .ok (.iload_n 2, 1) := by decide +kernel
theorem dX10_way_32 : decode cX10_way 32 = .ok (.aload_n 0, 1) := by decide +kernel
theorem dX10_way_33 : decode cX10_way 33 = .ok (.getfield 19, 3) := by decide +kernel
theorem dX10_way_36 : decode cX10_way 36 = .ok (.invokevirtual 307, 3) := by decide +kernel
theorem dX10_way_39 : decode cX10_way 39 = .ok (.goto 4, 3) := by decide +kernel
theorem dX10_way_42 : decode cX10_way 42 = .ok (.iconst (-1), 1) := by decide +kernel
theorem dX10_way_43 : decode cX10_way 43 = .ok (.ireturn, 1) := by decide +kernel
theorem dX10_heard_0 : decode cX10_heard 0 = .ok (.aload_n 0, 1) := by decide +kernel
theorem dX10_heard_1 : decode cX10_heard 1 = .ok (.getfield 74, 3) := by decide +kernel
theorem dX10_heard_4 : decode cX10_heard 4 = .ok (.iload_n 1, 1) := by decide +kernel
theorem dX10_heard_5 : decode cX10_heard 5 = .ok (.iload_n 2, 1) := by decide +kernel
theorem dX10_heard_6 : decode cX10_heard 6 = .ok (.invokevirtual 311, 3) := by decide +kernel
theorem dX10_heard_9 : decode cX10_heard 9 = .ok (.ifCond .eq 13, 3) := by decide +kernel
theorem dX10_heard_12 : decode cX10_heard 12 = .ok (.aload_n 0, 1) := by decide +kernel
theorem dX10_heard_13 : decode cX10_heard 13 = .ok (.getfield 74, 3) := by decide +kernel
theorem dX10_heard_16 : decode cX10_heard 16 = .ok (.getfield 314, 3) := by decide +kernel
theorem dX10_heard_19 : decode cX10_heard 19 = .ok (.goto 4, 3) := by decide +kernel
theorem dX10_heard_22 : decode cX10_heard 22 = .ok (.iconst (-1), 1) := by decide +kernel
theorem dX10_heard_23 : decode cX10_heard 23 = .ok (.ireturn, 1) := by decide +kernel
theorem dX10_forget_0 : decode cX10_forget 0 = .ok (.aload_n 0, 1) := by decide +kernel
theorem dX10_forget_1 : decode cX10_forget 1 = .ok (.getfield 74, 3) := by decide +kernel
theorem dX10_forget_4 : decode cX10_forget 4 = .ok (.invokevirtual 315, 3) := by decide +kernel
theorem dX10_forget_7 : decode cX10_forget 7 = .ok (.ireturn, 1) := by decide +kernel
theorem dX10_fits_0 : decode cX10_fits 0 = .ok (.aload_n 0, 1) := by decide +kernel
theorem dX10_fits_1 : decode cX10_fits 1 = .ok (.getfield 74, 3) := by decide +kernel
theorem dX10_fits_4 : decode cX10_fits 4 = .ok (.aload_n 0, 1) := by decide +kernel
theorem dX10_fits_5 : decode cX10_fits 5 = .ok (.getfield 26, 3) := by decide +kernel
theorem dX10_fits_8 : decode cX10_fits 8 = .ok (.aload_n 0, 1) := by decide +kernel
theorem dX10_fits_9 : decode cX10_fits 9 = .ok (.getfield 50, 3) := by decide +kernel
theorem dX10_fits_12 : decode cX10_fits 12 = .ok (.aload_n 0, 1) := by decide +kernel
theorem dX10_fits_13 : decode cX10_fits 13 = .ok (.getfield 26, 3) := by decide +kernel
theorem dX10_fits_16 : decode cX10_fits 16 = .ok (.invokevirtual 234, 3) := by decide +kernel
theorem dX10_fits_19 : decode cX10_fits 19 = .ok (.invokevirtual 317, 3) := by decide +kernel
theorem dX10_fits_22 : decode cX10_fits 22 = .ok (.istore_n 1, 1) := by decide +kernel
theorem dX10_fits_23 : decode cX10_fits 23 = .ok (.aload_n 0, 1) := by decide +kernel
theorem dX10_fits_24 : decode cX10_fits 24 = .ok (.getfield 19, 3) := by decide +kernel
theorem dX10_fits_27 : decode cX10_fits 27 = .ok (.iload_n 1, 1) := by decide +kernel
theorem dX10_fits_28 : decode cX10_fits 28 = .ok (.invokestatic 241, 3) := by decide +kernel
theorem dX10_fits_31 : decode cX10_fits 31 = .ok (.i2l, 1) := by decide +kernel
theorem dX10_fits_32 : decode cX10_fits 32 = .ok (.invokevirtual 255, 3) := by decide +kernel
theorem dX10_fits_35 : decode cX10_fits 35 = .ok (.iload_n 1, 1) := by decide +kernel
theorem dX10_fits_36 : decode cX10_fits 36 = .ok (.ireturn, 1) := by decide +kernel
theorem dX10_asks_0 : decode cX10_asks 0 = .ok (.aload_n 0, 1) := by decide +kernel
theorem dX10_asks_1 : decode cX10_asks 1 = .ok (.getfield 50, 3) := by decide +kernel
theorem dX10_asks_4 : decode cX10_asks 4 = .ok (.aload_n 0, 1) := by decide +kernel
theorem dX10_asks_5 : decode cX10_asks 5 = .ok (.getfield 26, 3) := by decide +kernel
theorem dX10_asks_8 : decode cX10_asks 8 = .ok (.invokevirtual 234, 3) := by decide +kernel
theorem dX10_asks_11 : decode cX10_asks 11 = .ok (.istore_n 1, 1) := by decide +kernel
theorem dX10_asks_12 : decode cX10_asks 12 = .ok (.aload_n 0, 1) := by decide +kernel
theorem dX10_asks_13 : decode cX10_asks 13 = .ok (.getfield 74, 3) := by decide +kernel
theorem dX10_asks_16 : decode cX10_asks 16 = .ok (.aload_n 0, 1) := by decide +kernel
theorem dX10_asks_17 : decode cX10_asks 17 = .ok (.getfield 26, 3) := by decide +kernel
theorem dX10_asks_20 : decode cX10_asks 20 = .ok (.iload_n 1, 1) := by decide +kernel
theorem dX10_asks_21 : decode cX10_asks 21 = .ok (.invokevirtual 317, 3) := by decide +kernel
theorem dX10_asks_24 : decode cX10_asks 24 = .ok (.istore_n 2, 1) := by decide +kernel
theorem dX10_asks_25 : decode cX10_asks 25 = .ok (.iload_n 2, 1) := by decide +kernel
theorem dX10_asks_26 : decode cX10_asks 26 = .ok (.ifCond .ne 6, 3) := by decide +kernel
theorem dX10_asks_29 : decode cX10_asks 29 = .ok (.bipush (-2), 2) := by decide +kernel
theorem dX10_asks_31 : decode cX10_asks 31 = .ok (.ireturn, 1) := by decide +kernel
theorem dX10_asks_32 : decode cX10_asks 32 = .ok (.iconst 0, 1) := by decide +kernel
theorem dX10_asks_33 : decode cX10_asks 33 = .ok (.istore_n 3, 1) := by decide +kernel
theorem dX10_asks_34 : decode cX10_asks 34 = .ok (.bipush 8, 2) := by decide +kernel
theorem dX10_asks_36 : decode cX10_asks 36 = .ok (.istore 4, 2) := by decide +kernel
theorem dX10_asks_38 : decode cX10_asks 38 = .ok (.iconst 0, 1) := by decide +kernel
theorem dX10_asks_39 : decode cX10_asks 39 = .ok (.istore 5, 2) := by decide +kernel
theorem dX10_asks_41 : decode cX10_asks 41 = .ok (.iload 5, 2) := by decide +kernel
theorem dX10_asks_43 : decode cX10_asks 43 = .ok (.bipush 50, 2) := by decide +kernel
theorem dX10_asks_45 : decode cX10_asks 45 = .ok (.if_icmp .ge 87, 3) := by decide +kernel
theorem dX10_asks_48 : decode cX10_asks 48 = .ok (.iload 5, 2) := by decide +kernel
theorem dX10_asks_50 : decode cX10_asks 50 = .ok (.bipush 10, 2) := by decide +kernel
theorem dX10_asks_52 : decode cX10_asks 52 = .ok (.idiv, 1) := by decide +kernel
theorem dX10_asks_53 : decode cX10_asks 53 = .ok (.istore 6, 2) := by decide +kernel
theorem dX10_asks_55 : decode cX10_asks 55 = .ok (.iload 6, 2) := by decide +kernel
theorem dX10_asks_57 : decode cX10_asks 57 = .ok (.iconst 1, 1) := by decide +kernel
theorem dX10_asks_58 : decode cX10_asks 58 = .ok (.if_icmp .eq 68, 3) := by decide +kernel
theorem dX10_asks_61 : decode cX10_asks 61 = .ok (.iload 6, 2) := by decide +kernel
theorem dX10_asks_63 : decode cX10_asks 63 = .ok (.iload 5, 2) := by decide +kernel
theorem dX10_asks_65 : decode cX10_asks 65 = .ok (.bipush 10, 2) := by decide +kernel
theorem dX10_asks_67 : decode cX10_asks 67 = .ok (.irem, 1) := by decide +kernel
theorem dX10_asks_68 : decode cX10_asks 68 = .ok (.invokestatic 320, 3) := by decide +kernel
theorem dX10_asks_71 : decode cX10_asks 71 = .ok (.ifCond .eq 55, 3) := by decide +kernel
theorem dX10_asks_74 : decode cX10_asks 74 = .ok (.iload_n 2, 1) := by decide +kernel
theorem dX10_asks_75 : decode cX10_asks 75 = .ok (.aload_n 0, 1) := by decide +kernel
theorem dX10_asks_76 : decode cX10_asks 76 = .ok (.getfield 26, 3) := by decide +kernel
theorem dX10_asks_79 : decode cX10_asks 79 = .ok (.iload_n 1, 1) := by decide +kernel
theorem dX10_asks_80 : decode cX10_asks 80 = .ok (.iload 6, 2) := by decide +kernel
theorem dX10_asks_82 : decode cX10_asks 82 = .ok (.iload 5, 2) := by decide +kernel
theorem dX10_asks_84 : decode cX10_asks 84 = .ok (.bipush 10, 2) := by decide +kernel
theorem dX10_asks_86 : decode cX10_asks 86 = .ok (.irem, 1) := by decide +kernel
theorem dX10_asks_87 : decode cX10_asks 87 = .ok (.invokestatic 323, 3) := by decide +kernel
theorem dX10_asks_90 : decode cX10_asks 90 = .ok (.iand, 1) := by decide +kernel
theorem dX10_asks_91 : decode cX10_asks 91 = .ok (.istore 7, 2) := by decide +kernel
theorem dX10_asks_93 : decode cX10_asks 93 = .ok (.iload 7, 2) := by decide +kernel
theorem dX10_asks_95 : decode cX10_asks 95 = .ok (.invokestatic 241, 3) := by decide +kernel
theorem dX10_asks_98 : decode cX10_asks 98 = .ok (.iload_n 2, 1) := by decide +kernel
theorem dX10_asks_99 : decode cX10_asks 99 = .ok (.iload 7, 2) := by decide +kernel
theorem dX10_asks_101 : decode cX10_asks 101 = .ok (.iconst (-1), 1) := by decide +kernel
theorem dX10_asks_102 : decode cX10_asks 102 = .ok (.ixor, 1) := by decide +kernel
theorem dX10_asks_103 : decode cX10_asks 103 = .ok (.iand, 1) := by decide +kernel
theorem dX10_asks_104 : decode cX10_asks 104 = .ok (.invokestatic 241, 3) := by decide +kernel
theorem dX10_asks_107 : decode cX10_asks 107 = .ok (.invokestatic 327, 3) := by decide +kernel
theorem dX10_asks_110 : decode cX10_asks 110 = .ok (.istore 8, 2) := by decide +kernel
theorem dX10_asks_112 : decode cX10_asks 112 = .ok (.iload 8, 2) := by decide +kernel
theorem dX10_asks_114 : decode cX10_asks 114 = .ok (.iload 4, 2) := by decide +kernel
theorem dX10_asks_116 : decode cX10_asks 116 = .ok (.if_icmp .ge 10, 3) := by decide +kernel
theorem dX10_asks_119 : decode cX10_asks 119 = .ok (.iload 8, 2) := by decide +kernel
theorem dX10_asks_121 : decode cX10_asks 121 = .ok (.istore 4, 2) := by decide +kernel
theorem dX10_asks_123 : decode cX10_asks 123 = .ok (.iload 5, 2) := by decide +kernel
theorem dX10_asks_125 : decode cX10_asks 125 = .ok (.istore_n 3, 1) := by decide +kernel
theorem dX10_asks_126 : decode cX10_asks 126 = .ok (.iinc 5 1, 3) := by decide +kernel
theorem dX10_asks_129 : decode cX10_asks 129 = .ok (.goto (-88), 3) := by decide +kernel
theorem dX10_asks_132 : decode cX10_asks 132 = .ok (.aload_n 0, 1) := by decide +kernel
theorem dX10_asks_133 : decode cX10_asks 133 = .ok (.getfield 19, 3) := by decide +kernel
theorem dX10_asks_136 : decode cX10_asks 136 = .ok (.iload 4, 2) := by decide +kernel
theorem dX10_asks_138 : decode cX10_asks 138 = .ok (.i2l, 1) := by decide +kernel
theorem dX10_asks_139 : decode cX10_asks 139 = .ok (.invokevirtual 255, 3) := by decide +kernel
theorem dX10_asks_142 : decode cX10_asks 142 = .ok (.iload_n 3, 1) := by decide +kernel
theorem dX10_asks_143 : decode cX10_asks 143 = .ok (.ireturn, 1) := by decide +kernel
theorem dX10_saw_0 : decode cX10_saw 0 = .ok (.aload_n 0, 1) := by decide +kernel
theorem dX10_saw_1 : decode cX10_saw 1 = .ok (.getfield 81, 3) := by decide +kernel
theorem dX10_saw_4 : decode cX10_saw 4 = .ok (.iload_n 1, 1) := by decide +kernel
theorem dX10_saw_5 : decode cX10_saw 5 = .ok (.iload_n 2, 1) := by decide +kernel
theorem dX10_saw_6 : decode cX10_saw 6 = .ok (.iload_n 3, 1) := by decide +kernel
theorem dX10_saw_7 : decode cX10_saw 7 = .ok (.invokevirtual 332, 3) := by decide +kernel
theorem dX10_saw_10 : decode cX10_saw 10 = .ok (.ifCond .eq 13, 3) := by decide +kernel
theorem dX10_saw_13 : decode cX10_saw 13 = .ok (.aload_n 0, 1) := by decide +kernel
theorem dX10_saw_14 : decode cX10_saw 14 = .ok (.getfield 81, 3) := by decide +kernel
theorem dX10_saw_17 : decode cX10_saw 17 = .ok (.getfield 335, 3) := by decide +kernel
theorem dX10_saw_20 : decode cX10_saw 20 = .ok (.goto 4, 3) := by decide +kernel
theorem dX10_saw_23 : decode cX10_saw 23 = .ok (.iconst (-1), 1) := by decide +kernel
theorem dX10_saw_24 : decode cX10_saw 24 = .ok (.ireturn, 1) := by decide +kernel
