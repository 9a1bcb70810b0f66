theorem dX11_isSo_89 : decode cX11_isSo 89 = .ok (.iconst 1, 1) := by decide +kernel
theorem dX11_isSo_90 : decode cX11_isSo 90 = .ok (.goto 4, 3) := by decide +kernel
theorem dX11_isSo_93 : decode cX11_isSo 93 = .ok (.iconst 0, 1) := by decide +kernel
theorem dX11_isSo_94 : decode cX11_isSo 94 = .ok (.ireturn, 1) := by decide +kernel
theorem dX11_isSo_95 : decode cX11_isSo 95 = .ok (.aload_n 0, 1) := by decide +kernel
theorem dX11_isSo_96 : decode cX11_isSo 96 = .ok (.getfield 9, 3) := by decide +kernel
theorem dX11_isSo_99 : decode cX11_isSo 99 = .ok (.bipush 28, 2) := by decide +kernel
theorem dX11_isSo_101 : decode cX11_isSo 101 = .ok (.iload_n 1, 1) := by decide +kernel
theorem dX11_isSo_102 : decode cX11_isSo 102 = .ok (.iadd, 1) := by decide +kernel
theorem dX11_isSo_103 : decode cX11_isSo 103 = .ok (.iaload, 1) := by decide +kernel
theorem dX11_isSo_104 : decode cX11_isSo 104 = .ok (.iload_n 3, 1) := by decide +kernel
theorem dX11_isSo_105 : decode cX11_isSo 105 = .ok (.invokestatic 196, 3) := by decide +kernel
theorem dX11_isSo_108 : decode cX11_isSo 108 = .ok (.ireturn, 1) := by decide +kernel
theorem dX11_isSo_109 : decode cX11_isSo 109 = .ok (.aload_n 0, 1) := by decide +kernel
theorem dX11_isSo_110 : decode cX11_isSo 110 = .ok (.aload_n 0, 1) := by decide +kernel
theorem dX11_isSo_111 : decode cX11_isSo 111 = .ok (.getfield 9, 3) := by decide +kernel
theorem dX11_isSo_114 : decode cX11_isSo 114 = .ok (.iload_n 1, 1) := by decide +kernel
theorem dX11_isSo_115 : decode cX11_isSo 115 = .ok (.invokevirtual 200, 3) := by decide +kernel
theorem dX11_isSo_118 : decode cX11_isSo 118 = .ok (.iload_n 3, 1) := by decide +kernel
theorem dX11_isSo_119 : decode cX11_isSo 119 = .ok (.invokestatic 196, 3) := by decide +kernel
theorem dX11_isSo_122 : decode cX11_isSo 122 = .ok (.ireturn, 1) := by decide +kernel
theorem dX11_fitting_0 : decode cX11_fitting 0 = .ok (.iconst 0, 1) := by decide +kernel
theorem dX11_fitting_1 : decode cX11_fitting 1 = .ok (.istore_n 1, 1) := by decide +kernel
theorem dX11_fitting_2 : decode cX11_fitting 2 = .ok (.iconst 0, 1) := by decide +kernel
theorem dX11_fitting_3 : decode cX11_fitting 3 = .ok (.istore_n 2, 1) := by decide +kernel
theorem dX11_fitting_4 : decode cX11_fitting 4 = .ok (.iload_n 2, 1) := by decide +kernel
theorem dX11_fitting_5 : decode cX11_fitting 5 = .ok (.aload_n 0, 1) := by decide +kernel
theorem dX11_fitting_6 : decode cX11_fitting 6 = .ok (.getfield 92, 3) := by decide +kernel
theorem dX11_fitting_9 : decode cX11_fitting 9 = .ok (.if_icmp .ge 75, 3) := by decide +kernel
theorem dX11_fitting_12 : decode cX11_fitting 12 = .ok (.iconst 1, 1) := by decide +kernel
theorem dX11_fitting_13 : decode cX11_fitting 13 = .ok (.istore_n 3, 1) := by decide +kernel
theorem dX11_fitting_14 : decode cX11_fitting 14 = .ok (.iconst 0, 1) := by decide +kernel
theorem dX11_fitting_15 : decode cX11_fitting 15 = .ok (.istore 4, 2) := by decide +kernel
theorem dX11_fitting_17 : decode cX11_fitting 17 = .ok (.iload 4, 2) := by decide +kernel
theorem dX11_fitting_19 : decode cX11_fitting 19 = .ok (.aload_n 0, 1) := by decide +kernel
theorem dX11_fitting_20 : decode cX11_fitting 20 = .ok (.getfield 326, 3) := by decide +kernel
theorem dX11_fitting_23 : decode cX11_fitting 23 = .ok (.if_icmp .ge 41, 3) := by decide +kernel
theorem dX11_fitting_26 : decode cX11_fitting 26 = .ok (.iload_n 3, 1) := by decide +kernel
theorem dX11_fitting_27 : decode cX11_fitting 27 = .ok (.ifCond .eq 29, 3) := by decide +kernel
theorem dX11_fitting_30 : decode cX11_fitting 30 = .ok (.aload_n 0, 1) := by decide +kernel
theorem dX11_fitting_31 : decode cX11_fitting 31 = .ok (.iload_n 2, 1) := by decide +kernel
theorem dX11_fitting_32 : decode cX11_fitting 32 = .ok (.aload_n 0, 1) := by decide +kernel
theorem dX11_fitting_33 : decode cX11_fitting 33 = .ok (.getfield 60, 3) := by decide +kernel
theorem dX11_fitting_36 : decode cX11_fitting 36 = .ok (.iload 4, 2) := by decide +kernel
theorem dX11_fitting_38 : decode cX11_fitting 38 = .ok (.iaload, 1) := by decide +kernel
theorem dX11_fitting_39 : decode cX11_fitting 39 = .ok (.aload_n 0, 1) := by decide +kernel
theorem dX11_fitting_40 : decode cX11_fitting 40 = .ok (.getfield 63, 3) := by decide +kernel
theorem dX11_fitting_43 : decode cX11_fitting 43 = .ok (.iload 4, 2) := by decide +kernel
theorem dX11_fitting_45 : decode cX11_fitting 45 = .ok (.iaload, 1) := by decide +kernel
theorem dX11_fitting_46 : decode cX11_fitting 46 = .ok (.invokevirtual 329, 3) := by decide +kernel
theorem dX11_fitting_49 : decode cX11_fitting 49 = .ok (.ifCond .eq 7, 3) := by decide +kernel
theorem dX11_fitting_52 : decode cX11_fitting 52 = .ok (.iconst 1, 1) := by decide +kernel
theorem dX11_fitting_53 : decode cX11_fitting 53 = .ok (.goto 4, 3) := by decide +kernel
theorem dX11_fitting_56 : decode cX11_fitting 56 = .ok (.iconst 0, 1) := by decide +kernel
theorem dX11_fitting_57 : decode cX11_fitting 57 = .ok (.istore_n 3, 1) := by decide +kernel
theorem dX11_fitting_58 : decode cX11_fitting 58 = .ok (.iinc 4 1, 3) := by decide +kernel
theorem dX11_fitting_61 : decode cX11_fitting 61 = .ok (.goto (-44), 3) := by decide +kernel
theorem dX11_fitting_64 : decode cX11_fitting 64 = .ok (.iload_n 1, 1) := by decide +kernel
theorem dX11_fitting_65 : decode cX11_fitting 65 = .ok (.iload_n 3, 1) := by decide +kernel
theorem dX11_fitting_66 : decode cX11_fitting 66 = .ok (.ifCond .eq 9, 3) := by decide +kernel
theorem dX11_fitting_69 : decode cX11_fitting 69 = .ok (.iconst 1, 1) := by decide +kernel
theorem dX11_fitting_70 : decode cX11_fitting 70 = .ok (.iload_n 2, 1) := by decide +kernel
theorem dX11_fitting_71 : decode cX11_fitting 71 = .ok (.ishl, 1) := by decide +kernel
theorem dX11_fitting_72 : decode cX11_fitting 72 = .ok (.goto 4, 3) := by decide +kernel
theorem dX11_fitting_75 : decode cX11_fitting 75 = .ok (.iconst 0, 1) := by decide +kernel
theorem dX11_fitting_76 : decode cX11_fitting 76 = .ok (.ior, 1) := by decide +kernel
theorem dX11_fitting_77 : decode cX11_fitting 77 = .ok (.istore_n 1, 1) := by decide +kernel
theorem dX11_fitting_78 : decode cX11_fitting 78 = .ok (.iinc 2 1, 3) := by decide +kernel
theorem dX11_fitting_81 : decode cX11_fitting 81 = .ok (.goto (-77), 3) := by decide +kernel
theorem dX11_fitting_84 : decode cX11_fitting 84 = .ok (.iload_n 1, 1) := by decide +kernel
theorem dX11_fitting_85 : decode cX11_fitting 85 = .ok (.ireturn, 1) := by decide +kernel
theorem dX11_fits_0 : decode cX11_fits 0 = .ok (.aload_n 0, 1) := by decide +kernel
theorem dX11_fits_1 : decode cX11_fits 1 = .ok (.iconst 0, 1) := by decide +kernel
theorem dX11_fits_2 : decode cX11_fits 2 = .ok (.putfield 85, 3) := by decide +kernel
theorem dX11_fits_5 : decode cX11_fits 5 = .ok (.aload_n 0, 1) := by decide +kernel
theorem dX11_fits_6 : decode cX11_fits 6 = .ok (.invokevirtual 332, 3) := by decide +kernel
theorem dX11_fits_9 : decode cX11_fits 9 = .ok (.istore_n 1, 1) := by decide +kernel
theorem dX11_fits_10 : decode cX11_fits 10 = .ok (.aload_n 0, 1) := by decide +kernel
theorem dX11_fits_11 : decode cX11_fits 11 = .ok (.iconst 0, 1) := by decide +kernel
theorem dX11_fits_12 : decode cX11_fits 12 = .ok (.putfield 89, 3) := by decide +kernel
theorem dX11_fits_15 : decode cX11_fits 15 = .ok (.aload_n 0, 1) := by decide +kernel
theorem dX11_fits_16 : decode cX11_fits 16 = .ok (.iload_n 1, 1) := by decide +kernel
theorem dX11_fits_17 : decode cX11_fits 17 = .ok (.invokestatic 204, 3) := by decide +kernel
theorem dX11_fits_20 : decode cX11_fits 20 = .ok (.i2l, 1) := by decide +kernel
theorem dX11_fits_21 : decode cX11_fits 21 = .ok (.invokevirtual 256, 3) := by decide +kernel
theorem dX11_fits_24 : decode cX11_fits 24 = .ok (.iload_n 1, 1) := by decide +kernel
theorem dX11_fits_25 : decode cX11_fits 25 = .ok (.ireturn, 1) := by decide +kernel
theorem dX11_asks_0 : decode cX11_asks 0 = .ok (.aload_n 0, 1) := by decide +kernel
theorem dX11_asks_1 : decode cX11_asks 1 = .ok (.iconst 0, 1) := by decide +kernel
theorem dX11_asks_2 : decode cX11_asks 2 = .ok (.putfield 85, 3) := by decide +kernel
theorem dX11_asks_5 : decode cX11_asks 5 = .ok (.aload_n 0, 1) := by decide +kernel
theorem dX11_asks_6 : decode cX11_asks 6 = .ok (.invokevirtual 332, 3) := by decide +kernel
theorem dX11_asks_9 : decode cX11_asks 9 = .ok (.istore_n 1, 1) := by decide +kernel
theorem dX11_asks_10 : decode cX11_asks 10 = .ok (.iload_n 1, 1) := by decide +kernel
theorem dX11_asks_11 : decode cX11_asks 11 = .ok (.ifCond .ne 6, 3) := by decide +kernel
theorem dX11_asks_14 : decode cX11_asks 14 = .ok (.bipush (-2), 2) := by decide +kernel
theorem dX11_asks_16 : decode cX11_asks 16 = .ok (.ireturn, 1) := by decide +kernel
theorem dX11_asks_17 : decode cX11_asks 17 = .ok (.iconst (-1), 1) := by decide +kernel
theorem dX11_asks_18 : decode cX11_asks 18 = .ok (.istore_n 2, 1) := by decide +kernel
theorem dX11_asks_19 : decode cX11_asks 19 = .ok (.ldc_w 307, 3) := by decide +kernel
theorem dX11_asks_22 : decode cX11_asks 22 = .ok (.istore_n 3, 1) := by decide +kernel
theorem dX11_asks_23 : decode cX11_asks 23 = .ok (.iconst 0, 1) := by decide +kernel
theorem dX11_asks_24 : decode cX11_asks 24 = .ok (.istore 4, 2) := by decide +kernel
theorem dX11_asks_26 : decode cX11_asks 26 = .ok (.iload 4, 2) := by decide +kernel
theorem dX11_asks_28 : decode cX11_asks 28 = .ok (.bipush 47, 2) := by decide +kernel
theorem dX11_asks_30 : decode cX11_asks 30 = .ok (.if_icmp .ge 136, 3) := by decide +kernel
theorem dX11_asks_33 : decode cX11_asks 33 = .ok (.iload 4, 2) := by decide +kernel
theorem dX11_asks_35 : decode cX11_asks 35 = .ok (.bipush 10, 2) := by decide +kernel
theorem dX11_asks_37 : decode cX11_asks 37 = .ok (.bipush 19, 2) := by decide +kernel
theorem dX11_asks_39 : decode cX11_asks 39 = .ok (.invokestatic 95, 3) := by decide +kernel
theorem dX11_asks_42 : decode cX11_asks 42 = .ok (.ifCond .ne 118, 3) := by decide +kernel
theorem dX11_asks_45 : decode cX11_asks 45 = .ok (.iload 4, 2) := by decide +kernel
theorem dX11_asks_47 : decode cX11_asks 47 = .ok (.bipush 22, 2) := by decide +kernel
theorem dX11_asks_49 : decode cX11_asks 49 = .ok (.bipush 29, 2) := by decide +kernel
theorem dX11_asks_51 : decode cX11_asks 51 = .ok (.invokestatic 95, 3) := by decide +kernel
theorem dX11_asks_54 : decode cX11_asks 54 = .ok (.ifCond .ne 106, 3) := by decide +kernel
theorem dX11_asks_57 : decode cX11_asks 57 = .ok (.iload 4, 2) := by decide +kernel
theorem dX11_asks_59 : decode cX11_asks 59 = .ok (.bipush 37, 2) := by decide +kernel
theorem dX11_asks_61 : decode cX11_asks 61 = .ok (.bipush 39, 2) := by decide +kernel
theorem dX11_asks_63 : decode cX11_asks 63 = .ok (.invokestatic 95, 3) := by decide +kernel
theorem dX11_asks_66 : decode cX11_asks 66 = .ok (.ifCond .eq 6, 3) := by decide +kernel
theorem dX11_asks_69 : decode cX11_asks 69 = .ok (.goto 91, 3) := by decide +kernel
theorem dX11_asks_72 : decode cX11_asks 72 = .ok (.iconst 0, 1) := by decide +kernel
theorem dX11_asks_73 : decode cX11_asks 73 = .ok (.istore 5, 2) := by decide +kernel
theorem dX11_asks_75 : decode cX11_asks 75 = .ok (.iconst 0, 1) := by decide +kernel
theorem dX11_asks_76 : decode cX11_asks 76 = .ok (.istore 6, 2) := by decide +kernel
theorem dX11_asks_78 : decode cX11_asks 78 = .ok (.iload 6, 2) := by decide +kernel
theorem dX11_asks_80 : decode cX11_asks 80 = .ok (.aload_n 0, 1) := by decide +kernel
theorem dX11_asks_81 : decode cX11_asks 81 = .ok (.getfield 92, 3) := by decide +kernel
theorem dX11_asks_84 : decode cX11_asks 84 = .ok (.if_icmp .ge 47, 3) := by decide +kernel
theorem dX11_asks_87 : decode cX11_asks 87 = .ok (.iload 5, 2) := by decide +kernel
theorem dX11_asks_89 : decode cX11_asks 89 = .ok (.iload_n 1, 1) := by decide +kernel
theorem dX11_asks_90 : decode cX11_asks 90 = .ok (.iload 6, 2) := by decide +kernel
theorem dX11_asks_92 : decode cX11_asks 92 = .ok (.invokestatic 196, 3) := by decide +kernel
theorem dX11_asks_95 : decode cX11_asks 95 = .ok (.ifCond .eq 26, 3) := by decide +kernel
theorem dX11_asks_98 : decode cX11_asks 98 = .ok (.aload_n 0, 1) := by decide +kernel
theorem dX11_asks_99 : decode cX11_asks 99 = .ok (.iload 6, 2) := by decide +kernel
theorem dX11_asks_101 : decode cX11_asks 101 = .ok (.iload 4, 2) := by decide +kernel
theorem dX11_asks_103 : decode cX11_asks 103 = .ok (.bipush 10, 2) := by decide +kernel
theorem dX11_asks_105 : decode cX11_asks 105 = .ok (.idiv, 1) := by decide +kernel
theorem dX11_asks_106 : decode cX11_asks 106 = .ok (.iload 4, 2) := by decide +kernel
theorem dX11_asks_108 : decode cX11_asks 108 = .ok (.bipush 10, 2) := by decide +kernel
theorem dX11_asks_110 : decode cX11_asks 110 = .ok (.irem, 1) := by decide +kernel
theorem dX11_asks_111 : decode cX11_asks 111 = .ok (.invokevirtual 329, 3) := by decide +kernel
theorem dX11_asks_114 : decode cX11_asks 114 = .ok (.ifCond .eq 7, 3) := by decide +kernel
theorem dX11_asks_117 : decode cX11_asks 117 = .ok (.iconst 1, 1) := by decide +kernel
theorem dX11_asks_118 : decode cX11_asks 118 = .ok (.goto 4, 3) := by decide +kernel
theorem dX11_asks_121 : decode cX11_asks 121 = .ok (.iconst 0, 1) := by decide +kernel
theorem dX11_asks_122 : decode cX11_asks 122 = .ok (.iadd, 1) := by decide +kernel
theorem dX11_asks_123 : decode cX11_asks 123 = .ok (.istore 5, 2) := by decide +kernel
theorem dX11_asks_125 : decode cX11_asks 125 = .ok (.iinc 6 1, 3) := by decide +kernel
theorem dX11_asks_128 : decode cX11_asks 128 = .ok (.goto (-50), 3) := by decide +kernel
theorem dX11_asks_131 : decode cX11_asks 131 = .ok (.iload 5, 2) := by decide +kernel
theorem dX11_asks_133 : decode cX11_asks 133 = .ok (.iload_n 1, 1) := by decide +kernel
theorem dX11_asks_134 : decode cX11_asks 134 = .ok (.invokestatic 204, 3) := by decide +kernel
theorem dX11_asks_137 : decode cX11_asks 137 = .ok (.iload 5, 2) := by decide +kernel
theorem dX11_asks_139 : decode cX11_asks 139 = .ok (.isub, 1) := by decide +kernel
theorem dX11_asks_140 : decode cX11_asks 140 = .ok (.invokestatic 229, 3) := by decide +kernel
theorem dX11_asks_143 : decode cX11_asks 143 = .ok (.istore 6, 2) := by decide +kernel
theorem dX11_asks_145 : decode cX11_asks 145 = .ok (.iload 6, 2) := by decide +kernel
theorem dX11_asks_147 : decode cX11_asks 147 = .ok (.iload_n 3, 1) := by decide +kernel
theorem dX11_asks_148 : decode cX11_asks 148 = .ok (.if_icmp .lt 6, 3) := by decide +kernel
theorem dX11_asks_151 : decode cX11_asks 151 = .ok (.goto 9, 3) := by decide +kernel
theorem dX11_asks_154 : decode cX11_asks 154 = .ok (.iload 4, 2) := by decide +kernel
theorem dX11_asks_156 : decode cX11_asks 156 = .ok (.istore_n 2, 1) := by decide +kernel
theorem dX11_asks_157 : decode cX11_asks 157 = .ok (.iload 6, 2) := by decide +kernel
theorem dX11_asks_159 : decode cX11_asks 159 = .ok (.istore_n 3, 1) := by decide +kernel
theorem dX11_asks_160 : decode cX11_asks 160 = .ok (.iinc 4 1, 3) := by decide +kernel
theorem dX11_asks_163 : decode cX11_asks 163 = .ok (.goto (-137), 3) := by decide +kernel
theorem dX11_asks_166 : decode cX11_asks 166 = .ok (.aload_n 0, 1) := by decide +kernel
theorem dX11_asks_167 : decode cX11_asks 167 = .ok (.iconst 0, 1) := by decide +kernel
theorem dX11_asks_168 : decode cX11_asks 168 = .ok (.putfield 89, 3) := by decide +kernel
theorem dX11_asks_171 : decode cX11_asks 171 = .ok (.aload_n 0, 1) := by decide +kernel
theorem dX11_asks_172 : decode cX11_asks 172 = .ok (.iload_n 3, 1) := by decide +kernel
theorem dX11_asks_173 : decode cX11_asks 173 = .ok (.i2l, 1) := by decide +kernel
theorem dX11_asks_174 : decode cX11_asks 174 = .ok (.invokevirtual 256, 3) := by decide +kernel
theorem dX11_asks_177 : decode cX11_asks 177 = .ok (.iload_n 2, 1) := by decide +kernel
theorem dX11_asks_178 : decode cX11_asks 178 = .ok (.ireturn, 1) := by decide +kernel
theorem dX11_saw_0 : decode cX11_saw 0 = .ok (.aload_n 0, 1) := by decide +kernel
theorem dX11_saw_1 : decode cX11_saw 1 = .ok (.iconst 0, 1) := by decide +kernel
theorem dX11_saw_2 : decode cX11_saw 2 = .ok (.putfield 85, 3) := by decide +kernel
theorem dX11_saw_5 : decode cX11_saw 5 = .ok (.iload_n 1, 1) := by decide +kernel
theorem dX11_saw_6 : decode cX11_saw 6 = .ok (.iconst 0, 1) := by decide +kernel
theorem dX11_saw_7 : decode cX11_saw 7 = .ok (.bipush 9, 2) := by decide +kernel
theorem dX11_saw_9 : decode cX11_saw 9 = .ok (.invokestatic 95, 3) := by decide +kernel
theorem dX11_saw_12 : decode cX11_saw 12 = .ok (.ifCond .eq 31, 3) := by decide +kernel
theorem dX11_saw_15 : decode cX11_saw 15 = .ok (.iload_n 2, 1) := by decide +kernel
theorem dX11_saw_16 : decode cX11_saw 16 = .ok (.iconst 0, 1) := by decide +kernel
theorem dX11_saw_17 : decode cX11_saw 17 = .ok (.bipush 6, 2) := by decide +kernel
theorem dX11_saw_19 : decode cX11_saw 19 = .ok (.invokestatic 95, 3) := by decide +kernel
theorem dX11_saw_22 : decode cX11_saw 22 = .ok (.ifCond .eq 21, 3) := by decide +kernel
theorem dX11_saw_25 : decode cX11_saw 25 = .ok (.iload_n 3, 1) := by decide +kernel
theorem dX11_saw_26 : decode cX11_saw 26 = .ok (.iconst 0, 1) := by decide +kernel
theorem dX11_saw_27 : decode cX11_saw 27 = .ok (.iconst 1, 1) := by decide +kernel
theorem dX11_saw_28 : decode cX11_saw 28 = .ok (.invokestatic 95, 3) := by decide +kernel
theorem dX11_saw_31 : decode cX11_saw 31 = .ok (.ifCond .eq 12, 3) := by decide +kernel
theorem dX11_saw_34 : decode cX11_saw 34 = .ok (.aload_n 0, 1) := by decide +kernel
theorem dX11_saw_35 : decode cX11_saw 35 = .ok (.getfield 335, 3) := by decide +kernel
theorem dX11_saw_38 : decode cX11_saw 38 = .ok (.bipush 10, 2) := by decide +kernel
theorem dX11_saw_40 : decode cX11_saw 40 = .ok (.if_icmp .ne 5, 3) := by decide +kernel
theorem dX11_saw_43 : decode cX11_saw 43 = .ok (.iconst (-1), 1) := by decide +kernel
theorem dX11_saw_44 : decode cX11_saw 44 = .ok (.ireturn, 1) := by decide +kernel
theorem dX11_saw_45 : decode cX11_saw 45 = .ok (.aload_n 0, 1) := by decide +kernel
theorem dX11_saw_46 : decode cX11_saw 46 = .ok (.getfield 66, 3) := by decide +kernel
theorem dX11_saw_49 : decode cX11_saw 49 = .ok (.aload_n 0, 1) := by decide +kernel
theorem dX11_saw_50 : decode cX11_saw 50 = .ok (.getfield 335, 3) := by decide +kernel
theorem dX11_saw_53 : decode cX11_saw 53 = .ok (.bipush 10, 2) := by decide +kernel
theorem dX11_saw_55 : decode cX11_saw 55 = .ok (.iload_n 1, 1) := by decide +kernel
theorem dX11_saw_56 : decode cX11_saw 56 = .ok (.imul, 1) := by decide +kernel
theorem dX11_saw_57 : decode cX11_saw 57 = .ok (.iload_n 2, 1) := by decide +kernel
theorem dX11_saw_58 : decode cX11_saw 58 = .ok (.iadd, 1) := by decide +kernel
theorem dX11_saw_59 : decode cX11_saw 59 = .ok (.iastore, 1) := by decide +kernel
theorem dX11_saw_60 : decode cX11_saw 60 = .ok (.aload_n 0, 1) := by decide +kernel
theorem dX11_saw_61 : decode cX11_saw 61 = .ok (.getfield 69, 3) := by decide +kernel
theorem dX11_saw_64 : decode cX11_saw 64 = .ok (.aload_n 0, 1) := by decide +kernel
theorem dX11_saw_65 : decode cX11_saw 65 = .ok (.getfield 335, 3) := by decide +kernel
theorem dX11_saw_68 : decode cX11_saw 68 = .ok (.iload_n 3, 1) := by decide +kernel
theorem dX11_saw_69 : decode cX11_saw 69 = .ok (.iastore, 1) := by decide +kernel
theorem dX11_saw_70 : decode cX11_saw 70 = .ok (.aload_n 0, 1) := by decide +kernel
theorem dX11_saw_71 : decode cX11_saw 71 = .ok (.dup, 1) := by decide +kernel
theorem dX11_saw_72 : decode cX11_saw 72 = .ok (.getfield 335, 3) := by decide +kernel
theorem dX11_saw_75 : decode cX11_saw 75 = .ok (.iconst 1, 1) := by decide +kernel
theorem dX11_saw_76 : decode cX11_saw 76 = .ok (.iadd, 1) := by decide +kernel
theorem dX11_saw_77 : decode cX11_saw 77 = .ok (.putfield 335, 3) := by decide +kernel
theorem dX11_saw_80 : decode cX11_saw 80 = .ok (.aload_n 0, 1) := by decide +kernel
theorem dX11_saw_81 : decode cX11_saw 81 = .ok (.getfield 335, 3) := by decide +kernel
theorem dX11_saw_84 : decode cX11_saw 84 = .ok (.ireturn, 1) := by decide +kernel
theorem dX11_denies_0 : decode cX11_denies 0 = .ok (.aload_n 0, 1) := by decide +kernel
theorem dX11_denies_1 : decode cX11_denies 1 = .ok (.iconst 0, 1) := by decide +kernel
theorem dX11_denies_2 : decode cX11_denies 2 = .ok (.putfield 85, 3) := by decide +kernel
theorem dX11_denies_5 : decode cX11_denies 5 = .ok (.aload_n 0, 1) := by decide +kernel
theorem dX11_denies_6 : decode cX11_denies 6 = .ok (.getfield 335, 3) := by decide +kernel
theorem dX11_denies_9 : decode cX11_denies 9 = .ok (.istore_n 1, 1) := by decide +kernel
theorem dX11_denies_10 : decode cX11_denies 10 = .ok (.aload_n 0, 1) := by decide +kernel
theorem dX11_denies_11 : decode cX11_denies 11 = .ok (.iconst 0, 1) := by decide +kernel
theorem dX11_denies_12 : decode cX11_denies 12 = .ok (.putfield 335, 3) := by decide +kernel
theorem dX11_denies_15 : decode cX11_denies 15 = .ok (.iload_n 1, 1) := by decide +kernel
theorem dX11_denies_16 : decode cX11_denies 16 = .ok (.ireturn, 1) := by decide +kernel
theorem dX11_lets_0 : decode cX11_lets 0 = .ok (.iload_n 0, 1) := by decide +kernel
theorem dX11_lets_1 : decode cX11_lets 1 = .ok (.bipush 40, 2) := by decide +kernel
theorem dX11_lets_3 : decode cX11_lets 3 = .ok (.idiv, 1) := by decide +kernel
theorem dX11_lets_4 : decode cX11_lets 4 = .ok (.iload_n 1, 1) := by decide +kernel
theorem dX11_lets_5 : decode cX11_lets 5 = .ok (.bipush 10, 2) := by decide +kernel
theorem dX11_lets_7 : decode cX11_lets 7 = .ok (.idiv, 1) := by decide +kernel
theorem dX11_lets_8 : decode cX11_lets 8 = .ok (.imul, 1) := by decide +kernel
theorem dX11_lets_9 : decode cX11_lets 9 = .ok (.iload_n 0, 1) := by decide +kernel
theorem dX11_lets_10 : decode cX11_lets 10 = .ok (.bipush 10, 2) := by decide +kernel
theorem dX11_lets_12 : decode cX11_lets 12 = .ok (.idiv, 1) := by decide +kernel
theorem dX11_lets_13 : decode cX11_lets 13 = .ok (.iconst 4, 1) := by decide +kernel
theorem dX11_lets_14 : decode cX11_lets 14 = .ok (.irem, 1) := by decide +kernel
theorem dX11_lets_15 : decode cX11_lets 15 = .ok (.iload_n 1, 1) := by decide +kernel
theorem dX11_lets_16 : decode cX11_lets 16 = .ok (.bipush 10, 2) := by decide +kernel
theorem dX11_lets_18 : decode cX11_lets 18 = .ok (.irem, 1) := by decide +kernel
theorem dX11_lets_19 : decode cX11_lets 19 = .ok (.imul, 1) := by decide +kernel
theorem dX11_lets_20 : decode cX11_lets 20 = .ok (.iadd, 1) := by decide +kernel
theorem dX11_lets_21 : decode cX11_lets 21 = .ok (.iload_n 0, 1) := by decide +kernel
theorem dX11_lets_22 : decode cX11_lets 22 = .ok (.bipush 10, 2) := by decide +kernel
theorem dX11_lets_24 : decode cX11_lets 24 = .ok (.irem, 1) := by decide +kernel
theorem dX11_lets_25 : decode cX11_lets 25 = .ok (.if_icmp .le 7, 3) := by decide +kernel
theorem dX11_lets_28 : decode cX11_lets 28 = .ok (.iconst 1, 1) := by decide +kernel
theorem dX11_lets_29 : decode cX11_lets 29 = .ok (.goto 4, 3) := by decide +kernel
theorem dX11_lets_32 : decode cX11_lets 32 = .ok (.iconst 0, 1) := by decide +kernel
theorem dX11_lets_33 : decode cX11_lets 33 = .ok (.ireturn, 1) := by decide +kernel
theorem dX11_isLaw_0 : decode cX11_isLaw 0 = .ok (.iconst 0, 1) := by decide +kernel
theorem dX11_isLaw_1 : decode cX11_isLaw 1 = .ok (.istore_n 2, 1) := by decide +kernel
theorem dX11_isLaw_2 : decode cX11_isLaw 2 = .ok (.iload_n 2, 1) := by decide +kernel
theorem dX11_isLaw_3 : decode cX11_isLaw 3 = .ok (.aload_n 0, 1) := by decide +kernel
theorem dX11_isLaw_4 : decode cX11_isLaw 4 = .ok (.getfield 335, 3) := by decide +kernel
theorem dX11_isLaw_7 : decode cX11_isLaw 7 = .ok (.if_icmp .ge 39, 3) := by decide +kernel
theorem dX11_isLaw_10 : decode cX11_isLaw 10 = .ok (.iload_n 1, 1) := by decide +kernel
theorem dX11_isLaw_11 : decode cX11_isLaw 11 = .ok (.aload_n 0, 1) := by decide +kernel
theorem dX11_isLaw_12 : decode cX11_isLaw 12 = .ok (.getfield 66, 3) := by decide +kernel
theorem dX11_isLaw_15 : decode cX11_isLaw 15 = .ok (.iload_n 2, 1) := by decide +kernel
theorem dX11_isLaw_16 : decode cX11_isLaw 16 = .ok (.iaload, 1) := by decide +kernel
theorem dX11_isLaw_17 : decode cX11_isLaw 17 = .ok (.invokestatic 338, 3) := by decide +kernel
theorem dX11_isLaw_20 : decode cX11_isLaw 20 = .ok (.aload_n 0, 1) := by decide +kernel
theorem dX11_isLaw_21 : decode cX11_isLaw 21 = .ok (.getfield 69, 3) := by decide +kernel
theorem dX11_isLaw_24 : decode cX11_isLaw 24 = .ok (.iload_n 2, 1) := by decide +kernel
theorem dX11_isLaw_25 : decode cX11_isLaw 25 = .ok (.iaload, 1) := by decide +kernel
theorem dX11_isLaw_26 : decode cX11_isLaw 26 = .ok (.iconst 1, 1) := by decide +kernel
theorem dX11_isLaw_27 : decode cX11_isLaw 27 = .ok (.if_icmp .ne 7, 3) := by decide +kernel
theorem dX11_isLaw_30 : decode cX11_isLaw 30 = .ok (.iconst 1, 1) := by decide +kernel
theorem dX11_isLaw_31 : decode cX11_isLaw 31 = .ok (.goto 4, 3) := by decide +kernel
theorem dX11_isLaw_34 : decode cX11_isLaw 34 = .ok (.iconst 0, 1) := by decide +kernel
theorem dX11_isLaw_35 : decode cX11_isLaw 35 = .ok (.if_icmp .eq 5, 3) := by decide +kernel
theorem dX11_isLaw_38 : decode cX11_isLaw 38 = .ok (.iconst 0, 1) := by decide +kernel
theorem dX11_isLaw_39 : decode cX11_isLaw 39 = .ok (.ireturn, 1) := by decide +kernel
theorem dX11_isLaw_40 : decode cX11_isLaw 40 = .ok (.iinc 2 1, 3) := by decide +kernel
theorem dX11_isLaw_43 : decode cX11_isLaw 43 = .ok (.goto (-41), 3) := by decide +kernel
theorem dX11_isLaw_46 : decode cX11_isLaw 46 = .ok (.iconst 1, 1) := by decide +kernel
theorem dX11_isLaw_47 : decode cX11_isLaw 47 = .ok (.ireturn, 1) := by decide +kernel
theorem dX11_laws_0 : decode cX11_laws 0 = .ok (.aload_n 0, 1) := by decide +kernel
theorem dX11_laws_1 : decode cX11_laws 1 = .ok (.iconst 0, 1) := by decide +kernel
theorem dX11_laws_2 : decode cX11_laws 2 = .ok (.putfield 85, 3) := by decide +kernel
theorem dX11_laws_5 : decode cX11_laws 5 = .ok (.iconst 0, 1) := by decide +kernel
theorem dX11_laws_6 : decode cX11_laws 6 = .ok (.istore_n 1, 1) := by decide +kernel
theorem dX11_laws_7 : decode cX11_laws 7 = .ok (.aload_n 0, 1) := by decide +kernel
theorem dX11_laws_8 : decode cX11_laws 8 = .ok (.iconst 0, 1) := by decide +kernel
theorem dX11_laws_9 : decode cX11_laws 9 = .ok (.putfield 89, 3) := by decide +kernel
theorem dX11_laws_12 : decode cX11_laws 12 = .ok (.iconst 0, 1) := by decide +kernel
theorem dX11_laws_13 : decode cX11_laws 13 = .ok (.istore_n 2, 1) := by decide +kernel
theorem dX11_laws_14 : decode cX11_laws 14 = .ok (.iload_n 2, 1) := by decide +kernel
theorem dX11_laws_15 : decode cX11_laws 15 = .ok (.sipush 160, 3) := by decide +kernel
theorem dX11_laws_18 : decode cX11_laws 18 = .ok (.if_icmp .ge 56, 3) := by decide +kernel
theorem dX11_laws_21 : decode cX11_laws 21 = .ok (.aload_n 0, 1) := by decide +kernel
theorem dX11_laws_22 : decode cX11_laws 22 = .ok (.iload_n 2, 1) := by decide +kernel
theorem dX11_laws_23 : decode cX11_laws 23 = .ok (.invokevirtual 341, 3) := by decide +kernel
theorem dX11_laws_26 : decode cX11_laws 26 = .ok (.ifCond .ne 6, 3) := by decide +kernel
theorem dX11_laws_29 : decode cX11_laws 29 = .ok (.goto 39, 3) := by decide +kernel
theorem dX11_laws_32 : decode cX11_laws 32 = .ok (.iload_n 1, 1) := by decide +kernel
theorem dX11_laws_33 : decode cX11_laws 33 = .ok (.ifCond .ne 32, 3) := by decide +kernel
theorem dX11_laws_36 : decode cX11_laws 36 = .ok (.aload_n 0, 1) := by decide +kernel
theorem dX11_laws_37 : decode cX11_laws 37 = .ok (.iload_n 2, 1) := by decide +kernel
theorem dX11_laws_38 : decode cX11_laws 38 = .ok (.bipush 40, 2) := by decide +kernel
theorem dX11_laws_40 : decode cX11_laws 40 = .ok (.idiv, 1) := by decide +kernel
theorem dX11_laws_41 : decode cX11_laws 41 = .ok (.i2l, 1) := by decide +kernel
theorem dX11_laws_42 : decode cX11_laws 42 = .ok (.invokevirtual 256, 3) := by decide +kernel
theorem dX11_laws_45 : decode cX11_laws 45 = .ok (.aload_n 0, 1) := by decide +kernel
theorem dX11_laws_46 : decode cX11_laws 46 = .ok (.iload_n 2, 1) := by decide +kernel
theorem dX11_laws_47 : decode cX11_laws 47 = .ok (.bipush 10, 2) := by decide +kernel
theorem dX11_laws_49 : decode cX11_laws 49 = .ok (.idiv, 1) := by decide +kernel
theorem dX11_laws_50 : decode cX11_laws 50 = .ok (.iconst 4, 1) := by decide +kernel
theorem dX11_laws_51 : decode cX11_laws 51 = .ok (.irem, 1) := by decide +kernel
theorem dX11_laws_52 : decode cX11_laws 52 = .ok (.i2l, 1) := by decide +kernel
theorem dX11_laws_53 : decode cX11_laws 53 = .ok (.invokevirtual 256, 3) := by decide +kernel
theorem dX11_laws_56 : decode cX11_laws 56 = .ok (.aload_n 0, 1) := by decide +kernel
theorem dX11_laws_57 : decode cX11_laws 57 = .ok (.iload_n 2, 1) := by decide +kernel
theorem dX11_laws_58 : decode cX11_laws 58 = .ok (.bipush 10, 2) := by decide +kernel
theorem dX11_laws_60 : decode cX11_laws 60 = .ok (.irem, 1) := by decide +kernel
theorem dX11_laws_61 : decode cX11_laws 61 = .ok (.i2l, 1) := by decide +kernel
theorem dX11_laws_62 : decode cX11_laws 62 = .ok (.invokevirtual 256, 3) := by decide +kernel
theorem dX11_laws_65 : decode cX11_laws 65 = .ok (.iinc 1 1, 3) := by decide +kernel
theorem dX11_laws_68 : decode cX11_laws 68 = .ok (.iinc 2 1, 3) := by decide +kernel
theorem dX11_laws_71 : decode cX11_laws 71 = .ok (.goto (-57), 3) := by decide +kernel
theorem dX11_laws_74 : decode cX11_laws 74 = .ok (.iload_n 1, 1) := by decide +kernel
theorem dX11_laws_75 : decode cX11_laws 75 = .ok (.ireturn, 1) := by decide +kernel
theorem dX11_looks_0 : decode cX11_looks 0 = .ok (.aload_n 0, 1) := by decide +kernel
theorem dX11_looks_1 : decode cX11_looks 1 = .ok (.iconst 0, 1) := by decide +kernel
theorem dX11_looks_2 : decode cX11_looks 2 = .ok (.putfield 85, 3) := by decide +kernel
theorem dX11_looks_5 : decode cX11_looks 5 = .ok (.iconst (-1), 1) := by decide +kernel
theorem dX11_looks_6 : decode cX11_looks 6 = .ok (.istore_n 1, 1) := by decide +kernel
theorem dX11_looks_7 : decode cX11_looks 7 = .ok (.ldc_w 307, 3) := by decide +kernel
theorem dX11_looks_10 : decode cX11_looks 10 = .ok (.istore_n 2, 1) := by decide +kernel
theorem dX11_looks_11 : decode cX11_looks 11 = .ok (.iconst 0, 1) := by decide +kernel
theorem dX11_looks_12 : decode cX11_looks 12 = .ok (.istore_n 3, 1) := by decide +kernel
theorem dX11_looks_13 : decode cX11_looks 13 = .ok (.iload_n 3, 1) := by decide +kernel
theorem dX11_looks_14 : decode cX11_looks 14 = .ok (.bipush 97, 2) := by decide +kernel
theorem dX11_looks_16 : decode cX11_looks 16 = .ok (.if_icmp .ge 98, 3) := by decide +kernel
theorem dX11_looks_19 : decode cX11_looks 19 = .ok (.iload_n 3, 1) := by decide +kernel
theorem dX11_looks_20 : decode cX11_looks 20 = .ok (.bipush 10, 2) := by decide +kernel
theorem dX11_looks_22 : decode cX11_looks 22 = .ok (.irem, 1) := by decide +kernel
theorem dX11_looks_23 : decode cX11_looks 23 = .ok (.bipush 6, 2) := by decide +kernel
theorem dX11_looks_25 : decode cX11_looks 25 = .ok (.if_icmp .le 6, 3) := by decide +kernel
theorem dX11_looks_28 : decode cX11_looks 28 = .ok (.goto 80, 3) := by decide +kernel
theorem dX11_looks_31 : decode cX11_looks 31 = .ok (.iconst 0, 1) := by decide +kernel
theorem dX11_looks_32 : decode cX11_looks 32 = .ok (.istore 4, 2) := by decide +kernel
theorem dX11_looks_34 : decode cX11_looks 34 = .ok (.iconst 0, 1) := by decide +kernel
theorem dX11_looks_35 : decode cX11_looks 35 = .ok (.istore 5, 2) := by decide +kernel
theorem dX11_looks_37 : decode cX11_looks 37 = .ok (.iconst 0, 1) := by decide +kernel
theorem dX11_looks_38 : decode cX11_looks 38 = .ok (.istore 6, 2) := by decide +kernel
theorem dX11_looks_40 : decode cX11_looks 40 = .ok (.iload 6, 2) := by decide +kernel
theorem dX11_looks_42 : decode cX11_looks 42 = .ok (.sipush 160, 3) := by decide +kernel
theorem dX11_looks_45 : decode cX11_looks 45 = .ok (.if_icmp .ge 39, 3) := by decide +kernel
theorem dX11_looks_48 : decode cX11_looks 48 = .ok (.aload_n 0, 1) := by decide +kernel
theorem dX11_looks_49 : decode cX11_looks 49 = .ok (.iload 6, 2) := by decide +kernel
theorem dX11_looks_51 : decode cX11_looks 51 = .ok (.invokevirtual 341, 3) := by decide +kernel
theorem dX11_looks_54 : decode cX11_looks 54 = .ok (.ifCond .ne 6, 3) := by decide +kernel
theorem dX11_looks_57 : decode cX11_looks 57 = .ok (.goto 21, 3) := by decide +kernel
theorem dX11_looks_60 : decode cX11_looks 60 = .ok (.iload 6, 2) := by decide +kernel
theorem dX11_looks_62 : decode cX11_looks 62 = .ok (.iload_n 3, 1) := by decide +kernel
theorem dX11_looks_63 : decode cX11_looks 63 = .ok (.invokestatic 338, 3) := by decide +kernel
theorem dX11_looks_66 : decode cX11_looks 66 = .ok (.ifCond .eq 9, 3) := by decide +kernel
theorem dX11_looks_69 : decode cX11_looks 69 = .ok (.iinc 4 1, 3) := by decide +kernel
theorem dX11_looks_72 : decode cX11_looks 72 = .ok (.goto 6, 3) := by decide +kernel
theorem dX11_looks_75 : decode cX11_looks 75 = .ok (.iinc 5 1, 3) := by decide +kernel
theorem dX11_looks_78 : decode cX11_looks 78 = .ok (.iinc 6 1, 3) := by decide +kernel
theorem dX11_looks_81 : decode cX11_looks 81 = .ok (.goto (-41), 3) := by decide +kernel
theorem dX11_looks_84 : decode cX11_looks 84 = .ok (.iload 4, 2) := by decide +kernel
theorem dX11_looks_86 : decode cX11_looks 86 = .ok (.iload 5, 2) := by decide +kernel
theorem dX11_looks_88 : decode cX11_looks 88 = .ok (.invokestatic 229, 3) := by decide +kernel
theorem dX11_looks_91 : decode cX11_looks 91 = .ok (.iload_n 2, 1) := by decide +kernel
theorem dX11_looks_92 : decode cX11_looks 92 = .ok (.if_icmp .lt 6, 3) := by decide +kernel
theorem dX11_looks_95 : decode cX11_looks 95 = .ok (.goto 13, 3) := by decide +kernel
theorem dX11_looks_98 : decode cX11_looks 98 = .ok (.iload_n 3, 1) := by decide +kernel
theorem dX11_looks_99 : decode cX11_looks 99 = .ok (.istore_n 1, 1) := by decide +kernel
theorem dX11_looks_100 : decode cX11_looks 100 = .ok (.iload 4, 2) := by decide +kernel
theorem dX11_looks_102 : decode cX11_looks 102 = .ok (.iload 5, 2) := by decide +kernel
theorem dX11_looks_104 : decode cX11_looks 104 = .ok (.invokestatic 229, 3) := by decide +kernel
theorem dX11_looks_107 : decode cX11_looks 107 = .ok (.istore_n 2, 1) := by decide +kernel
theorem dX11_looks_108 : decode cX11_looks 108 = .ok (.iinc 3 1, 3) := by decide +kernel
theorem dX11_looks_111 : decode cX11_looks 111 = .ok (.goto (-98), 3) := by decide +kernel
theorem dX11_looks_114 : decode cX11_looks 114 = .ok (.iload_n 2, 1) := by decide +kernel
theorem dX11_looks_115 : decode cX11_looks 115 = .ok (.ifCond .ne 6, 3) := by decide +kernel
theorem dX11_looks_118 : decode cX11_looks 118 = .ok (.bipush (-2), 2) := by decide +kernel
theorem dX11_looks_120 : decode cX11_looks 120 = .ok (.ireturn, 1) := by decide +kernel
theorem dX11_looks_121 : decode cX11_looks 121 = .ok (.aload_n 0, 1) := by decide +kernel
theorem dX11_looks_122 : decode cX11_looks 122 = .ok (.iconst 0, 1) := by decide +kernel
theorem dX11_looks_123 : decode cX11_looks 123 = .ok (.putfield 89, 3) := by decide +kernel
theorem dX11_looks_126 : decode cX11_looks 126 = .ok (.aload_n 0, 1) := by decide +kernel
theorem dX11_looks_127 : decode cX11_looks 127 = .ok (.iload_n 2, 1) := by decide +kernel
theorem dX11_looks_128 : decode cX11_looks 128 = .ok (.i2l, 1) := by decide +kernel
theorem dX11_looks_129 : decode cX11_looks 129 = .ok (.invokevirtual 256, 3) := by decide +kernel
theorem dX11_looks_132 : decode cX11_looks 132 = .ok (.iload_n 1, 1) := by decide +kernel
theorem dX11_looks_133 : decode cX11_looks 133 = .ok (.ireturn, 1) := by decide +kernel
theorem dX11_common_0 : decode cX11_common 0 = .ok (.lload_n 2, 1) := by decide +kernel
theorem dX11_common_1 : decode cX11_common 1 = .ok (.lconst 0, 1) := by decide +kernel
theorem dX11_common_2 : decode cX11_common 2 = .ok (.lcmp, 1) := by decide +kernel
theorem dX11_common_3 : decode cX11_common 3 = .ok (.ifCond .ne 7, 3) := by decide +kernel
theorem dX11_common_6 : decode cX11_common 6 = .ok (.lload_n 0, 1) := by decide +kernel
theorem dX11_common_7 : decode cX11_common 7 = .ok (.goto 10, 3) := by decide +kernel
theorem dX11_common_10 : decode cX11_common 10 = .ok (.lload_n 2, 1) := by decide +kernel
theorem dX11_common_11 : decode cX11_common 11 = .ok (.lload_n 0, 1) := by decide +kernel
theorem dX11_common_12 : decode cX11_common 12 = .ok (.lload_n 2, 1) := by decide +kernel
theorem dX11_common_13 : decode cX11_common 13 = .ok (.lrem, 1) := by decide +kernel
theorem dX11_common_14 : decode cX11_common 14 = .ok (.invokestatic 344, 3) := by decide +kernel
theorem dX11_common_17 : decode cX11_common 17 = .ok (.lreturn, 1) := by decide +kernel
theorem dX11_odds_0 : decode cX11_odds 0 = .ok (.aload_n 0, 1) := by decide +kernel
theorem dX11_odds_1 : decode cX11_odds 1 = .ok (.iconst 0, 1) := by decide +kernel
theorem dX11_odds_2 : decode cX11_odds 2 = .ok (.putfield 85, 3) := by decide +kernel
theorem dX11_odds_5 : decode cX11_odds 5 = .ok (.aload_n 0, 1) := by decide +kernel
theorem dX11_odds_6 : decode cX11_odds 6 = .ok (.iload_n 1, 1) := by decide +kernel
theorem dX11_odds_7 : decode cX11_odds 7 = .ok (.invokevirtual 99, 3) := by decide +kernel
theorem dX11_odds_10 : decode cX11_odds 10 = .ok (.ifCond .eq 13, 3) := by decide +kernel
theorem dX11_odds_13 : decode cX11_odds 13 = .ok (.iload_n 2, 1) := by decide +kernel
theorem dX11_odds_14 : decode cX11_odds 14 = .ok (.iconst 0, 1) := by decide +kernel
theorem dX11_odds_15 : decode cX11_odds 15 = .ok (.bipush 10, 2) := by decide +kernel
theorem dX11_odds_17 : decode cX11_odds 17 = .ok (.invokestatic 95, 3) := by decide +kernel
theorem dX11_odds_20 : decode cX11_odds 20 = .ok (.ifCond .ne 5, 3) := by decide +kernel
theorem dX11_odds_23 : decode cX11_odds 23 = .ok (.iconst (-1), 1) := by decide +kernel
theorem dX11_odds_24 : decode cX11_odds 24 = .ok (.ireturn, 1) := by decide +kernel
theorem dX11_odds_25 : decode cX11_odds 25 = .ok (.aload_n 0, 1) := by decide +kernel
theorem dX11_odds_26 : decode cX11_odds 26 = .ok (.aload_n 0, 1) := by decide +kernel
theorem dX11_odds_27 : decode cX11_odds 27 = .ok (.getfield 9, 3) := by decide +kernel
theorem dX11_odds_30 : decode cX11_odds 30 = .ok (.iload_n 1, 1) := by decide +kernel
theorem dX11_odds_31 : decode cX11_odds 31 = .ok (.invokevirtual 200, 3) := by decide +kernel
theorem dX11_odds_34 : decode cX11_odds 34 = .ok (.istore_n 3, 1) := by decide +kernel
theorem dX11_odds_35 : decode cX11_odds 35 = .ok (.lconst 0, 1) := by decide +kernel
theorem dX11_odds_36 : decode cX11_odds 36 = .ok (.lstore 4, 2) := by decide +kernel
theorem dX11_odds_38 : decode cX11_odds 38 = .ok (.lconst 1, 1) := by decide +kernel
theorem dX11_odds_39 : decode cX11_odds 39 = .ok (.lstore 6, 2) := by decide +kernel
theorem dX11_odds_41 : decode cX11_odds 41 = .ok (.iconst 0, 1) := by decide +kernel
theorem dX11_odds_42 : decode cX11_odds 42 = .ok (.istore 8, 2) := by decide +kernel
theorem dX11_odds_44 : decode cX11_odds 44 = .ok (.iload 8, 2) := by decide +kernel
theorem dX11_odds_46 : decode cX11_odds 46 = .ok (.iload_n 3, 1) := by decide +kernel
theorem dX11_odds_47 : decode cX11_odds 47 = .ok (.invokestatic 204, 3) := by decide +kernel
theorem dX11_odds_50 : decode cX11_odds 50 = .ok (.if_icmp .ge 17, 3) := by decide +kernel
theorem dX11_odds_53 : decode cX11_odds 53 = .ok (.lload 6, 2) := by decide +kernel
theorem dX11_odds_55 : decode cX11_odds 55 = .ok (.ldc2_w 348, 3) := by decide +kernel
theorem dX11_odds_58 : decode cX11_odds 58 = .ok (.lmul, 1) := by decide +kernel
theorem dX11_odds_59 : decode cX11_odds 59 = .ok (.lstore 6, 2) := by decide +kernel
theorem dX11_odds_61 : decode cX11_odds 61 = .ok (.iinc 8 1, 3) := by decide +kernel
theorem dX11_odds_64 : decode cX11_odds 64 = .ok (.goto (-20), 3) := by decide +kernel
theorem dX11_odds_67 : decode cX11_odds 67 = .ok (.iconst 0, 1) := by decide +kernel
theorem dX11_odds_68 : decode cX11_odds 68 = .ok (.istore 8, 2) := by decide +kernel
theorem dX11_odds_70 : decode cX11_odds 70 = .ok (.iload 8, 2) := by decide +kernel
theorem dX11_odds_72 : decode cX11_odds 72 = .ok (.iload_n 3, 1) := by decide +kernel
theorem dX11_odds_73 : decode cX11_odds 73 = .ok (.if_icmp .gt 105, 3) := by decide +kernel
theorem dX11_odds_76 : decode cX11_odds 76 = .ok (.iload 8, 2) := by decide +kernel
theorem dX11_odds_78 : decode cX11_odds 78 = .ok (.iload_n 3, 1) := by decide +kernel
theorem dX11_odds_79 : decode cX11_odds 79 = .ok (.iconst (-1), 1) := by decide +kernel
theorem dX11_odds_80 : decode cX11_odds 80 = .ok (.ixor, 1) := by decide +kernel
theorem dX11_odds_81 : decode cX11_odds 81 = .ok (.iand, 1) := by decide +kernel
theorem dX11_odds_82 : decode cX11_odds 82 = .ok (.ifCond .eq 6, 3) := by decide +kernel
theorem dX11_odds_85 : decode cX11_odds 85 = .ok (.goto 87, 3) := by decide +kernel
theorem dX11_odds_88 : decode cX11_odds 88 = .ok (.aload_n 0, 1) := by decide +kernel
theorem dX11_odds_89 : decode cX11_odds 89 = .ok (.iload 8, 2) := by decide +kernel
theorem dX11_odds_91 : decode cX11_odds 91 = .ok (.iload_n 1, 1) := by decide +kernel
theorem dX11_odds_92 : decode cX11_odds 92 = .ok (.invokevirtual 303, 3) := by decide +kernel
theorem dX11_odds_95 : decode cX11_odds 95 = .ok (.aload_n 0, 1) := by decide +kernel
theorem dX11_odds_96 : decode cX11_odds 96 = .ok (.aload_n 0, 1) := by decide +kernel
theorem dX11_odds_97 : decode cX11_odds 97 = .ok (.getfield 39, 3) := by decide +kernel
theorem dX11_odds_100 : decode cX11_odds 100 = .ok (.iload_n 1, 1) := by decide +kernel
theorem dX11_odds_101 : decode cX11_odds 101 = .ok (.invokevirtual 216, 3) := by decide +kernel
theorem dX11_odds_104 : decode cX11_odds 104 = .ok (.ifCond .ne 6, 3) := by decide +kernel
theorem dX11_odds_107 : decode cX11_odds 107 = .ok (.goto 65, 3) := by decide +kernel
theorem dX11_odds_110 : decode cX11_odds 110 = .ok (.lconst 1, 1) := by decide +kernel
theorem dX11_odds_111 : decode cX11_odds 111 = .ok (.lstore 9, 2) := by decide +kernel
theorem dX11_odds_113 : decode cX11_odds 113 = .ok (.iconst 0, 1) := by decide +kernel
theorem dX11_odds_114 : decode cX11_odds 114 = .ok (.istore 11, 2) := by decide +kernel
theorem dX11_odds_116 : decode cX11_odds 116 = .ok (.iload 11, 2) := by decide +kernel
theorem dX11_odds_118 : decode cX11_odds 118 = .ok (.aload_n 0, 1) := by decide +kernel
theorem dX11_odds_119 : decode cX11_odds 119 = .ok (.getfield 92, 3) := by decide +kernel
theorem dX11_odds_122 : decode cX11_odds 122 = .ok (.if_icmp .ge 43, 3) := by decide +kernel
theorem dX11_odds_125 : decode cX11_odds 125 = .ok (.iload_n 3, 1) := by decide +kernel
theorem dX11_odds_126 : decode cX11_odds 126 = .ok (.iload 11, 2) := by decide +kernel
theorem dX11_odds_128 : decode cX11_odds 128 = .ok (.invokestatic 196, 3) := by decide +kernel
theorem dX11_odds_131 : decode cX11_odds 131 = .ok (.ifCond .eq 28, 3) := by decide +kernel
theorem dX11_odds_134 : decode cX11_odds 134 = .ok (.lload 9, 2) := by decide +kernel
theorem dX11_odds_136 : decode cX11_odds 136 = .ok (.iload 8, 2) := by decide +kernel
theorem dX11_odds_138 : decode cX11_odds 138 = .ok (.iload 11, 2) := by decide +kernel
theorem dX11_odds_140 : decode cX11_odds 140 = .ok (.invokestatic 196, 3) := by decide +kernel
theorem dX11_odds_143 : decode cX11_odds 143 = .ok (.ifCond .eq 11, 3) := by decide +kernel
theorem dX11_odds_146 : decode cX11_odds 146 = .ok (.bipush 10, 2) := by decide +kernel
theorem dX11_odds_148 : decode cX11_odds 148 = .ok (.iload_n 2, 1) := by decide +kernel
theorem dX11_odds_149 : decode cX11_odds 149 = .ok (.isub, 1) := by decide +kernel
theorem dX11_odds_150 : decode cX11_odds 150 = .ok (.i2l, 1) := by decide +kernel
theorem dX11_odds_151 : decode cX11_odds 151 = .ok (.goto 5, 3) := by decide +kernel
theorem dX11_odds_154 : decode cX11_odds 154 = .ok (.iload_n 2, 1) := by decide +kernel
theorem dX11_odds_155 : decode cX11_odds 155 = .ok (.i2l, 1) := by decide +kernel
theorem dX11_odds_156 : decode cX11_odds 156 = .ok (.lmul, 1) := by decide +kernel
theorem dX11_odds_157 : decode cX11_odds 157 = .ok (.lstore 9, 2) := by decide +kernel
theorem dX11_odds_159 : decode cX11_odds 159 = .ok (.iinc 11 1, 3) := by decide +kernel
theorem dX11_odds_162 : decode cX11_odds 162 = .ok (.goto (-46), 3) := by decide +kernel
theorem dX11_odds_165 : decode cX11_odds 165 = .ok (.lload 4, 2) := by decide +kernel
theorem dX11_odds_167 : decode cX11_odds 167 = .ok (.lload 9, 2) := by decide +kernel
theorem dX11_odds_169 : decode cX11_odds 169 = .ok (.ladd, 1) := by decide +kernel
theorem dX11_odds_170 : decode cX11_odds 170 = .ok (.lstore 4, 2) := by decide +kernel
theorem dX11_odds_172 : decode cX11_odds 172 = .ok (.iinc 8 1, 3) := by decide +kernel
theorem dX11_odds_175 : decode cX11_odds 175 = .ok (.goto (-105), 3) := by decide +kernel
theorem dX11_odds_178 : decode cX11_odds 178 = .ok (.lload 4, 2) := by decide +kernel
theorem dX11_odds_180 : decode cX11_odds 180 = .ok (.lload 6, 2) := by decide +kernel
theorem dX11_odds_182 : decode cX11_odds 182 = .ok (.invokestatic 344, 3) := by decide +kernel
theorem dX11_odds_185 : decode cX11_odds 185 = .ok (.lstore 8, 2) := by decide +kernel
theorem dX11_odds_187 : decode cX11_odds 187 = .ok (.aload_n 0, 1) := by decide +kernel
theorem dX11_odds_188 : decode cX11_odds 188 = .ok (.iconst 0, 1) := by decide +kernel
theorem dX11_odds_189 : decode cX11_odds 189 = .ok (.putfield 89, 3) := by decide +kernel
theorem dX11_odds_192 : decode cX11_odds 192 = .ok (.aload_n 0, 1) := by decide +kernel
theorem dX11_odds_193 : decode cX11_odds 193 = .ok (.lload 4, 2) := by decide +kernel
theorem dX11_odds_195 : decode cX11_odds 195 = .ok (.lload 8, 2) := by decide +kernel
theorem dX11_odds_197 : decode cX11_odds 197 = .ok (.ldiv, 1) := by decide +kernel
theorem dX11_odds_198 : decode cX11_odds 198 = .ok (.invokevirtual 256, 3) := by decide +kernel
theorem dX11_odds_201 : decode cX11_odds 201 = .ok (.aload_n 0, 1) := by decide +kernel
theorem dX11_odds_202 : decode cX11_odds 202 = .ok (.lload 6, 2) := by decide +kernel
theorem dX11_odds_204 : decode cX11_odds 204 = .ok (.lload 8, 2) := by decide +kernel
theorem dX11_odds_206 : decode cX11_odds 206 = .ok (.ldiv, 1) := by decide +kernel
theorem dX11_odds_207 : decode cX11_odds 207 = .ok (.invokevirtual 256, 3) := by decide +kernel
theorem dX11_odds_210 : decode cX11_odds 210 = .ok (.iconst 0, 1) := by decide +kernel
theorem dX11_odds_211 : decode cX11_odds 211 = .ok (.ireturn, 1) := by decide +kernel
theorem dX11_greatest_0 : decode cX11_greatest 0 = .ok (.iconst 1, 1) := by decide +kernel
theorem dX11_greatest_1 : decode cX11_greatest 1 = .ok (.istore_n 1, 1) := by decide +kernel
theorem dX11_greatest_2 : decode cX11_greatest 2 = .ok (.iconst 2, 1) := by decide +kernel
theorem dX11_greatest_3 : decode cX11_greatest 3 = .ok (.iload_n 1, 1) := by decide +kernel
theorem dX11_greatest_4 : decode cX11_greatest 4 = .ok (.imul, 1) := by decide +kernel
theorem dX11_greatest_5 : decode cX11_greatest 5 = .ok (.iload_n 0, 1) := by decide +kernel
theorem dX11_greatest_6 : decode cX11_greatest 6 = .ok (.if_icmp .gt 16, 3) := by decide +kernel
theorem dX11_greatest_9 : decode cX11_greatest 9 = .ok (.iload_n 1, 1) := by decide +kernel
theorem dX11_greatest_10 : decode cX11_greatest 10 = .ok (.bipush 32, 2) := by decide +kernel
theorem dX11_greatest_12 : decode cX11_greatest 12 = .ok (.if_icmp .ge 10, 3) := by decide +kernel
theorem dX11_greatest_15 : decode cX11_greatest 15 = .ok (.iload_n 1, 1) := by decide +kernel
theorem dX11_greatest_16 : decode cX11_greatest 16 = .ok (.iconst 2, 1) := by decide +kernel
theorem dX11_greatest_17 : decode cX11_greatest 17 = .ok (.imul, 1) := by decide +kernel
theorem dX11_greatest_18 : decode cX11_greatest 18 = .ok (.istore_n 1, 1) := by decide +kernel
theorem dX11_greatest_19 : decode cX11_greatest 19 = .ok (.goto (-17), 3) := by decide +kernel
theorem dX11_greatest_22 : decode cX11_greatest 22 = .ok (.iload_n 1, 1) := by decide +kernel
theorem dX11_greatest_23 : decode cX11_greatest 23 = .ok (.ireturn, 1) := by decide +kernel
theorem dX11_sitsBy_0 : decode cX11_sitsBy 0 = .ok (.iload_n 1, 1) := by decide +kernel
theorem dX11_sitsBy_1 : decode cX11_sitsBy 1 = .ok (.ifCond .ne 5, 3) := by decide +kernel
theorem dX11_sitsBy_4 : decode cX11_sitsBy 4 = .ok (.iconst 0, 1) := by decide +kernel
theorem dX11_sitsBy_5 : decode cX11_sitsBy 5 = .ok (.ireturn, 1) := by decide +kernel
theorem dX11_sitsBy_6 : decode cX11_sitsBy 6 = .ok (.aload_n 0, 1) := by decide +kernel
theorem dX11_sitsBy_7 : decode cX11_sitsBy 7 = .ok (.getfield 72, 3) := by decide +kernel
theorem dX11_sitsBy_10 : decode cX11_sitsBy 10 = .ok (.iload_n 1, 1) := by decide +kernel
theorem dX11_sitsBy_11 : decode cX11_sitsBy 11 = .ok (.iconst 1, 1) := by decide +kernel
theorem dX11_sitsBy_12 : decode cX11_sitsBy 12 = .ok (.isub, 1) := by decide +kernel
theorem dX11_sitsBy_13 : decode cX11_sitsBy 13 = .ok (.baload, 1) := by decide +kernel
theorem dX11_sitsBy_14 : decode cX11_sitsBy 14 = .ok (.ifCond .ne 5, 3) := by decide +kernel
theorem dX11_sitsBy_17 : decode cX11_sitsBy 17 = .ok (.iconst 1, 1) := by decide +kernel
theorem dX11_sitsBy_18 : decode cX11_sitsBy 18 = .ok (.ireturn, 1) := by decide +kernel
theorem dX11_sitsBy_19 : decode cX11_sitsBy 19 = .ok (.aload_n 0, 1) := by decide +kernel
theorem dX11_sitsBy_20 : decode cX11_sitsBy 20 = .ok (.getfield 72, 3) := by decide +kernel
theorem dX11_sitsBy_23 : decode cX11_sitsBy 23 = .ok (.iload_n 1, 1) := by decide +kernel
theorem dX11_sitsBy_24 : decode cX11_sitsBy 24 = .ok (.iload_n 1, 1) := by decide +kernel
theorem dX11_sitsBy_25 : decode cX11_sitsBy 25 = .ok (.invokestatic 350, 3) := by decide +kernel
theorem dX11_sitsBy_28 : decode cX11_sitsBy 28 = .ok (.isub, 1) := by decide +kernel
theorem dX11_sitsBy_29 : decode cX11_sitsBy 29 = .ok (.baload, 1) := by decide +kernel
theorem dX11_sitsBy_30 : decode cX11_sitsBy 30 = .ok (.ifCond .eq 7, 3) := by decide +kernel
theorem dX11_sitsBy_33 : decode cX11_sitsBy 33 = .ok (.iconst 0, 1) := by decide +kernel
theorem dX11_sitsBy_34 : decode cX11_sitsBy 34 = .ok (.goto 7, 3) := by decide +kernel
theorem dX11_sitsBy_37 : decode cX11_sitsBy 37 = .ok (.iload_n 1, 1) := by decide +kernel
theorem dX11_sitsBy_38 : decode cX11_sitsBy 38 = .ok (.invokestatic 350, 3) := by decide +kernel
theorem dX11_sitsBy_41 : decode cX11_sitsBy 41 = .ok (.ireturn, 1) := by decide +kernel
theorem dX11_vigil_0 : decode cX11_vigil 0 = .ok (.aload_n 0, 1) := by decide +kernel
theorem dX11_vigil_1 : decode cX11_vigil 1 = .ok (.iconst 0, 1) := by decide +kernel
theorem dX11_vigil_2 : decode cX11_vigil 2 = .ok (.putfield 85, 3) := by decide +kernel
theorem dX11_vigil_5 : decode cX11_vigil 5 = .ok (.iload_n 1, 1) := by decide +kernel
theorem dX11_vigil_6 : decode cX11_vigil 6 = .ok (.iconst 0, 1) := by decide +kernel
theorem dX11_vigil_7 : decode cX11_vigil 7 = .ok (.bipush 60, 2) := by decide +kernel
theorem dX11_vigil_9 : decode cX11_vigil 9 = .ok (.invokestatic 95, 3) := by decide +kernel
theorem dX11_vigil_12 : decode cX11_vigil 12 = .ok (.ifCond .ne 5, 3) := by decide +kernel
theorem dX11_vigil_15 : decode cX11_vigil 15 = .ok (.iconst (-1), 1) := by decide +kernel
theorem dX11_vigil_16 : decode cX11_vigil 16 = .ok (.ireturn, 1) := by decide +kernel
theorem dX11_vigil_17 : decode cX11_vigil 17 = .ok (.iconst 0, 1) := by decide +kernel
theorem dX11_vigil_18 : decode cX11_vigil 18 = .ok (.istore_n 2, 1) := by decide +kernel
theorem dX11_vigil_19 : decode cX11_vigil 19 = .ok (.iload_n 2, 1) := by decide +kernel
theorem dX11_vigil_20 : decode cX11_vigil 20 = .ok (.iload_n 1, 1) := by decide +kernel
theorem dX11_vigil_21 : decode cX11_vigil 21 = .ok (.if_icmp .gt 28, 3) := by decide +kernel
theorem dX11_vigil_24 : decode cX11_vigil 24 = .ok (.aload_n 0, 1) := by decide +kernel
theorem dX11_vigil_25 : decode cX11_vigil 25 = .ok (.getfield 72, 3) := by decide +kernel
theorem dX11_vigil_28 : decode cX11_vigil 28 = .ok (.iload_n 2, 1) := by decide +kernel
theorem dX11_vigil_29 : decode cX11_vigil 29 = .ok (.aload_n 0, 1) := by decide +kernel
theorem dX11_vigil_30 : decode cX11_vigil 30 = .ok (.iload_n 2, 1) := by decide +kernel
theorem dX11_vigil_31 : decode cX11_vigil 31 = .ok (.invokevirtual 353, 3) := by decide +kernel
theorem dX11_vigil_34 : decode cX11_vigil 34 = .ok (.ifCond .le 7, 3) := by decide +kernel
theorem dX11_vigil_37 : decode cX11_vigil 37 = .ok (.iconst 1, 1) := by decide +kernel
theorem dX11_vigil_38 : decode cX11_vigil 38 = .ok (.goto 4, 3) := by decide +kernel
theorem dX11_vigil_41 : decode cX11_vigil 41 = .ok (.iconst 0, 1) := by decide +kernel
theorem dX11_vigil_42 : decode cX11_vigil 42 = .ok (.bastore, 1) := by decide +kernel
theorem dX11_vigil_43 : decode cX11_vigil 43 = .ok (.iinc 2 1, 3) := by decide +kernel
theorem dX11_vigil_46 : decode cX11_vigil 46 = .ok (.goto (-27), 3) := by decide +kernel
theorem dX11_vigil_49 : decode cX11_vigil 49 = .ok (.aload_n 0, 1) := by decide +kernel
theorem dX11_vigil_50 : decode cX11_vigil 50 = .ok (.iconst 0, 1) := by decide +kernel
theorem dX11_vigil_51 : decode cX11_vigil 51 = .ok (.putfield 89, 3) := by decide +kernel
theorem dX11_vigil_54 : decode cX11_vigil 54 = .ok (.aload_n 0, 1) := by decide +kernel
theorem dX11_vigil_55 : decode cX11_vigil 55 = .ok (.getfield 72, 3) := by decide +kernel
theorem dX11_vigil_58 : decode cX11_vigil 58 = .ok (.iload_n 1, 1) := by decide +kernel
theorem dX11_vigil_59 : decode cX11_vigil 59 = .ok (.baload, 1) := by decide +kernel
theorem dX11_vigil_60 : decode cX11_vigil 60 = .ok (.ifCond .ne 5, 3) := by decide +kernel
theorem dX11_vigil_63 : decode cX11_vigil 63 = .ok (.iconst 0, 1) := by decide +kernel
theorem dX11_vigil_64 : decode cX11_vigil 64 = .ok (.ireturn, 1) := by decide +kernel
theorem dX11_vigil_65 : decode cX11_vigil 65 = .ok (.aload_n 0, 1) := by decide +kernel
theorem dX11_vigil_66 : decode cX11_vigil 66 = .ok (.aload_n 0, 1) := by decide +kernel
theorem dX11_vigil_67 : decode cX11_vigil 67 = .ok (.iload_n 1, 1) := by decide +kernel
theorem dX11_vigil_68 : decode cX11_vigil 68 = .ok (.invokevirtual 353, 3) := by decide +kernel
theorem dX11_vigil_71 : decode cX11_vigil 71 = .ok (.i2l, 1) := by decide +kernel
theorem dX11_vigil_72 : decode cX11_vigil 72 = .ok (.invokevirtual 256, 3) := by decide +kernel
theorem dX11_vigil_75 : decode cX11_vigil 75 = .ok (.iconst 1, 1) := by decide +kernel
theorem dX11_vigil_76 : decode cX11_vigil 76 = .ok (.ireturn, 1) := by decide +kernel
theorem dX11_gets_0 : decode cX11_gets 0 = .ok (.iconst 2, 1) := by decide +kernel
theorem dX11_gets_1 : decode cX11_gets 1 = .ok (.iload_n 0, 1) := by decide +kernel
theorem dX11_gets_2 : decode cX11_gets 2 = .ok (.imul, 1) := by decide +kernel
theorem dX11_gets_3 : decode cX11_gets 3 = .ok (.iload_n 0, 1) := by decide +kernel
theorem dX11_gets_4 : decode cX11_gets 4 = .ok (.iload_n 1, 1) := by decide +kernel
theorem dX11_gets_5 : decode cX11_gets 5 = .ok (.if_icmp .gt 7, 3) := by decide +kernel
theorem dX11_gets_8 : decode cX11_gets 8 = .ok (.iload_n 2, 1) := by decide +kernel
theorem dX11_gets_9 : decode cX11_gets 9 = .ok (.goto 4, 3) := by decide +kernel
theorem dX11_gets_12 : decode cX11_gets 12 = .ok (.iconst 0, 1) := by decide +kernel
theorem dX11_gets_13 : decode cX11_gets 13 = .ok (.iadd, 1) := by decide +kernel
theorem dX11_gets_14 : decode cX11_gets 14 = .ok (.iconst 0, 1) := by decide +kernel
theorem dX11_gets_15 : decode cX11_gets 15 = .ok (.iload_n 0, 1) := by decide +kernel
theorem dX11_gets_16 : decode cX11_gets 16 = .ok (.iload_n 1, 1) := by decide +kernel
theorem dX11_gets_17 : decode cX11_gets 17 = .ok (.iadd, 1) := by decide +kernel
theorem dX11_gets_18 : decode cX11_gets 18 = .ok (.bipush 8, 2) := by decide +kernel
theorem dX11_gets_20 : decode cX11_gets 20 = .ok (.isub, 1) := by decide +kernel
theorem dX11_gets_21 : decode cX11_gets 21 = .ok (.invokestatic 229, 3) := by decide +kernel
theorem dX11_gets_24 : decode cX11_gets 24 = .ok (.isub, 1) := by decide +kernel
theorem dX11_gets_25 : decode cX11_gets 25 = .ok (.ireturn, 1) := by decide +kernel
theorem dX11_isBest_0 : decode cX11_isBest 0 = .ok (.iconst 0, 1) := by decide +kernel
theorem dX11_isBest_1 : decode cX11_isBest 1 = .ok (.istore_n 3, 1) := by decide +kernel
theorem dX11_isBest_2 : decode cX11_isBest 2 = .ok (.iload_n 3, 1) := by decide +kernel
theorem dX11_isBest_3 : decode cX11_isBest 3 = .ok (.bipush 9, 2) := by decide +kernel
theorem dX11_isBest_5 : decode cX11_isBest 5 = .ok (.if_icmp .gt 26, 3) := by decide +kernel
theorem dX11_isBest_8 : decode cX11_isBest 8 = .ok (.iload_n 3, 1) := by decide +kernel
theorem dX11_isBest_9 : decode cX11_isBest 9 = .ok (.iload_n 1, 1) := by decide +kernel
theorem dX11_isBest_10 : decode cX11_isBest 10 = .ok (.iload_n 2, 1) := by decide +kernel
theorem dX11_isBest_11 : decode cX11_isBest 11 = .ok (.invokestatic 356, 3) := by decide +kernel
theorem dX11_isBest_14 : decode cX11_isBest 14 = .ok (.iload_n 0, 1) := by decide +kernel
theorem dX11_isBest_15 : decode cX11_isBest 15 = .ok (.iload_n 1, 1) := by decide +kernel
theorem dX11_isBest_16 : decode cX11_isBest 16 = .ok (.iload_n 2, 1) := by decide +kernel
theorem dX11_isBest_17 : decode cX11_isBest 17 = .ok (.invokestatic 356, 3) := by decide +kernel
theorem dX11_isBest_20 : decode cX11_isBest 20 = .ok (.if_icmp .le 5, 3) := by decide +kernel
theorem dX11_isBest_23 : decode cX11_isBest 23 = .ok (.iconst 0, 1) := by decide +kernel
theorem dX11_isBest_24 : decode cX11_isBest 24 = .ok (.ireturn, 1) := by decide +kernel
theorem dX11_isBest_25 : decode cX11_isBest 25 = .ok (.iinc 3 1, 3) := by decide +kernel
theorem dX11_isBest_28 : decode cX11_isBest 28 = .ok (.goto (-26), 3) := by decide +kernel
theorem dX11_isBest_31 : decode cX11_isBest 31 = .ok (.iconst 1, 1) := by decide +kernel
theorem dX11_isBest_32 : decode cX11_isBest 32 = .ok (.ireturn, 1) := by decide +kernel
theorem dX11_rests_0 : decode cX11_rests 0 = .ok (.aload_n 0, 1) := by decide +kernel
theorem dX11_rests_1 : decode cX11_rests 1 = .ok (.iconst 0, 1) := by decide +kernel
theorem dX11_rests_2 : decode cX11_rests 2 = .ok (.putfield 85, 3) := by decide +kernel
theorem dX11_rests_5 : decode cX11_rests 5 = .ok (.iload_n 1, 1) := by decide +kernel
theorem dX11_rests_6 : decode cX11_rests 6 = .ok (.iconst 0, 1) := by decide +kernel
theorem dX11_rests_7 : decode cX11_rests 7 = .ok (.bipush 20, 2) := by decide +kernel
theorem dX11_rests_9 : decode cX11_rests 9 = .ok (.invokestatic 95, 3) := by decide +kernel
theorem dX11_rests_12 : decode cX11_rests 12 = .ok (.ifCond .ne 5, 3) := by decide +kernel
theorem dX11_rests_15 : decode cX11_rests 15 = .ok (.iconst (-1), 1) := by decide +kernel
theorem dX11_rests_16 : decode cX11_rests 16 = .ok (.ireturn, 1) := by decide +kernel
theorem dX11_rests_17 : decode cX11_rests 17 = .ok (.iconst 0, 1) := by decide +kernel
theorem dX11_rests_18 : decode cX11_rests 18 = .ok (.istore_n 2, 1) := by decide +kernel
theorem dX11_rests_19 : decode cX11_rests 19 = .ok (.aload_n 0, 1) := by decide +kernel
theorem dX11_rests_20 : decode cX11_rests 20 = .ok (.iconst 0, 1) := by decide +kernel
theorem dX11_rests_21 : decode cX11_rests 21 = .ok (.putfield 89, 3) := by decide +kernel
theorem dX11_rests_24 : decode cX11_rests 24 = .ok (.iconst 0, 1) := by decide +kernel
theorem dX11_rests_25 : decode cX11_rests 25 = .ok (.istore_n 3, 1) := by decide +kernel
theorem dX11_rests_26 : decode cX11_rests 26 = .ok (.iload_n 3, 1) := by decide +kernel
theorem dX11_rests_27 : decode cX11_rests 27 = .ok (.bipush 9, 2) := by decide +kernel
theorem dX11_rests_29 : decode cX11_rests 29 = .ok (.if_icmp .gt 68, 3) := by decide +kernel
theorem dX11_rests_32 : decode cX11_rests 32 = .ok (.iconst 0, 1) := by decide +kernel
theorem dX11_rests_33 : decode cX11_rests 33 = .ok (.istore 4, 2) := by decide +kernel
theorem dX11_rests_35 : decode cX11_rests 35 = .ok (.iload 4, 2) := by decide +kernel
theorem dX11_rests_37 : decode cX11_rests 37 = .ok (.bipush 9, 2) := by decide +kernel
theorem dX11_rests_39 : decode cX11_rests 39 = .ok (.if_icmp .gt 52, 3) := by decide +kernel
theorem dX11_rests_42 : decode cX11_rests 42 = .ok (.iload_n 3, 1) := by decide +kernel
theorem dX11_rests_43 : decode cX11_rests 43 = .ok (.iload 4, 2) := by decide +kernel
theorem dX11_rests_45 : decode cX11_rests 45 = .ok (.iload_n 1, 1) := by decide +kernel
theorem dX11_rests_46 : decode cX11_rests 46 = .ok (.invokestatic 360, 3) := by decide +kernel
theorem dX11_rests_49 : decode cX11_rests 49 = .ok (.ifCond .eq 36, 3) := by decide +kernel
theorem dX11_rests_52 : decode cX11_rests 52 = .ok (.iload 4, 2) := by decide +kernel
theorem dX11_rests_54 : decode cX11_rests 54 = .ok (.iload_n 3, 1) := by decide +kernel
theorem dX11_rests_55 : decode cX11_rests 55 = .ok (.iload_n 1, 1) := by decide +kernel
theorem dX11_rests_56 : decode cX11_rests 56 = .ok (.invokestatic 360, 3) := by decide +kernel
theorem dX11_rests_59 : decode cX11_rests 59 = .ok (.ifCond .ne 6, 3) := by decide +kernel
theorem dX11_rests_62 : decode cX11_rests 62 = .ok (.goto 23, 3) := by decide +kernel
theorem dX11_rests_65 : decode cX11_rests 65 = .ok (.iload_n 2, 1) := by decide +kernel
theorem dX11_rests_66 : decode cX11_rests 66 = .ok (.ifCond .ne 16, 3) := by decide +kernel
theorem dX11_rests_69 : decode cX11_rests 69 = .ok (.aload_n 0, 1) := by decide +kernel
theorem dX11_rests_70 : decode cX11_rests 70 = .ok (.iload_n 3, 1) := by decide +kernel
theorem dX11_rests_71 : decode cX11_rests 71 = .ok (.i2l, 1) := by decide +kernel
theorem dX11_rests_72 : decode cX11_rests 72 = .ok (.invokevirtual 256, 3) := by decide +kernel
theorem dX11_rests_75 : decode cX11_rests 75 = .ok (.aload_n 0, 1) := by decide +kernel
theorem dX11_rests_76 : decode cX11_rests 76 = .ok (.iload 4, 2) := by decide +kernel
theorem dX11_rests_78 : decode cX11_rests 78 = .ok (.i2l, 1) := by decide +kernel
theorem dX11_rests_79 : decode cX11_rests 79 = .ok (.invokevirtual 256, 3) := by decide +kernel
theorem dX11_rests_82 : decode cX11_rests 82 = .ok (.iinc 2 1, 3) := by decide +kernel
theorem dX11_rests_85 : decode cX11_rests 85 = .ok (.iinc 4 1, 3) := by decide +kernel
theorem dX11_rests_88 : decode cX11_rests 88 = .ok (.goto (-53), 3) := by decide +kernel
theorem dX11_rests_91 : decode cX11_rests 91 = .ok (.iinc 3 1, 3) := by decide +kernel
theorem dX11_rests_94 : decode cX11_rests 94 = .ok (.goto (-68), 3) := by decide +kernel
theorem dX11_rests_97 : decode cX11_rests 97 = .ok (.iload_n 2, 1) := by decide +kernel
theorem dX11_rests_98 : decode cX11_rests 98 = .ok (.ireturn, 1) := by decide +kernel
theorem dX11_law_0 : decode cX11_law 0 = .ok (.aload_n 0, 1) := by decide +kernel
theorem dX11_law_1 : decode cX11_law 1 = .ok (.iconst 0, 1) := by decide +kernel
theorem dX11_law_2 : decode cX11_law 2 = .ok (.putfield 85, 3) := by decide +kernel
theorem dX11_law_5 : decode cX11_law 5 = .ok (.aload_n 0, 1) := by decide +kernel
theorem dX11_law_6 : decode cX11_law 6 = .ok (.getfield 103, 3) := by decide +kernel
theorem dX11_law_9 : decode cX11_law 9 = .ok (.istore_n 1, 1) := by decide +kernel
theorem dX11_law_10 : decode cX11_law 10 = .ok (.aload_n 0, 1) := by decide +kernel
theorem dX11_law_11 : decode cX11_law 11 = .ok (.invokevirtual 190, 3) := by decide +kernel
theorem dX11_law_14 : decode cX11_law 14 = .ok (.ifCond .ne 12, 3) := by decide +kernel
theorem dX11_law_17 : decode cX11_law 17 = .ok (.sipush (-10000), 3) := by decide +kernel
theorem dX11_law_20 : decode cX11_law 20 = .ok (.aload_n 0, 1) := by decide +kernel
theorem dX11_law_21 : decode cX11_law 21 = .ok (.getfield 118, 3) := by decide +kernel
theorem dX11_law_24 : decode cX11_law 24 = .ok (.isub, 1) := by decide +kernel
theorem dX11_law_25 : decode cX11_law 25 = .ok (.ireturn, 1) := by decide +kernel
theorem dX11_law_26 : decode cX11_law 26 = .ok (.aload_n 0, 1) := by decide +kernel
theorem dX11_law_27 : decode cX11_law 27 = .ok (.aload_n 0, 1) := by decide +kernel
theorem dX11_law_28 : decode cX11_law 28 = .ok (.getfield 9, 3) := by decide +kernel
theorem dX11_law_31 : decode cX11_law 31 = .ok (.invokevirtual 239, 3) := by decide +kernel
theorem dX11_law_34 : decode cX11_law 34 = .ok (.invokestatic 204, 3) := by decide +kernel
theorem dX11_law_37 : decode cX11_law 37 = .ok (.istore_n 2, 1) := by decide +kernel
theorem dX11_law_38 : decode cX11_law 38 = .ok (.aload_n 0, 1) := by decide +kernel
theorem dX11_law_39 : decode cX11_law 39 = .ok (.getfield 24, 3) := by decide +kernel
theorem dX11_law_42 : decode cX11_law 42 = .ok (.astore_n 3, 1) := by decide +kernel
theorem dX11_law_43 : decode cX11_law 43 = .ok (.aload_n 0, 1) := by decide +kernel
theorem dX11_law_44 : decode cX11_law 44 = .ok (.getfield 193, 3) := by decide +kernel
theorem dX11_law_47 : decode cX11_law 47 = .ok (.istore 4, 2) := by decide +kernel
theorem dX11_law_49 : decode cX11_law 49 = .ok (.aload_n 0, 1) := by decide +kernel
theorem dX11_law_50 : decode cX11_law 50 = .ok (.aload_n 0, 1) := by decide +kernel
theorem dX11_law_51 : decode cX11_law 51 = .ok (.getfield 27, 3) := by decide +kernel
theorem dX11_law_54 : decode cX11_law 54 = .ok (.putfield 24, 3) := by decide +kernel
theorem dX11_law_57 : decode cX11_law 57 = .ok (.aload_n 0, 1) := by decide +kernel
theorem dX11_law_58 : decode cX11_law 58 = .ok (.iload_n 1, 1) := by decide +kernel
theorem dX11_law_59 : decode cX11_law 59 = .ok (.putfield 193, 3) := by decide +kernel
theorem dX11_law_62 : decode cX11_law 62 = .ok (.iconst 0, 1) := by decide +kernel
theorem dX11_law_63 : decode cX11_law 63 = .ok (.istore 5, 2) := by decide +kernel
theorem dX11_law_65 : decode cX11_law 65 = .ok (.iload 5, 2) := by decide +kernel
theorem dX11_law_67 : decode cX11_law 67 = .ok (.iload_n 1, 1) := by decide +kernel
theorem dX11_law_68 : decode cX11_law 68 = .ok (.if_icmp .ge 23, 3) := by decide +kernel
theorem dX11_law_71 : decode cX11_law 71 = .ok (.aload_n 0, 1) := by decide +kernel
theorem dX11_law_72 : decode cX11_law 72 = .ok (.getfield 24, 3) := by decide +kernel
theorem dX11_law_75 : decode cX11_law 75 = .ok (.iload 5, 2) := by decide +kernel
theorem dX11_law_77 : decode cX11_law 77 = .ok (.aload_n 0, 1) := by decide +kernel
theorem dX11_law_78 : decode cX11_law 78 = .ok (.getfield 13, 3) := by decide +kernel
theorem dX11_law_81 : decode cX11_law 81 = .ok (.iload 5, 2) := by decide +kernel
theorem dX11_law_83 : decode cX11_law 83 = .ok (.baload, 1) := by decide +kernel
theorem dX11_law_84 : decode cX11_law 84 = .ok (.bastore, 1) := by decide +kernel
theorem dX11_law_85 : decode cX11_law 85 = .ok (.iinc 5 1, 3) := by decide +kernel
theorem dX11_law_88 : decode cX11_law 88 = .ok (.goto (-23), 3) := by decide +kernel
theorem dX11_law_91 : decode cX11_law 91 = .ok (.aload_n 0, 1) := by decide +kernel
theorem dX11_law_92 : decode cX11_law 92 = .ok (.aload_n 0, 1) := by decide +kernel
theorem dX11_law_93 : decode cX11_law 93 = .ok (.getfield 9, 3) := by decide +kernel
theorem dX11_law_96 : decode cX11_law 96 = .ok (.invokevirtual 239, 3) := by decide +kernel
theorem dX11_law_99 : decode cX11_law 99 = .ok (.invokestatic 204, 3) := by decide +kernel
theorem dX11_law_102 : decode cX11_law 102 = .ok (.istore 5, 2) := by decide +kernel
theorem dX11_law_104 : decode cX11_law 104 = .ok (.aload_n 0, 1) := by decide +kernel
theorem dX11_law_105 : decode cX11_law 105 = .ok (.iconst 0, 1) := by decide +kernel
theorem dX11_law_106 : decode cX11_law 106 = .ok (.putfield 89, 3) := by decide +kernel
theorem dX11_law_109 : decode cX11_law 109 = .ok (.aload_n 0, 1) := by decide +kernel
theorem dX11_law_110 : decode cX11_law 110 = .ok (.iload 5, 2) := by decide +kernel
theorem dX11_law_112 : decode cX11_law 112 = .ok (.i2l, 1) := by decide +kernel
theorem dX11_law_113 : decode cX11_law 113 = .ok (.invokevirtual 256, 3) := by decide +kernel
theorem dX11_law_116 : decode cX11_law 116 = .ok (.aload_n 0, 1) := by decide +kernel
theorem dX11_law_117 : decode cX11_law 117 = .ok (.iload_n 2, 1) := by decide +kernel
theorem dX11_law_118 : decode cX11_law 118 = .ok (.i2l, 1) := by decide +kernel
theorem dX11_law_119 : decode cX11_law 119 = .ok (.invokevirtual 256, 3) := by decide +kernel
theorem dX11_law_122 : decode cX11_law 122 = .ok (.iconst 0, 1) := by decide +kernel
theorem dX11_law_123 : decode cX11_law 123 = .ok (.istore 6, 2) := by decide +kernel
theorem dX11_law_125 : decode cX11_law 125 = .ok (.iload 6, 2) := by decide +kernel
theorem dX11_law_127 : decode cX11_law 127 = .ok (.aload_n 0, 1) := by decide +kernel
theorem dX11_law_128 : decode cX11_law 128 = .ok (.getfield 92, 3) := by decide +kernel
theorem dX11_law_131 : decode cX11_law 131 = .ok (.if_icmp .ge 24, 3) := by decide +kernel
theorem dX11_law_134 : decode cX11_law 134 = .ok (.aload_n 0, 1) := by decide +kernel
theorem dX11_law_135 : decode cX11_law 135 = .ok (.aload_n 0, 1) := by decide +kernel
theorem dX11_law_136 : decode cX11_law 136 = .ok (.aload_n 0, 1) := by decide +kernel
theorem dX11_law_137 : decode cX11_law 137 = .ok (.getfield 9, 3) := by decide +kernel
theorem dX11_law_140 : decode cX11_law 140 = .ok (.iload 6, 2) := by decide +kernel
theorem dX11_law_142 : decode cX11_law 142 = .ok (.invokevirtual 213, 3) := by decide +kernel
theorem dX11_law_145 : decode cX11_law 145 = .ok (.i2l, 1) := by decide +kernel
theorem dX11_law_146 : decode cX11_law 146 = .ok (.invokevirtual 256, 3) := by decide +kernel
theorem dX11_law_149 : decode cX11_law 149 = .ok (.iinc 6 1, 3) := by decide +kernel
theorem dX11_law_152 : decode cX11_law 152 = .ok (.goto (-27), 3) := by decide +kernel
theorem dX11_law_155 : decode cX11_law 155 = .ok (.aload_n 0, 1) := by decide +kernel
theorem dX11_law_156 : decode cX11_law 156 = .ok (.aload_n 3, 1) := by decide +kernel
theorem dX11_law_157 : decode cX11_law 157 = .ok (.putfield 24, 3) := by decide +kernel
theorem dX11_law_160 : decode cX11_law 160 = .ok (.aload_n 0, 1) := by decide +kernel
theorem dX11_law_161 : decode cX11_law 161 = .ok (.iload 4, 2) := by decide +kernel
theorem dX11_law_163 : decode cX11_law 163 = .ok (.putfield 193, 3) := by decide +kernel
theorem dX11_law_166 : decode cX11_law 166 = .ok (.iload 5, 2) := by decide +kernel
theorem dX11_law_168 : decode cX11_law 168 = .ok (.iload_n 2, 1) := by decide +kernel
theorem dX11_law_169 : decode cX11_law 169 = .ok (.isub, 1) := by decide +kernel
theorem dX11_law_170 : decode cX11_law 170 = .ok (.ireturn, 1) := by decide +kernel
theorem dX11_draw_0 : decode cX11_draw 0 = .ok (.aload_n 0, 1) := by decide +kernel
theorem dX11_draw_1 : decode cX11_draw 1 = .ok (.aload_n 0, 1) := by decide +kernel
theorem dX11_draw_2 : decode cX11_draw 2 = .ok (.getfield 363, 3) := by decide +kernel
theorem dX11_draw_5 : decode cX11_draw 5 = .ok (.ldc_w 366, 3) := by decide +kernel
theorem dX11_draw_8 : decode cX11_draw 8 = .ok (.imul, 1) := by decide +kernel
theorem dX11_draw_9 : decode cX11_draw 9 = .ok (.sipush 12345, 3) := by decide +kernel
theorem dX11_draw_12 : decode cX11_draw 12 = .ok (.iadd, 1) := by decide +kernel
theorem dX11_draw_13 : decode cX11_draw 13 = .ok (.putfield 363, 3) := by decide +kernel
theorem dX11_draw_16 : decode cX11_draw 16 = .ok (.aload_n 0, 1) := by decide +kernel
theorem dX11_draw_17 : decode cX11_draw 17 = .ok (.getfield 363, 3) := by decide +kernel
theorem dX11_draw_20 : decode cX11_draw 20 = .ok (.bipush 16, 2) := by decide +kernel
theorem dX11_draw_22 : decode cX11_draw 22 = .ok (.iushr, 1) := by decide +kernel
theorem dX11_draw_23 : decode cX11_draw 23 = .ok (.iload_n 1, 1) := by decide +kernel
theorem dX11_draw_24 : decode cX11_draw 24 = .ok (.irem, 1) := by decide +kernel
theorem dX11_draw_25 : decode cX11_draw 25 = .ok (.ireturn, 1) := by decide +kernel
theorem dX11_years_0 : decode cX11_years 0 = .ok (.aload_n 0, 1) := by decide +kernel
theorem dX11_years_1 : decode cX11_years 1 = .ok (.iconst 0, 1) := by decide +kernel
theorem dX11_years_2 : decode cX11_years 2 = .ok (.putfield 85, 3) := by decide +kernel
theorem dX11_years_5 : decode cX11_years 5 = .ok (.iload_n 2, 1) := by decide +kernel
theorem dX11_years_6 : decode cX11_years 6 = .ok (.iconst 1, 1) := by decide +kernel
theorem dX11_years_7 : decode cX11_years 7 = .ok (.bipush 60, 2) := by decide +kernel
theorem dX11_years_9 : decode cX11_years 9 = .ok (.invokestatic 95, 3) := by decide +kernel
theorem dX11_years_12 : decode cX11_years 12 = .ok (.ifCond .ne 5, 3) := by decide +kernel
theorem dX11_years_15 : decode cX11_years 15 = .ok (.iconst (-1), 1) := by decide +kernel
theorem dX11_years_16 : decode cX11_years 16 = .ok (.ireturn, 1) := by decide +kernel
theorem dX11_years_17 : decode cX11_years 17 = .ok (.aload_n 0, 1) := by decide +kernel
theorem dX11_years_18 : decode cX11_years 18 = .ok (.iload_n 1, 1) := by decide +kernel
theorem dX11_years_19 : decode cX11_years 19 = .ok (.putfield 363, 3) := by decide +kernel
theorem dX11_years_22 : decode cX11_years 22 = .ok (.iconst 0, 1) := by decide +kernel
theorem dX11_years_23 : decode cX11_years 23 = .ok (.istore_n 3, 1) := by decide +kernel
theorem dX11_years_24 : decode cX11_years 24 = .ok (.aload_n 0, 1) := by decide +kernel
theorem dX11_years_25 : decode cX11_years 25 = .ok (.getfield 9, 3) := by decide +kernel
theorem dX11_years_28 : decode cX11_years 28 = .ok (.aload_n 0, 1) := by decide +kernel
theorem dX11_years_29 : decode cX11_years 29 = .ok (.getfield 39, 3) := by decide +kernel
theorem dX11_years_32 : decode cX11_years 32 = .ok (.iconst 0, 1) := by decide +kernel
theorem dX11_years_33 : decode cX11_years 33 = .ok (.invokestatic 235, 3) := by decide +kernel
theorem dX11_years_36 : decode cX11_years 36 = .ok (.iconst 0, 1) := by decide +kernel
theorem dX11_years_37 : decode cX11_years 37 = .ok (.istore 4, 2) := by decide +kernel
theorem dX11_years_39 : decode cX11_years 39 = .ok (.iload 4, 2) := by decide +kernel
theorem dX11_years_41 : decode cX11_years 41 = .ok (.iload_n 2, 1) := by decide +kernel
theorem dX11_years_42 : decode cX11_years 42 = .ok (.if_icmp .ge 125, 3) := by decide +kernel
theorem dX11_years_45 : decode cX11_years 45 = .ok (.aload_n 0, 1) := by decide +kernel
theorem dX11_years_46 : decode cX11_years 46 = .ok (.iconst 4, 1) := by decide +kernel
theorem dX11_years_47 : decode cX11_years 47 = .ok (.invokevirtual 367, 3) := by decide +kernel
theorem dX11_years_50 : decode cX11_years 50 = .ok (.istore 5, 2) := by decide +kernel
theorem dX11_years_52 : decode cX11_years 52 = .ok (.iload 5, 2) := by decide +kernel
theorem dX11_years_54 : decode cX11_years 54 = .ok (.iconst 2, 1) := by decide +kernel
theorem dX11_years_55 : decode cX11_years 55 = .ok (.if_icmp .ge 17, 3) := by decide +kernel
theorem dX11_years_58 : decode cX11_years 58 = .ok (.iload_n 3, 1) := by decide +kernel
theorem dX11_years_59 : decode cX11_years 59 = .ok (.aload_n 0, 1) := by decide +kernel
theorem dX11_years_60 : decode cX11_years 60 = .ok (.aload_n 0, 1) := by decide +kernel
theorem dX11_years_61 : decode cX11_years 61 = .ok (.getfield 39, 3) := by decide +kernel
theorem dX11_years_64 : decode cX11_years 64 = .ok (.invokevirtual 246, 3) := by decide +kernel
theorem dX11_years_67 : decode cX11_years 67 = .ok (.invokestatic 204, 3) := by decide +kernel
theorem dX11_years_70 : decode cX11_years 70 = .ok (.iadd, 1) := by decide +kernel
theorem dX11_years_71 : decode cX11_years 71 = .ok (.istore_n 3, 1) := by decide +kernel
theorem dX11_years_72 : decode cX11_years 72 = .ok (.iload 5, 2) := by decide +kernel
theorem dX11_years_74 : decode cX11_years 74 = .ok (.iconst 2, 1) := by decide +kernel
theorem dX11_years_75 : decode cX11_years 75 = .ok (.if_icmp .lt 86, 3) := by decide +kernel
theorem dX11_years_78 : decode cX11_years 78 = .ok (.aload_n 0, 1) := by decide +kernel
theorem dX11_years_79 : decode cX11_years 79 = .ok (.getfield 92, 3) := by decide +kernel
theorem dX11_years_82 : decode cX11_years 82 = .ok (.ifCond .ne 6, 3) := by decide +kernel
theorem dX11_years_85 : decode cX11_years 85 = .ok (.goto 76, 3) := by decide +kernel
theorem dX11_years_88 : decode cX11_years 88 = .ok (.aload_n 0, 1) := by decide +kernel
theorem dX11_years_89 : decode cX11_years 89 = .ok (.aload_n 0, 1) := by decide +kernel
theorem dX11_years_90 : decode cX11_years 90 = .ok (.getfield 92, 3) := by decide +kernel
theorem dX11_years_93 : decode cX11_years 93 = .ok (.invokevirtual 367, 3) := by decide +kernel
theorem dX11_years_96 : decode cX11_years 96 = .ok (.istore 6, 2) := by decide +kernel
theorem dX11_years_98 : decode cX11_years 98 = .ok (.aload_n 0, 1) := by decide +kernel
theorem dX11_years_99 : decode cX11_years 99 = .ok (.iload 5, 2) := by decide +kernel
theorem dX11_years_101 : decode cX11_years 101 = .ok (.iconst 2, 1) := by decide +kernel
theorem dX11_years_102 : decode cX11_years 102 = .ok (.if_icmp .ne 10, 3) := by decide +kernel
theorem dX11_years_105 : decode cX11_years 105 = .ok (.aload_n 0, 1) := by decide +kernel
theorem dX11_years_106 : decode cX11_years 106 = .ok (.getfield 92, 3) := by decide +kernel
theorem dX11_years_109 : decode cX11_years 109 = .ok (.goto 5, 3) := by decide +kernel
theorem dX11_years_112 : decode cX11_years 112 = .ok (.bipush 10, 2) := by decide +kernel
theorem dX11_years_114 : decode cX11_years 114 = .ok (.invokevirtual 367, 3) := by decide +kernel
theorem dX11_years_117 : decode cX11_years 117 = .ok (.istore 7, 2) := by decide +kernel
theorem dX11_years_119 : decode cX11_years 119 = .ok (.iload 5, 2) := by decide +kernel
theorem dX11_years_121 : decode cX11_years 121 = .ok (.iconst 3, 1) := by decide +kernel
theorem dX11_years_122 : decode cX11_years 122 = .ok (.if_icmp .ne 15, 3) := by decide +kernel
theorem dX11_years_125 : decode cX11_years 125 = .ok (.aload_n 0, 1) := by decide +kernel
theorem dX11_years_126 : decode cX11_years 126 = .ok (.getfield 39, 3) := by decide +kernel
theorem dX11_years_129 : decode cX11_years 129 = .ok (.iload 6, 2) := by decide +kernel
theorem dX11_years_131 : decode cX11_years 131 = .ok (.iload 7, 2) := by decide +kernel
theorem dX11_years_133 : decode cX11_years 133 = .ok (.iastore, 1) := by decide +kernel
theorem dX11_years_134 : decode cX11_years 134 = .ok (.goto 27, 3) := by decide +kernel
theorem dX11_years_137 : decode cX11_years 137 = .ok (.iload 6, 2) := by decide +kernel
theorem dX11_years_139 : decode cX11_years 139 = .ok (.iload 7, 2) := by decide +kernel
theorem dX11_years_141 : decode cX11_years 141 = .ok (.if_icmp .eq 20, 3) := by decide +kernel
theorem dX11_years_144 : decode cX11_years 144 = .ok (.aload_n 0, 1) := by decide +kernel
theorem dX11_years_145 : decode cX11_years 145 = .ok (.getfield 39, 3) := by decide +kernel
theorem dX11_years_148 : decode cX11_years 148 = .ok (.bipush 28, 2) := by decide +kernel
theorem dX11_years_150 : decode cX11_years 150 = .ok (.iload 6, 2) := by decide +kernel
theorem dX11_years_152 : decode cX11_years 152 = .ok (.iadd, 1) := by decide +kernel
theorem dX11_years_153 : decode cX11_years 153 = .ok (.dup2, 1) := by decide +kernel
theorem dX11_years_154 : decode cX11_years 154 = .ok (.iaload, 1) := by decide +kernel
theorem dX11_years_155 : decode cX11_years 155 = .ok (.iconst 1, 1) := by decide +kernel
theorem dX11_years_156 : decode cX11_years 156 = .ok (.iload 7, 2) := by decide +kernel
theorem dX11_years_158 : decode cX11_years 158 = .ok (.ishl, 1) := by decide +kernel
theorem dX11_years_159 : decode cX11_years 159 = .ok (.ixor, 1) := by decide +kernel
theorem dX11_years_160 : decode cX11_years 160 = .ok (.iastore, 1) := by decide +kernel
theorem dX11_years_161 : decode cX11_years 161 = .ok (.iinc 4 1, 3) := by decide +kernel
theorem dX11_years_164 : decode cX11_years 164 = .ok (.goto (-125), 3) := by decide +kernel
theorem dX11_years_167 : decode cX11_years 167 = .ok (.aload_n 0, 1) := by decide +kernel
theorem dX11_years_168 : decode cX11_years 168 = .ok (.iconst 0, 1) := by decide +kernel
theorem dX11_years_169 : decode cX11_years 169 = .ok (.putfield 89, 3) := by decide +kernel
theorem dX11_years_172 : decode cX11_years 172 = .ok (.aload_n 0, 1) := by decide +kernel
theorem dX11_years_173 : decode cX11_years 173 = .ok (.aload_n 0, 1) := by decide +kernel
theorem dX11_years_174 : decode cX11_years 174 = .ok (.getfield 39, 3) := by decide +kernel
theorem dX11_years_177 : decode cX11_years 177 = .ok (.bipush 36, 2) := by decide +kernel
theorem dX11_years_179 : decode cX11_years 179 = .ok (.iaload, 1) := by decide +kernel
theorem dX11_years_180 : decode cX11_years 180 = .ok (.aload_n 0, 1) := by decide +kernel
theorem dX11_years_181 : decode cX11_years 181 = .ok (.getfield 9, 3) := by decide +kernel
theorem dX11_years_184 : decode cX11_years 184 = .ok (.bipush 36, 2) := by decide +kernel
theorem dX11_years_186 : decode cX11_years 186 = .ok (.iaload, 1) := by decide +kernel
theorem dX11_years_187 : decode cX11_years 187 = .ok (.isub, 1) := by decide +kernel
theorem dX11_years_188 : decode cX11_years 188 = .ok (.i2l, 1) := by decide +kernel
theorem dX11_years_189 : decode cX11_years 189 = .ok (.invokevirtual 256, 3) := by decide +kernel
theorem dX11_years_192 : decode cX11_years 192 = .ok (.aload_n 0, 1) := by decide +kernel
theorem dX11_years_193 : decode cX11_years 193 = .ok (.aload_n 0, 1) := by decide +kernel
theorem dX11_years_194 : decode cX11_years 194 = .ok (.aload_n 0, 1) := by decide +kernel
theorem dX11_years_195 : decode cX11_years 195 = .ok (.getfield 39, 3) := by decide +kernel
theorem dX11_years_198 : decode cX11_years 198 = .ok (.invokevirtual 239, 3) := by decide +kernel
theorem dX11_years_201 : decode cX11_years 201 = .ok (.i2l, 1) := by decide +kernel
theorem dX11_years_202 : decode cX11_years 202 = .ok (.invokevirtual 256, 3) := by decide +kernel
theorem dX11_years_205 : decode cX11_years 205 = .ok (.iload_n 3, 1) := by decide +kernel
theorem dX11_years_206 : decode cX11_years 206 = .ok (.ireturn, 1) := by decide +kernel
theorem dX11_keep_0 : decode cX11_keep 0 = .ok (.aload_n 0, 1) := by decide +kernel
theorem dX11_keep_1 : decode cX11_keep 1 = .ok (.iconst 0, 1) := by decide +kernel
theorem dX11_keep_2 : decode cX11_keep 2 = .ok (.putfield 85, 3) := by decide +kernel
theorem dX11_keep_5 : decode cX11_keep 5 = .ok (.iload_n 1, 1) := by decide +kernel
theorem dX11_keep_6 : decode cX11_keep 6 = .ok (.iconst 0, 1) := by decide +kernel
theorem dX11_keep_7 : decode cX11_keep 7 = .ok (.iconst 1, 1) := by decide +kernel
theorem dX11_keep_8 : decode cX11_keep 8 = .ok (.invokestatic 95, 3) := by decide +kernel
theorem dX11_keep_11 : decode cX11_keep 11 = .ok (.ifCond .ne 5, 3) := by decide +kernel
theorem dX11_keep_14 : decode cX11_keep 14 = .ok (.iconst 0, 1) := by decide +kernel
theorem dX11_keep_15 : decode cX11_keep 15 = .ok (.ireturn, 1) := by decide +kernel
theorem dX11_keep_16 : decode cX11_keep 16 = .ok (.aload_n 0, 1) := by decide +kernel
theorem dX11_keep_17 : decode cX11_keep 17 = .ok (.getfield 79, 3) := by decide +kernel
theorem dX11_keep_20 : decode cX11_keep 20 = .ok (.iload_n 1, 1) := by decide +kernel
theorem dX11_keep_21 : decode cX11_keep 21 = .ok (.iconst 1, 1) := by decide +kernel
theorem dX11_keep_22 : decode cX11_keep 22 = .ok (.bastore, 1) := by decide +kernel
theorem dX11_keep_23 : decode cX11_keep 23 = .ok (.aload_n 0, 1) := by decide +kernel
theorem dX11_keep_24 : decode cX11_keep 24 = .ok (.getfield 82, 3) := by decide +kernel
theorem dX11_keep_27 : decode cX11_keep 27 = .ok (.iload_n 1, 1) := by decide +kernel
theorem dX11_keep_28 : decode cX11_keep 28 = .ok (.aload_n 0, 1) := by decide +kernel
theorem dX11_keep_29 : decode cX11_keep 29 = .ok (.getfield 148, 3) := by decide +kernel
theorem dX11_keep_32 : decode cX11_keep 32 = .ok (.iastore, 1) := by decide +kernel
theorem dX11_keep_33 : decode cX11_keep 33 = .ok (.aload_n 0, 1) := by decide +kernel
theorem dX11_keep_34 : decode cX11_keep 34 = .ok (.getfield 9, 3) := by decide +kernel
theorem dX11_keep_37 : decode cX11_keep 37 = .ok (.aload_n 0, 1) := by decide +kernel
theorem dX11_keep_38 : decode cX11_keep 38 = .ok (.getfield 76, 3) := by decide +kernel
theorem dX11_keep_41 : decode cX11_keep 41 = .ok (.bipush 37, 2) := by decide +kernel
theorem dX11_keep_43 : decode cX11_keep 43 = .ok (.iload_n 1, 1) := by decide +kernel
theorem dX11_keep_44 : decode cX11_keep 44 = .ok (.imul, 1) := by decide +kernel
theorem dX11_keep_45 : decode cX11_keep 45 = .ok (.invokestatic 235, 3) := by decide +kernel
theorem dX11_keep_48 : decode cX11_keep 48 = .ok (.iconst 1, 1) := by decide +kernel
theorem dX11_keep_49 : decode cX11_keep 49 = .ok (.ireturn, 1) := by decide +kernel
theorem dX11_again_0 : decode cX11_again 0 = .ok (.aload_n 0, 1) := by decide +kernel
theorem dX11_again_1 : decode cX11_again 1 = .ok (.iconst 0, 1) := by decide +kernel
theorem dX11_again_2 : decode cX11_again 2 = .ok (.putfield 85, 3) := by decide +kernel
theorem dX11_again_5 : decode cX11_again 5 = .ok (.iload_n 1, 1) := by decide +kernel
theorem dX11_again_6 : decode cX11_again 6 = .ok (.iconst 0, 1) := by decide +kernel
theorem dX11_again_7 : decode cX11_again 7 = .ok (.iconst 1, 1) := by decide +kernel
theorem dX11_again_8 : decode cX11_again 8 = .ok (.invokestatic 95, 3) := by decide +kernel
theorem dX11_again_11 : decode cX11_again 11 = .ok (.ifCond .eq 25, 3) := by decide +kernel
theorem dX11_again_14 : decode cX11_again 14 = .ok (.aload_n 0, 1) := by decide +kernel
theorem dX11_again_15 : decode cX11_again 15 = .ok (.getfield 79, 3) := by decide +kernel
theorem dX11_again_18 : decode cX11_again 18 = .ok (.iload_n 1, 1) := by decide +kernel
theorem dX11_again_19 : decode cX11_again 19 = .ok (.baload, 1) := by decide +kernel
theorem dX11_again_20 : decode cX11_again 20 = .ok (.ifCond .eq 16, 3) := by decide +kernel
theorem dX11_again_23 : decode cX11_again 23 = .ok (.aload_n 0, 1) := by decide +kernel
theorem dX11_again_24 : decode cX11_again 24 = .ok (.getfield 82, 3) := by decide +kernel
theorem dX11_again_27 : decode cX11_again 27 = .ok (.iload_n 1, 1) := by decide +kernel
theorem dX11_again_28 : decode cX11_again 28 = .ok (.iaload, 1) := by decide +kernel
theorem dX11_again_29 : decode cX11_again 29 = .ok (.aload_n 0, 1) := by decide +kernel
theorem dX11_again_30 : decode cX11_again 30 = .ok (.getfield 148, 3) := by decide +kernel
theorem dX11_again_33 : decode cX11_again 33 = .ok (.if_icmp .eq 5, 3) := by decide +kernel
theorem dX11_again_36 : decode cX11_again 36 = .ok (.iconst 0, 1) := by decide +kernel
theorem dX11_again_37 : decode cX11_again 37 = .ok (.ireturn, 1) := by decide +kernel
theorem dX11_again_38 : decode cX11_again 38 = .ok (.iconst 0, 1) := by decide +kernel
theorem dX11_again_39 : decode cX11_again 39 = .ok (.istore_n 2, 1) := by decide +kernel
theorem dX11_again_40 : decode cX11_again 40 = .ok (.iload_n 2, 1) := by decide +kernel
theorem dX11_again_41 : decode cX11_again 41 = .ok (.bipush 37, 2) := by decide +kernel
theorem dX11_again_43 : decode cX11_again 43 = .ok (.if_icmp .ge 26, 3) := by decide +kernel
theorem dX11_again_46 : decode cX11_again 46 = .ok (.aload_n 0, 1) := by decide +kernel
theorem dX11_again_47 : decode cX11_again 47 = .ok (.getfield 9, 3) := by decide +kernel
theorem dX11_again_50 : decode cX11_again 50 = .ok (.iload_n 2, 1) := by decide +kernel
theorem dX11_again_51 : decode cX11_again 51 = .ok (.aload_n 0, 1) := by decide +kernel
theorem dX11_again_52 : decode cX11_again 52 = .ok (.getfield 76, 3) := by decide +kernel
theorem dX11_again_55 : decode cX11_again 55 = .ok (.bipush 37, 2) := by decide +kernel
theorem dX11_again_57 : decode cX11_again 57 = .ok (.iload_n 1, 1) := by decide +kernel
theorem dX11_again_58 : decode cX11_again 58 = .ok (.imul, 1) := by decide +kernel
theorem dX11_again_59 : decode cX11_again 59 = .ok (.iload_n 2, 1) := by decide +kernel
theorem dX11_again_60 : decode cX11_again 60 = .ok (.iadd, 1) := by decide +kernel
theorem dX11_again_61 : decode cX11_again 61 = .ok (.iaload, 1) := by decide +kernel
theorem dX11_again_62 : decode cX11_again 62 = .ok (.iastore, 1) := by decide +kernel
theorem dX11_again_63 : decode cX11_again 63 = .ok (.iinc 2 1, 3) := by decide +kernel
theorem dX11_again_66 : decode cX11_again 66 = .ok (.goto (-26), 3) := by decide +kernel
theorem dX11_again_69 : decode cX11_again 69 = .ok (.aload_n 0, 1) := by decide +kernel
theorem dX11_again_70 : decode cX11_again 70 = .ok (.iconst 0, 1) := by decide +kernel
theorem dX11_again_71 : decode cX11_again 71 = .ok (.putfield 145, 3) := by decide +kernel
theorem dX11_again_74 : decode cX11_again 74 = .ok (.iconst 1, 1) := by decide +kernel
theorem dX11_again_75 : decode cX11_again 75 = .ok (.ireturn, 1) := by decide +kernel
theorem dX11_allWants_0 : decode cX11_allWants 0 = .ok (.iconst 0, 1) := by decide +kernel
theorem dX11_allWants_1 : decode cX11_allWants 1 = .ok (.istore_n 1, 1) := by decide +kernel
theorem dX11_allWants_2 : decode cX11_allWants 2 = .ok (.iconst 0, 1) := by decide +kernel
theorem dX11_allWants_3 : decode cX11_allWants 3 = .ok (.istore_n 2, 1) := by decide +kernel
theorem dX11_allWants_4 : decode cX11_allWants 4 = .ok (.iload_n 2, 1) := by decide +kernel
theorem dX11_allWants_5 : decode cX11_allWants 5 = .ok (.aload_n 0, 1) := by decide +kernel
theorem dX11_allWants_6 : decode cX11_allWants 6 = .ok (.getfield 92, 3) := by decide +kernel
theorem dX11_allWants_9 : decode cX11_allWants 9 = .ok (.if_icmp .ge 24, 3) := by decide +kernel
theorem dX11_allWants_12 : decode cX11_allWants 12 = .ok (.iload_n 1, 1) := by decide +kernel
theorem dX11_allWants_13 : decode cX11_allWants 13 = .ok (.aload_n 0, 1) := by decide +kernel
theorem dX11_allWants_14 : decode cX11_allWants 14 = .ok (.getfield 9, 3) := by decide +kernel
theorem dX11_allWants_17 : decode cX11_allWants 17 = .ok (.bipush 28, 2) := by decide +kernel
theorem dX11_allWants_19 : decode cX11_allWants 19 = .ok (.iload_n 2, 1) := by decide +kernel
theorem dX11_allWants_20 : decode cX11_allWants 20 = .ok (.iadd, 1) := by decide +kernel
theorem dX11_allWants_21 : decode cX11_allWants 21 = .ok (.iaload, 1) := by decide +kernel
theorem dX11_allWants_22 : decode cX11_allWants 22 = .ok (.invokestatic 204, 3) := by decide +kernel
theorem dX11_allWants_25 : decode cX11_allWants 25 = .ok (.iadd, 1) := by decide +kernel
theorem dX11_allWants_26 : decode cX11_allWants 26 = .ok (.istore_n 1, 1) := by decide +kernel
theorem dX11_allWants_27 : decode cX11_allWants 27 = .ok (.iinc 2 1, 3) := by decide +kernel
theorem dX11_allWants_30 : decode cX11_allWants 30 = .ok (.goto (-26), 3) := by decide +kernel
theorem dX11_allWants_33 : decode cX11_allWants 33 = .ok (.iload_n 1, 1) := by decide +kernel
theorem dX11_allWants_34 : decode cX11_allWants 34 = .ok (.ireturn, 1) := by decide +kernel
theorem dX11_count_0 : decode cX11_count 0 = .ok (.aload_n 0, 1) := by decide +kernel
theorem dX11_count_1 : decode cX11_count 1 = .ok (.iconst 0, 1) := by decide +kernel
theorem dX11_count_2 : decode cX11_count 2 = .ok (.putfield 85, 3) := by decide +kernel
theorem dX11_count_5 : decode cX11_count 5 = .ok (.iload_n 1, 1) := by decide +kernel
theorem dX11_count_6 : decode cX11_count 6 = .ok (.tableswitch 160 0 12 #[66, 71, 79, 87, 92, 102, 113, 124, 135, 140, 145, 150, 155], 66) := by decide +kernel
theorem dX11_count_72 : decode cX11_count 72 = .ok (.aload_n 0, 1) := by decide +kernel
theorem dX11_count_73 : decode cX11_count 73 = .ok (.getfield 92, 3) := by decide +kernel
theorem dX11_count_76 : decode cX11_count 76 = .ok (.ireturn, 1) := by decide +kernel
theorem dX11_count_77 : decode cX11_count 77 = .ok (.aload_n 0, 1) := by decide +kernel
theorem dX11_count_78 : decode cX11_count 78 = .ok (.getfield 9, 3) := by decide +kernel
theorem dX11_count_81 : decode cX11_count 81 = .ok (.bipush 35, 2) := by decide +kernel
theorem dX11_count_83 : decode cX11_count 83 = .ok (.iaload, 1) := by decide +kernel
theorem dX11_count_84 : decode cX11_count 84 = .ok (.ireturn, 1) := by decide +kernel
theorem dX11_count_85 : decode cX11_count 85 = .ok (.aload_n 0, 1) := by decide +kernel
theorem dX11_count_86 : decode cX11_count 86 = .ok (.getfield 9, 3) := by decide +kernel
theorem dX11_count_89 : decode cX11_count 89 = .ok (.bipush 36, 2) := by decide +kernel
theorem dX11_count_91 : decode cX11_count 91 = .ok (.iaload, 1) := by decide +kernel
theorem dX11_count_92 : decode cX11_count 92 = .ok (.ireturn, 1) := by decide +kernel
theorem dX11_count_93 : decode cX11_count 93 = .ok (.aload_n 0, 1) := by decide +kernel
theorem dX11_count_94 : decode cX11_count 94 = .ok (.invokevirtual 370, 3) := by decide +kernel
theorem dX11_count_97 : decode cX11_count 97 = .ok (.ireturn, 1) := by decide +kernel
theorem dX11_count_98 : decode cX11_count 98 = .ok (.aload_n 0, 1) := by decide +kernel
theorem dX11_count_99 : decode cX11_count 99 = .ok (.aload_n 0, 1) := by decide +kernel
theorem dX11_count_100 : decode cX11_count 100 = .ok (.getfield 9, 3) := by decide +kernel
theorem dX11_count_103 : decode cX11_count 103 = .ok (.iconst 0, 1) := by decide +kernel
theorem dX11_count_104 : decode cX11_count 104 = .ok (.invokevirtual 232, 3) := by decide +kernel
theorem dX11_count_107 : decode cX11_count 107 = .ok (.ireturn, 1) := by decide +kernel
theorem dX11_count_108 : decode cX11_count 108 = .ok (.aload_n 0, 1) := by decide +kernel
theorem dX11_count_109 : decode cX11_count 109 = .ok (.aload_n 0, 1) := by decide +kernel
theorem dX11_count_110 : decode cX11_count 110 = .ok (.getfield 9, 3) := by decide +kernel
theorem dX11_count_113 : decode cX11_count 113 = .ok (.bipush 7, 2) := by decide +kernel
theorem dX11_count_115 : decode cX11_count 115 = .ok (.invokevirtual 232, 3) := by decide +kernel
theorem dX11_count_118 : decode cX11_count 118 = .ok (.ireturn, 1) := by decide +kernel
theorem dX11_count_119 : decode cX11_count 119 = .ok (.aload_n 0, 1) := by decide +kernel
theorem dX11_count_120 : decode cX11_count 120 = .ok (.aload_n 0, 1) := by decide +kernel
theorem dX11_count_121 : decode cX11_count 121 = .ok (.getfield 9, 3) := by decide +kernel
theorem dX11_count_124 : decode cX11_count 124 = .ok (.bipush 14, 2) := by decide +kernel
theorem dX11_count_126 : decode cX11_count 126 = .ok (.invokevirtual 232, 3) := by decide +kernel
theorem dX11_count_129 : decode cX11_count 129 = .ok (.ireturn, 1) := by decide +kernel
theorem dX11_count_130 : decode cX11_count 130 = .ok (.aload_n 0, 1) := by decide +kernel
theorem dX11_count_131 : decode cX11_count 131 = .ok (.aload_n 0, 1) := by decide +kernel
theorem dX11_count_132 : decode cX11_count 132 = .ok (.getfield 9, 3) := by decide +kernel
theorem dX11_count_135 : decode cX11_count 135 = .ok (.bipush 21, 2) := by decide +kernel
theorem dX11_count_137 : decode cX11_count 137 = .ok (.invokevirtual 232, 3) := by decide +kernel
theorem dX11_count_140 : decode cX11_count 140 = .ok (.ireturn, 1) := by decide +kernel
theorem dX11_count_141 : decode cX11_count 141 = .ok (.aload_n 0, 1) := by decide +kernel
theorem dX11_count_142 : decode cX11_count 142 = .ok (.getfield 326, 3) := by decide +kernel
theorem dX11_count_145 : decode cX11_count 145 = .ok (.ireturn, 1) := by decide +kernel
theorem dX11_count_146 : decode cX11_count 146 = .ok (.aload_n 0, 1) := by decide +kernel
theorem dX11_count_147 : decode cX11_count 147 = .ok (.getfield 335, 3) := by decide +kernel
theorem dX11_count_150 : decode cX11_count 150 = .ok (.ireturn, 1) := by decide +kernel
theorem dX11_count_151 : decode cX11_count 151 = .ok (.aload_n 0, 1) := by decide +kernel
theorem dX11_count_152 : decode cX11_count 152 = .ok (.getfield 145, 3) := by decide +kernel
theorem dX11_count_155 : decode cX11_count 155 = .ok (.ireturn, 1) := by decide +kernel
theorem dX11_count_156 : decode cX11_count 156 = .ok (.aload_n 0, 1) := by decide +kernel
theorem dX11_count_157 : decode cX11_count 157 = .ok (.getfield 89, 3) := by decide +kernel
theorem dX11_count_160 : decode cX11_count 160 = .ok (.ireturn, 1) := by decide +kernel
theorem dX11_count_161 : decode cX11_count 161 = .ok (.aload_n 0, 1) := by decide +kernel
theorem dX11_count_162 : decode cX11_count 162 = .ok (.getfield 103, 3) := by decide +kernel
theorem dX11_count_165 : decode cX11_count 165 = .ok (.ireturn, 1) := by decide +kernel
theorem dX11_count_166 : decode cX11_count 166 = .ok (.iconst (-1), 1) := by decide +kernel
theorem dX11_count_167 : decode cX11_count 167 = .ok (.ireturn, 1) := by decide +kernel
theorem dX11_row_0 : decode cX11_row 0 = .ok (.aload_n 0, 1) := by decide +kernel
theorem dX11_row_1 : decode cX11_row 1 = .ok (.iconst 0, 1) := by decide +kernel
theorem dX11_row_2 : decode cX11_row 2 = .ok (.putfield 85, 3) := by decide +kernel
theorem dX11_row_5 : decode cX11_row 5 = .ok (.iload_n 1, 1) := by decide +kernel
theorem dX11_row_6 : decode cX11_row 6 = .ok (.iconst 0, 1) := by decide +kernel
theorem dX11_row_7 : decode cX11_row 7 = .ok (.aload_n 0, 1) := by decide +kernel
theorem dX11_row_8 : decode cX11_row 8 = .ok (.getfield 89, 3) := by decide +kernel
theorem dX11_row_11 : decode cX11_row 11 = .ok (.iconst 1, 1) := by decide +kernel
theorem dX11_row_12 : decode cX11_row 12 = .ok (.isub, 1) := by decide +kernel
theorem dX11_row_13 : decode cX11_row 13 = .ok (.invokestatic 95, 3) := by decide +kernel
theorem dX11_row_16 : decode cX11_row 16 = .ok (.ifCond .eq 12, 3) := by decide +kernel
theorem dX11_row_19 : decode cX11_row 19 = .ok (.aload_n 0, 1) := by decide +kernel
theorem dX11_row_20 : decode cX11_row 20 = .ok (.getfield 17, 3) := by decide +kernel
theorem dX11_row_23 : decode cX11_row 23 = .ok (.iload_n 1, 1) := by decide +kernel
theorem dX11_row_24 : decode cX11_row 24 = .ok (.laload, 1) := by decide +kernel
theorem dX11_row_25 : decode cX11_row 25 = .ok (.goto 8, 3) := by decide +kernel
theorem dX11_row_28 : decode cX11_row 28 = .ok (.aload_n 0, 1) := by decide +kernel
theorem dX11_row_29 : decode cX11_row 29 = .ok (.invokevirtual 220, 3) := by decide +kernel
theorem dX11_row_32 : decode cX11_row 32 = .ok (.i2l, 1) := by decide +kernel
theorem dX11_row_33 : decode cX11_row 33 = .ok (.lreturn, 1) := by decide +kernel
theorem dJ11_isValidCodePoint_9a6ad_0 : decode cJ11_isValidCodePoint_9a6ad 0 = .ok (.iload_n 0, 1) := by decide +kernel
theorem dJ11_isValidCodePoint_9a6ad_1 : decode cJ11_isValidCodePoint_9a6ad 1 = .ok (.bipush 16, 2) := by decide +kernel
theorem dJ11_isValidCodePoint_9a6ad_3 : decode cJ11_isValidCodePoint_9a6ad 3 = .ok (.iushr, 1) := by decide +kernel
theorem dJ11_isValidCodePoint_9a6ad_4 : decode cJ11_isValidCodePoint_9a6ad 4 = .ok (.istore_n 1, 1) := by decide +kernel
theorem dJ11_isValidCodePoint_9a6ad_5 : decode cJ11_isValidCodePoint_9a6ad 5 = .ok (.iload_n 1, 1) := by decide +kernel
theorem dJ11_isValidCodePoint_9a6ad_6 : decode cJ11_isValidCodePoint_9a6ad 6 = .ok (.bipush 17, 2) := by decide +kernel
theorem dJ11_isValidCodePoint_9a6ad_8 : decode cJ11_isValidCodePoint_9a6ad 8 = .ok (.if_icmp .ge 7, 3) := by decide +kernel
theorem dJ11_isValidCodePoint_9a6ad_11 : decode cJ11_isValidCodePoint_9a6ad 11 = .ok (.iconst 1, 1) := by decide +kernel
theorem dJ11_isValidCodePoint_9a6ad_12 : decode cJ11_isValidCodePoint_9a6ad 12 = .ok (.goto 4, 3) := by decide +kernel
theorem dJ11_isValidCodePoint_9a6ad_15 : decode cJ11_isValidCodePoint_9a6ad 15 = .ok (.iconst 0, 1) := by decide +kernel
theorem dJ11_isValidCodePoint_9a6ad_16 : decode cJ11_isValidCodePoint_9a6ad 16 = .ok (.ireturn, 1) := by decide +kernel
theorem dJ11_highSurrogate_5068e_0 : decode cJ11_highSurrogate_5068e 0 = .ok (.iload_n 0, 1) := by decide +kernel
theorem dJ11_highSurrogate_5068e_1 : decode cJ11_highSurrogate_5068e 1 = .ok (.bipush 10, 2) := by decide +kernel
theorem dJ11_highSurrogate_5068e_3 : decode cJ11_highSurrogate_5068e 3 = .ok (.iushr, 1) := by decide +kernel
theorem dJ11_highSurrogate_5068e_4 : decode cJ11_highSurrogate_5068e 4 = .ok (.ldc 110, 2) := by decide +kernel
theorem dJ11_highSurrogate_5068e_6 : decode cJ11_highSurrogate_5068e 6 = .ok (.iadd, 1) := by decide +kernel
theorem dJ11_highSurrogate_5068e_7 : decode cJ11_highSurrogate_5068e 7 = .ok (.i2c, 1) := by decide +kernel
theorem dJ11_highSurrogate_5068e_8 : decode cJ11_highSurrogate_5068e 8 = .ok (.ireturn, 1) := by decide +kernel
theorem dJ11_lowSurrogate_5068e_0 : decode cJ11_lowSurrogate_5068e 0 = .ok (.iload_n 0, 1) := by decide +kernel
theorem dJ11_lowSurrogate_5068e_1 : decode cJ11_lowSurrogate_5068e 1 = .ok (.sipush 1023, 3) := by decide +kernel
theorem dJ11_lowSurrogate_5068e_4 : decode cJ11_lowSurrogate_5068e 4 = .ok (.iand, 1) := by decide +kernel
theorem dJ11_lowSurrogate_5068e_5 : decode cJ11_lowSurrogate_5068e 5 = .ok (.ldc 76, 2) := by decide +kernel
theorem dJ11_lowSurrogate_5068e_7 : decode cJ11_lowSurrogate_5068e 7 = .ok (.iadd, 1) := by decide +kernel
theorem dJ11_lowSurrogate_5068e_8 : decode cJ11_lowSurrogate_5068e 8 = .ok (.i2c, 1) := by decide +kernel
theorem dJ11_lowSurrogate_5068e_9 : decode cJ11_lowSurrogate_5068e 9 = .ok (.ireturn, 1) := by decide +kernel
theorem dJ6_bitCount_0f7a4_0 : decode cJ6_bitCount_0f7a4 0 = .ok (.iload_n 0, 1) := by decide +kernel
theorem dJ6_bitCount_0f7a4_1 : decode cJ6_bitCount_0f7a4 1 = .ok (.iload_n 0, 1) := by decide +kernel
theorem dJ6_bitCount_0f7a4_2 : decode cJ6_bitCount_0f7a4 2 = .ok (.iconst 1, 1) := by decide +kernel
theorem dJ6_bitCount_0f7a4_3 : decode cJ6_bitCount_0f7a4 3 = .ok (.iushr, 1) := by decide +kernel
theorem dJ6_bitCount_0f7a4_4 : decode cJ6_bitCount_0f7a4 4 = .ok (.ldc_w 265, 3) := by decide +kernel
theorem dJ6_bitCount_0f7a4_7 : decode cJ6_bitCount_0f7a4 7 = .ok (.iand, 1) := by decide +kernel
theorem dJ6_bitCount_0f7a4_8 : decode cJ6_bitCount_0f7a4 8 = .ok (.isub, 1) := by decide +kernel
theorem dJ6_bitCount_0f7a4_9 : decode cJ6_bitCount_0f7a4 9 = .ok (.istore_n 0, 1) := by decide +kernel
theorem dJ6_bitCount_0f7a4_10 : decode cJ6_bitCount_0f7a4 10 = .ok (.iload_n 0, 1) := by decide +kernel
theorem dJ6_bitCount_0f7a4_11 : decode cJ6_bitCount_0f7a4 11 = .ok (.ldc_w 266, 3) := by decide +kernel
theorem dJ6_bitCount_0f7a4_14 : decode cJ6_bitCount_0f7a4 14 = .ok (.iand, 1) := by decide +kernel
theorem dJ6_bitCount_0f7a4_15 : decode cJ6_bitCount_0f7a4 15 = .ok (.iload_n 0, 1) := by decide +kernel
theorem dJ6_bitCount_0f7a4_16 : decode cJ6_bitCount_0f7a4 16 = .ok (.iconst 2, 1) := by decide +kernel
theorem dJ6_bitCount_0f7a4_17 : decode cJ6_bitCount_0f7a4 17 = .ok (.iushr, 1) := by decide +kernel
theorem dJ6_bitCount_0f7a4_18 : decode cJ6_bitCount_0f7a4 18 = .ok (.ldc_w 266, 3) := by decide +kernel
theorem dJ6_bitCount_0f7a4_21 : decode cJ6_bitCount_0f7a4 21 = .ok (.iand, 1) := by decide +kernel
theorem dJ6_bitCount_0f7a4_22 : decode cJ6_bitCount_0f7a4 22 = .ok (.iadd, 1) := by decide +kernel
theorem dJ6_bitCount_0f7a4_23 : decode cJ6_bitCount_0f7a4 23 = .ok (.istore_n 0, 1) := by decide +kernel
theorem dJ6_bitCount_0f7a4_24 : decode cJ6_bitCount_0f7a4 24 = .ok (.iload_n 0, 1) := by decide +kernel
theorem dJ6_bitCount_0f7a4_25 : decode cJ6_bitCount_0f7a4 25 = .ok (.iload_n 0, 1) := by decide +kernel
theorem dJ6_bitCount_0f7a4_26 : decode cJ6_bitCount_0f7a4 26 = .ok (.iconst 4, 1) := by decide +kernel
theorem dJ6_bitCount_0f7a4_27 : decode cJ6_bitCount_0f7a4 27 = .ok (.iushr, 1) := by decide +kernel
theorem dJ6_bitCount_0f7a4_28 : decode cJ6_bitCount_0f7a4 28 = .ok (.iadd, 1) := by decide +kernel
theorem dJ6_bitCount_0f7a4_29 : decode cJ6_bitCount_0f7a4 29 = .ok (.ldc_w 267, 3) := by decide +kernel
theorem dJ6_bitCount_0f7a4_32 : decode cJ6_bitCount_0f7a4 32 = .ok (.iand, 1) := by decide +kernel
theorem dJ6_bitCount_0f7a4_33 : decode cJ6_bitCount_0f7a4 33 = .ok (.istore_n 0, 1) := by decide +kernel
theorem dJ6_bitCount_0f7a4_34 : decode cJ6_bitCount_0f7a4 34 = .ok (.iload_n 0, 1) := by decide +kernel
theorem dJ6_bitCount_0f7a4_35 : decode cJ6_bitCount_0f7a4 35 = .ok (.iload_n 0, 1) := by decide +kernel
theorem dJ6_bitCount_0f7a4_36 : decode cJ6_bitCount_0f7a4 36 = .ok (.bipush 8, 2) := by decide +kernel
theorem dJ6_bitCount_0f7a4_38 : decode cJ6_bitCount_0f7a4 38 = .ok (.iushr, 1) := by decide +kernel
theorem dJ6_bitCount_0f7a4_39 : decode cJ6_bitCount_0f7a4 39 = .ok (.iadd, 1) := by decide +kernel
theorem dJ6_bitCount_0f7a4_40 : decode cJ6_bitCount_0f7a4 40 = .ok (.istore_n 0, 1) := by decide +kernel
theorem dJ6_bitCount_0f7a4_41 : decode cJ6_bitCount_0f7a4 41 = .ok (.iload_n 0, 1) := by decide +kernel
theorem dJ6_bitCount_0f7a4_42 : decode cJ6_bitCount_0f7a4 42 = .ok (.iload_n 0, 1) := by decide +kernel
theorem dJ6_bitCount_0f7a4_43 : decode cJ6_bitCount_0f7a4 43 = .ok (.bipush 16, 2) := by decide +kernel
theorem dJ6_bitCount_0f7a4_45 : decode cJ6_bitCount_0f7a4 45 = .ok (.iushr, 1) := by decide +kernel
theorem dJ6_bitCount_0f7a4_46 : decode cJ6_bitCount_0f7a4 46 = .ok (.iadd, 1) := by decide +kernel
theorem dJ6_bitCount_0f7a4_47 : decode cJ6_bitCount_0f7a4 47 = .ok (.istore_n 0, 1) := by decide +kernel
theorem dJ6_bitCount_0f7a4_48 : decode cJ6_bitCount_0f7a4 48 = .ok (.iload_n 0, 1) := by decide +kernel
theorem dJ6_bitCount_0f7a4_49 : decode cJ6_bitCount_0f7a4 49 = .ok (.bipush 63, 2) := by decide +kernel
theorem dJ6_bitCount_0f7a4_51 : decode cJ6_bitCount_0f7a4 51 = .ok (.iand, 1) := by decide +kernel
theorem dJ6_bitCount_0f7a4_52 : decode cJ6_bitCount_0f7a4 52 = .ok (.ireturn, 1) := by decide +kernel
theorem dJ9_max_7cf53_0 : decode cJ9_max_7cf53 0 = .ok (.iload_n 0, 1) := by decide +kernel
theorem dJ9_max_7cf53_1 : decode cJ9_max_7cf53 1 = .ok (.iload_n 1, 1) := by decide +kernel
theorem dJ9_max_7cf53_2 : decode cJ9_max_7cf53 2 = .ok (.if_icmp .lt 7, 3) := by decide +kernel
theorem dJ9_max_7cf53_5 : decode cJ9_max_7cf53 5 = .ok (.iload_n 0, 1) := by decide +kernel
theorem dJ9_max_7cf53_6 : decode cJ9_max_7cf53 6 = .ok (.goto 4, 3) := by decide +kernel
theorem dJ9_max_7cf53_9 : decode cJ9_max_7cf53 9 = .ok (.iload_n 1, 1) := by decide +kernel
theorem dJ9_max_7cf53_10 : decode cJ9_max_7cf53 10 = .ok (.ireturn, 1) := by decide +kernel
theorem dJ9_min_7cf53_0 : decode cJ9_min_7cf53 0 = .ok (.iload_n 0, 1) := by decide +kernel
theorem dJ9_min_7cf53_1 : decode cJ9_min_7cf53 1 = .ok (.iload_n 1, 1) := by decide +kernel
theorem dJ9_min_7cf53_2 : decode cJ9_min_7cf53 2 = .ok (.if_icmp .gt 7, 3) := by decide +kernel
theorem dJ9_min_7cf53_5 : decode cJ9_min_7cf53 5 = .ok (.iload_n 0, 1) := by decide +kernel
theorem dJ9_min_7cf53_6 : decode cJ9_min_7cf53 6 = .ok (.goto 4, 3) := by decide +kernel
theorem dJ9_min_7cf53_9 : decode cJ9_min_7cf53 9 = .ok (.iload_n 1, 1) := by decide +kernel
theorem dJ9_min_7cf53_10 : decode cJ9_min_7cf53 10 = .ok (.ireturn, 1) := by decide +kernel
theorem dJ0_length_8abf5_0 : decode cJ0_length_8abf5 0 = .ok (.aload_n 0, 1) := by decide +kernel
theorem dJ0_length_8abf5_1 : decode cJ0_length_8abf5 1 = .ok (.getfield 9, 3) := by decide +kernel
theorem dJ0_length_8abf5_4 : decode cJ0_length_8abf5 4 = .ok (.arraylength, 1) := by decide +kernel
theorem dJ0_length_8abf5_5 : decode cJ0_length_8abf5 5 = .ok (.aload_n 0, 1) := by decide +kernel
theorem dJ0_length_8abf5_6 : decode cJ0_length_8abf5 6 = .ok (.invokevirtual 335, 3) := by decide +kernel
theorem dJ0_length_8abf5_9 : decode cJ0_length_8abf5 9 = .ok (.ishr, 1) := by decide +kernel
theorem dJ0_length_8abf5_10 : decode cJ0_length_8abf5 10 = .ok (.ireturn, 1) := by decide +kernel
theorem dJ0_indexOf_0f7a4_0 : decode cJ0_indexOf_0f7a4 0 = .ok (.aload_n 0, 1) := by decide +kernel
theorem dJ0_indexOf_0f7a4_1 : decode cJ0_indexOf_0f7a4 1 = .ok (.iload_n 1, 1) := by decide +kernel
theorem dJ0_indexOf_0f7a4_2 : decode cJ0_indexOf_0f7a4 2 = .ok (.iconst 0, 1) := by decide +kernel
theorem dJ0_indexOf_0f7a4_3 : decode cJ0_indexOf_0f7a4 3 = .ok (.invokevirtual 633, 3) := by decide +kernel
theorem dJ0_indexOf_0f7a4_6 : decode cJ0_indexOf_0f7a4 6 = .ok (.ireturn, 1) := by decide +kernel
theorem dJ0_indexOf_7cf53_0 : decode cJ0_indexOf_7cf53 0 = .ok (.aload_n 0, 1) := by decide +kernel
theorem dJ0_indexOf_7cf53_1 : decode cJ0_indexOf_7cf53 1 = .ok (.invokevirtual 492, 3) := by decide +kernel
theorem dJ0_indexOf_7cf53_4 : decode cJ0_indexOf_7cf53 4 = .ok (.ifCond .eq 19, 3) := by decide +kernel
theorem dJ0_indexOf_7cf53_7 : decode cJ0_indexOf_7cf53 7 = .ok (.aload_n 0, 1) := by decide +kernel
theorem dJ0_indexOf_7cf53_8 : decode cJ0_indexOf_7cf53 8 = .ok (.getfield 9, 3) := by decide +kernel
theorem dJ0_indexOf_7cf53_11 : decode cJ0_indexOf_7cf53 11 = .ok (.iload_n 1, 1) := by decide +kernel
theorem dJ0_indexOf_7cf53_12 : decode cJ0_indexOf_7cf53 12 = .ok (.iload_n 2, 1) := by decide +kernel
theorem dJ0_indexOf_7cf53_13 : decode cJ0_indexOf_7cf53 13 = .ok (.aload_n 0, 1) := by decide +kernel
theorem dJ0_indexOf_7cf53_14 : decode cJ0_indexOf_7cf53 14 = .ok (.invokevirtual 505, 3) := by decide +kernel
theorem dJ0_indexOf_7cf53_17 : decode cJ0_indexOf_7cf53 17 = .ok (.invokestatic 637, 3) := by decide +kernel
theorem dJ0_indexOf_7cf53_20 : decode cJ0_indexOf_7cf53 20 = .ok (.goto 16, 3) := by decide +kernel
theorem dJ0_indexOf_7cf53_23 : decode cJ0_indexOf_7cf53 23 = .ok (.aload_n 0, 1) := by decide +kernel
theorem dJ0_indexOf_7cf53_24 : decode cJ0_indexOf_7cf53 24 = .ok (.getfield 9, 3) := by decide +kernel
theorem dJ0_indexOf_7cf53_27 : decode cJ0_indexOf_7cf53 27 = .ok (.iload_n 1, 1) := by decide +kernel
theorem dJ0_indexOf_7cf53_28 : decode cJ0_indexOf_7cf53 28 = .ok (.iload_n 2, 1) := by decide +kernel
theorem dJ0_indexOf_7cf53_29 : decode cJ0_indexOf_7cf53 29 = .ok (.aload_n 0, 1) := by decide +kernel
theorem dJ0_indexOf_7cf53_30 : decode cJ0_indexOf_7cf53 30 = .ok (.invokevirtual 505, 3) := by decide +kernel
theorem dJ0_indexOf_7cf53_33 : decode cJ0_indexOf_7cf53 33 = .ok (.invokestatic 640, 3) := by decide +kernel
theorem dJ0_indexOf_7cf53_36 : decode cJ0_indexOf_7cf53 36 = .ok (.ireturn, 1) := by decide +kernel
theorem dJ0_coder_7d493_0 : decode cJ0_coder_7d493 0 = .ok (.getstatic 38, 3) := by decide +kernel
theorem dJ0_coder_7d493_3 : decode cJ0_coder_7d493 3 = .ok (.ifCond .eq 10, 3) := by decide +kernel
theorem dJ0_coder_7d493_6 : decode cJ0_coder_7d493 6 = .ok (.aload_n 0, 1) := by decide +kernel
theorem dJ0_coder_7d493_7 : decode cJ0_coder_7d493 7 = .ok (.getfield 15, 3) := by decide +kernel
theorem dJ0_coder_7d493_10 : decode cJ0_coder_7d493 10 = .ok (.goto 4, 3) := by decide +kernel
theorem dJ0_coder_7d493_13 : decode cJ0_coder_7d493 13 = .ok (.iconst 1, 1) := by decide +kernel
theorem dJ0_coder_7d493_14 : decode cJ0_coder_7d493 14 = .ok (.ireturn, 1) := by decide +kernel
theorem dJ0_isLatin1_aae02_0 : decode cJ0_isLatin1_aae02 0 = .ok (.getstatic 38, 3) := by decide +kernel
theorem dJ0_isLatin1_aae02_3 : decode cJ0_isLatin1_aae02 3 = .ok (.ifCond .eq 14, 3) := by decide +kernel
theorem dJ0_isLatin1_aae02_6 : decode cJ0_isLatin1_aae02 6 = .ok (.aload_n 0, 1) := by decide +kernel
theorem dJ0_isLatin1_aae02_7 : decode cJ0_isLatin1_aae02 7 = .ok (.getfield 15, 3) := by decide +kernel
theorem dJ0_isLatin1_aae02_10 : decode cJ0_isLatin1_aae02 10 = .ok (.ifCond .ne 7, 3) := by decide +kernel
theorem dJ0_isLatin1_aae02_13 : decode cJ0_isLatin1_aae02 13 = .ok (.iconst 1, 1) := by decide +kernel
theorem dJ0_isLatin1_aae02_14 : decode cJ0_isLatin1_aae02 14 = .ok (.goto 4, 3) := by decide +kernel
theorem dJ0_isLatin1_aae02_17 : decode cJ0_isLatin1_aae02 17 = .ok (.iconst 0, 1) := by decide +kernel
theorem dJ0_isLatin1_aae02_18 : decode cJ0_isLatin1_aae02 18 = .ok (.ireturn, 1) := by decide +kernel
theorem dJ0_checkBoundsBeginEnd_23922_0 : decode cJ0_checkBoundsBeginEnd_23922 0 = .ok (.iload_n 0, 1) := by decide +kernel
theorem dJ0_checkBoundsBeginEnd_23922_1 : decode cJ0_checkBoundsBeginEnd_23922 1 = .ok (.iload_n 1, 1) := by decide +kernel
theorem dJ0_checkBoundsBeginEnd_23922_2 : decode cJ0_checkBoundsBeginEnd_23922 2 = .ok (.iload_n 2, 1) := by decide +kernel
theorem dJ0_checkBoundsBeginEnd_23922_3 : decode cJ0_checkBoundsBeginEnd_23922 3 = .ok (.getstatic 1053, 3) := by decide +kernel
theorem dJ0_checkBoundsBeginEnd_23922_6 : decode cJ0_checkBoundsBeginEnd_23922 6 = .ok (.invokestatic 1062, 3) := by decide +kernel
theorem dJ0_checkBoundsBeginEnd_23922_9 : decode cJ0_checkBoundsBeginEnd_23922 9 = .ok (.pop, 1) := by decide +kernel
theorem dJ0_checkBoundsBeginEnd_23922_10 : decode cJ0_checkBoundsBeginEnd_23922 10 = .ok (.return_, 1) := by decide +kernel
theorem dJ1_canEncode_9a6ad_0 : decode cJ1_canEncode_9a6ad 0 = .ok (.iload_n 0, 1) := by decide +kernel
theorem dJ1_canEncode_9a6ad_1 : decode cJ1_canEncode_9a6ad 1 = .ok (.ifCond .lt 14, 3) := by decide +kernel
theorem dJ1_canEncode_9a6ad_4 : decode cJ1_canEncode_9a6ad 4 = .ok (.iload_n 0, 1) := by decide +kernel
theorem dJ1_canEncode_9a6ad_5 : decode cJ1_canEncode_9a6ad 5 = .ok (.sipush 255, 3) := by decide +kernel
theorem dJ1_canEncode_9a6ad_8 : decode cJ1_canEncode_9a6ad 8 = .ok (.if_icmp .gt 7, 3) := by decide +kernel
theorem dJ1_canEncode_9a6ad_11 : decode cJ1_canEncode_9a6ad 11 = .ok (.iconst 1, 1) := by decide +kernel
theorem dJ1_canEncode_9a6ad_12 : decode cJ1_canEncode_9a6ad 12 = .ok (.goto 4, 3) := by decide +kernel
theorem dJ1_canEncode_9a6ad_15 : decode cJ1_canEncode_9a6ad 15 = .ok (.iconst 0, 1) := by decide +kernel
theorem dJ1_canEncode_9a6ad_16 : decode cJ1_canEncode_9a6ad 16 = .ok (.ireturn, 1) := by decide +kernel
theorem dJ1_indexOf_4cfef_0 : decode cJ1_indexOf_4cfef 0 = .ok (.iload_n 1, 1) := by decide +kernel
theorem dJ1_indexOf_4cfef_1 : decode cJ1_indexOf_4cfef 1 = .ok (.invokestatic 88, 3) := by decide +kernel
theorem dJ1_indexOf_4cfef_4 : decode cJ1_indexOf_4cfef 4 = .ok (.ifCond .ne 5, 3) := by decide +kernel
theorem dJ1_indexOf_4cfef_7 : decode cJ1_indexOf_4cfef 7 = .ok (.iconst (-1), 1) := by decide +kernel
theorem dJ1_indexOf_4cfef_8 : decode cJ1_indexOf_4cfef 8 = .ok (.ireturn, 1) := by decide +kernel
theorem dJ1_indexOf_4cfef_9 : decode cJ1_indexOf_4cfef 9 = .ok (.iload_n 2, 1) := by decide +kernel
theorem dJ1_indexOf_4cfef_10 : decode cJ1_indexOf_4cfef 10 = .ok (.iconst 0, 1) := by decide +kernel
theorem dJ1_indexOf_4cfef_11 : decode cJ1_indexOf_4cfef 11 = .ok (.invokestatic 92, 3) := by decide +kernel
theorem dJ1_indexOf_4cfef_14 : decode cJ1_indexOf_4cfef 14 = .ok (.istore_n 2, 1) := by decide +kernel
theorem dJ1_indexOf_4cfef_15 : decode cJ1_indexOf_4cfef 15 = .ok (.iload_n 3, 1) := by decide +kernel
theorem dJ1_indexOf_4cfef_16 : decode cJ1_indexOf_4cfef 16 = .ok (.aload_n 0, 1) := by decide +kernel
theorem dJ1_indexOf_4cfef_17 : decode cJ1_indexOf_4cfef 17 = .ok (.arraylength, 1) := by decide +kernel
theorem dJ1_indexOf_4cfef_18 : decode cJ1_indexOf_4cfef 18 = .ok (.invokestatic 38, 3) := by decide +kernel
theorem dJ1_indexOf_4cfef_21 : decode cJ1_indexOf_4cfef 21 = .ok (.istore_n 3, 1) := by decide +kernel
theorem dJ1_indexOf_4cfef_22 : decode cJ1_indexOf_4cfef 22 = .ok (.iload_n 2, 1) := by decide +kernel
theorem dJ1_indexOf_4cfef_23 : decode cJ1_indexOf_4cfef 23 = .ok (.iload_n 3, 1) := by decide +kernel
theorem dJ1_indexOf_4cfef_24 : decode cJ1_indexOf_4cfef 24 = .ok (.if_icmp .lt 5, 3) := by decide +kernel
theorem dJ1_indexOf_4cfef_27 : decode cJ1_indexOf_4cfef 27 = .ok (.iconst (-1), 1) := by decide +kernel
theorem dJ1_indexOf_4cfef_28 : decode cJ1_indexOf_4cfef 28 = .ok (.ireturn, 1) := by decide +kernel
theorem dJ1_indexOf_4cfef_29 : decode cJ1_indexOf_4cfef 29 = .ok (.aload_n 0, 1) := by decide +kernel
theorem dJ1_indexOf_4cfef_30 : decode cJ1_indexOf_4cfef 30 = .ok (.iload_n 1, 1) := by decide +kernel
theorem dJ1_indexOf_4cfef_31 : decode cJ1_indexOf_4cfef 31 = .ok (.iload_n 2, 1) := by decide +kernel
theorem dJ1_indexOf_4cfef_32 : decode cJ1_indexOf_4cfef 32 = .ok (.iload_n 3, 1) := by decide +kernel
theorem dJ1_indexOf_4cfef_33 : decode cJ1_indexOf_4cfef 33 = .ok (.invokestatic 95, 3) := by decide +kernel
theorem dJ1_indexOf_4cfef_36 : decode cJ1_indexOf_4cfef 36 = .ok (.ireturn, 1) := by decide +kernel
theorem dJ1_indexOfChar_4cfef_0 : decode cJ1_indexOfChar_4cfef 0 = .ok (.iload_n 1, 1) := by decide +kernel
theorem dJ1_indexOfChar_4cfef_1 : decode cJ1_indexOfChar_4cfef 1 = .ok (.i2b, 1) := by decide +kernel
theorem dJ1_indexOfChar_4cfef_2 : decode cJ1_indexOfChar_4cfef 2 = .ok (.istore 4, 2) := by decide +kernel
theorem dJ1_indexOfChar_4cfef_4 : decode cJ1_indexOfChar_4cfef 4 = .ok (.iload_n 2, 1) := by decide +kernel
theorem dJ1_indexOfChar_4cfef_5 : decode cJ1_indexOfChar_4cfef 5 = .ok (.istore 5, 2) := by decide +kernel
theorem dJ1_indexOfChar_4cfef_7 : decode cJ1_indexOfChar_4cfef 7 = .ok (.iload 5, 2) := by decide +kernel
theorem dJ1_indexOfChar_4cfef_9 : decode cJ1_indexOfChar_4cfef 9 = .ok (.iload_n 3, 1) := by decide +kernel
theorem dJ1_indexOfChar_4cfef_10 : decode cJ1_indexOfChar_4cfef 10 = .ok (.if_icmp .ge 21, 3) := by decide +kernel
theorem dJ1_indexOfChar_4cfef_13 : decode cJ1_indexOfChar_4cfef 13 = .ok (.aload_n 0, 1) := by decide +kernel
theorem dJ1_indexOfChar_4cfef_14 : decode cJ1_indexOfChar_4cfef 14 = .ok (.iload 5, 2) := by decide +kernel
theorem dJ1_indexOfChar_4cfef_16 : decode cJ1_indexOfChar_4cfef 16 = .ok (.baload, 1) := by decide +kernel
theorem dJ1_indexOfChar_4cfef_17 : decode cJ1_indexOfChar_4cfef 17 = .ok (.iload 4, 2) := by decide +kernel
theorem dJ1_indexOfChar_4cfef_19 : decode cJ1_indexOfChar_4cfef 19 = .ok (.if_icmp .ne 6, 3) := by decide +kernel
theorem dJ1_indexOfChar_4cfef_22 : decode cJ1_indexOfChar_4cfef 22 = .ok (.iload 5, 2) := by decide +kernel
theorem dJ1_indexOfChar_4cfef_24 : decode cJ1_indexOfChar_4cfef 24 = .ok (.ireturn, 1) := by decide +kernel
theorem dJ1_indexOfChar_4cfef_25 : decode cJ1_indexOfChar_4cfef 25 = .ok (.iinc 5 1, 3) := by decide +kernel
theorem dJ1_indexOfChar_4cfef_28 : decode cJ1_indexOfChar_4cfef 28 = .ok (.goto (-21), 3) := by decide +kernel
theorem dJ1_indexOfChar_4cfef_31 : decode cJ1_indexOfChar_4cfef 31 = .ok (.iconst (-1), 1) := by decide +kernel
theorem dJ1_indexOfChar_4cfef_32 : decode cJ1_indexOfChar_4cfef 32 = .ok (.ireturn, 1) := by decide +kernel
theorem dJ2_getChar_3b067_0 : decode cJ2_getChar_3b067 0 = .ok (.getstatic 44, 3) := by decide +kernel
theorem dJ2_getChar_3b067_3 : decode cJ2_getChar_3b067 3 = .ok (.ifCond .ne 25, 3) := by decide +kernel
theorem dJ2_getChar_3b067_6 : decode cJ2_getChar_3b067 6 = .ok (.iload_n 1, 1) := by decide +kernel
theorem dJ2_getChar_3b067_7 : decode cJ2_getChar_3b067 7 = .ok (.ifCond .lt 11, 3) := by decide +kernel
theorem dJ2_getChar_3b067_10 : decode cJ2_getChar_3b067 10 = .ok (.iload_n 1, 1) := by decide +kernel
theorem dJ2_getChar_3b067_11 : decode cJ2_getChar_3b067 11 = .ok (.aload_n 0, 1) := by decide +kernel
theorem dJ2_getChar_3b067_12 : decode cJ2_getChar_3b067 12 = .ok (.invokestatic 48, 3) := by decide +kernel
theorem dJ2_getChar_3b067_15 : decode cJ2_getChar_3b067 15 = .ok (.if_icmp .lt 13, 3) := by decide +kernel
theorem dJ2_getChar_3b067_18 : decode cJ2_getChar_3b067 18 = .ok (.new 52, 3) := by decide +kernel
theorem dJ2_getChar_3b067_21 : decode cJ2_getChar_3b067 21 = .ok (.dup, 1) := by decide +kernel
theorem dJ2_getChar_3b067_22 : decode cJ2_getChar_3b067 22 = .ok (.ldc 54, 2) := by decide +kernel
theorem dJ2_getChar_3b067_24 : decode cJ2_getChar_3b067 24 = .ok (.invokespecial 56, 3) := by decide +kernel
theorem dJ2_getChar_3b067_27 : decode cJ2_getChar_3b067 27 = .ok (.athrow, 1) := by decide +kernel
theorem dJ2_getChar_3b067_28 : decode cJ2_getChar_3b067 28 = .ok (.iload_n 1, 1) := by decide +kernel
theorem dJ2_getChar_3b067_29 : decode cJ2_getChar_3b067 29 = .ok (.iconst 1, 1) := by decide +kernel
theorem dJ2_getChar_3b067_30 : decode cJ2_getChar_3b067 30 = .ok (.ishl, 1) := by decide +kernel
theorem dJ2_getChar_3b067_31 : decode cJ2_getChar_3b067 31 = .ok (.istore_n 1, 1) := by decide +kernel
theorem dJ2_getChar_3b067_32 : decode cJ2_getChar_3b067 32 = .ok (.aload_n 0, 1) := by decide +kernel
theorem dJ2_getChar_3b067_33 : decode cJ2_getChar_3b067 33 = .ok (.iload_n 1, 1) := by decide +kernel
theorem dJ2_getChar_3b067_34 : decode cJ2_getChar_3b067 34 = .ok (.iinc 1 1, 3) := by decide +kernel
theorem dJ2_getChar_3b067_37 : decode cJ2_getChar_3b067 37 = .ok (.baload, 1) := by decide +kernel
theorem dJ2_getChar_3b067_38 : decode cJ2_getChar_3b067 38 = .ok (.sipush 255, 3) := by decide +kernel
theorem dJ2_getChar_3b067_41 : decode cJ2_getChar_3b067 41 = .ok (.iand, 1) := by decide +kernel
theorem dJ2_getChar_3b067_42 : decode cJ2_getChar_3b067 42 = .ok (.getstatic 59, 3) := by decide +kernel
theorem dJ2_getChar_3b067_45 : decode cJ2_getChar_3b067 45 = .ok (.ishl, 1) := by decide +kernel
theorem dJ2_getChar_3b067_46 : decode cJ2_getChar_3b067 46 = .ok (.aload_n 0, 1) := by decide +kernel
theorem dJ2_getChar_3b067_47 : decode cJ2_getChar_3b067 47 = .ok (.iload_n 1, 1) := by decide +kernel
theorem dJ2_getChar_3b067_48 : decode cJ2_getChar_3b067 48 = .ok (.baload, 1) := by decide +kernel
theorem dJ2_getChar_3b067_49 : decode cJ2_getChar_3b067 49 = .ok (.sipush 255, 3) := by decide +kernel
theorem dJ2_getChar_3b067_52 : decode cJ2_getChar_3b067 52 = .ok (.iand, 1) := by decide +kernel
theorem dJ2_getChar_3b067_53 : decode cJ2_getChar_3b067 53 = .ok (.getstatic 63, 3) := by decide +kernel
theorem dJ2_getChar_3b067_56 : decode cJ2_getChar_3b067 56 = .ok (.ishl, 1) := by decide +kernel
theorem dJ2_getChar_3b067_57 : decode cJ2_getChar_3b067 57 = .ok (.ior, 1) := by decide +kernel
theorem dJ2_getChar_3b067_58 : decode cJ2_getChar_3b067 58 = .ok (.i2c, 1) := by decide +kernel
theorem dJ2_getChar_3b067_59 : decode cJ2_getChar_3b067 59 = .ok (.ireturn, 1) := by decide +kernel
theorem dJ2_length_9d52b_0 : decode cJ2_length_9d52b 0 = .ok (.aload_n 0, 1) := by decide +kernel
theorem dJ2_length_9d52b_1 : decode cJ2_length_9d52b 1 = .ok (.arraylength, 1) := by decide +kernel
theorem dJ2_length_9d52b_2 : decode cJ2_length_9d52b 2 = .ok (.iconst 1, 1) := by decide +kernel
theorem dJ2_length_9d52b_3 : decode cJ2_length_9d52b 3 = .ok (.ishr, 1) := by decide +kernel
theorem dJ2_length_9d52b_4 : decode cJ2_length_9d52b 4 = .ok (.ireturn, 1) := by decide +kernel
theorem dJ2_indexOf_4cfef_0 : decode cJ2_indexOf_4cfef 0 = .ok (.iload_n 2, 1) := by decide +kernel
theorem dJ2_indexOf_4cfef_1 : decode cJ2_indexOf_4cfef 1 = .ok (.iconst 0, 1) := by decide +kernel
theorem dJ2_indexOf_4cfef_2 : decode cJ2_indexOf_4cfef 2 = .ok (.invokestatic 224, 3) := by decide +kernel
theorem dJ2_indexOf_4cfef_5 : decode cJ2_indexOf_4cfef 5 = .ok (.istore_n 2, 1) := by decide +kernel
theorem dJ2_indexOf_4cfef_6 : decode cJ2_indexOf_4cfef 6 = .ok (.iload_n 3, 1) := by decide +kernel
theorem dJ2_indexOf_4cfef_7 : decode cJ2_indexOf_4cfef 7 = .ok (.aload_n 0, 1) := by decide +kernel
theorem dJ2_indexOf_4cfef_8 : decode cJ2_indexOf_4cfef 8 = .ok (.arraylength, 1) := by decide +kernel
theorem dJ2_indexOf_4cfef_9 : decode cJ2_indexOf_4cfef 9 = .ok (.iconst 1, 1) := by decide +kernel
theorem dJ2_indexOf_4cfef_10 : decode cJ2_indexOf_4cfef 10 = .ok (.ishr, 1) := by decide +kernel
theorem dJ2_indexOf_4cfef_11 : decode cJ2_indexOf_4cfef 11 = .ok (.invokestatic 183, 3) := by decide +kernel
theorem dJ2_indexOf_4cfef_14 : decode cJ2_indexOf_4cfef 14 = .ok (.istore_n 3, 1) := by decide +kernel
theorem dJ2_indexOf_4cfef_15 : decode cJ2_indexOf_4cfef 15 = .ok (.iload_n 2, 1) := by decide +kernel
theorem dJ2_indexOf_4cfef_16 : decode cJ2_indexOf_4cfef 16 = .ok (.iload_n 3, 1) := by decide +kernel
theorem dJ2_indexOf_4cfef_17 : decode cJ2_indexOf_4cfef 17 = .ok (.if_icmp .lt 5, 3) := by decide +kernel
theorem dJ2_indexOf_4cfef_20 : decode cJ2_indexOf_4cfef 20 = .ok (.iconst (-1), 1) := by decide +kernel
theorem dJ2_indexOf_4cfef_21 : decode cJ2_indexOf_4cfef 21 = .ok (.ireturn, 1) := by decide +kernel
theorem dJ2_indexOf_4cfef_22 : decode cJ2_indexOf_4cfef 22 = .ok (.iload_n 1, 1) := by decide +kernel
theorem dJ2_indexOf_4cfef_23 : decode cJ2_indexOf_4cfef 23 = .ok (.ldc 227, 2) := by decide +kernel
theorem dJ2_indexOf_4cfef_25 : decode cJ2_indexOf_4cfef 25 = .ok (.if_icmp .ge 11, 3) := by decide +kernel
theorem dJ2_indexOf_4cfef_28 : decode cJ2_indexOf_4cfef 28 = .ok (.aload_n 0, 1) := by decide +kernel
theorem dJ2_indexOf_4cfef_29 : decode cJ2_indexOf_4cfef 29 = .ok (.iload_n 1, 1) := by decide +kernel
theorem dJ2_indexOf_4cfef_30 : decode cJ2_indexOf_4cfef 30 = .ok (.iload_n 2, 1) := by decide +kernel
theorem dJ2_indexOf_4cfef_31 : decode cJ2_indexOf_4cfef 31 = .ok (.iload_n 3, 1) := by decide +kernel
theorem dJ2_indexOf_4cfef_32 : decode cJ2_indexOf_4cfef 32 = .ok (.invokestatic 228, 3) := by decide +kernel
theorem dJ2_indexOf_4cfef_35 : decode cJ2_indexOf_4cfef 35 = .ok (.ireturn, 1) := by decide +kernel
theorem dJ2_indexOf_4cfef_36 : decode cJ2_indexOf_4cfef 36 = .ok (.aload_n 0, 1) := by decide +kernel
theorem dJ2_indexOf_4cfef_37 : decode cJ2_indexOf_4cfef 37 = .ok (.iload_n 1, 1) := by decide +kernel
theorem dJ2_indexOf_4cfef_38 : decode cJ2_indexOf_4cfef 38 = .ok (.iload_n 2, 1) := by decide +kernel
theorem dJ2_indexOf_4cfef_39 : decode cJ2_indexOf_4cfef 39 = .ok (.iload_n 3, 1) := by decide +kernel
theorem dJ2_indexOf_4cfef_40 : decode cJ2_indexOf_4cfef 40 = .ok (.invokestatic 232, 3) := by decide +kernel
theorem dJ2_indexOf_4cfef_43 : decode cJ2_indexOf_4cfef 43 = .ok (.ireturn, 1) := by decide +kernel
theorem dJ2_indexOfChar_4cfef_0 : decode cJ2_indexOfChar_4cfef 0 = .ok (.iload_n 2, 1) := by decide +kernel
theorem dJ2_indexOfChar_4cfef_1 : decode cJ2_indexOfChar_4cfef 1 = .ok (.iload_n 3, 1) := by decide +kernel
theorem dJ2_indexOfChar_4cfef_2 : decode cJ2_indexOfChar_4cfef 2 = .ok (.aload_n 0, 1) := by decide +kernel
theorem dJ2_indexOfChar_4cfef_3 : decode cJ2_indexOfChar_4cfef 3 = .ok (.invokestatic 96, 3) := by decide +kernel
theorem dJ2_indexOfChar_4cfef_6 : decode cJ2_indexOfChar_4cfef 6 = .ok (.aload_n 0, 1) := by decide +kernel
theorem dJ2_indexOfChar_4cfef_7 : decode cJ2_indexOfChar_4cfef 7 = .ok (.iload_n 1, 1) := by decide +kernel
theorem dJ2_indexOfChar_4cfef_8 : decode cJ2_indexOfChar_4cfef 8 = .ok (.iload_n 2, 1) := by decide +kernel
theorem dJ2_indexOfChar_4cfef_9 : decode cJ2_indexOfChar_4cfef 9 = .ok (.iload_n 3, 1) := by decide +kernel
theorem dJ2_indexOfChar_4cfef_10 : decode cJ2_indexOfChar_4cfef 10 = .ok (.invokestatic 244, 3) := by decide +kernel
theorem dJ2_indexOfChar_4cfef_13 : decode cJ2_indexOfChar_4cfef 13 = .ok (.ireturn, 1) := by decide +kernel
theorem dJ2_indexOfCharUnsafe_4cfef_0 : decode cJ2_indexOfCharUnsafe_4cfef 0 = .ok (.iload_n 2, 1) := by decide +kernel
theorem dJ2_indexOfCharUnsafe_4cfef_1 : decode cJ2_indexOfCharUnsafe_4cfef 1 = .ok (.istore 4, 2) := by decide +kernel
theorem dJ2_indexOfCharUnsafe_4cfef_3 : decode cJ2_indexOfCharUnsafe_4cfef 3 = .ok (.iload 4, 2) := by decide +kernel
theorem dJ2_indexOfCharUnsafe_4cfef_5 : decode cJ2_indexOfCharUnsafe_4cfef 5 = .ok (.iload_n 3, 1) := by decide +kernel
theorem dJ2_indexOfCharUnsafe_4cfef_6 : decode cJ2_indexOfCharUnsafe_4cfef 6 = .ok (.if_icmp .ge 22, 3) := by decide +kernel
theorem dJ2_indexOfCharUnsafe_4cfef_9 : decode cJ2_indexOfCharUnsafe_4cfef 9 = .ok (.aload_n 0, 1) := by decide +kernel
theorem dJ2_indexOfCharUnsafe_4cfef_10 : decode cJ2_indexOfCharUnsafe_4cfef 10 = .ok (.iload 4, 2) := by decide +kernel
theorem dJ2_indexOfCharUnsafe_4cfef_12 : decode cJ2_indexOfCharUnsafe_4cfef 12 = .ok (.invokestatic 71, 3) := by decide +kernel
theorem dJ2_indexOfCharUnsafe_4cfef_15 : decode cJ2_indexOfCharUnsafe_4cfef 15 = .ok (.iload_n 1, 1) := by decide +kernel
theorem dJ2_indexOfCharUnsafe_4cfef_16 : decode cJ2_indexOfCharUnsafe_4cfef 16 = .ok (.if_icmp .ne 6, 3) := by decide +kernel
theorem dJ2_indexOfCharUnsafe_4cfef_19 : decode cJ2_indexOfCharUnsafe_4cfef 19 = .ok (.iload 4, 2) := by decide +kernel
theorem dJ2_indexOfCharUnsafe_4cfef_21 : decode cJ2_indexOfCharUnsafe_4cfef 21 = .ok (.ireturn, 1) := by decide +kernel
theorem dJ2_indexOfCharUnsafe_4cfef_22 : decode cJ2_indexOfCharUnsafe_4cfef 22 = .ok (.iinc 4 1, 3) := by decide +kernel
theorem dJ2_indexOfCharUnsafe_4cfef_25 : decode cJ2_indexOfCharUnsafe_4cfef 25 = .ok (.goto (-22), 3) := by decide +kernel
theorem dJ2_indexOfCharUnsafe_4cfef_28 : decode cJ2_indexOfCharUnsafe_4cfef 28 = .ok (.iconst (-1), 1) := by decide +kernel
theorem dJ2_indexOfCharUnsafe_4cfef_29 : decode cJ2_indexOfCharUnsafe_4cfef 29 = .ok (.ireturn, 1) := by decide +kernel
theorem dJ2_indexOfSupplementary_4cfef_0 : decode cJ2_indexOfSupplementary_4cfef 0 = .ok (.iload_n 1, 1) := by decide +kernel
theorem dJ2_indexOfSupplementary_4cfef_1 : decode cJ2_indexOfSupplementary_4cfef 1 = .ok (.invokestatic 164, 3) := by decide +kernel
theorem dJ2_indexOfSupplementary_4cfef_4 : decode cJ2_indexOfSupplementary_4cfef 4 = .ok (.ifCond .eq 65, 3) := by decide +kernel
theorem dJ2_indexOfSupplementary_4cfef_7 : decode cJ2_indexOfSupplementary_4cfef 7 = .ok (.iload_n 1, 1) := by decide +kernel
theorem dJ2_indexOfSupplementary_4cfef_8 : decode cJ2_indexOfSupplementary_4cfef 8 = .ok (.invokestatic 157, 3) := by decide +kernel
theorem dJ2_indexOfSupplementary_4cfef_11 : decode cJ2_indexOfSupplementary_4cfef 11 = .ok (.istore 4, 2) := by decide +kernel
theorem dJ2_indexOfSupplementary_4cfef_13 : decode cJ2_indexOfSupplementary_4cfef 13 = .ok (.iload_n 1, 1) := by decide +kernel
theorem dJ2_indexOfSupplementary_4cfef_14 : decode cJ2_indexOfSupplementary_4cfef 14 = .ok (.invokestatic 161, 3) := by decide +kernel
theorem dJ2_indexOfSupplementary_4cfef_17 : decode cJ2_indexOfSupplementary_4cfef 17 = .ok (.istore 5, 2) := by decide +kernel
theorem dJ2_indexOfSupplementary_4cfef_19 : decode cJ2_indexOfSupplementary_4cfef 19 = .ok (.iload_n 2, 1) := by decide +kernel
theorem dJ2_indexOfSupplementary_4cfef_20 : decode cJ2_indexOfSupplementary_4cfef 20 = .ok (.iload_n 3, 1) := by decide +kernel
theorem dJ2_indexOfSupplementary_4cfef_21 : decode cJ2_indexOfSupplementary_4cfef 21 = .ok (.aload_n 0, 1) := by decide +kernel
theorem dJ2_indexOfSupplementary_4cfef_22 : decode cJ2_indexOfSupplementary_4cfef 22 = .ok (.invokestatic 96, 3) := by decide +kernel
theorem dJ2_indexOfSupplementary_4cfef_25 : decode cJ2_indexOfSupplementary_4cfef 25 = .ok (.iload_n 2, 1) := by decide +kernel
theorem dJ2_indexOfSupplementary_4cfef_26 : decode cJ2_indexOfSupplementary_4cfef 26 = .ok (.istore 6, 2) := by decide +kernel
theorem dJ2_indexOfSupplementary_4cfef_28 : decode cJ2_indexOfSupplementary_4cfef 28 = .ok (.iload 6, 2) := by decide +kernel
theorem dJ2_indexOfSupplementary_4cfef_30 : decode cJ2_indexOfSupplementary_4cfef 30 = .ok (.iload_n 3, 1) := by decide +kernel
theorem dJ2_indexOfSupplementary_4cfef_31 : decode cJ2_indexOfSupplementary_4cfef 31 = .ok (.iconst 1, 1) := by decide +kernel
theorem dJ2_indexOfSupplementary_4cfef_32 : decode cJ2_indexOfSupplementary_4cfef 32 = .ok (.isub, 1) := by decide +kernel
theorem dJ2_indexOfSupplementary_4cfef_33 : decode cJ2_indexOfSupplementary_4cfef 33 = .ok (.if_icmp .ge 36, 3) := by decide +kernel
theorem dJ2_indexOfSupplementary_4cfef_36 : decode cJ2_indexOfSupplementary_4cfef 36 = .ok (.aload_n 0, 1) := by decide +kernel
theorem dJ2_indexOfSupplementary_4cfef_37 : decode cJ2_indexOfSupplementary_4cfef 37 = .ok (.iload 6, 2) := by decide +kernel
theorem dJ2_indexOfSupplementary_4cfef_39 : decode cJ2_indexOfSupplementary_4cfef 39 = .ok (.invokestatic 71, 3) := by decide +kernel
theorem dJ2_indexOfSupplementary_4cfef_42 : decode cJ2_indexOfSupplementary_4cfef 42 = .ok (.iload 4, 2) := by decide +kernel
theorem dJ2_indexOfSupplementary_4cfef_44 : decode cJ2_indexOfSupplementary_4cfef 44 = .ok (.if_icmp .ne 19, 3) := by decide +kernel
theorem dJ2_indexOfSupplementary_4cfef_47 : decode cJ2_indexOfSupplementary_4cfef 47 = .ok (.aload_n 0, 1) := by decide +kernel
theorem dJ2_indexOfSupplementary_4cfef_48 : decode cJ2_indexOfSupplementary_4cfef 48 = .ok (.iload 6, 2) := by decide +kernel
theorem dJ2_indexOfSupplementary_4cfef_50 : decode cJ2_indexOfSupplementary_4cfef 50 = .ok (.iconst 1, 1) := by decide +kernel
theorem dJ2_indexOfSupplementary_4cfef_51 : decode cJ2_indexOfSupplementary_4cfef 51 = .ok (.iadd, 1) := by decide +kernel
theorem dJ2_indexOfSupplementary_4cfef_52 : decode cJ2_indexOfSupplementary_4cfef 52 = .ok (.invokestatic 71, 3) := by decide +kernel
theorem dJ2_indexOfSupplementary_4cfef_55 : decode cJ2_indexOfSupplementary_4cfef 55 = .ok (.iload 5, 2) := by decide +kernel
theorem dJ2_indexOfSupplementary_4cfef_57 : decode cJ2_indexOfSupplementary_4cfef 57 = .ok (.if_icmp .ne 6, 3) := by decide +kernel
theorem dJ2_indexOfSupplementary_4cfef_60 : decode cJ2_indexOfSupplementary_4cfef 60 = .ok (.iload 6, 2) := by decide +kernel
theorem dJ2_indexOfSupplementary_4cfef_62 : decode cJ2_indexOfSupplementary_4cfef 62 = .ok (.ireturn, 1) := by decide +kernel
theorem dJ2_indexOfSupplementary_4cfef_63 : decode cJ2_indexOfSupplementary_4cfef 63 = .ok (.iinc 6 1, 3) := by decide +kernel
theorem dJ2_indexOfSupplementary_4cfef_66 : decode cJ2_indexOfSupplementary_4cfef 66 = .ok (.goto (-38), 3) := by decide +kernel
theorem dJ2_indexOfSupplementary_4cfef_69 : decode cJ2_indexOfSupplementary_4cfef 69 = .ok (.iconst (-1), 1) := by decide +kernel
theorem dJ2_indexOfSupplementary_4cfef_70 : decode cJ2_indexOfSupplementary_4cfef 70 = .ok (.ireturn, 1) := by decide +kernel
theorem dJ2_checkBoundsBeginEnd_d044e_0 : decode cJ2_checkBoundsBeginEnd_d044e 0 = .ok (.iload_n 0, 1) := by decide +kernel
theorem dJ2_checkBoundsBeginEnd_d044e_1 : decode cJ2_checkBoundsBeginEnd_d044e 1 = .ok (.iload_n 1, 1) := by decide +kernel
theorem dJ2_checkBoundsBeginEnd_d044e_2 : decode cJ2_checkBoundsBeginEnd_d044e 2 = .ok (.aload_n 2, 1) := by decide +kernel
theorem dJ2_checkBoundsBeginEnd_d044e_3 : decode cJ2_checkBoundsBeginEnd_d044e 3 = .ok (.invokestatic 48, 3) := by decide +kernel
theorem dJ2_checkBoundsBeginEnd_d044e_6 : decode cJ2_checkBoundsBeginEnd_d044e 6 = .ok (.invokestatic 241, 3) := by decide +kernel
theorem dJ2_checkBoundsBeginEnd_d044e_9 : decode cJ2_checkBoundsBeginEnd_d044e 9 = .ok (.return_, 1) := by decide +kernel
theorem dJ3_checkFromToIndex_8c36e_0 : decode cJ3_checkFromToIndex_8c36e 0 = .ok (.iload_n 0, 1) := by decide +kernel
theorem dJ3_checkFromToIndex_8c36e_1 : decode cJ3_checkFromToIndex_8c36e 1 = .ok (.ifCond .lt 13, 3) := by decide +kernel
theorem dJ3_checkFromToIndex_8c36e_4 : decode cJ3_checkFromToIndex_8c36e 4 = .ok (.iload_n 0, 1) := by decide +kernel
theorem dJ3_checkFromToIndex_8c36e_5 : decode cJ3_checkFromToIndex_8c36e 5 = .ok (.iload_n 1, 1) := by decide +kernel
theorem dJ3_checkFromToIndex_8c36e_6 : decode cJ3_checkFromToIndex_8c36e 6 = .ok (.if_icmp .gt 8, 3) := by decide +kernel
theorem dJ3_checkFromToIndex_8c36e_9 : decode cJ3_checkFromToIndex_8c36e 9 = .ok (.iload_n 1, 1) := by decide +kernel
theorem dJ3_checkFromToIndex_8c36e_10 : decode cJ3_checkFromToIndex_8c36e 10 = .ok (.iload_n 2, 1) := by decide +kernel
theorem dJ3_checkFromToIndex_8c36e_11 : decode cJ3_checkFromToIndex_8c36e 11 = .ok (.if_icmp .le 11, 3) := by decide +kernel
theorem dJ3_checkFromToIndex_8c36e_14 : decode cJ3_checkFromToIndex_8c36e 14 = .ok (.aload_n 3, 1) := by decide +kernel
theorem dJ3_checkFromToIndex_8c36e_15 : decode cJ3_checkFromToIndex_8c36e 15 = .ok (.iload_n 0, 1) := by decide +kernel
theorem dJ3_checkFromToIndex_8c36e_16 : decode cJ3_checkFromToIndex_8c36e 16 = .ok (.iload_n 1, 1) := by decide +kernel
theorem dJ3_checkFromToIndex_8c36e_17 : decode cJ3_checkFromToIndex_8c36e 17 = .ok (.iload_n 2, 1) := by decide +kernel
theorem dJ3_checkFromToIndex_8c36e_18 : decode cJ3_checkFromToIndex_8c36e 18 = .ok (.invokestatic 99, 3) := by decide +kernel
theorem dJ3_checkFromToIndex_8c36e_21 : decode cJ3_checkFromToIndex_8c36e 21 = .ok (.athrow, 1) := by decide +kernel
theorem dJ3_checkFromToIndex_8c36e_22 : decode cJ3_checkFromToIndex_8c36e 22 = .ok (.iload_n 0, 1) := by decide +kernel
theorem dJ3_checkFromToIndex_8c36e_23 : decode cJ3_checkFromToIndex_8c36e 23 = .ok (.ireturn, 1) := by decide +kernel
theorem dL_one_0 : decode cL_one 0 = .ok (.aload_n 3, 1) := by decide +kernel
theorem dL_one_1 : decode cL_one 1 = .ok (.iconst 0, 1) := by decide +kernel
theorem dL_one_2 : decode cL_one 2 = .ok (.aload_n 0, 1) := by decide +kernel
theorem dL_one_3 : decode cL_one 3 = .ok (.iload_n 1, 1) := by decide +kernel
theorem dL_one_4 : decode cL_one 4 = .ok (.iload_n 2, 1) := by decide +kernel
theorem dL_one_5 : decode cL_one 5 = .ok (.invokevirtual 7, 3) := by decide +kernel
theorem dL_one_8 : decode cL_one 8 = .ok (.i2l, 1) := by decide +kernel
theorem dL_one_9 : decode cL_one 9 = .ok (.lastore, 1) := by decide +kernel
theorem dL_one_10 : decode cL_one 10 = .ok (.goto 7, 3) := by decide +kernel
theorem dL_one_13 : decode cL_one 13 = .ok (.astore 4, 2) := by decide +kernel
theorem dL_one_15 : decode cL_one 15 = .ok (.iconst 1, 1) := by decide +kernel
theorem dL_one_16 : decode cL_one 16 = .ok (.ireturn, 1) := by decide +kernel
theorem dL_one_17 : decode cL_one 17 = .ok (.iconst 0, 1) := by decide +kernel
theorem dL_one_18 : decode cL_one 18 = .ok (.ireturn, 1) := by decide +kernel
theorem dL_row_0 : decode cL_row 0 = .ok (.aload_n 2, 1) := by decide +kernel
theorem dL_row_1 : decode cL_row 1 = .ok (.iconst 0, 1) := by decide +kernel
theorem dL_row_2 : decode cL_row 2 = .ok (.aload_n 0, 1) := by decide +kernel
theorem dL_row_3 : decode cL_row 3 = .ok (.iload_n 1, 1) := by decide +kernel
theorem dL_row_4 : decode cL_row 4 = .ok (.invokevirtual 15, 3) := by decide +kernel
theorem dL_row_7 : decode cL_row 7 = .ok (.lastore, 1) := by decide +kernel
theorem dL_row_8 : decode cL_row 8 = .ok (.goto 6, 3) := by decide +kernel
theorem dL_row_11 : decode cL_row 11 = .ok (.astore_n 3, 1) := by decide +kernel
theorem dL_row_12 : decode cL_row 12 = .ok (.iconst 1, 1) := by decide +kernel
theorem dL_row_13 : decode cL_row 13 = .ok (.ireturn, 1) := by decide +kernel
theorem dL_row_14 : decode cL_row 14 = .ok (.iconst 0, 1) := by decide +kernel
theorem dL_row_15 : decode cL_row 15 = .ok (.ireturn, 1) := by decide +kernel
theorem dL_law_0 : decode cL_law 0 = .ok (.new 8, 3) := by decide +kernel
theorem dL_law_3 : decode cL_law 3 = .ok (.dup, 1) := by decide +kernel
theorem dL_law_4 : decode cL_law 4 = .ok (.invokespecial 19, 3) := by decide +kernel
theorem dL_law_7 : decode cL_law 7 = .ok (.astore_n 1, 1) := by decide +kernel
theorem dL_law_8 : decode cL_law 8 = .ok (.new 20, 3) := by decide +kernel
theorem dL_law_11 : decode cL_law 11 = .ok (.dup, 1) := by decide +kernel
theorem dL_law_12 : decode cL_law 12 = .ok (.invokespecial 22, 3) := by decide +kernel
theorem dL_law_15 : decode cL_law 15 = .ok (.astore_n 2, 1) := by decide +kernel
theorem dL_law_16 : decode cL_law 16 = .ok (.iconst 1, 1) := by decide +kernel
theorem dL_law_17 : decode cL_law 17 = .ok (.newarray .long, 2) := by decide +kernel
theorem dL_law_19 : decode cL_law 19 = .ok (.astore_n 3, 1) := by decide +kernel
theorem dL_law_20 : decode cL_law 20 = .ok (.iconst 0, 1) := by decide +kernel
theorem dL_law_21 : decode cL_law 21 = .ok (.istore 4, 2) := by decide +kernel
theorem dL_law_23 : decode cL_law 23 = .ok (.iload 4, 2) := by decide +kernel
theorem dL_law_25 : decode cL_law 25 = .ok (.aload_n 0, 1) := by decide +kernel
theorem dL_law_26 : decode cL_law 26 = .ok (.arraylength, 1) := by decide +kernel
theorem dL_law_27 : decode cL_law 27 = .ok (.iconst 5, 1) := by decide +kernel
theorem dL_law_28 : decode cL_law 28 = .ok (.isub, 1) := by decide +kernel
theorem dL_law_29 : decode cL_law 29 = .ok (.if_icmp .gt 1439, 3) := by decide +kernel
theorem dL_law_32 : decode cL_law 32 = .ok (.aload_n 0, 1) := by decide +kernel
