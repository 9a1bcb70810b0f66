theorem dX11_runs_93 : decode cX11_runs 93 = .ok (.iload 5, 2) := by decide +kernel
theorem dX11_runs_95 : decode cX11_runs 95 = .ok (.isub, 1) := by decide +kernel
theorem dX11_runs_96 : decode cX11_runs 96 = .ok (.iconst 1, 1) := by decide +kernel
theorem dX11_runs_97 : decode cX11_runs 97 = .ok (.iadd, 1) := by decide +kernel
theorem dX11_runs_98 : decode cX11_runs 98 = .ok (.istore 4, 2) := by decide +kernel
theorem dX11_runs_100 : decode cX11_runs 100 = .ok (.iinc 6 1, 3) := by decide +kernel
theorem dX11_runs_103 : decode cX11_runs 103 = .ok (.goto (-55), 3) := by decide +kernel
theorem dX11_runs_106 : decode cX11_runs 106 = .ok (.aload_n 0, 1) := by decide +kernel
theorem dX11_runs_107 : decode cX11_runs 107 = .ok (.iconst 0, 1) := by decide +kernel
theorem dX11_runs_108 : decode cX11_runs 108 = .ok (.putfield 89, 3) := by decide +kernel
theorem dX11_runs_111 : decode cX11_runs 111 = .ok (.aload_n 0, 1) := by decide +kernel
theorem dX11_runs_112 : decode cX11_runs 112 = .ok (.iload 4, 2) := by decide +kernel
theorem dX11_runs_114 : decode cX11_runs 114 = .ok (.i2l, 1) := by decide +kernel
theorem dX11_runs_115 : decode cX11_runs 115 = .ok (.invokevirtual 256, 3) := by decide +kernel
theorem dX11_runs_118 : decode cX11_runs 118 = .ok (.iload_n 3, 1) := by decide +kernel
theorem dX11_runs_119 : decode cX11_runs 119 = .ok (.ireturn, 1) := by decide +kernel
theorem dX11_each_0 : decode cX11_each 0 = .ok (.aload_n 0, 1) := by decide +kernel
theorem dX11_each_1 : decode cX11_each 1 = .ok (.iconst 0, 1) := by decide +kernel
theorem dX11_each_2 : decode cX11_each 2 = .ok (.putfield 85, 3) := by decide +kernel
theorem dX11_each_5 : decode cX11_each 5 = .ok (.aload_n 0, 1) := by decide +kernel
theorem dX11_each_6 : decode cX11_each 6 = .ok (.getfield 9, 3) := by decide +kernel
theorem dX11_each_9 : decode cX11_each 9 = .ok (.aload_n 0, 1) := by decide +kernel
theorem dX11_each_10 : decode cX11_each 10 = .ok (.getfield 39, 3) := by decide +kernel
theorem dX11_each_13 : decode cX11_each 13 = .ok (.iconst 0, 1) := by decide +kernel
theorem dX11_each_14 : decode cX11_each 14 = .ok (.invokestatic 235, 3) := by decide +kernel
theorem dX11_each_17 : decode cX11_each 17 = .ok (.iconst 0, 1) := by decide +kernel
theorem dX11_each_18 : decode cX11_each 18 = .ok (.istore_n 1, 1) := by decide +kernel
theorem dX11_each_19 : decode cX11_each 19 = .ok (.iconst 0, 1) := by decide +kernel
theorem dX11_each_20 : decode cX11_each 20 = .ok (.istore_n 2, 1) := by decide +kernel
theorem dX11_each_21 : decode cX11_each 21 = .ok (.iconst 0, 1) := by decide +kernel
theorem dX11_each_22 : decode cX11_each 22 = .ok (.istore_n 3, 1) := by decide +kernel
theorem dX11_each_23 : decode cX11_each 23 = .ok (.iload_n 3, 1) := by decide +kernel
theorem dX11_each_24 : decode cX11_each 24 = .ok (.bipush 99, 2) := by decide +kernel
theorem dX11_each_26 : decode cX11_each 26 = .ok (.if_icmp .gt 43, 3) := by decide +kernel
theorem dX11_each_29 : decode cX11_each 29 = .ok (.iload_n 1, 1) := by decide +kernel
theorem dX11_each_30 : decode cX11_each 30 = .ok (.aload_n 0, 1) := by decide +kernel
theorem dX11_each_31 : decode cX11_each 31 = .ok (.invokevirtual 285, 3) := by decide +kernel
theorem dX11_each_34 : decode cX11_each 34 = .ok (.if_icmp .ne 16, 3) := by decide +kernel
theorem dX11_each_37 : decode cX11_each 37 = .ok (.aload_n 0, 1) := by decide +kernel
theorem dX11_each_38 : decode cX11_each 38 = .ok (.iconst 0, 1) := by decide +kernel
theorem dX11_each_39 : decode cX11_each 39 = .ok (.putfield 89, 3) := by decide +kernel
theorem dX11_each_42 : decode cX11_each 42 = .ok (.aload_n 0, 1) := by decide +kernel
theorem dX11_each_43 : decode cX11_each 43 = .ok (.iload_n 2, 1) := by decide +kernel
theorem dX11_each_44 : decode cX11_each 44 = .ok (.i2l, 1) := by decide +kernel
theorem dX11_each_45 : decode cX11_each 45 = .ok (.invokevirtual 256, 3) := by decide +kernel
theorem dX11_each_48 : decode cX11_each 48 = .ok (.iload_n 3, 1) := by decide +kernel
theorem dX11_each_49 : decode cX11_each 49 = .ok (.ireturn, 1) := by decide +kernel
theorem dX11_each_50 : decode cX11_each 50 = .ok (.aload_n 0, 1) := by decide +kernel
theorem dX11_each_51 : decode cX11_each 51 = .ok (.aload_n 0, 1) := by decide +kernel
theorem dX11_each_52 : decode cX11_each 52 = .ok (.getfield 39, 3) := by decide +kernel
theorem dX11_each_55 : decode cX11_each 55 = .ok (.invokevirtual 246, 3) := by decide +kernel
theorem dX11_each_58 : decode cX11_each 58 = .ok (.istore_n 2, 1) := by decide +kernel
theorem dX11_each_59 : decode cX11_each 59 = .ok (.iload_n 1, 1) := by decide +kernel
theorem dX11_each_60 : decode cX11_each 60 = .ok (.iload_n 2, 1) := by decide +kernel
theorem dX11_each_61 : decode cX11_each 61 = .ok (.ior, 1) := by decide +kernel
theorem dX11_each_62 : decode cX11_each 62 = .ok (.istore_n 1, 1) := by decide +kernel
theorem dX11_each_63 : decode cX11_each 63 = .ok (.iinc 3 1, 3) := by decide +kernel
theorem dX11_each_66 : decode cX11_each 66 = .ok (.goto (-43), 3) := by decide +kernel
theorem dX11_each_69 : decode cX11_each 69 = .ok (.bipush (-2), 2) := by decide +kernel
theorem dX11_each_71 : decode cX11_each 71 = .ok (.ireturn, 1) := by decide +kernel
theorem dX11_busiest_0 : decode cX11_busiest 0 = .ok (.aload_n 0, 1) := by decide +kernel
theorem dX11_busiest_1 : decode cX11_busiest 1 = .ok (.iconst 0, 1) := by decide +kernel
theorem dX11_busiest_2 : decode cX11_busiest 2 = .ok (.putfield 85, 3) := by decide +kernel
theorem dX11_busiest_5 : decode cX11_busiest 5 = .ok (.iload_n 1, 1) := by decide +kernel
theorem dX11_busiest_6 : decode cX11_busiest 6 = .ok (.iconst 1, 1) := by decide +kernel
theorem dX11_busiest_7 : decode cX11_busiest 7 = .ok (.bipush 99, 2) := by decide +kernel
theorem dX11_busiest_9 : decode cX11_busiest 9 = .ok (.invokestatic 95, 3) := by decide +kernel
theorem dX11_busiest_12 : decode cX11_busiest 12 = .ok (.ifCond .ne 5, 3) := by decide +kernel
theorem dX11_busiest_15 : decode cX11_busiest 15 = .ok (.iconst (-1), 1) := by decide +kernel
theorem dX11_busiest_16 : decode cX11_busiest 16 = .ok (.ireturn, 1) := by decide +kernel
theorem dX11_busiest_17 : decode cX11_busiest 17 = .ok (.aload_n 0, 1) := by decide +kernel
theorem dX11_busiest_18 : decode cX11_busiest 18 = .ok (.getfield 92, 3) := by decide +kernel
theorem dX11_busiest_21 : decode cX11_busiest 21 = .ok (.ifCond .ne 6, 3) := by decide +kernel
theorem dX11_busiest_24 : decode cX11_busiest 24 = .ok (.bipush (-2), 2) := by decide +kernel
theorem dX11_busiest_26 : decode cX11_busiest 26 = .ok (.ireturn, 1) := by decide +kernel
theorem dX11_busiest_27 : decode cX11_busiest 27 = .ok (.iconst 0, 1) := by decide +kernel
theorem dX11_busiest_28 : decode cX11_busiest 28 = .ok (.istore_n 2, 1) := by decide +kernel
theorem dX11_busiest_29 : decode cX11_busiest 29 = .ok (.iload_n 2, 1) := by decide +kernel
theorem dX11_busiest_30 : decode cX11_busiest 30 = .ok (.aload_n 0, 1) := by decide +kernel
theorem dX11_busiest_31 : decode cX11_busiest 31 = .ok (.getfield 92, 3) := by decide +kernel
theorem dX11_busiest_34 : decode cX11_busiest 34 = .ok (.if_icmp .ge 16, 3) := by decide +kernel
theorem dX11_busiest_37 : decode cX11_busiest 37 = .ok (.aload_n 0, 1) := by decide +kernel
theorem dX11_busiest_38 : decode cX11_busiest 38 = .ok (.getfield 45, 3) := by decide +kernel
theorem dX11_busiest_41 : decode cX11_busiest 41 = .ok (.iload_n 2, 1) := by decide +kernel
theorem dX11_busiest_42 : decode cX11_busiest 42 = .ok (.iconst 0, 1) := by decide +kernel
theorem dX11_busiest_43 : decode cX11_busiest 43 = .ok (.iastore, 1) := by decide +kernel
theorem dX11_busiest_44 : decode cX11_busiest 44 = .ok (.iinc 2 1, 3) := by decide +kernel
theorem dX11_busiest_47 : decode cX11_busiest 47 = .ok (.goto (-18), 3) := by decide +kernel
theorem dX11_busiest_50 : decode cX11_busiest 50 = .ok (.aload_n 0, 1) := by decide +kernel
theorem dX11_busiest_51 : decode cX11_busiest 51 = .ok (.getfield 9, 3) := by decide +kernel
theorem dX11_busiest_54 : decode cX11_busiest 54 = .ok (.aload_n 0, 1) := by decide +kernel
theorem dX11_busiest_55 : decode cX11_busiest 55 = .ok (.getfield 39, 3) := by decide +kernel
theorem dX11_busiest_58 : decode cX11_busiest 58 = .ok (.iconst 0, 1) := by decide +kernel
theorem dX11_busiest_59 : decode cX11_busiest 59 = .ok (.invokestatic 235, 3) := by decide +kernel
theorem dX11_busiest_62 : decode cX11_busiest 62 = .ok (.iconst 0, 1) := by decide +kernel
theorem dX11_busiest_63 : decode cX11_busiest 63 = .ok (.istore_n 2, 1) := by decide +kernel
theorem dX11_busiest_64 : decode cX11_busiest 64 = .ok (.iload_n 2, 1) := by decide +kernel
theorem dX11_busiest_65 : decode cX11_busiest 65 = .ok (.iload_n 1, 1) := by decide +kernel
theorem dX11_busiest_66 : decode cX11_busiest 66 = .ok (.if_icmp .ge 52, 3) := by decide +kernel
theorem dX11_busiest_69 : decode cX11_busiest 69 = .ok (.aload_n 0, 1) := by decide +kernel
theorem dX11_busiest_70 : decode cX11_busiest 70 = .ok (.aload_n 0, 1) := by decide +kernel
theorem dX11_busiest_71 : decode cX11_busiest 71 = .ok (.getfield 39, 3) := by decide +kernel
theorem dX11_busiest_74 : decode cX11_busiest 74 = .ok (.invokevirtual 246, 3) := by decide +kernel
theorem dX11_busiest_77 : decode cX11_busiest 77 = .ok (.istore_n 3, 1) := by decide +kernel
theorem dX11_busiest_78 : decode cX11_busiest 78 = .ok (.iconst 0, 1) := by decide +kernel
theorem dX11_busiest_79 : decode cX11_busiest 79 = .ok (.istore 4, 2) := by decide +kernel
theorem dX11_busiest_81 : decode cX11_busiest 81 = .ok (.iload 4, 2) := by decide +kernel
theorem dX11_busiest_83 : decode cX11_busiest 83 = .ok (.aload_n 0, 1) := by decide +kernel
theorem dX11_busiest_84 : decode cX11_busiest 84 = .ok (.getfield 92, 3) := by decide +kernel
theorem dX11_busiest_87 : decode cX11_busiest 87 = .ok (.if_icmp .ge 25, 3) := by decide +kernel
theorem dX11_busiest_90 : decode cX11_busiest 90 = .ok (.aload_n 0, 1) := by decide +kernel
theorem dX11_busiest_91 : decode cX11_busiest 91 = .ok (.getfield 45, 3) := by decide +kernel
theorem dX11_busiest_94 : decode cX11_busiest 94 = .ok (.iload 4, 2) := by decide +kernel
theorem dX11_busiest_96 : decode cX11_busiest 96 = .ok (.dup2, 1) := by decide +kernel
theorem dX11_busiest_97 : decode cX11_busiest 97 = .ok (.iaload, 1) := by decide +kernel
theorem dX11_busiest_98 : decode cX11_busiest 98 = .ok (.iload_n 3, 1) := by decide +kernel
theorem dX11_busiest_99 : decode cX11_busiest 99 = .ok (.iload 4, 2) := by decide +kernel
theorem dX11_busiest_101 : decode cX11_busiest 101 = .ok (.ishr, 1) := by decide +kernel
theorem dX11_busiest_102 : decode cX11_busiest 102 = .ok (.iconst 1, 1) := by decide +kernel
theorem dX11_busiest_103 : decode cX11_busiest 103 = .ok (.iand, 1) := by decide +kernel
theorem dX11_busiest_104 : decode cX11_busiest 104 = .ok (.iadd, 1) := by decide +kernel
theorem dX11_busiest_105 : decode cX11_busiest 105 = .ok (.iastore, 1) := by decide +kernel
theorem dX11_busiest_106 : decode cX11_busiest 106 = .ok (.iinc 4 1, 3) := by decide +kernel
theorem dX11_busiest_109 : decode cX11_busiest 109 = .ok (.goto (-28), 3) := by decide +kernel
theorem dX11_busiest_112 : decode cX11_busiest 112 = .ok (.iinc 2 1, 3) := by decide +kernel
theorem dX11_busiest_115 : decode cX11_busiest 115 = .ok (.goto (-51), 3) := by decide +kernel
theorem dX11_busiest_118 : decode cX11_busiest 118 = .ok (.iconst 0, 1) := by decide +kernel
theorem dX11_busiest_119 : decode cX11_busiest 119 = .ok (.istore_n 2, 1) := by decide +kernel
theorem dX11_busiest_120 : decode cX11_busiest 120 = .ok (.iconst 0, 1) := by decide +kernel
theorem dX11_busiest_121 : decode cX11_busiest 121 = .ok (.istore_n 3, 1) := by decide +kernel
theorem dX11_busiest_122 : decode cX11_busiest 122 = .ok (.iconst 0, 1) := by decide +kernel
theorem dX11_busiest_123 : decode cX11_busiest 123 = .ok (.istore 4, 2) := by decide +kernel
theorem dX11_busiest_125 : decode cX11_busiest 125 = .ok (.iload 4, 2) := by decide +kernel
theorem dX11_busiest_127 : decode cX11_busiest 127 = .ok (.aload_n 0, 1) := by decide +kernel
theorem dX11_busiest_128 : decode cX11_busiest 128 = .ok (.getfield 92, 3) := by decide +kernel
theorem dX11_busiest_131 : decode cX11_busiest 131 = .ok (.if_icmp .ge 53, 3) := by decide +kernel
theorem dX11_busiest_134 : decode cX11_busiest 134 = .ok (.aload_n 0, 1) := by decide +kernel
theorem dX11_busiest_135 : decode cX11_busiest 135 = .ok (.getfield 45, 3) := by decide +kernel
theorem dX11_busiest_138 : decode cX11_busiest 138 = .ok (.iload 4, 2) := by decide +kernel
theorem dX11_busiest_140 : decode cX11_busiest 140 = .ok (.iaload, 1) := by decide +kernel
theorem dX11_busiest_141 : decode cX11_busiest 141 = .ok (.aload_n 0, 1) := by decide +kernel
theorem dX11_busiest_142 : decode cX11_busiest 142 = .ok (.getfield 45, 3) := by decide +kernel
theorem dX11_busiest_145 : decode cX11_busiest 145 = .ok (.iload_n 2, 1) := by decide +kernel
theorem dX11_busiest_146 : decode cX11_busiest 146 = .ok (.iaload, 1) := by decide +kernel
theorem dX11_busiest_147 : decode cX11_busiest 147 = .ok (.if_icmp .le 8, 3) := by decide +kernel
theorem dX11_busiest_150 : decode cX11_busiest 150 = .ok (.iload 4, 2) := by decide +kernel
theorem dX11_busiest_152 : decode cX11_busiest 152 = .ok (.goto 4, 3) := by decide +kernel
theorem dX11_busiest_155 : decode cX11_busiest 155 = .ok (.iload_n 2, 1) := by decide +kernel
theorem dX11_busiest_156 : decode cX11_busiest 156 = .ok (.istore_n 2, 1) := by decide +kernel
theorem dX11_busiest_157 : decode cX11_busiest 157 = .ok (.iload_n 3, 1) := by decide +kernel
theorem dX11_busiest_158 : decode cX11_busiest 158 = .ok (.aload_n 0, 1) := by decide +kernel
theorem dX11_busiest_159 : decode cX11_busiest 159 = .ok (.getfield 45, 3) := by decide +kernel
theorem dX11_busiest_162 : decode cX11_busiest 162 = .ok (.iload 4, 2) := by decide +kernel
theorem dX11_busiest_164 : decode cX11_busiest 164 = .ok (.iaload, 1) := by decide +kernel
theorem dX11_busiest_165 : decode cX11_busiest 165 = .ok (.ifCond .ne 10, 3) := by decide +kernel
theorem dX11_busiest_168 : decode cX11_busiest 168 = .ok (.iconst 1, 1) := by decide +kernel
theorem dX11_busiest_169 : decode cX11_busiest 169 = .ok (.iload 4, 2) := by decide +kernel
theorem dX11_busiest_171 : decode cX11_busiest 171 = .ok (.ishl, 1) := by decide +kernel
theorem dX11_busiest_172 : decode cX11_busiest 172 = .ok (.goto 4, 3) := by decide +kernel
theorem dX11_busiest_175 : decode cX11_busiest 175 = .ok (.iconst 0, 1) := by decide +kernel
theorem dX11_busiest_176 : decode cX11_busiest 176 = .ok (.ior, 1) := by decide +kernel
theorem dX11_busiest_177 : decode cX11_busiest 177 = .ok (.istore_n 3, 1) := by decide +kernel
theorem dX11_busiest_178 : decode cX11_busiest 178 = .ok (.iinc 4 1, 3) := by decide +kernel
theorem dX11_busiest_181 : decode cX11_busiest 181 = .ok (.goto (-56), 3) := by decide +kernel
theorem dX11_busiest_184 : decode cX11_busiest 184 = .ok (.aload_n 0, 1) := by decide +kernel
theorem dX11_busiest_185 : decode cX11_busiest 185 = .ok (.iconst 0, 1) := by decide +kernel
theorem dX11_busiest_186 : decode cX11_busiest 186 = .ok (.putfield 89, 3) := by decide +kernel
theorem dX11_busiest_189 : decode cX11_busiest 189 = .ok (.aload_n 0, 1) := by decide +kernel
theorem dX11_busiest_190 : decode cX11_busiest 190 = .ok (.aload_n 0, 1) := by decide +kernel
theorem dX11_busiest_191 : decode cX11_busiest 191 = .ok (.getfield 45, 3) := by decide +kernel
theorem dX11_busiest_194 : decode cX11_busiest 194 = .ok (.iload_n 2, 1) := by decide +kernel
theorem dX11_busiest_195 : decode cX11_busiest 195 = .ok (.iaload, 1) := by decide +kernel
theorem dX11_busiest_196 : decode cX11_busiest 196 = .ok (.i2l, 1) := by decide +kernel
theorem dX11_busiest_197 : decode cX11_busiest 197 = .ok (.invokevirtual 256, 3) := by decide +kernel
theorem dX11_busiest_200 : decode cX11_busiest 200 = .ok (.aload_n 0, 1) := by decide +kernel
theorem dX11_busiest_201 : decode cX11_busiest 201 = .ok (.iload_n 3, 1) := by decide +kernel
theorem dX11_busiest_202 : decode cX11_busiest 202 = .ok (.i2l, 1) := by decide +kernel
theorem dX11_busiest_203 : decode cX11_busiest 203 = .ok (.invokevirtual 256, 3) := by decide +kernel
theorem dX11_busiest_206 : decode cX11_busiest 206 = .ok (.iload_n 2, 1) := by decide +kernel
theorem dX11_busiest_207 : decode cX11_busiest 207 = .ok (.ireturn, 1) := by decide +kernel
theorem dX11_serves_0 : decode cX11_serves 0 = .ok (.aload_n 0, 1) := by decide +kernel
theorem dX11_serves_1 : decode cX11_serves 1 = .ok (.iconst 0, 1) := by decide +kernel
theorem dX11_serves_2 : decode cX11_serves 2 = .ok (.putfield 85, 3) := by decide +kernel
theorem dX11_serves_5 : decode cX11_serves 5 = .ok (.aload_n 0, 1) := by decide +kernel
theorem dX11_serves_6 : decode cX11_serves 6 = .ok (.aload_n 0, 1) := by decide +kernel
theorem dX11_serves_7 : decode cX11_serves 7 = .ok (.getfield 9, 3) := by decide +kernel
theorem dX11_serves_10 : decode cX11_serves 10 = .ok (.invokevirtual 239, 3) := by decide +kernel
theorem dX11_serves_13 : decode cX11_serves 13 = .ok (.istore_n 1, 1) := by decide +kernel
theorem dX11_serves_14 : decode cX11_serves 14 = .ok (.iconst 0, 1) := by decide +kernel
theorem dX11_serves_15 : decode cX11_serves 15 = .ok (.istore_n 2, 1) := by decide +kernel
theorem dX11_serves_16 : decode cX11_serves 16 = .ok (.iload_n 2, 1) := by decide +kernel
theorem dX11_serves_17 : decode cX11_serves 17 = .ok (.aload_n 0, 1) := by decide +kernel
theorem dX11_serves_18 : decode cX11_serves 18 = .ok (.invokevirtual 285, 3) := by decide +kernel
theorem dX11_serves_21 : decode cX11_serves 21 = .ok (.if_icmp .gt 24, 3) := by decide +kernel
theorem dX11_serves_24 : decode cX11_serves 24 = .ok (.aload_n 0, 1) := by decide +kernel
theorem dX11_serves_25 : decode cX11_serves 25 = .ok (.getfield 48, 3) := by decide +kernel
theorem dX11_serves_28 : decode cX11_serves 28 = .ok (.aload_n 0, 1) := by decide +kernel
theorem dX11_serves_29 : decode cX11_serves 29 = .ok (.getfield 92, 3) := by decide +kernel
theorem dX11_serves_32 : decode cX11_serves 32 = .ok (.bipush 7, 2) := by decide +kernel
theorem dX11_serves_34 : decode cX11_serves 34 = .ok (.ishl, 1) := by decide +kernel
theorem dX11_serves_35 : decode cX11_serves 35 = .ok (.iload_n 2, 1) := by decide +kernel
theorem dX11_serves_36 : decode cX11_serves 36 = .ok (.ior, 1) := by decide +kernel
theorem dX11_serves_37 : decode cX11_serves 37 = .ok (.iconst 0, 1) := by decide +kernel
theorem dX11_serves_38 : decode cX11_serves 38 = .ok (.iastore, 1) := by decide +kernel
theorem dX11_serves_39 : decode cX11_serves 39 = .ok (.iinc 2 1, 3) := by decide +kernel
theorem dX11_serves_42 : decode cX11_serves 42 = .ok (.goto (-26), 3) := by decide +kernel
theorem dX11_serves_45 : decode cX11_serves 45 = .ok (.aload_n 0, 1) := by decide +kernel
theorem dX11_serves_46 : decode cX11_serves 46 = .ok (.getfield 92, 3) := by decide +kernel
theorem dX11_serves_49 : decode cX11_serves 49 = .ok (.iconst 1, 1) := by decide +kernel
theorem dX11_serves_50 : decode cX11_serves 50 = .ok (.isub, 1) := by decide +kernel
theorem dX11_serves_51 : decode cX11_serves 51 = .ok (.istore_n 2, 1) := by decide +kernel
theorem dX11_serves_52 : decode cX11_serves 52 = .ok (.iload_n 2, 1) := by decide +kernel
theorem dX11_serves_53 : decode cX11_serves 53 = .ok (.ifCond .lt 121, 3) := by decide +kernel
theorem dX11_serves_56 : decode cX11_serves 56 = .ok (.iconst 0, 1) := by decide +kernel
theorem dX11_serves_57 : decode cX11_serves 57 = .ok (.istore_n 3, 1) := by decide +kernel
theorem dX11_serves_58 : decode cX11_serves 58 = .ok (.iload_n 3, 1) := by decide +kernel
theorem dX11_serves_59 : decode cX11_serves 59 = .ok (.aload_n 0, 1) := by decide +kernel
theorem dX11_serves_60 : decode cX11_serves 60 = .ok (.invokevirtual 285, 3) := by decide +kernel
theorem dX11_serves_63 : decode cX11_serves 63 = .ok (.if_icmp .gt 105, 3) := by decide +kernel
theorem dX11_serves_66 : decode cX11_serves 66 = .ok (.aload_n 0, 1) := by decide +kernel
theorem dX11_serves_67 : decode cX11_serves 67 = .ok (.getfield 48, 3) := by decide +kernel
theorem dX11_serves_70 : decode cX11_serves 70 = .ok (.iload_n 2, 1) := by decide +kernel
theorem dX11_serves_71 : decode cX11_serves 71 = .ok (.iconst 1, 1) := by decide +kernel
theorem dX11_serves_72 : decode cX11_serves 72 = .ok (.iadd, 1) := by decide +kernel
theorem dX11_serves_73 : decode cX11_serves 73 = .ok (.bipush 7, 2) := by decide +kernel
theorem dX11_serves_75 : decode cX11_serves 75 = .ok (.ishl, 1) := by decide +kernel
theorem dX11_serves_76 : decode cX11_serves 76 = .ok (.iload_n 3, 1) := by decide +kernel
theorem dX11_serves_77 : decode cX11_serves 77 = .ok (.ior, 1) := by decide +kernel
theorem dX11_serves_78 : decode cX11_serves 78 = .ok (.iaload, 1) := by decide +kernel
theorem dX11_serves_79 : decode cX11_serves 79 = .ok (.istore 4, 2) := by decide +kernel
theorem dX11_serves_81 : decode cX11_serves 81 = .ok (.iconst 0, 1) := by decide +kernel
theorem dX11_serves_82 : decode cX11_serves 82 = .ok (.istore 5, 2) := by decide +kernel
theorem dX11_serves_84 : decode cX11_serves 84 = .ok (.iload 5, 2) := by decide +kernel
theorem dX11_serves_86 : decode cX11_serves 86 = .ok (.aload_n 0, 1) := by decide +kernel
theorem dX11_serves_87 : decode cX11_serves 87 = .ok (.getfield 92, 3) := by decide +kernel
theorem dX11_serves_90 : decode cX11_serves 90 = .ok (.if_icmp .ge 59, 3) := by decide +kernel
theorem dX11_serves_93 : decode cX11_serves 93 = .ok (.aload_n 0, 1) := by decide +kernel
theorem dX11_serves_94 : decode cX11_serves 94 = .ok (.getfield 9, 3) := by decide +kernel
theorem dX11_serves_97 : decode cX11_serves 97 = .ok (.bipush 28, 2) := by decide +kernel
theorem dX11_serves_99 : decode cX11_serves 99 = .ok (.iload_n 2, 1) := by decide +kernel
theorem dX11_serves_100 : decode cX11_serves 100 = .ok (.iadd, 1) := by decide +kernel
theorem dX11_serves_101 : decode cX11_serves 101 = .ok (.iaload, 1) := by decide +kernel
theorem dX11_serves_102 : decode cX11_serves 102 = .ok (.iload_n 1, 1) := by decide +kernel
theorem dX11_serves_103 : decode cX11_serves 103 = .ok (.iand, 1) := by decide +kernel
theorem dX11_serves_104 : decode cX11_serves 104 = .ok (.iload_n 3, 1) := by decide +kernel
theorem dX11_serves_105 : decode cX11_serves 105 = .ok (.iconst (-1), 1) := by decide +kernel
theorem dX11_serves_106 : decode cX11_serves 106 = .ok (.ixor, 1) := by decide +kernel
theorem dX11_serves_107 : decode cX11_serves 107 = .ok (.iand, 1) := by decide +kernel
theorem dX11_serves_108 : decode cX11_serves 108 = .ok (.iload 5, 2) := by decide +kernel
theorem dX11_serves_110 : decode cX11_serves 110 = .ok (.invokestatic 196, 3) := by decide +kernel
theorem dX11_serves_113 : decode cX11_serves 113 = .ok (.ifCond .eq 30, 3) := by decide +kernel
theorem dX11_serves_116 : decode cX11_serves 116 = .ok (.iload 4, 2) := by decide +kernel
theorem dX11_serves_118 : decode cX11_serves 118 = .ok (.iconst 1, 1) := by decide +kernel
theorem dX11_serves_119 : decode cX11_serves 119 = .ok (.aload_n 0, 1) := by decide +kernel
theorem dX11_serves_120 : decode cX11_serves 120 = .ok (.getfield 48, 3) := by decide +kernel
theorem dX11_serves_123 : decode cX11_serves 123 = .ok (.iload_n 2, 1) := by decide +kernel
theorem dX11_serves_124 : decode cX11_serves 124 = .ok (.iconst 1, 1) := by decide +kernel
theorem dX11_serves_125 : decode cX11_serves 125 = .ok (.iadd, 1) := by decide +kernel
theorem dX11_serves_126 : decode cX11_serves 126 = .ok (.bipush 7, 2) := by decide +kernel
theorem dX11_serves_128 : decode cX11_serves 128 = .ok (.ishl, 1) := by decide +kernel
theorem dX11_serves_129 : decode cX11_serves 129 = .ok (.iload_n 3, 1) := by decide +kernel
theorem dX11_serves_130 : decode cX11_serves 130 = .ok (.ior, 1) := by decide +kernel
theorem dX11_serves_131 : decode cX11_serves 131 = .ok (.iconst 1, 1) := by decide +kernel
theorem dX11_serves_132 : decode cX11_serves 132 = .ok (.iload 5, 2) := by decide +kernel
theorem dX11_serves_134 : decode cX11_serves 134 = .ok (.ishl, 1) := by decide +kernel
theorem dX11_serves_135 : decode cX11_serves 135 = .ok (.ior, 1) := by decide +kernel
theorem dX11_serves_136 : decode cX11_serves 136 = .ok (.iaload, 1) := by decide +kernel
theorem dX11_serves_137 : decode cX11_serves 137 = .ok (.iadd, 1) := by decide +kernel
theorem dX11_serves_138 : decode cX11_serves 138 = .ok (.invokestatic 229, 3) := by decide +kernel
theorem dX11_serves_141 : decode cX11_serves 141 = .ok (.istore 4, 2) := by decide +kernel
theorem dX11_serves_143 : decode cX11_serves 143 = .ok (.iinc 5 1, 3) := by decide +kernel
theorem dX11_serves_146 : decode cX11_serves 146 = .ok (.goto (-62), 3) := by decide +kernel
theorem dX11_serves_149 : decode cX11_serves 149 = .ok (.aload_n 0, 1) := by decide +kernel
theorem dX11_serves_150 : decode cX11_serves 150 = .ok (.getfield 48, 3) := by decide +kernel
theorem dX11_serves_153 : decode cX11_serves 153 = .ok (.iload_n 2, 1) := by decide +kernel
theorem dX11_serves_154 : decode cX11_serves 154 = .ok (.bipush 7, 2) := by decide +kernel
theorem dX11_serves_156 : decode cX11_serves 156 = .ok (.ishl, 1) := by decide +kernel
theorem dX11_serves_157 : decode cX11_serves 157 = .ok (.iload_n 3, 1) := by decide +kernel
theorem dX11_serves_158 : decode cX11_serves 158 = .ok (.ior, 1) := by decide +kernel
theorem dX11_serves_159 : decode cX11_serves 159 = .ok (.iload 4, 2) := by decide +kernel
theorem dX11_serves_161 : decode cX11_serves 161 = .ok (.iastore, 1) := by decide +kernel
theorem dX11_serves_162 : decode cX11_serves 162 = .ok (.iinc 3 1, 3) := by decide +kernel
theorem dX11_serves_165 : decode cX11_serves 165 = .ok (.goto (-107), 3) := by decide +kernel
theorem dX11_serves_168 : decode cX11_serves 168 = .ok (.iinc 2 (-1), 3) := by decide +kernel
theorem dX11_serves_171 : decode cX11_serves 171 = .ok (.goto (-119), 3) := by decide +kernel
theorem dX11_serves_174 : decode cX11_serves 174 = .ok (.iconst 0, 1) := by decide +kernel
theorem dX11_serves_175 : decode cX11_serves 175 = .ok (.istore_n 2, 1) := by decide +kernel
theorem dX11_serves_176 : decode cX11_serves 176 = .ok (.aload_n 0, 1) := by decide +kernel
theorem dX11_serves_177 : decode cX11_serves 177 = .ok (.iconst 0, 1) := by decide +kernel
theorem dX11_serves_178 : decode cX11_serves 178 = .ok (.putfield 89, 3) := by decide +kernel
theorem dX11_serves_181 : decode cX11_serves 181 = .ok (.iconst 0, 1) := by decide +kernel
theorem dX11_serves_182 : decode cX11_serves 182 = .ok (.istore_n 3, 1) := by decide +kernel
theorem dX11_serves_183 : decode cX11_serves 183 = .ok (.iload_n 3, 1) := by decide +kernel
theorem dX11_serves_184 : decode cX11_serves 184 = .ok (.aload_n 0, 1) := by decide +kernel
theorem dX11_serves_185 : decode cX11_serves 185 = .ok (.getfield 92, 3) := by decide +kernel
theorem dX11_serves_188 : decode cX11_serves 188 = .ok (.if_icmp .ge 114, 3) := by decide +kernel
theorem dX11_serves_191 : decode cX11_serves 191 = .ok (.aload_n 0, 1) := by decide +kernel
theorem dX11_serves_192 : decode cX11_serves 192 = .ok (.getfield 48, 3) := by decide +kernel
theorem dX11_serves_195 : decode cX11_serves 195 = .ok (.iload_n 3, 1) := by decide +kernel
theorem dX11_serves_196 : decode cX11_serves 196 = .ok (.bipush 7, 2) := by decide +kernel
theorem dX11_serves_198 : decode cX11_serves 198 = .ok (.ishl, 1) := by decide +kernel
theorem dX11_serves_199 : decode cX11_serves 199 = .ok (.iload_n 2, 1) := by decide +kernel
theorem dX11_serves_200 : decode cX11_serves 200 = .ok (.ior, 1) := by decide +kernel
theorem dX11_serves_201 : decode cX11_serves 201 = .ok (.iaload, 1) := by decide +kernel
theorem dX11_serves_202 : decode cX11_serves 202 = .ok (.istore 4, 2) := by decide +kernel
theorem dX11_serves_204 : decode cX11_serves 204 = .ok (.iconst (-1), 1) := by decide +kernel
theorem dX11_serves_205 : decode cX11_serves 205 = .ok (.istore 5, 2) := by decide +kernel
theorem dX11_serves_207 : decode cX11_serves 207 = .ok (.aload_n 0, 1) := by decide +kernel
theorem dX11_serves_208 : decode cX11_serves 208 = .ok (.getfield 48, 3) := by decide +kernel
theorem dX11_serves_211 : decode cX11_serves 211 = .ok (.iload_n 3, 1) := by decide +kernel
theorem dX11_serves_212 : decode cX11_serves 212 = .ok (.iconst 1, 1) := by decide +kernel
theorem dX11_serves_213 : decode cX11_serves 213 = .ok (.iadd, 1) := by decide +kernel
theorem dX11_serves_214 : decode cX11_serves 214 = .ok (.bipush 7, 2) := by decide +kernel
theorem dX11_serves_216 : decode cX11_serves 216 = .ok (.ishl, 1) := by decide +kernel
theorem dX11_serves_217 : decode cX11_serves 217 = .ok (.iload_n 2, 1) := by decide +kernel
theorem dX11_serves_218 : decode cX11_serves 218 = .ok (.ior, 1) := by decide +kernel
theorem dX11_serves_219 : decode cX11_serves 219 = .ok (.iaload, 1) := by decide +kernel
theorem dX11_serves_220 : decode cX11_serves 220 = .ok (.iload 4, 2) := by decide +kernel
theorem dX11_serves_222 : decode cX11_serves 222 = .ok (.if_icmp .eq 67, 3) := by decide +kernel
theorem dX11_serves_225 : decode cX11_serves 225 = .ok (.iconst 0, 1) := by decide +kernel
theorem dX11_serves_226 : decode cX11_serves 226 = .ok (.istore 5, 2) := by decide +kernel
theorem dX11_serves_228 : decode cX11_serves 228 = .ok (.aload_n 0, 1) := by decide +kernel
theorem dX11_serves_229 : decode cX11_serves 229 = .ok (.getfield 9, 3) := by decide +kernel
theorem dX11_serves_232 : decode cX11_serves 232 = .ok (.bipush 28, 2) := by decide +kernel
theorem dX11_serves_234 : decode cX11_serves 234 = .ok (.iload_n 3, 1) := by decide +kernel
theorem dX11_serves_235 : decode cX11_serves 235 = .ok (.iadd, 1) := by decide +kernel
theorem dX11_serves_236 : decode cX11_serves 236 = .ok (.iaload, 1) := by decide +kernel
theorem dX11_serves_237 : decode cX11_serves 237 = .ok (.iload_n 1, 1) := by decide +kernel
theorem dX11_serves_238 : decode cX11_serves 238 = .ok (.iand, 1) := by decide +kernel
theorem dX11_serves_239 : decode cX11_serves 239 = .ok (.iload_n 2, 1) := by decide +kernel
theorem dX11_serves_240 : decode cX11_serves 240 = .ok (.iconst (-1), 1) := by decide +kernel
theorem dX11_serves_241 : decode cX11_serves 241 = .ok (.ixor, 1) := by decide +kernel
theorem dX11_serves_242 : decode cX11_serves 242 = .ok (.iand, 1) := by decide +kernel
theorem dX11_serves_243 : decode cX11_serves 243 = .ok (.iload 5, 2) := by decide +kernel
theorem dX11_serves_245 : decode cX11_serves 245 = .ok (.invokestatic 196, 3) := by decide +kernel
theorem dX11_serves_248 : decode cX11_serves 248 = .ok (.ifCond .eq 28, 3) := by decide +kernel
theorem dX11_serves_251 : decode cX11_serves 251 = .ok (.iconst 1, 1) := by decide +kernel
theorem dX11_serves_252 : decode cX11_serves 252 = .ok (.aload_n 0, 1) := by decide +kernel
theorem dX11_serves_253 : decode cX11_serves 253 = .ok (.getfield 48, 3) := by decide +kernel
theorem dX11_serves_256 : decode cX11_serves 256 = .ok (.iload_n 3, 1) := by decide +kernel
theorem dX11_serves_257 : decode cX11_serves 257 = .ok (.iconst 1, 1) := by decide +kernel
theorem dX11_serves_258 : decode cX11_serves 258 = .ok (.iadd, 1) := by decide +kernel
theorem dX11_serves_259 : decode cX11_serves 259 = .ok (.bipush 7, 2) := by decide +kernel
theorem dX11_serves_261 : decode cX11_serves 261 = .ok (.ishl, 1) := by decide +kernel
theorem dX11_serves_262 : decode cX11_serves 262 = .ok (.iload_n 2, 1) := by decide +kernel
theorem dX11_serves_263 : decode cX11_serves 263 = .ok (.ior, 1) := by decide +kernel
theorem dX11_serves_264 : decode cX11_serves 264 = .ok (.iconst 1, 1) := by decide +kernel
theorem dX11_serves_265 : decode cX11_serves 265 = .ok (.iload 5, 2) := by decide +kernel
theorem dX11_serves_267 : decode cX11_serves 267 = .ok (.ishl, 1) := by decide +kernel
theorem dX11_serves_268 : decode cX11_serves 268 = .ok (.ior, 1) := by decide +kernel
theorem dX11_serves_269 : decode cX11_serves 269 = .ok (.iaload, 1) := by decide +kernel
theorem dX11_serves_270 : decode cX11_serves 270 = .ok (.iadd, 1) := by decide +kernel
theorem dX11_serves_271 : decode cX11_serves 271 = .ok (.iload 4, 2) := by decide +kernel
theorem dX11_serves_273 : decode cX11_serves 273 = .ok (.if_icmp .eq 9, 3) := by decide +kernel
theorem dX11_serves_276 : decode cX11_serves 276 = .ok (.iinc 5 1, 3) := by decide +kernel
theorem dX11_serves_279 : decode cX11_serves 279 = .ok (.goto (-51), 3) := by decide +kernel
theorem dX11_serves_282 : decode cX11_serves 282 = .ok (.iload_n 2, 1) := by decide +kernel
theorem dX11_serves_283 : decode cX11_serves 283 = .ok (.iconst 1, 1) := by decide +kernel
theorem dX11_serves_284 : decode cX11_serves 284 = .ok (.iload 5, 2) := by decide +kernel
theorem dX11_serves_286 : decode cX11_serves 286 = .ok (.ishl, 1) := by decide +kernel
theorem dX11_serves_287 : decode cX11_serves 287 = .ok (.ior, 1) := by decide +kernel
theorem dX11_serves_288 : decode cX11_serves 288 = .ok (.istore_n 2, 1) := by decide +kernel
theorem dX11_serves_289 : decode cX11_serves 289 = .ok (.aload_n 0, 1) := by decide +kernel
theorem dX11_serves_290 : decode cX11_serves 290 = .ok (.iload 5, 2) := by decide +kernel
theorem dX11_serves_292 : decode cX11_serves 292 = .ok (.i2l, 1) := by decide +kernel
theorem dX11_serves_293 : decode cX11_serves 293 = .ok (.invokevirtual 256, 3) := by decide +kernel
theorem dX11_serves_296 : decode cX11_serves 296 = .ok (.iinc 3 1, 3) := by decide +kernel
theorem dX11_serves_299 : decode cX11_serves 299 = .ok (.goto (-116), 3) := by decide +kernel
theorem dX11_serves_302 : decode cX11_serves 302 = .ok (.aload_n 0, 1) := by decide +kernel
theorem dX11_serves_303 : decode cX11_serves 303 = .ok (.getfield 48, 3) := by decide +kernel
theorem dX11_serves_306 : decode cX11_serves 306 = .ok (.iconst 0, 1) := by decide +kernel
theorem dX11_serves_307 : decode cX11_serves 307 = .ok (.iaload, 1) := by decide +kernel
theorem dX11_serves_308 : decode cX11_serves 308 = .ok (.ireturn, 1) := by decide +kernel
theorem dX11_wantsOfAll_0 : decode cX11_wantsOfAll 0 = .ok (.iconst 0, 1) := by decide +kernel
theorem dX11_wantsOfAll_1 : decode cX11_wantsOfAll 1 = .ok (.istore_n 2, 1) := by decide +kernel
theorem dX11_wantsOfAll_2 : decode cX11_wantsOfAll 2 = .ok (.iconst 0, 1) := by decide +kernel
theorem dX11_wantsOfAll_3 : decode cX11_wantsOfAll 3 = .ok (.istore_n 3, 1) := by decide +kernel
theorem dX11_wantsOfAll_4 : decode cX11_wantsOfAll 4 = .ok (.iload_n 3, 1) := by decide +kernel
theorem dX11_wantsOfAll_5 : decode cX11_wantsOfAll 5 = .ok (.aload_n 0, 1) := by decide +kernel
theorem dX11_wantsOfAll_6 : decode cX11_wantsOfAll 6 = .ok (.getfield 92, 3) := by decide +kernel
theorem dX11_wantsOfAll_9 : decode cX11_wantsOfAll 9 = .ok (.if_icmp .ge 33, 3) := by decide +kernel
theorem dX11_wantsOfAll_12 : decode cX11_wantsOfAll 12 = .ok (.iload_n 2, 1) := by decide +kernel
theorem dX11_wantsOfAll_13 : decode cX11_wantsOfAll 13 = .ok (.iload_n 1, 1) := by decide +kernel
theorem dX11_wantsOfAll_14 : decode cX11_wantsOfAll 14 = .ok (.iload_n 3, 1) := by decide +kernel
theorem dX11_wantsOfAll_15 : decode cX11_wantsOfAll 15 = .ok (.invokestatic 196, 3) := by decide +kernel
theorem dX11_wantsOfAll_18 : decode cX11_wantsOfAll 18 = .ok (.ifCond .eq 15, 3) := by decide +kernel
theorem dX11_wantsOfAll_21 : decode cX11_wantsOfAll 21 = .ok (.aload_n 0, 1) := by decide +kernel
theorem dX11_wantsOfAll_22 : decode cX11_wantsOfAll 22 = .ok (.getfield 9, 3) := by decide +kernel
theorem dX11_wantsOfAll_25 : decode cX11_wantsOfAll 25 = .ok (.bipush 28, 2) := by decide +kernel
theorem dX11_wantsOfAll_27 : decode cX11_wantsOfAll 27 = .ok (.iload_n 3, 1) := by decide +kernel
theorem dX11_wantsOfAll_28 : decode cX11_wantsOfAll 28 = .ok (.iadd, 1) := by decide +kernel
theorem dX11_wantsOfAll_29 : decode cX11_wantsOfAll 29 = .ok (.iaload, 1) := by decide +kernel
theorem dX11_wantsOfAll_30 : decode cX11_wantsOfAll 30 = .ok (.goto 4, 3) := by decide +kernel
theorem dX11_wantsOfAll_33 : decode cX11_wantsOfAll 33 = .ok (.iconst 0, 1) := by decide +kernel
theorem dX11_wantsOfAll_34 : decode cX11_wantsOfAll 34 = .ok (.ior, 1) := by decide +kernel
theorem dX11_wantsOfAll_35 : decode cX11_wantsOfAll 35 = .ok (.istore_n 2, 1) := by decide +kernel
theorem dX11_wantsOfAll_36 : decode cX11_wantsOfAll 36 = .ok (.iinc 3 1, 3) := by decide +kernel
theorem dX11_wantsOfAll_39 : decode cX11_wantsOfAll 39 = .ok (.goto (-35), 3) := by decide +kernel
theorem dX11_wantsOfAll_42 : decode cX11_wantsOfAll 42 = .ok (.iload_n 2, 1) := by decide +kernel
theorem dX11_wantsOfAll_43 : decode cX11_wantsOfAll 43 = .ok (.ireturn, 1) := by decide +kernel
theorem dX11_wanting_0 : decode cX11_wanting 0 = .ok (.iconst 0, 1) := by decide +kernel
theorem dX11_wanting_1 : decode cX11_wanting 1 = .ok (.istore_n 1, 1) := by decide +kernel
theorem dX11_wanting_2 : decode cX11_wanting 2 = .ok (.iconst 0, 1) := by decide +kernel
theorem dX11_wanting_3 : decode cX11_wanting 3 = .ok (.istore_n 2, 1) := by decide +kernel
theorem dX11_wanting_4 : decode cX11_wanting 4 = .ok (.iload_n 2, 1) := by decide +kernel
theorem dX11_wanting_5 : decode cX11_wanting 5 = .ok (.aload_n 0, 1) := by decide +kernel
theorem dX11_wanting_6 : decode cX11_wanting 6 = .ok (.getfield 92, 3) := by decide +kernel
theorem dX11_wanting_9 : decode cX11_wanting 9 = .ok (.if_icmp .ge 31, 3) := by decide +kernel
theorem dX11_wanting_12 : decode cX11_wanting 12 = .ok (.iload_n 1, 1) := by decide +kernel
theorem dX11_wanting_13 : decode cX11_wanting 13 = .ok (.aload_n 0, 1) := by decide +kernel
theorem dX11_wanting_14 : decode cX11_wanting 14 = .ok (.getfield 9, 3) := by decide +kernel
theorem dX11_wanting_17 : decode cX11_wanting 17 = .ok (.bipush 28, 2) := by decide +kernel
theorem dX11_wanting_19 : decode cX11_wanting 19 = .ok (.iload_n 2, 1) := by decide +kernel
theorem dX11_wanting_20 : decode cX11_wanting 20 = .ok (.iadd, 1) := by decide +kernel
theorem dX11_wanting_21 : decode cX11_wanting 21 = .ok (.iaload, 1) := by decide +kernel
theorem dX11_wanting_22 : decode cX11_wanting 22 = .ok (.ifCond .eq 9, 3) := by decide +kernel
theorem dX11_wanting_25 : decode cX11_wanting 25 = .ok (.iconst 1, 1) := by decide +kernel
theorem dX11_wanting_26 : decode cX11_wanting 26 = .ok (.iload_n 2, 1) := by decide +kernel
theorem dX11_wanting_27 : decode cX11_wanting 27 = .ok (.ishl, 1) := by decide +kernel
theorem dX11_wanting_28 : decode cX11_wanting 28 = .ok (.goto 4, 3) := by decide +kernel
theorem dX11_wanting_31 : decode cX11_wanting 31 = .ok (.iconst 0, 1) := by decide +kernel
theorem dX11_wanting_32 : decode cX11_wanting 32 = .ok (.ior, 1) := by decide +kernel
theorem dX11_wanting_33 : decode cX11_wanting 33 = .ok (.istore_n 1, 1) := by decide +kernel
theorem dX11_wanting_34 : decode cX11_wanting 34 = .ok (.iinc 2 1, 3) := by decide +kernel
theorem dX11_wanting_37 : decode cX11_wanting 37 = .ok (.goto (-33), 3) := by decide +kernel
theorem dX11_wanting_40 : decode cX11_wanting 40 = .ok (.iload_n 1, 1) := by decide +kernel
theorem dX11_wanting_41 : decode cX11_wanting 41 = .ok (.ireturn, 1) := by decide +kernel
theorem dX11_boot_0 : decode cX11_boot 0 = .ok (.aload_n 0, 1) := by decide +kernel
theorem dX11_boot_1 : decode cX11_boot 1 = .ok (.iconst 0, 1) := by decide +kernel
theorem dX11_boot_2 : decode cX11_boot 2 = .ok (.putfield 85, 3) := by decide +kernel
theorem dX11_boot_5 : decode cX11_boot 5 = .ok (.aload_n 0, 1) := by decide +kernel
theorem dX11_boot_6 : decode cX11_boot 6 = .ok (.aload_n 0, 1) := by decide +kernel
theorem dX11_boot_7 : decode cX11_boot 7 = .ok (.getfield 9, 3) := by decide +kernel
theorem dX11_boot_10 : decode cX11_boot 10 = .ok (.invokevirtual 239, 3) := by decide +kernel
theorem dX11_boot_13 : decode cX11_boot 13 = .ok (.istore_n 1, 1) := by decide +kernel
theorem dX11_boot_14 : decode cX11_boot 14 = .ok (.aload_n 0, 1) := by decide +kernel
theorem dX11_boot_15 : decode cX11_boot 15 = .ok (.invokevirtual 288, 3) := by decide +kernel
theorem dX11_boot_18 : decode cX11_boot 18 = .ok (.istore_n 2, 1) := by decide +kernel
theorem dX11_boot_19 : decode cX11_boot 19 = .ok (.iconst (-1), 1) := by decide +kernel
theorem dX11_boot_20 : decode cX11_boot 20 = .ok (.istore_n 3, 1) := by decide +kernel
theorem dX11_boot_21 : decode cX11_boot 21 = .ok (.iconst 1, 1) := by decide +kernel
theorem dX11_boot_22 : decode cX11_boot 22 = .ok (.istore 4, 2) := by decide +kernel
theorem dX11_boot_24 : decode cX11_boot 24 = .ok (.iload 4, 2) := by decide +kernel
theorem dX11_boot_26 : decode cX11_boot 26 = .ok (.iload_n 2, 1) := by decide +kernel
theorem dX11_boot_27 : decode cX11_boot 27 = .ok (.if_icmp .gt 60, 3) := by decide +kernel
theorem dX11_boot_30 : decode cX11_boot 30 = .ok (.iload 4, 2) := by decide +kernel
theorem dX11_boot_32 : decode cX11_boot 32 = .ok (.iload_n 2, 1) := by decide +kernel
theorem dX11_boot_33 : decode cX11_boot 33 = .ok (.iconst (-1), 1) := by decide +kernel
theorem dX11_boot_34 : decode cX11_boot 34 = .ok (.ixor, 1) := by decide +kernel
theorem dX11_boot_35 : decode cX11_boot 35 = .ok (.iand, 1) := by decide +kernel
theorem dX11_boot_36 : decode cX11_boot 36 = .ok (.ifCond .ne 45, 3) := by decide +kernel
theorem dX11_boot_39 : decode cX11_boot 39 = .ok (.aload_n 0, 1) := by decide +kernel
theorem dX11_boot_40 : decode cX11_boot 40 = .ok (.iload 4, 2) := by decide +kernel
theorem dX11_boot_42 : decode cX11_boot 42 = .ok (.invokevirtual 291, 3) := by decide +kernel
theorem dX11_boot_45 : decode cX11_boot 45 = .ok (.iload_n 1, 1) := by decide +kernel
theorem dX11_boot_46 : decode cX11_boot 46 = .ok (.iand, 1) := by decide +kernel
theorem dX11_boot_47 : decode cX11_boot 47 = .ok (.invokestatic 204, 3) := by decide +kernel
theorem dX11_boot_50 : decode cX11_boot 50 = .ok (.iload 4, 2) := by decide +kernel
theorem dX11_boot_52 : decode cX11_boot 52 = .ok (.invokestatic 204, 3) := by decide +kernel
theorem dX11_boot_55 : decode cX11_boot 55 = .ok (.if_icmp .lt 6, 3) := by decide +kernel
theorem dX11_boot_58 : decode cX11_boot 58 = .ok (.goto 23, 3) := by decide +kernel
theorem dX11_boot_61 : decode cX11_boot 61 = .ok (.iload_n 3, 1) := by decide +kernel
theorem dX11_boot_62 : decode cX11_boot 62 = .ok (.iconst (-1), 1) := by decide +kernel
theorem dX11_boot_63 : decode cX11_boot 63 = .ok (.if_icmp .eq 15, 3) := by decide +kernel
theorem dX11_boot_66 : decode cX11_boot 66 = .ok (.iload 4, 2) := by decide +kernel
theorem dX11_boot_68 : decode cX11_boot 68 = .ok (.invokestatic 204, 3) := by decide +kernel
theorem dX11_boot_71 : decode cX11_boot 71 = .ok (.iload_n 3, 1) := by decide +kernel
theorem dX11_boot_72 : decode cX11_boot 72 = .ok (.invokestatic 204, 3) := by decide +kernel
theorem dX11_boot_75 : decode cX11_boot 75 = .ok (.if_icmp .ge 6, 3) := by decide +kernel
theorem dX11_boot_78 : decode cX11_boot 78 = .ok (.iload 4, 2) := by decide +kernel
theorem dX11_boot_80 : decode cX11_boot 80 = .ok (.istore_n 3, 1) := by decide +kernel
theorem dX11_boot_81 : decode cX11_boot 81 = .ok (.iinc 4 1, 3) := by decide +kernel
theorem dX11_boot_84 : decode cX11_boot 84 = .ok (.goto (-60), 3) := by decide +kernel
theorem dX11_boot_87 : decode cX11_boot 87 = .ok (.iload_n 3, 1) := by decide +kernel
theorem dX11_boot_88 : decode cX11_boot 88 = .ok (.iconst (-1), 1) := by decide +kernel
theorem dX11_boot_89 : decode cX11_boot 89 = .ok (.if_icmp .ne 6, 3) := by decide +kernel
theorem dX11_boot_92 : decode cX11_boot 92 = .ok (.bipush (-2), 2) := by decide +kernel
theorem dX11_boot_94 : decode cX11_boot 94 = .ok (.ireturn, 1) := by decide +kernel
theorem dX11_boot_95 : decode cX11_boot 95 = .ok (.aload_n 0, 1) := by decide +kernel
theorem dX11_boot_96 : decode cX11_boot 96 = .ok (.iconst 0, 1) := by decide +kernel
theorem dX11_boot_97 : decode cX11_boot 97 = .ok (.putfield 89, 3) := by decide +kernel
theorem dX11_boot_100 : decode cX11_boot 100 = .ok (.aload_n 0, 1) := by decide +kernel
theorem dX11_boot_101 : decode cX11_boot 101 = .ok (.iload_n 3, 1) := by decide +kernel
theorem dX11_boot_102 : decode cX11_boot 102 = .ok (.i2l, 1) := by decide +kernel
theorem dX11_boot_103 : decode cX11_boot 103 = .ok (.invokevirtual 256, 3) := by decide +kernel
theorem dX11_boot_106 : decode cX11_boot 106 = .ok (.aload_n 0, 1) := by decide +kernel
theorem dX11_boot_107 : decode cX11_boot 107 = .ok (.aload_n 0, 1) := by decide +kernel
theorem dX11_boot_108 : decode cX11_boot 108 = .ok (.iload_n 3, 1) := by decide +kernel
theorem dX11_boot_109 : decode cX11_boot 109 = .ok (.invokevirtual 291, 3) := by decide +kernel
theorem dX11_boot_112 : decode cX11_boot 112 = .ok (.iload_n 1, 1) := by decide +kernel
theorem dX11_boot_113 : decode cX11_boot 113 = .ok (.iand, 1) := by decide +kernel
theorem dX11_boot_114 : decode cX11_boot 114 = .ok (.i2l, 1) := by decide +kernel
theorem dX11_boot_115 : decode cX11_boot 115 = .ok (.invokevirtual 256, 3) := by decide +kernel
theorem dX11_boot_118 : decode cX11_boot 118 = .ok (.iload_n 3, 1) := by decide +kernel
theorem dX11_boot_119 : decode cX11_boot 119 = .ok (.invokestatic 204, 3) := by decide +kernel
theorem dX11_boot_122 : decode cX11_boot 122 = .ok (.ireturn, 1) := by decide +kernel
theorem dX11_areEnough_0 : decode cX11_areEnough 0 = .ok (.iconst 0, 1) := by decide +kernel
theorem dX11_areEnough_1 : decode cX11_areEnough 1 = .ok (.istore_n 3, 1) := by decide +kernel
theorem dX11_areEnough_2 : decode cX11_areEnough 2 = .ok (.iload_n 3, 1) := by decide +kernel
theorem dX11_areEnough_3 : decode cX11_areEnough 3 = .ok (.aload_n 0, 1) := by decide +kernel
theorem dX11_areEnough_4 : decode cX11_areEnough 4 = .ok (.getfield 92, 3) := by decide +kernel
theorem dX11_areEnough_7 : decode cX11_areEnough 7 = .ok (.if_icmp .ge 39, 3) := by decide +kernel
theorem dX11_areEnough_10 : decode cX11_areEnough 10 = .ok (.aload_n 0, 1) := by decide +kernel
theorem dX11_areEnough_11 : decode cX11_areEnough 11 = .ok (.getfield 9, 3) := by decide +kernel
theorem dX11_areEnough_14 : decode cX11_areEnough 14 = .ok (.bipush 28, 2) := by decide +kernel
theorem dX11_areEnough_16 : decode cX11_areEnough 16 = .ok (.iload_n 3, 1) := by decide +kernel
theorem dX11_areEnough_17 : decode cX11_areEnough 17 = .ok (.iadd, 1) := by decide +kernel
theorem dX11_areEnough_18 : decode cX11_areEnough 18 = .ok (.iaload, 1) := by decide +kernel
theorem dX11_areEnough_19 : decode cX11_areEnough 19 = .ok (.iload_n 2, 1) := by decide +kernel
theorem dX11_areEnough_20 : decode cX11_areEnough 20 = .ok (.iand, 1) := by decide +kernel
theorem dX11_areEnough_21 : decode cX11_areEnough 21 = .ok (.ifCond .eq 19, 3) := by decide +kernel
theorem dX11_areEnough_24 : decode cX11_areEnough 24 = .ok (.aload_n 0, 1) := by decide +kernel
theorem dX11_areEnough_25 : decode cX11_areEnough 25 = .ok (.getfield 9, 3) := by decide +kernel
theorem dX11_areEnough_28 : decode cX11_areEnough 28 = .ok (.bipush 28, 2) := by decide +kernel
theorem dX11_areEnough_30 : decode cX11_areEnough 30 = .ok (.iload_n 3, 1) := by decide +kernel
theorem dX11_areEnough_31 : decode cX11_areEnough 31 = .ok (.iadd, 1) := by decide +kernel
theorem dX11_areEnough_32 : decode cX11_areEnough 32 = .ok (.iaload, 1) := by decide +kernel
theorem dX11_areEnough_33 : decode cX11_areEnough 33 = .ok (.iload_n 1, 1) := by decide +kernel
theorem dX11_areEnough_34 : decode cX11_areEnough 34 = .ok (.iand, 1) := by decide +kernel
theorem dX11_areEnough_35 : decode cX11_areEnough 35 = .ok (.ifCond .ne 5, 3) := by decide +kernel
theorem dX11_areEnough_38 : decode cX11_areEnough 38 = .ok (.iconst 0, 1) := by decide +kernel
theorem dX11_areEnough_39 : decode cX11_areEnough 39 = .ok (.ireturn, 1) := by decide +kernel
theorem dX11_areEnough_40 : decode cX11_areEnough 40 = .ok (.iinc 3 1, 3) := by decide +kernel
theorem dX11_areEnough_43 : decode cX11_areEnough 43 = .ok (.goto (-41), 3) := by decide +kernel
theorem dX11_areEnough_46 : decode cX11_areEnough 46 = .ok (.iconst 1, 1) := by decide +kernel
theorem dX11_areEnough_47 : decode cX11_areEnough 47 = .ok (.ireturn, 1) := by decide +kernel
theorem dX11_enough_0 : decode cX11_enough 0 = .ok (.aload_n 0, 1) := by decide +kernel
theorem dX11_enough_1 : decode cX11_enough 1 = .ok (.iconst 0, 1) := by decide +kernel
theorem dX11_enough_2 : decode cX11_enough 2 = .ok (.putfield 85, 3) := by decide +kernel
theorem dX11_enough_5 : decode cX11_enough 5 = .ok (.aload_n 0, 1) := by decide +kernel
theorem dX11_enough_6 : decode cX11_enough 6 = .ok (.aload_n 0, 1) := by decide +kernel
theorem dX11_enough_7 : decode cX11_enough 7 = .ok (.getfield 9, 3) := by decide +kernel
theorem dX11_enough_10 : decode cX11_enough 10 = .ok (.invokevirtual 239, 3) := by decide +kernel
theorem dX11_enough_13 : decode cX11_enough 13 = .ok (.istore_n 1, 1) := by decide +kernel
theorem dX11_enough_14 : decode cX11_enough 14 = .ok (.iload_n 1, 1) := by decide +kernel
theorem dX11_enough_15 : decode cX11_enough 15 = .ok (.istore_n 2, 1) := by decide +kernel
theorem dX11_enough_16 : decode cX11_enough 16 = .ok (.iload_n 1, 1) := by decide +kernel
theorem dX11_enough_17 : decode cX11_enough 17 = .ok (.istore_n 3, 1) := by decide +kernel
theorem dX11_enough_18 : decode cX11_enough 18 = .ok (.iload_n 3, 1) := by decide +kernel
theorem dX11_enough_19 : decode cX11_enough 19 = .ok (.ifCond .lt 39, 3) := by decide +kernel
theorem dX11_enough_22 : decode cX11_enough 22 = .ok (.iload_n 3, 1) := by decide +kernel
theorem dX11_enough_23 : decode cX11_enough 23 = .ok (.iload_n 1, 1) := by decide +kernel
theorem dX11_enough_24 : decode cX11_enough 24 = .ok (.iconst (-1), 1) := by decide +kernel
theorem dX11_enough_25 : decode cX11_enough 25 = .ok (.ixor, 1) := by decide +kernel
theorem dX11_enough_26 : decode cX11_enough 26 = .ok (.iand, 1) := by decide +kernel
theorem dX11_enough_27 : decode cX11_enough 27 = .ok (.ifCond .ne 25, 3) := by decide +kernel
theorem dX11_enough_30 : decode cX11_enough 30 = .ok (.iload_n 3, 1) := by decide +kernel
theorem dX11_enough_31 : decode cX11_enough 31 = .ok (.invokestatic 204, 3) := by decide +kernel
theorem dX11_enough_34 : decode cX11_enough 34 = .ok (.iload_n 2, 1) := by decide +kernel
theorem dX11_enough_35 : decode cX11_enough 35 = .ok (.invokestatic 204, 3) := by decide +kernel
theorem dX11_enough_38 : decode cX11_enough 38 = .ok (.if_icmp .gt 14, 3) := by decide +kernel
theorem dX11_enough_41 : decode cX11_enough 41 = .ok (.aload_n 0, 1) := by decide +kernel
theorem dX11_enough_42 : decode cX11_enough 42 = .ok (.iload_n 3, 1) := by decide +kernel
theorem dX11_enough_43 : decode cX11_enough 43 = .ok (.iload_n 1, 1) := by decide +kernel
theorem dX11_enough_44 : decode cX11_enough 44 = .ok (.invokevirtual 294, 3) := by decide +kernel
theorem dX11_enough_47 : decode cX11_enough 47 = .ok (.ifCond .eq 5, 3) := by decide +kernel
theorem dX11_enough_50 : decode cX11_enough 50 = .ok (.iload_n 3, 1) := by decide +kernel
theorem dX11_enough_51 : decode cX11_enough 51 = .ok (.istore_n 2, 1) := by decide +kernel
theorem dX11_enough_52 : decode cX11_enough 52 = .ok (.iinc 3 (-1), 3) := by decide +kernel
theorem dX11_enough_55 : decode cX11_enough 55 = .ok (.goto (-37), 3) := by decide +kernel
theorem dX11_enough_58 : decode cX11_enough 58 = .ok (.aload_n 0, 1) := by decide +kernel
theorem dX11_enough_59 : decode cX11_enough 59 = .ok (.iconst 0, 1) := by decide +kernel
theorem dX11_enough_60 : decode cX11_enough 60 = .ok (.putfield 89, 3) := by decide +kernel
theorem dX11_enough_63 : decode cX11_enough 63 = .ok (.aload_n 0, 1) := by decide +kernel
theorem dX11_enough_64 : decode cX11_enough 64 = .ok (.iload_n 2, 1) := by decide +kernel
theorem dX11_enough_65 : decode cX11_enough 65 = .ok (.i2l, 1) := by decide +kernel
theorem dX11_enough_66 : decode cX11_enough 66 = .ok (.invokevirtual 256, 3) := by decide +kernel
theorem dX11_enough_69 : decode cX11_enough 69 = .ok (.iload_n 2, 1) := by decide +kernel
theorem dX11_enough_70 : decode cX11_enough 70 = .ok (.invokestatic 204, 3) := by decide +kernel
theorem dX11_enough_73 : decode cX11_enough 73 = .ok (.ireturn, 1) := by decide +kernel
theorem dX11_isWant_0 : decode cX11_isWant 0 = .ok (.aload_n 0, 1) := by decide +kernel
theorem dX11_isWant_1 : decode cX11_isWant 1 = .ok (.iload_n 1, 1) := by decide +kernel
theorem dX11_isWant_2 : decode cX11_isWant 2 = .ok (.bipush 7, 2) := by decide +kernel
theorem dX11_isWant_4 : decode cX11_isWant 4 = .ok (.idiv, 1) := by decide +kernel
theorem dX11_isWant_5 : decode cX11_isWant 5 = .ok (.iload_n 1, 1) := by decide +kernel
theorem dX11_isWant_6 : decode cX11_isWant 6 = .ok (.bipush 7, 2) := by decide +kernel
theorem dX11_isWant_8 : decode cX11_isWant 8 = .ok (.irem, 1) := by decide +kernel
theorem dX11_isWant_9 : decode cX11_isWant 9 = .ok (.invokevirtual 260, 3) := by decide +kernel
theorem dX11_isWant_12 : decode cX11_isWant 12 = .ok (.ireturn, 1) := by decide +kernel
theorem dX11_turn_0 : decode cX11_turn 0 = .ok (.aload_n 1, 1) := by decide +kernel
theorem dX11_turn_1 : decode cX11_turn 1 = .ok (.bipush 28, 2) := by decide +kernel
theorem dX11_turn_3 : decode cX11_turn 3 = .ok (.iload_n 2, 1) := by decide +kernel
theorem dX11_turn_4 : decode cX11_turn 4 = .ok (.bipush 7, 2) := by decide +kernel
theorem dX11_turn_6 : decode cX11_turn 6 = .ok (.idiv, 1) := by decide +kernel
theorem dX11_turn_7 : decode cX11_turn 7 = .ok (.iadd, 1) := by decide +kernel
theorem dX11_turn_8 : decode cX11_turn 8 = .ok (.dup2, 1) := by decide +kernel
theorem dX11_turn_9 : decode cX11_turn 9 = .ok (.iaload, 1) := by decide +kernel
theorem dX11_turn_10 : decode cX11_turn 10 = .ok (.iconst 1, 1) := by decide +kernel
theorem dX11_turn_11 : decode cX11_turn 11 = .ok (.iload_n 2, 1) := by decide +kernel
theorem dX11_turn_12 : decode cX11_turn 12 = .ok (.bipush 7, 2) := by decide +kernel
theorem dX11_turn_14 : decode cX11_turn 14 = .ok (.irem, 1) := by decide +kernel
theorem dX11_turn_15 : decode cX11_turn 15 = .ok (.ishl, 1) := by decide +kernel
theorem dX11_turn_16 : decode cX11_turn 16 = .ok (.ixor, 1) := by decide +kernel
theorem dX11_turn_17 : decode cX11_turn 17 = .ok (.iastore, 1) := by decide +kernel
theorem dX11_turn_18 : decode cX11_turn 18 = .ok (.return_, 1) := by decide +kernel
theorem dX11_steps_0 : decode cX11_steps 0 = .ok (.aload_n 0, 1) := by decide +kernel
theorem dX11_steps_1 : decode cX11_steps 1 = .ok (.iconst 0, 1) := by decide +kernel
theorem dX11_steps_2 : decode cX11_steps 2 = .ok (.putfield 85, 3) := by decide +kernel
theorem dX11_steps_5 : decode cX11_steps 5 = .ok (.aload_n 0, 1) := by decide +kernel
theorem dX11_steps_6 : decode cX11_steps 6 = .ok (.iload_n 1, 1) := by decide +kernel
theorem dX11_steps_7 : decode cX11_steps 7 = .ok (.invokevirtual 99, 3) := by decide +kernel
theorem dX11_steps_10 : decode cX11_steps 10 = .ok (.ifCond .ne 5, 3) := by decide +kernel
theorem dX11_steps_13 : decode cX11_steps 13 = .ok (.iconst (-1), 1) := by decide +kernel
theorem dX11_steps_14 : decode cX11_steps 14 = .ok (.ireturn, 1) := by decide +kernel
theorem dX11_steps_15 : decode cX11_steps 15 = .ok (.aload_n 0, 1) := by decide +kernel
theorem dX11_steps_16 : decode cX11_steps 16 = .ok (.aload_n 0, 1) := by decide +kernel
theorem dX11_steps_17 : decode cX11_steps 17 = .ok (.getfield 9, 3) := by decide +kernel
theorem dX11_steps_20 : decode cX11_steps 20 = .ok (.iload_n 1, 1) := by decide +kernel
theorem dX11_steps_21 : decode cX11_steps 21 = .ok (.invokevirtual 216, 3) := by decide +kernel
theorem dX11_steps_24 : decode cX11_steps 24 = .ok (.ifCond .eq 10, 3) := by decide +kernel
theorem dX11_steps_27 : decode cX11_steps 27 = .ok (.aload_n 0, 1) := by decide +kernel
theorem dX11_steps_28 : decode cX11_steps 28 = .ok (.iconst 0, 1) := by decide +kernel
theorem dX11_steps_29 : decode cX11_steps 29 = .ok (.putfield 89, 3) := by decide +kernel
theorem dX11_steps_32 : decode cX11_steps 32 = .ok (.iconst 0, 1) := by decide +kernel
theorem dX11_steps_33 : decode cX11_steps 33 = .ok (.ireturn, 1) := by decide +kernel
theorem dX11_steps_34 : decode cX11_steps 34 = .ok (.aload_n 0, 1) := by decide +kernel
theorem dX11_steps_35 : decode cX11_steps 35 = .ok (.getfield 9, 3) := by decide +kernel
theorem dX11_steps_38 : decode cX11_steps 38 = .ok (.aload_n 0, 1) := by decide +kernel
theorem dX11_steps_39 : decode cX11_steps 39 = .ok (.getfield 39, 3) := by decide +kernel
theorem dX11_steps_42 : decode cX11_steps 42 = .ok (.iconst 0, 1) := by decide +kernel
theorem dX11_steps_43 : decode cX11_steps 43 = .ok (.invokestatic 235, 3) := by decide +kernel
theorem dX11_steps_46 : decode cX11_steps 46 = .ok (.iconst 0, 1) := by decide +kernel
theorem dX11_steps_47 : decode cX11_steps 47 = .ok (.istore_n 2, 1) := by decide +kernel
theorem dX11_steps_48 : decode cX11_steps 48 = .ok (.iload_n 2, 1) := by decide +kernel
theorem dX11_steps_49 : decode cX11_steps 49 = .ok (.bipush 49, 2) := by decide +kernel
theorem dX11_steps_51 : decode cX11_steps 51 = .ok (.if_icmp .ge 68, 3) := by decide +kernel
theorem dX11_steps_54 : decode cX11_steps 54 = .ok (.aload_n 0, 1) := by decide +kernel
theorem dX11_steps_55 : decode cX11_steps 55 = .ok (.iload_n 2, 1) := by decide +kernel
theorem dX11_steps_56 : decode cX11_steps 56 = .ok (.invokevirtual 297, 3) := by decide +kernel
theorem dX11_steps_59 : decode cX11_steps 59 = .ok (.ifCond .ne 6, 3) := by decide +kernel
theorem dX11_steps_62 : decode cX11_steps 62 = .ok (.goto 51, 3) := by decide +kernel
theorem dX11_steps_65 : decode cX11_steps 65 = .ok (.aload_n 0, 1) := by decide +kernel
theorem dX11_steps_66 : decode cX11_steps 66 = .ok (.aload_n 0, 1) := by decide +kernel
theorem dX11_steps_67 : decode cX11_steps 67 = .ok (.getfield 39, 3) := by decide +kernel
theorem dX11_steps_70 : decode cX11_steps 70 = .ok (.iload_n 2, 1) := by decide +kernel
theorem dX11_steps_71 : decode cX11_steps 71 = .ok (.invokevirtual 300, 3) := by decide +kernel
theorem dX11_steps_74 : decode cX11_steps 74 = .ok (.aload_n 0, 1) := by decide +kernel
theorem dX11_steps_75 : decode cX11_steps 75 = .ok (.aload_n 0, 1) := by decide +kernel
theorem dX11_steps_76 : decode cX11_steps 76 = .ok (.getfield 39, 3) := by decide +kernel
theorem dX11_steps_79 : decode cX11_steps 79 = .ok (.iload_n 1, 1) := by decide +kernel
theorem dX11_steps_80 : decode cX11_steps 80 = .ok (.invokevirtual 216, 3) := by decide +kernel
theorem dX11_steps_83 : decode cX11_steps 83 = .ok (.istore_n 3, 1) := by decide +kernel
theorem dX11_steps_84 : decode cX11_steps 84 = .ok (.aload_n 0, 1) := by decide +kernel
theorem dX11_steps_85 : decode cX11_steps 85 = .ok (.aload_n 0, 1) := by decide +kernel
theorem dX11_steps_86 : decode cX11_steps 86 = .ok (.getfield 39, 3) := by decide +kernel
theorem dX11_steps_89 : decode cX11_steps 89 = .ok (.iload_n 2, 1) := by decide +kernel
theorem dX11_steps_90 : decode cX11_steps 90 = .ok (.invokevirtual 300, 3) := by decide +kernel
theorem dX11_steps_93 : decode cX11_steps 93 = .ok (.iload_n 3, 1) := by decide +kernel
theorem dX11_steps_94 : decode cX11_steps 94 = .ok (.ifCond .ne 6, 3) := by decide +kernel
theorem dX11_steps_97 : decode cX11_steps 97 = .ok (.goto 16, 3) := by decide +kernel
theorem dX11_steps_100 : decode cX11_steps 100 = .ok (.aload_n 0, 1) := by decide +kernel
theorem dX11_steps_101 : decode cX11_steps 101 = .ok (.iconst 0, 1) := by decide +kernel
theorem dX11_steps_102 : decode cX11_steps 102 = .ok (.putfield 89, 3) := by decide +kernel
theorem dX11_steps_105 : decode cX11_steps 105 = .ok (.aload_n 0, 1) := by decide +kernel
theorem dX11_steps_106 : decode cX11_steps 106 = .ok (.iload_n 2, 1) := by decide +kernel
theorem dX11_steps_107 : decode cX11_steps 107 = .ok (.i2l, 1) := by decide +kernel
theorem dX11_steps_108 : decode cX11_steps 108 = .ok (.invokevirtual 256, 3) := by decide +kernel
theorem dX11_steps_111 : decode cX11_steps 111 = .ok (.iconst 1, 1) := by decide +kernel
theorem dX11_steps_112 : decode cX11_steps 112 = .ok (.ireturn, 1) := by decide +kernel
theorem dX11_steps_113 : decode cX11_steps 113 = .ok (.iinc 2 1, 3) := by decide +kernel
theorem dX11_steps_116 : decode cX11_steps 116 = .ok (.goto (-68), 3) := by decide +kernel
theorem dX11_steps_119 : decode cX11_steps 119 = .ok (.iconst 0, 1) := by decide +kernel
theorem dX11_steps_120 : decode cX11_steps 120 = .ok (.istore_n 2, 1) := by decide +kernel
theorem dX11_steps_121 : decode cX11_steps 121 = .ok (.iload_n 2, 1) := by decide +kernel
theorem dX11_steps_122 : decode cX11_steps 122 = .ok (.bipush 49, 2) := by decide +kernel
theorem dX11_steps_124 : decode cX11_steps 124 = .ok (.if_icmp .ge 118, 3) := by decide +kernel
theorem dX11_steps_127 : decode cX11_steps 127 = .ok (.iload_n 2, 1) := by decide +kernel
theorem dX11_steps_128 : decode cX11_steps 128 = .ok (.iconst 1, 1) := by decide +kernel
theorem dX11_steps_129 : decode cX11_steps 129 = .ok (.iadd, 1) := by decide +kernel
theorem dX11_steps_130 : decode cX11_steps 130 = .ok (.istore_n 3, 1) := by decide +kernel
theorem dX11_steps_131 : decode cX11_steps 131 = .ok (.iload_n 3, 1) := by decide +kernel
theorem dX11_steps_132 : decode cX11_steps 132 = .ok (.bipush 49, 2) := by decide +kernel
theorem dX11_steps_134 : decode cX11_steps 134 = .ok (.if_icmp .ge 102, 3) := by decide +kernel
theorem dX11_steps_137 : decode cX11_steps 137 = .ok (.aload_n 0, 1) := by decide +kernel
theorem dX11_steps_138 : decode cX11_steps 138 = .ok (.iload_n 2, 1) := by decide +kernel
theorem dX11_steps_139 : decode cX11_steps 139 = .ok (.invokevirtual 297, 3) := by decide +kernel
theorem dX11_steps_142 : decode cX11_steps 142 = .ok (.ifCond .eq 88, 3) := by decide +kernel
theorem dX11_steps_145 : decode cX11_steps 145 = .ok (.aload_n 0, 1) := by decide +kernel
theorem dX11_steps_146 : decode cX11_steps 146 = .ok (.iload_n 3, 1) := by decide +kernel
theorem dX11_steps_147 : decode cX11_steps 147 = .ok (.invokevirtual 297, 3) := by decide +kernel
theorem dX11_steps_150 : decode cX11_steps 150 = .ok (.ifCond .ne 6, 3) := by decide +kernel
theorem dX11_steps_153 : decode cX11_steps 153 = .ok (.goto 77, 3) := by decide +kernel
theorem dX11_steps_156 : decode cX11_steps 156 = .ok (.aload_n 0, 1) := by decide +kernel
theorem dX11_steps_157 : decode cX11_steps 157 = .ok (.aload_n 0, 1) := by decide +kernel
theorem dX11_steps_158 : decode cX11_steps 158 = .ok (.getfield 39, 3) := by decide +kernel
theorem dX11_steps_161 : decode cX11_steps 161 = .ok (.iload_n 2, 1) := by decide +kernel
theorem dX11_steps_162 : decode cX11_steps 162 = .ok (.invokevirtual 300, 3) := by decide +kernel
theorem dX11_steps_165 : decode cX11_steps 165 = .ok (.aload_n 0, 1) := by decide +kernel
theorem dX11_steps_166 : decode cX11_steps 166 = .ok (.aload_n 0, 1) := by decide +kernel
theorem dX11_steps_167 : decode cX11_steps 167 = .ok (.getfield 39, 3) := by decide +kernel
theorem dX11_steps_170 : decode cX11_steps 170 = .ok (.iload_n 3, 1) := by decide +kernel
theorem dX11_steps_171 : decode cX11_steps 171 = .ok (.invokevirtual 300, 3) := by decide +kernel
theorem dX11_steps_174 : decode cX11_steps 174 = .ok (.aload_n 0, 1) := by decide +kernel
theorem dX11_steps_175 : decode cX11_steps 175 = .ok (.aload_n 0, 1) := by decide +kernel
theorem dX11_steps_176 : decode cX11_steps 176 = .ok (.getfield 39, 3) := by decide +kernel
theorem dX11_steps_179 : decode cX11_steps 179 = .ok (.iload_n 1, 1) := by decide +kernel
theorem dX11_steps_180 : decode cX11_steps 180 = .ok (.invokevirtual 216, 3) := by decide +kernel
theorem dX11_steps_183 : decode cX11_steps 183 = .ok (.istore 4, 2) := by decide +kernel
theorem dX11_steps_185 : decode cX11_steps 185 = .ok (.aload_n 0, 1) := by decide +kernel
theorem dX11_steps_186 : decode cX11_steps 186 = .ok (.aload_n 0, 1) := by decide +kernel
theorem dX11_steps_187 : decode cX11_steps 187 = .ok (.getfield 39, 3) := by decide +kernel
theorem dX11_steps_190 : decode cX11_steps 190 = .ok (.iload_n 2, 1) := by decide +kernel
theorem dX11_steps_191 : decode cX11_steps 191 = .ok (.invokevirtual 300, 3) := by decide +kernel
theorem dX11_steps_194 : decode cX11_steps 194 = .ok (.aload_n 0, 1) := by decide +kernel
theorem dX11_steps_195 : decode cX11_steps 195 = .ok (.aload_n 0, 1) := by decide +kernel
theorem dX11_steps_196 : decode cX11_steps 196 = .ok (.getfield 39, 3) := by decide +kernel
theorem dX11_steps_199 : decode cX11_steps 199 = .ok (.iload_n 3, 1) := by decide +kernel
theorem dX11_steps_200 : decode cX11_steps 200 = .ok (.invokevirtual 300, 3) := by decide +kernel
theorem dX11_steps_203 : decode cX11_steps 203 = .ok (.iload 4, 2) := by decide +kernel
theorem dX11_steps_205 : decode cX11_steps 205 = .ok (.ifCond .ne 6, 3) := by decide +kernel
theorem dX11_steps_208 : decode cX11_steps 208 = .ok (.goto 22, 3) := by decide +kernel
theorem dX11_steps_211 : decode cX11_steps 211 = .ok (.aload_n 0, 1) := by decide +kernel
theorem dX11_steps_212 : decode cX11_steps 212 = .ok (.iconst 0, 1) := by decide +kernel
theorem dX11_steps_213 : decode cX11_steps 213 = .ok (.putfield 89, 3) := by decide +kernel
theorem dX11_steps_216 : decode cX11_steps 216 = .ok (.aload_n 0, 1) := by decide +kernel
theorem dX11_steps_217 : decode cX11_steps 217 = .ok (.iload_n 2, 1) := by decide +kernel
theorem dX11_steps_218 : decode cX11_steps 218 = .ok (.i2l, 1) := by decide +kernel
theorem dX11_steps_219 : decode cX11_steps 219 = .ok (.invokevirtual 256, 3) := by decide +kernel
theorem dX11_steps_222 : decode cX11_steps 222 = .ok (.aload_n 0, 1) := by decide +kernel
theorem dX11_steps_223 : decode cX11_steps 223 = .ok (.iload_n 3, 1) := by decide +kernel
theorem dX11_steps_224 : decode cX11_steps 224 = .ok (.i2l, 1) := by decide +kernel
theorem dX11_steps_225 : decode cX11_steps 225 = .ok (.invokevirtual 256, 3) := by decide +kernel
theorem dX11_steps_228 : decode cX11_steps 228 = .ok (.iconst 2, 1) := by decide +kernel
theorem dX11_steps_229 : decode cX11_steps 229 = .ok (.ireturn, 1) := by decide +kernel
theorem dX11_steps_230 : decode cX11_steps 230 = .ok (.iinc 3 1, 3) := by decide +kernel
theorem dX11_steps_233 : decode cX11_steps 233 = .ok (.goto (-102), 3) := by decide +kernel
theorem dX11_steps_236 : decode cX11_steps 236 = .ok (.iinc 2 1, 3) := by decide +kernel
theorem dX11_steps_239 : decode cX11_steps 239 = .ok (.goto (-118), 3) := by decide +kernel
theorem dX11_steps_242 : decode cX11_steps 242 = .ok (.bipush (-2), 2) := by decide +kernel
theorem dX11_steps_244 : decode cX11_steps 244 = .ok (.ireturn, 1) := by decide +kernel
theorem dX11_beginDropped_0 : decode cX11_beginDropped 0 = .ok (.aload_n 0, 1) := by decide +kernel
theorem dX11_beginDropped_1 : decode cX11_beginDropped 1 = .ok (.getfield 9, 3) := by decide +kernel
theorem dX11_beginDropped_4 : decode cX11_beginDropped 4 = .ok (.aload_n 0, 1) := by decide +kernel
theorem dX11_beginDropped_5 : decode cX11_beginDropped 5 = .ok (.getfield 39, 3) := by decide +kernel
theorem dX11_beginDropped_8 : decode cX11_beginDropped 8 = .ok (.iconst 0, 1) := by decide +kernel
theorem dX11_beginDropped_9 : decode cX11_beginDropped 9 = .ok (.invokestatic 235, 3) := by decide +kernel
theorem dX11_beginDropped_12 : decode cX11_beginDropped 12 = .ok (.iconst 0, 1) := by decide +kernel
theorem dX11_beginDropped_13 : decode cX11_beginDropped 13 = .ok (.istore_n 3, 1) := by decide +kernel
theorem dX11_beginDropped_14 : decode cX11_beginDropped 14 = .ok (.iload_n 3, 1) := by decide +kernel
theorem dX11_beginDropped_15 : decode cX11_beginDropped 15 = .ok (.aload_n 0, 1) := by decide +kernel
theorem dX11_beginDropped_16 : decode cX11_beginDropped 16 = .ok (.getfield 92, 3) := by decide +kernel
theorem dX11_beginDropped_19 : decode cX11_beginDropped 19 = .ok (.if_icmp .ge 34, 3) := by decide +kernel
theorem dX11_beginDropped_22 : decode cX11_beginDropped 22 = .ok (.iload_n 1, 1) := by decide +kernel
theorem dX11_beginDropped_23 : decode cX11_beginDropped 23 = .ok (.iload_n 3, 1) := by decide +kernel
theorem dX11_beginDropped_24 : decode cX11_beginDropped 24 = .ok (.invokestatic 196, 3) := by decide +kernel
theorem dX11_beginDropped_27 : decode cX11_beginDropped 27 = .ok (.ifCond .eq 20, 3) := by decide +kernel
theorem dX11_beginDropped_30 : decode cX11_beginDropped 30 = .ok (.aload_n 0, 1) := by decide +kernel
theorem dX11_beginDropped_31 : decode cX11_beginDropped 31 = .ok (.getfield 39, 3) := by decide +kernel
theorem dX11_beginDropped_34 : decode cX11_beginDropped 34 = .ok (.bipush 28, 2) := by decide +kernel
theorem dX11_beginDropped_36 : decode cX11_beginDropped 36 = .ok (.iload_n 3, 1) := by decide +kernel
theorem dX11_beginDropped_37 : decode cX11_beginDropped 37 = .ok (.iadd, 1) := by decide +kernel
theorem dX11_beginDropped_38 : decode cX11_beginDropped 38 = .ok (.dup2, 1) := by decide +kernel
theorem dX11_beginDropped_39 : decode cX11_beginDropped 39 = .ok (.iaload, 1) := by decide +kernel
theorem dX11_beginDropped_40 : decode cX11_beginDropped 40 = .ok (.iconst 1, 1) := by decide +kernel
theorem dX11_beginDropped_41 : decode cX11_beginDropped 41 = .ok (.iload_n 2, 1) := by decide +kernel
theorem dX11_beginDropped_42 : decode cX11_beginDropped 42 = .ok (.ishl, 1) := by decide +kernel
theorem dX11_beginDropped_43 : decode cX11_beginDropped 43 = .ok (.iconst (-1), 1) := by decide +kernel
theorem dX11_beginDropped_44 : decode cX11_beginDropped 44 = .ok (.ixor, 1) := by decide +kernel
theorem dX11_beginDropped_45 : decode cX11_beginDropped 45 = .ok (.iand, 1) := by decide +kernel
theorem dX11_beginDropped_46 : decode cX11_beginDropped 46 = .ok (.iastore, 1) := by decide +kernel
theorem dX11_beginDropped_47 : decode cX11_beginDropped 47 = .ok (.iinc 3 1, 3) := by decide +kernel
theorem dX11_beginDropped_50 : decode cX11_beginDropped 50 = .ok (.goto (-36), 3) := by decide +kernel
theorem dX11_beginDropped_53 : decode cX11_beginDropped 53 = .ok (.return_, 1) := by decide +kernel
theorem dX11_sleeps_0 : decode cX11_sleeps 0 = .ok (.aload_n 0, 1) := by decide +kernel
theorem dX11_sleeps_1 : decode cX11_sleeps 1 = .ok (.iconst 0, 1) := by decide +kernel
theorem dX11_sleeps_2 : decode cX11_sleeps 2 = .ok (.putfield 85, 3) := by decide +kernel
theorem dX11_sleeps_5 : decode cX11_sleeps 5 = .ok (.aload_n 0, 1) := by decide +kernel
theorem dX11_sleeps_6 : decode cX11_sleeps 6 = .ok (.iload_n 1, 1) := by decide +kernel
theorem dX11_sleeps_7 : decode cX11_sleeps 7 = .ok (.invokevirtual 99, 3) := by decide +kernel
theorem dX11_sleeps_10 : decode cX11_sleeps 10 = .ok (.ifCond .ne 5, 3) := by decide +kernel
theorem dX11_sleeps_13 : decode cX11_sleeps 13 = .ok (.iconst (-1), 1) := by decide +kernel
theorem dX11_sleeps_14 : decode cX11_sleeps 14 = .ok (.ireturn, 1) := by decide +kernel
theorem dX11_sleeps_15 : decode cX11_sleeps 15 = .ok (.aload_n 0, 1) := by decide +kernel
theorem dX11_sleeps_16 : decode cX11_sleeps 16 = .ok (.aload_n 0, 1) := by decide +kernel
theorem dX11_sleeps_17 : decode cX11_sleeps 17 = .ok (.getfield 9, 3) := by decide +kernel
theorem dX11_sleeps_20 : decode cX11_sleeps 20 = .ok (.iload_n 1, 1) := by decide +kernel
theorem dX11_sleeps_21 : decode cX11_sleeps 21 = .ok (.invokevirtual 200, 3) := by decide +kernel
theorem dX11_sleeps_24 : decode cX11_sleeps 24 = .ok (.istore_n 2, 1) := by decide +kernel
theorem dX11_sleeps_25 : decode cX11_sleeps 25 = .ok (.iload_n 2, 1) := by decide +kernel
theorem dX11_sleeps_26 : decode cX11_sleeps 26 = .ok (.istore_n 3, 1) := by decide +kernel
theorem dX11_sleeps_27 : decode cX11_sleeps 27 = .ok (.iload_n 2, 1) := by decide +kernel
theorem dX11_sleeps_28 : decode cX11_sleeps 28 = .ok (.istore 4, 2) := by decide +kernel
theorem dX11_sleeps_30 : decode cX11_sleeps 30 = .ok (.iload 4, 2) := by decide +kernel
theorem dX11_sleeps_32 : decode cX11_sleeps 32 = .ok (.ifCond .lt 55, 3) := by decide +kernel
theorem dX11_sleeps_35 : decode cX11_sleeps 35 = .ok (.iload 4, 2) := by decide +kernel
theorem dX11_sleeps_37 : decode cX11_sleeps 37 = .ok (.iload_n 2, 1) := by decide +kernel
theorem dX11_sleeps_38 : decode cX11_sleeps 38 = .ok (.iconst (-1), 1) := by decide +kernel
theorem dX11_sleeps_39 : decode cX11_sleeps 39 = .ok (.ixor, 1) := by decide +kernel
theorem dX11_sleeps_40 : decode cX11_sleeps 40 = .ok (.iand, 1) := by decide +kernel
theorem dX11_sleeps_41 : decode cX11_sleeps 41 = .ok (.ifCond .ne 40, 3) := by decide +kernel
theorem dX11_sleeps_44 : decode cX11_sleeps 44 = .ok (.iload 4, 2) := by decide +kernel
theorem dX11_sleeps_46 : decode cX11_sleeps 46 = .ok (.invokestatic 204, 3) := by decide +kernel
theorem dX11_sleeps_49 : decode cX11_sleeps 49 = .ok (.iload_n 3, 1) := by decide +kernel
theorem dX11_sleeps_50 : decode cX11_sleeps 50 = .ok (.invokestatic 204, 3) := by decide +kernel
theorem dX11_sleeps_53 : decode cX11_sleeps 53 = .ok (.if_icmp .le 6, 3) := by decide +kernel
theorem dX11_sleeps_56 : decode cX11_sleeps 56 = .ok (.goto 25, 3) := by decide +kernel
theorem dX11_sleeps_59 : decode cX11_sleeps 59 = .ok (.aload_n 0, 1) := by decide +kernel
theorem dX11_sleeps_60 : decode cX11_sleeps 60 = .ok (.iload 4, 2) := by decide +kernel
theorem dX11_sleeps_62 : decode cX11_sleeps 62 = .ok (.iload_n 1, 1) := by decide +kernel
theorem dX11_sleeps_63 : decode cX11_sleeps 63 = .ok (.invokevirtual 303, 3) := by decide +kernel
theorem dX11_sleeps_66 : decode cX11_sleeps 66 = .ok (.aload_n 0, 1) := by decide +kernel
theorem dX11_sleeps_67 : decode cX11_sleeps 67 = .ok (.aload_n 0, 1) := by decide +kernel
theorem dX11_sleeps_68 : decode cX11_sleeps 68 = .ok (.getfield 39, 3) := by decide +kernel
theorem dX11_sleeps_71 : decode cX11_sleeps 71 = .ok (.iload_n 1, 1) := by decide +kernel
theorem dX11_sleeps_72 : decode cX11_sleeps 72 = .ok (.invokevirtual 216, 3) := by decide +kernel
theorem dX11_sleeps_75 : decode cX11_sleeps 75 = .ok (.ifCond .ne 6, 3) := by decide +kernel
theorem dX11_sleeps_78 : decode cX11_sleeps 78 = .ok (.iload 4, 2) := by decide +kernel
theorem dX11_sleeps_80 : decode cX11_sleeps 80 = .ok (.istore_n 3, 1) := by decide +kernel
theorem dX11_sleeps_81 : decode cX11_sleeps 81 = .ok (.iinc 4 (-1), 3) := by decide +kernel
theorem dX11_sleeps_84 : decode cX11_sleeps 84 = .ok (.goto (-54), 3) := by decide +kernel
theorem dX11_sleeps_87 : decode cX11_sleeps 87 = .ok (.aload_n 0, 1) := by decide +kernel
theorem dX11_sleeps_88 : decode cX11_sleeps 88 = .ok (.iconst 0, 1) := by decide +kernel
theorem dX11_sleeps_89 : decode cX11_sleeps 89 = .ok (.putfield 89, 3) := by decide +kernel
theorem dX11_sleeps_92 : decode cX11_sleeps 92 = .ok (.aload_n 0, 1) := by decide +kernel
theorem dX11_sleeps_93 : decode cX11_sleeps 93 = .ok (.iload_n 3, 1) := by decide +kernel
theorem dX11_sleeps_94 : decode cX11_sleeps 94 = .ok (.i2l, 1) := by decide +kernel
theorem dX11_sleeps_95 : decode cX11_sleeps 95 = .ok (.invokevirtual 256, 3) := by decide +kernel
theorem dX11_sleeps_98 : decode cX11_sleeps 98 = .ok (.iload_n 3, 1) := by decide +kernel
theorem dX11_sleeps_99 : decode cX11_sleeps 99 = .ok (.invokestatic 204, 3) := by decide +kernel
theorem dX11_sleeps_102 : decode cX11_sleeps 102 = .ok (.ireturn, 1) := by decide +kernel
theorem dX11_worth_0 : decode cX11_worth 0 = .ok (.aload_n 0, 1) := by decide +kernel
theorem dX11_worth_1 : decode cX11_worth 1 = .ok (.iconst 0, 1) := by decide +kernel
theorem dX11_worth_2 : decode cX11_worth 2 = .ok (.putfield 85, 3) := by decide +kernel
theorem dX11_worth_5 : decode cX11_worth 5 = .ok (.aload_n 0, 1) := by decide +kernel
theorem dX11_worth_6 : decode cX11_worth 6 = .ok (.iload_n 1, 1) := by decide +kernel
theorem dX11_worth_7 : decode cX11_worth 7 = .ok (.invokevirtual 99, 3) := by decide +kernel
theorem dX11_worth_10 : decode cX11_worth 10 = .ok (.ifCond .ne 5, 3) := by decide +kernel
theorem dX11_worth_13 : decode cX11_worth 13 = .ok (.iconst (-1), 1) := by decide +kernel
theorem dX11_worth_14 : decode cX11_worth 14 = .ok (.ireturn, 1) := by decide +kernel
theorem dX11_worth_15 : decode cX11_worth 15 = .ok (.bipush (-2), 2) := by decide +kernel
theorem dX11_worth_17 : decode cX11_worth 17 = .ok (.istore_n 2, 1) := by decide +kernel
theorem dX11_worth_18 : decode cX11_worth 18 = .ok (.iconst 0, 1) := by decide +kernel
theorem dX11_worth_19 : decode cX11_worth 19 = .ok (.istore_n 3, 1) := by decide +kernel
theorem dX11_worth_20 : decode cX11_worth 20 = .ok (.aload_n 0, 1) := by decide +kernel
theorem dX11_worth_21 : decode cX11_worth 21 = .ok (.getfield 9, 3) := by decide +kernel
theorem dX11_worth_24 : decode cX11_worth 24 = .ok (.aload_n 0, 1) := by decide +kernel
theorem dX11_worth_25 : decode cX11_worth 25 = .ok (.getfield 39, 3) := by decide +kernel
theorem dX11_worth_28 : decode cX11_worth 28 = .ok (.iconst 0, 1) := by decide +kernel
theorem dX11_worth_29 : decode cX11_worth 29 = .ok (.invokestatic 235, 3) := by decide +kernel
theorem dX11_worth_32 : decode cX11_worth 32 = .ok (.iconst 0, 1) := by decide +kernel
theorem dX11_worth_33 : decode cX11_worth 33 = .ok (.istore 4, 2) := by decide +kernel
theorem dX11_worth_35 : decode cX11_worth 35 = .ok (.iload 4, 2) := by decide +kernel
theorem dX11_worth_37 : decode cX11_worth 37 = .ok (.bipush 9, 2) := by decide +kernel
theorem dX11_worth_39 : decode cX11_worth 39 = .ok (.if_icmp .gt 48, 3) := by decide +kernel
theorem dX11_worth_42 : decode cX11_worth 42 = .ok (.aload_n 0, 1) := by decide +kernel
theorem dX11_worth_43 : decode cX11_worth 43 = .ok (.getfield 39, 3) := by decide +kernel
theorem dX11_worth_46 : decode cX11_worth 46 = .ok (.iload_n 1, 1) := by decide +kernel
theorem dX11_worth_47 : decode cX11_worth 47 = .ok (.iload 4, 2) := by decide +kernel
theorem dX11_worth_49 : decode cX11_worth 49 = .ok (.iastore, 1) := by decide +kernel
theorem dX11_worth_50 : decode cX11_worth 50 = .ok (.aload_n 0, 1) := by decide +kernel
theorem dX11_worth_51 : decode cX11_worth 51 = .ok (.aload_n 0, 1) := by decide +kernel
theorem dX11_worth_52 : decode cX11_worth 52 = .ok (.getfield 39, 3) := by decide +kernel
theorem dX11_worth_55 : decode cX11_worth 55 = .ok (.iload_n 1, 1) := by decide +kernel
theorem dX11_worth_56 : decode cX11_worth 56 = .ok (.invokevirtual 216, 3) := by decide +kernel
theorem dX11_worth_59 : decode cX11_worth 59 = .ok (.ifCond .ne 6, 3) := by decide +kernel
theorem dX11_worth_62 : decode cX11_worth 62 = .ok (.goto 19, 3) := by decide +kernel
theorem dX11_worth_65 : decode cX11_worth 65 = .ok (.iload_n 2, 1) := by decide +kernel
theorem dX11_worth_66 : decode cX11_worth 66 = .ok (.bipush (-2), 2) := by decide +kernel
theorem dX11_worth_68 : decode cX11_worth 68 = .ok (.if_icmp .ne 8, 3) := by decide +kernel
theorem dX11_worth_71 : decode cX11_worth 71 = .ok (.iload 4, 2) := by decide +kernel
theorem dX11_worth_73 : decode cX11_worth 73 = .ok (.goto 4, 3) := by decide +kernel
theorem dX11_worth_76 : decode cX11_worth 76 = .ok (.iload_n 2, 1) := by decide +kernel
theorem dX11_worth_77 : decode cX11_worth 77 = .ok (.istore_n 2, 1) := by decide +kernel
theorem dX11_worth_78 : decode cX11_worth 78 = .ok (.iinc 3 1, 3) := by decide +kernel
theorem dX11_worth_81 : decode cX11_worth 81 = .ok (.iinc 4 1, 3) := by decide +kernel
theorem dX11_worth_84 : decode cX11_worth 84 = .ok (.goto (-49), 3) := by decide +kernel
theorem dX11_worth_87 : decode cX11_worth 87 = .ok (.iload_n 2, 1) := by decide +kernel
theorem dX11_worth_88 : decode cX11_worth 88 = .ok (.bipush (-2), 2) := by decide +kernel
theorem dX11_worth_90 : decode cX11_worth 90 = .ok (.if_icmp .ne 6, 3) := by decide +kernel
theorem dX11_worth_93 : decode cX11_worth 93 = .ok (.bipush (-2), 2) := by decide +kernel
theorem dX11_worth_95 : decode cX11_worth 95 = .ok (.ireturn, 1) := by decide +kernel
theorem dX11_worth_96 : decode cX11_worth 96 = .ok (.aload_n 0, 1) := by decide +kernel
theorem dX11_worth_97 : decode cX11_worth 97 = .ok (.iconst 0, 1) := by decide +kernel
theorem dX11_worth_98 : decode cX11_worth 98 = .ok (.putfield 89, 3) := by decide +kernel
theorem dX11_worth_101 : decode cX11_worth 101 = .ok (.aload_n 0, 1) := by decide +kernel
theorem dX11_worth_102 : decode cX11_worth 102 = .ok (.iload_n 3, 1) := by decide +kernel
theorem dX11_worth_103 : decode cX11_worth 103 = .ok (.i2l, 1) := by decide +kernel
theorem dX11_worth_104 : decode cX11_worth 104 = .ok (.invokevirtual 256, 3) := by decide +kernel
theorem dX11_worth_107 : decode cX11_worth 107 = .ok (.iload_n 2, 1) := by decide +kernel
theorem dX11_worth_108 : decode cX11_worth 108 = .ok (.ireturn, 1) := by decide +kernel
theorem dX11_spares_0 : decode cX11_spares 0 = .ok (.aload_n 0, 1) := by decide +kernel
theorem dX11_spares_1 : decode cX11_spares 1 = .ok (.iconst 0, 1) := by decide +kernel
theorem dX11_spares_2 : decode cX11_spares 2 = .ok (.putfield 85, 3) := by decide +kernel
theorem dX11_spares_5 : decode cX11_spares 5 = .ok (.aload_n 0, 1) := by decide +kernel
theorem dX11_spares_6 : decode cX11_spares 6 = .ok (.getfield 92, 3) := by decide +kernel
theorem dX11_spares_9 : decode cX11_spares 9 = .ok (.ifCond .ne 6, 3) := by decide +kernel
theorem dX11_spares_12 : decode cX11_spares 12 = .ok (.bipush (-2), 2) := by decide +kernel
theorem dX11_spares_14 : decode cX11_spares 14 = .ok (.ireturn, 1) := by decide +kernel
theorem dX11_spares_15 : decode cX11_spares 15 = .ok (.iconst (-1), 1) := by decide +kernel
theorem dX11_spares_16 : decode cX11_spares 16 = .ok (.istore_n 1, 1) := by decide +kernel
theorem dX11_spares_17 : decode cX11_spares 17 = .ok (.ldc_w 307, 3) := by decide +kernel
theorem dX11_spares_20 : decode cX11_spares 20 = .ok (.istore_n 2, 1) := by decide +kernel
theorem dX11_spares_21 : decode cX11_spares 21 = .ok (.iconst 0, 1) := by decide +kernel
theorem dX11_spares_22 : decode cX11_spares 22 = .ok (.istore_n 3, 1) := by decide +kernel
theorem dX11_spares_23 : decode cX11_spares 23 = .ok (.iload_n 3, 1) := by decide +kernel
theorem dX11_spares_24 : decode cX11_spares 24 = .ok (.aload_n 0, 1) := by decide +kernel
theorem dX11_spares_25 : decode cX11_spares 25 = .ok (.getfield 92, 3) := by decide +kernel
theorem dX11_spares_28 : decode cX11_spares 28 = .ok (.if_icmp .ge 62, 3) := by decide +kernel
theorem dX11_spares_31 : decode cX11_spares 31 = .ok (.aload_n 0, 1) := by decide +kernel
theorem dX11_spares_32 : decode cX11_spares 32 = .ok (.getfield 9, 3) := by decide +kernel
theorem dX11_spares_35 : decode cX11_spares 35 = .ok (.aload_n 0, 1) := by decide +kernel
theorem dX11_spares_36 : decode cX11_spares 36 = .ok (.getfield 39, 3) := by decide +kernel
theorem dX11_spares_39 : decode cX11_spares 39 = .ok (.iconst 0, 1) := by decide +kernel
theorem dX11_spares_40 : decode cX11_spares 40 = .ok (.invokestatic 235, 3) := by decide +kernel
theorem dX11_spares_43 : decode cX11_spares 43 = .ok (.aload_n 0, 1) := by decide +kernel
theorem dX11_spares_44 : decode cX11_spares 44 = .ok (.aload_n 0, 1) := by decide +kernel
theorem dX11_spares_45 : decode cX11_spares 45 = .ok (.getfield 39, 3) := by decide +kernel
theorem dX11_spares_48 : decode cX11_spares 48 = .ok (.iload_n 3, 1) := by decide +kernel
theorem dX11_spares_49 : decode cX11_spares 49 = .ok (.invokevirtual 275, 3) := by decide +kernel
theorem dX11_spares_52 : decode cX11_spares 52 = .ok (.aload_n 0, 1) := by decide +kernel
theorem dX11_spares_53 : decode cX11_spares 53 = .ok (.aload_n 0, 1) := by decide +kernel
theorem dX11_spares_54 : decode cX11_spares 54 = .ok (.getfield 39, 3) := by decide +kernel
theorem dX11_spares_57 : decode cX11_spares 57 = .ok (.aload_n 0, 1) := by decide +kernel
theorem dX11_spares_58 : decode cX11_spares 58 = .ok (.aload_n 0, 1) := by decide +kernel
theorem dX11_spares_59 : decode cX11_spares 59 = .ok (.getfield 39, 3) := by decide +kernel
theorem dX11_spares_62 : decode cX11_spares 62 = .ok (.invokevirtual 239, 3) := by decide +kernel
theorem dX11_spares_65 : decode cX11_spares 65 = .ok (.invokevirtual 243, 3) := by decide +kernel
theorem dX11_spares_68 : decode cX11_spares 68 = .ok (.istore 4, 2) := by decide +kernel
theorem dX11_spares_70 : decode cX11_spares 70 = .ok (.iload 4, 2) := by decide +kernel
theorem dX11_spares_72 : decode cX11_spares 72 = .ok (.iload_n 2, 1) := by decide +kernel
theorem dX11_spares_73 : decode cX11_spares 73 = .ok (.if_icmp .lt 6, 3) := by decide +kernel
theorem dX11_spares_76 : decode cX11_spares 76 = .ok (.goto 8, 3) := by decide +kernel
theorem dX11_spares_79 : decode cX11_spares 79 = .ok (.iload_n 3, 1) := by decide +kernel
theorem dX11_spares_80 : decode cX11_spares 80 = .ok (.istore_n 1, 1) := by decide +kernel
theorem dX11_spares_81 : decode cX11_spares 81 = .ok (.iload 4, 2) := by decide +kernel
theorem dX11_spares_83 : decode cX11_spares 83 = .ok (.istore_n 2, 1) := by decide +kernel
theorem dX11_spares_84 : decode cX11_spares 84 = .ok (.iinc 3 1, 3) := by decide +kernel
theorem dX11_spares_87 : decode cX11_spares 87 = .ok (.goto (-64), 3) := by decide +kernel
theorem dX11_spares_90 : decode cX11_spares 90 = .ok (.aload_n 0, 1) := by decide +kernel
theorem dX11_spares_91 : decode cX11_spares 91 = .ok (.iconst 0, 1) := by decide +kernel
theorem dX11_spares_92 : decode cX11_spares 92 = .ok (.putfield 89, 3) := by decide +kernel
theorem dX11_spares_95 : decode cX11_spares 95 = .ok (.aload_n 0, 1) := by decide +kernel
theorem dX11_spares_96 : decode cX11_spares 96 = .ok (.iload_n 2, 1) := by decide +kernel
theorem dX11_spares_97 : decode cX11_spares 97 = .ok (.i2l, 1) := by decide +kernel
theorem dX11_spares_98 : decode cX11_spares 98 = .ok (.invokevirtual 256, 3) := by decide +kernel
theorem dX11_spares_101 : decode cX11_spares 101 = .ok (.aload_n 0, 1) := by decide +kernel
theorem dX11_spares_102 : decode cX11_spares 102 = .ok (.aload_n 0, 1) := by decide +kernel
theorem dX11_spares_103 : decode cX11_spares 103 = .ok (.aload_n 0, 1) := by decide +kernel
theorem dX11_spares_104 : decode cX11_spares 104 = .ok (.getfield 9, 3) := by decide +kernel
theorem dX11_spares_107 : decode cX11_spares 107 = .ok (.aload_n 0, 1) := by decide +kernel
theorem dX11_spares_108 : decode cX11_spares 108 = .ok (.aload_n 0, 1) := by decide +kernel
theorem dX11_spares_109 : decode cX11_spares 109 = .ok (.getfield 9, 3) := by decide +kernel
theorem dX11_spares_112 : decode cX11_spares 112 = .ok (.invokevirtual 239, 3) := by decide +kernel
theorem dX11_spares_115 : decode cX11_spares 115 = .ok (.invokevirtual 243, 3) := by decide +kernel
theorem dX11_spares_118 : decode cX11_spares 118 = .ok (.i2l, 1) := by decide +kernel
theorem dX11_spares_119 : decode cX11_spares 119 = .ok (.invokevirtual 256, 3) := by decide +kernel
theorem dX11_spares_122 : decode cX11_spares 122 = .ok (.iload_n 1, 1) := by decide +kernel
theorem dX11_spares_123 : decode cX11_spares 123 = .ok (.ireturn, 1) := by decide +kernel
theorem dX11_layBest_0 : decode cX11_layBest 0 = .ok (.aload_n 0, 1) := by decide +kernel
theorem dX11_layBest_1 : decode cX11_layBest 1 = .ok (.iload_n 1, 1) := by decide +kernel
theorem dX11_layBest_2 : decode cX11_layBest 2 = .ok (.putfield 308, 3) := by decide +kernel
theorem dX11_layBest_5 : decode cX11_layBest 5 = .ok (.iconst 0, 1) := by decide +kernel
theorem dX11_layBest_6 : decode cX11_layBest 6 = .ok (.istore_n 2, 1) := by decide +kernel
theorem dX11_layBest_7 : decode cX11_layBest 7 = .ok (.iload_n 2, 1) := by decide +kernel
theorem dX11_layBest_8 : decode cX11_layBest 8 = .ok (.iload_n 1, 1) := by decide +kernel
theorem dX11_layBest_9 : decode cX11_layBest 9 = .ok (.if_icmp .ge 21, 3) := by decide +kernel
theorem dX11_layBest_12 : decode cX11_layBest 12 = .ok (.aload_n 0, 1) := by decide +kernel
theorem dX11_layBest_13 : decode cX11_layBest 13 = .ok (.getfield 54, 3) := by decide +kernel
theorem dX11_layBest_16 : decode cX11_layBest 16 = .ok (.iload_n 2, 1) := by decide +kernel
theorem dX11_layBest_17 : decode cX11_layBest 17 = .ok (.aload_n 0, 1) := by decide +kernel
theorem dX11_layBest_18 : decode cX11_layBest 18 = .ok (.getfield 51, 3) := by decide +kernel
theorem dX11_layBest_21 : decode cX11_layBest 21 = .ok (.iload_n 2, 1) := by decide +kernel
theorem dX11_layBest_22 : decode cX11_layBest 22 = .ok (.iaload, 1) := by decide +kernel
theorem dX11_layBest_23 : decode cX11_layBest 23 = .ok (.iastore, 1) := by decide +kernel
theorem dX11_layBest_24 : decode cX11_layBest 24 = .ok (.iinc 2 1, 3) := by decide +kernel
theorem dX11_layBest_27 : decode cX11_layBest 27 = .ok (.goto (-20), 3) := by decide +kernel
theorem dX11_layBest_30 : decode cX11_layBest 30 = .ok (.return_, 1) := by decide +kernel
theorem dX11_tellBest_0 : decode cX11_tellBest 0 = .ok (.aload_n 0, 1) := by decide +kernel
theorem dX11_tellBest_1 : decode cX11_tellBest 1 = .ok (.iconst 0, 1) := by decide +kernel
theorem dX11_tellBest_2 : decode cX11_tellBest 2 = .ok (.putfield 89, 3) := by decide +kernel
theorem dX11_tellBest_5 : decode cX11_tellBest 5 = .ok (.iconst 0, 1) := by decide +kernel
theorem dX11_tellBest_6 : decode cX11_tellBest 6 = .ok (.istore_n 1, 1) := by decide +kernel
theorem dX11_tellBest_7 : decode cX11_tellBest 7 = .ok (.iload_n 1, 1) := by decide +kernel
theorem dX11_tellBest_8 : decode cX11_tellBest 8 = .ok (.aload_n 0, 1) := by decide +kernel
theorem dX11_tellBest_9 : decode cX11_tellBest 9 = .ok (.getfield 308, 3) := by decide +kernel
theorem dX11_tellBest_12 : decode cX11_tellBest 12 = .ok (.if_icmp .ge 20, 3) := by decide +kernel
theorem dX11_tellBest_15 : decode cX11_tellBest 15 = .ok (.aload_n 0, 1) := by decide +kernel
theorem dX11_tellBest_16 : decode cX11_tellBest 16 = .ok (.aload_n 0, 1) := by decide +kernel
theorem dX11_tellBest_17 : decode cX11_tellBest 17 = .ok (.getfield 54, 3) := by decide +kernel
theorem dX11_tellBest_20 : decode cX11_tellBest 20 = .ok (.iload_n 1, 1) := by decide +kernel
theorem dX11_tellBest_21 : decode cX11_tellBest 21 = .ok (.iaload, 1) := by decide +kernel
theorem dX11_tellBest_22 : decode cX11_tellBest 22 = .ok (.i2l, 1) := by decide +kernel
theorem dX11_tellBest_23 : decode cX11_tellBest 23 = .ok (.invokevirtual 256, 3) := by decide +kernel
theorem dX11_tellBest_26 : decode cX11_tellBest 26 = .ok (.iinc 1 1, 3) := by decide +kernel
theorem dX11_tellBest_29 : decode cX11_tellBest 29 = .ok (.goto (-22), 3) := by decide +kernel
theorem dX11_tellBest_32 : decode cX11_tellBest 32 = .ok (.aload_n 0, 1) := by decide +kernel
theorem dX11_tellBest_33 : decode cX11_tellBest 33 = .ok (.getfield 308, 3) := by decide +kernel
theorem dX11_tellBest_36 : decode cX11_tellBest 36 = .ok (.ireturn, 1) := by decide +kernel
theorem dX11_goRow_0 : decode cX11_goRow 0 = .ok (.iload_n 1, 1) := by decide +kernel
theorem dX11_goRow_1 : decode cX11_goRow 1 = .ok (.aload_n 0, 1) := by decide +kernel
theorem dX11_goRow_2 : decode cX11_goRow 2 = .ok (.getfield 308, 3) := by decide +kernel
theorem dX11_goRow_5 : decode cX11_goRow 5 = .ok (.if_icmp .le 8, 3) := by decide +kernel
theorem dX11_goRow_8 : decode cX11_goRow 8 = .ok (.aload_n 0, 1) := by decide +kernel
theorem dX11_goRow_9 : decode cX11_goRow 9 = .ok (.iload_n 1, 1) := by decide +kernel
theorem dX11_goRow_10 : decode cX11_goRow 10 = .ok (.invokevirtual 311, 3) := by decide +kernel
theorem dX11_goRow_13 : decode cX11_goRow 13 = .ok (.iconst 0, 1) := by decide +kernel
theorem dX11_goRow_14 : decode cX11_goRow 14 = .ok (.istore_n 3, 1) := by decide +kernel
theorem dX11_goRow_15 : decode cX11_goRow 15 = .ok (.iload_n 3, 1) := by decide +kernel
theorem dX11_goRow_16 : decode cX11_goRow 16 = .ok (.aload_n 0, 1) := by decide +kernel
theorem dX11_goRow_17 : decode cX11_goRow 17 = .ok (.getfield 92, 3) := by decide +kernel
theorem dX11_goRow_20 : decode cX11_goRow 20 = .ok (.if_icmp .ge 62, 3) := by decide +kernel
theorem dX11_goRow_23 : decode cX11_goRow 23 = .ok (.iload_n 2, 1) := by decide +kernel
theorem dX11_goRow_24 : decode cX11_goRow 24 = .ok (.iload_n 3, 1) := by decide +kernel
theorem dX11_goRow_25 : decode cX11_goRow 25 = .ok (.invokestatic 196, 3) := by decide +kernel
theorem dX11_goRow_28 : decode cX11_goRow 28 = .ok (.ifCond .ne 48, 3) := by decide +kernel
theorem dX11_goRow_31 : decode cX11_goRow 31 = .ok (.aload_n 0, 1) := by decide +kernel
theorem dX11_goRow_32 : decode cX11_goRow 32 = .ok (.getfield 9, 3) := by decide +kernel
theorem dX11_goRow_35 : decode cX11_goRow 35 = .ok (.bipush 28, 2) := by decide +kernel
theorem dX11_goRow_37 : decode cX11_goRow 37 = .ok (.aload_n 0, 1) := by decide +kernel
theorem dX11_goRow_38 : decode cX11_goRow 38 = .ok (.getfield 51, 3) := by decide +kernel
theorem dX11_goRow_41 : decode cX11_goRow 41 = .ok (.iload_n 1, 1) := by decide +kernel
theorem dX11_goRow_42 : decode cX11_goRow 42 = .ok (.iconst 1, 1) := by decide +kernel
theorem dX11_goRow_43 : decode cX11_goRow 43 = .ok (.isub, 1) := by decide +kernel
theorem dX11_goRow_44 : decode cX11_goRow 44 = .ok (.iaload, 1) := by decide +kernel
theorem dX11_goRow_45 : decode cX11_goRow 45 = .ok (.iadd, 1) := by decide +kernel
theorem dX11_goRow_46 : decode cX11_goRow 46 = .ok (.iaload, 1) := by decide +kernel
theorem dX11_goRow_47 : decode cX11_goRow 47 = .ok (.iload_n 3, 1) := by decide +kernel
theorem dX11_goRow_48 : decode cX11_goRow 48 = .ok (.invokestatic 196, 3) := by decide +kernel
theorem dX11_goRow_51 : decode cX11_goRow 51 = .ok (.ifCond .ne 6, 3) := by decide +kernel
theorem dX11_goRow_54 : decode cX11_goRow 54 = .ok (.goto 22, 3) := by decide +kernel
theorem dX11_goRow_57 : decode cX11_goRow 57 = .ok (.aload_n 0, 1) := by decide +kernel
theorem dX11_goRow_58 : decode cX11_goRow 58 = .ok (.getfield 51, 3) := by decide +kernel
theorem dX11_goRow_61 : decode cX11_goRow 61 = .ok (.iload_n 1, 1) := by decide +kernel
theorem dX11_goRow_62 : decode cX11_goRow 62 = .ok (.iload_n 3, 1) := by decide +kernel
theorem dX11_goRow_63 : decode cX11_goRow 63 = .ok (.iastore, 1) := by decide +kernel
theorem dX11_goRow_64 : decode cX11_goRow 64 = .ok (.aload_n 0, 1) := by decide +kernel
theorem dX11_goRow_65 : decode cX11_goRow 65 = .ok (.iload_n 1, 1) := by decide +kernel
theorem dX11_goRow_66 : decode cX11_goRow 66 = .ok (.iconst 1, 1) := by decide +kernel
theorem dX11_goRow_67 : decode cX11_goRow 67 = .ok (.iadd, 1) := by decide +kernel
theorem dX11_goRow_68 : decode cX11_goRow 68 = .ok (.iload_n 2, 1) := by decide +kernel
theorem dX11_goRow_69 : decode cX11_goRow 69 = .ok (.iconst 1, 1) := by decide +kernel
theorem dX11_goRow_70 : decode cX11_goRow 70 = .ok (.iload_n 3, 1) := by decide +kernel
theorem dX11_goRow_71 : decode cX11_goRow 71 = .ok (.ishl, 1) := by decide +kernel
theorem dX11_goRow_72 : decode cX11_goRow 72 = .ok (.ior, 1) := by decide +kernel
theorem dX11_goRow_73 : decode cX11_goRow 73 = .ok (.invokevirtual 314, 3) := by decide +kernel
theorem dX11_goRow_76 : decode cX11_goRow 76 = .ok (.iinc 3 1, 3) := by decide +kernel
theorem dX11_goRow_79 : decode cX11_goRow 79 = .ok (.goto (-64), 3) := by decide +kernel
theorem dX11_goRow_82 : decode cX11_goRow 82 = .ok (.return_, 1) := by decide +kernel
theorem dX11_follows_0 : decode cX11_follows 0 = .ok (.aload_n 0, 1) := by decide +kernel
theorem dX11_follows_1 : decode cX11_follows 1 = .ok (.iconst 0, 1) := by decide +kernel
theorem dX11_follows_2 : decode cX11_follows 2 = .ok (.putfield 85, 3) := by decide +kernel
theorem dX11_follows_5 : decode cX11_follows 5 = .ok (.aload_n 0, 1) := by decide +kernel
theorem dX11_follows_6 : decode cX11_follows 6 = .ok (.iload_n 1, 1) := by decide +kernel
theorem dX11_follows_7 : decode cX11_follows 7 = .ok (.invokevirtual 99, 3) := by decide +kernel
theorem dX11_follows_10 : decode cX11_follows 10 = .ok (.ifCond .ne 5, 3) := by decide +kernel
theorem dX11_follows_13 : decode cX11_follows 13 = .ok (.iconst (-1), 1) := by decide +kernel
theorem dX11_follows_14 : decode cX11_follows 14 = .ok (.ireturn, 1) := by decide +kernel
theorem dX11_follows_15 : decode cX11_follows 15 = .ok (.aload_n 0, 1) := by decide +kernel
theorem dX11_follows_16 : decode cX11_follows 16 = .ok (.iconst 0, 1) := by decide +kernel
theorem dX11_follows_17 : decode cX11_follows 17 = .ok (.putfield 308, 3) := by decide +kernel
theorem dX11_follows_20 : decode cX11_follows 20 = .ok (.aload_n 0, 1) := by decide +kernel
theorem dX11_follows_21 : decode cX11_follows 21 = .ok (.getfield 51, 3) := by decide +kernel
theorem dX11_follows_24 : decode cX11_follows 24 = .ok (.iconst 0, 1) := by decide +kernel
theorem dX11_follows_25 : decode cX11_follows 25 = .ok (.iload_n 1, 1) := by decide +kernel
theorem dX11_follows_26 : decode cX11_follows 26 = .ok (.iastore, 1) := by decide +kernel
theorem dX11_follows_27 : decode cX11_follows 27 = .ok (.aload_n 0, 1) := by decide +kernel
theorem dX11_follows_28 : decode cX11_follows 28 = .ok (.iconst 1, 1) := by decide +kernel
theorem dX11_follows_29 : decode cX11_follows 29 = .ok (.iconst 1, 1) := by decide +kernel
theorem dX11_follows_30 : decode cX11_follows 30 = .ok (.iload_n 1, 1) := by decide +kernel
theorem dX11_follows_31 : decode cX11_follows 31 = .ok (.ishl, 1) := by decide +kernel
theorem dX11_follows_32 : decode cX11_follows 32 = .ok (.invokevirtual 314, 3) := by decide +kernel
theorem dX11_follows_35 : decode cX11_follows 35 = .ok (.aload_n 0, 1) := by decide +kernel
theorem dX11_follows_36 : decode cX11_follows 36 = .ok (.invokevirtual 317, 3) := by decide +kernel
theorem dX11_follows_39 : decode cX11_follows 39 = .ok (.ireturn, 1) := by decide +kernel
theorem dX11_goRing_0 : decode cX11_goRing 0 = .ok (.iload_n 1, 1) := by decide +kernel
theorem dX11_goRing_1 : decode cX11_goRing 1 = .ok (.iconst 1, 1) := by decide +kernel
theorem dX11_goRing_2 : decode cX11_goRing 2 = .ok (.if_icmp .le 44, 3) := by decide +kernel
theorem dX11_goRing_5 : decode cX11_goRing 5 = .ok (.iload_n 1, 1) := by decide +kernel
theorem dX11_goRing_6 : decode cX11_goRing 6 = .ok (.aload_n 0, 1) := by decide +kernel
theorem dX11_goRing_7 : decode cX11_goRing 7 = .ok (.getfield 308, 3) := by decide +kernel
theorem dX11_goRing_10 : decode cX11_goRing 10 = .ok (.if_icmp .ge 36, 3) := by decide +kernel
theorem dX11_goRing_13 : decode cX11_goRing 13 = .ok (.aload_n 0, 1) := by decide +kernel
theorem dX11_goRing_14 : decode cX11_goRing 14 = .ok (.getfield 9, 3) := by decide +kernel
theorem dX11_goRing_17 : decode cX11_goRing 17 = .ok (.bipush 28, 2) := by decide +kernel
theorem dX11_goRing_19 : decode cX11_goRing 19 = .ok (.aload_n 0, 1) := by decide +kernel
theorem dX11_goRing_20 : decode cX11_goRing 20 = .ok (.getfield 51, 3) := by decide +kernel
theorem dX11_goRing_23 : decode cX11_goRing 23 = .ok (.iload_n 1, 1) := by decide +kernel
theorem dX11_goRing_24 : decode cX11_goRing 24 = .ok (.iconst 1, 1) := by decide +kernel
theorem dX11_goRing_25 : decode cX11_goRing 25 = .ok (.isub, 1) := by decide +kernel
theorem dX11_goRing_26 : decode cX11_goRing 26 = .ok (.iaload, 1) := by decide +kernel
theorem dX11_goRing_27 : decode cX11_goRing 27 = .ok (.iadd, 1) := by decide +kernel
theorem dX11_goRing_28 : decode cX11_goRing 28 = .ok (.iaload, 1) := by decide +kernel
theorem dX11_goRing_29 : decode cX11_goRing 29 = .ok (.aload_n 0, 1) := by decide +kernel
theorem dX11_goRing_30 : decode cX11_goRing 30 = .ok (.getfield 51, 3) := by decide +kernel
theorem dX11_goRing_33 : decode cX11_goRing 33 = .ok (.iconst 0, 1) := by decide +kernel
theorem dX11_goRing_34 : decode cX11_goRing 34 = .ok (.iaload, 1) := by decide +kernel
theorem dX11_goRing_35 : decode cX11_goRing 35 = .ok (.invokestatic 196, 3) := by decide +kernel
theorem dX11_goRing_38 : decode cX11_goRing 38 = .ok (.ifCond .eq 8, 3) := by decide +kernel
theorem dX11_goRing_41 : decode cX11_goRing 41 = .ok (.aload_n 0, 1) := by decide +kernel
theorem dX11_goRing_42 : decode cX11_goRing 42 = .ok (.iload_n 1, 1) := by decide +kernel
theorem dX11_goRing_43 : decode cX11_goRing 43 = .ok (.invokevirtual 311, 3) := by decide +kernel
theorem dX11_goRing_46 : decode cX11_goRing 46 = .ok (.aload_n 0, 1) := by decide +kernel
theorem dX11_goRing_47 : decode cX11_goRing 47 = .ok (.getfield 51, 3) := by decide +kernel
theorem dX11_goRing_50 : decode cX11_goRing 50 = .ok (.iconst 0, 1) := by decide +kernel
theorem dX11_goRing_51 : decode cX11_goRing 51 = .ok (.iaload, 1) := by decide +kernel
theorem dX11_goRing_52 : decode cX11_goRing 52 = .ok (.iconst 1, 1) := by decide +kernel
theorem dX11_goRing_53 : decode cX11_goRing 53 = .ok (.iadd, 1) := by decide +kernel
theorem dX11_goRing_54 : decode cX11_goRing 54 = .ok (.istore_n 3, 1) := by decide +kernel
theorem dX11_goRing_55 : decode cX11_goRing 55 = .ok (.iload_n 3, 1) := by decide +kernel
theorem dX11_goRing_56 : decode cX11_goRing 56 = .ok (.aload_n 0, 1) := by decide +kernel
theorem dX11_goRing_57 : decode cX11_goRing 57 = .ok (.getfield 92, 3) := by decide +kernel
theorem dX11_goRing_60 : decode cX11_goRing 60 = .ok (.if_icmp .ge 62, 3) := by decide +kernel
theorem dX11_goRing_63 : decode cX11_goRing 63 = .ok (.iload_n 2, 1) := by decide +kernel
theorem dX11_goRing_64 : decode cX11_goRing 64 = .ok (.iload_n 3, 1) := by decide +kernel
theorem dX11_goRing_65 : decode cX11_goRing 65 = .ok (.invokestatic 196, 3) := by decide +kernel
theorem dX11_goRing_68 : decode cX11_goRing 68 = .ok (.ifCond .ne 48, 3) := by decide +kernel
theorem dX11_goRing_71 : decode cX11_goRing 71 = .ok (.aload_n 0, 1) := by decide +kernel
theorem dX11_goRing_72 : decode cX11_goRing 72 = .ok (.getfield 9, 3) := by decide +kernel
theorem dX11_goRing_75 : decode cX11_goRing 75 = .ok (.bipush 28, 2) := by decide +kernel
theorem dX11_goRing_77 : decode cX11_goRing 77 = .ok (.aload_n 0, 1) := by decide +kernel
theorem dX11_goRing_78 : decode cX11_goRing 78 = .ok (.getfield 51, 3) := by decide +kernel
theorem dX11_goRing_81 : decode cX11_goRing 81 = .ok (.iload_n 1, 1) := by decide +kernel
theorem dX11_goRing_82 : decode cX11_goRing 82 = .ok (.iconst 1, 1) := by decide +kernel
theorem dX11_goRing_83 : decode cX11_goRing 83 = .ok (.isub, 1) := by decide +kernel
theorem dX11_goRing_84 : decode cX11_goRing 84 = .ok (.iaload, 1) := by decide +kernel
theorem dX11_goRing_85 : decode cX11_goRing 85 = .ok (.iadd, 1) := by decide +kernel
theorem dX11_goRing_86 : decode cX11_goRing 86 = .ok (.iaload, 1) := by decide +kernel
theorem dX11_goRing_87 : decode cX11_goRing 87 = .ok (.iload_n 3, 1) := by decide +kernel
theorem dX11_goRing_88 : decode cX11_goRing 88 = .ok (.invokestatic 196, 3) := by decide +kernel
theorem dX11_goRing_91 : decode cX11_goRing 91 = .ok (.ifCond .ne 6, 3) := by decide +kernel
theorem dX11_goRing_94 : decode cX11_goRing 94 = .ok (.goto 22, 3) := by decide +kernel
theorem dX11_goRing_97 : decode cX11_goRing 97 = .ok (.aload_n 0, 1) := by decide +kernel
theorem dX11_goRing_98 : decode cX11_goRing 98 = .ok (.getfield 51, 3) := by decide +kernel
theorem dX11_goRing_101 : decode cX11_goRing 101 = .ok (.iload_n 1, 1) := by decide +kernel
theorem dX11_goRing_102 : decode cX11_goRing 102 = .ok (.iload_n 3, 1) := by decide +kernel
theorem dX11_goRing_103 : decode cX11_goRing 103 = .ok (.iastore, 1) := by decide +kernel
theorem dX11_goRing_104 : decode cX11_goRing 104 = .ok (.aload_n 0, 1) := by decide +kernel
theorem dX11_goRing_105 : decode cX11_goRing 105 = .ok (.iload_n 1, 1) := by decide +kernel
theorem dX11_goRing_106 : decode cX11_goRing 106 = .ok (.iconst 1, 1) := by decide +kernel
theorem dX11_goRing_107 : decode cX11_goRing 107 = .ok (.iadd, 1) := by decide +kernel
theorem dX11_goRing_108 : decode cX11_goRing 108 = .ok (.iload_n 2, 1) := by decide +kernel
theorem dX11_goRing_109 : decode cX11_goRing 109 = .ok (.iconst 1, 1) := by decide +kernel
theorem dX11_goRing_110 : decode cX11_goRing 110 = .ok (.iload_n 3, 1) := by decide +kernel
theorem dX11_goRing_111 : decode cX11_goRing 111 = .ok (.ishl, 1) := by decide +kernel
theorem dX11_goRing_112 : decode cX11_goRing 112 = .ok (.ior, 1) := by decide +kernel
theorem dX11_goRing_113 : decode cX11_goRing 113 = .ok (.invokevirtual 320, 3) := by decide +kernel
theorem dX11_goRing_116 : decode cX11_goRing 116 = .ok (.iinc 3 1, 3) := by decide +kernel
theorem dX11_goRing_119 : decode cX11_goRing 119 = .ok (.goto (-64), 3) := by decide +kernel
theorem dX11_goRing_122 : decode cX11_goRing 122 = .ok (.return_, 1) := by decide +kernel
theorem dX11_ring_0 : decode cX11_ring 0 = .ok (.aload_n 0, 1) := by decide +kernel
theorem dX11_ring_1 : decode cX11_ring 1 = .ok (.iconst 0, 1) := by decide +kernel
theorem dX11_ring_2 : decode cX11_ring 2 = .ok (.putfield 85, 3) := by decide +kernel
theorem dX11_ring_5 : decode cX11_ring 5 = .ok (.aload_n 0, 1) := by decide +kernel
theorem dX11_ring_6 : decode cX11_ring 6 = .ok (.ldc_w 307, 3) := by decide +kernel
theorem dX11_ring_9 : decode cX11_ring 9 = .ok (.putfield 308, 3) := by decide +kernel
theorem dX11_ring_12 : decode cX11_ring 12 = .ok (.iconst 0, 1) := by decide +kernel
theorem dX11_ring_13 : decode cX11_ring 13 = .ok (.istore_n 1, 1) := by decide +kernel
theorem dX11_ring_14 : decode cX11_ring 14 = .ok (.iload_n 1, 1) := by decide +kernel
theorem dX11_ring_15 : decode cX11_ring 15 = .ok (.aload_n 0, 1) := by decide +kernel
theorem dX11_ring_16 : decode cX11_ring 16 = .ok (.getfield 92, 3) := by decide +kernel
theorem dX11_ring_19 : decode cX11_ring 19 = .ok (.if_icmp .ge 24, 3) := by decide +kernel
theorem dX11_ring_22 : decode cX11_ring 22 = .ok (.aload_n 0, 1) := by decide +kernel
theorem dX11_ring_23 : decode cX11_ring 23 = .ok (.getfield 51, 3) := by decide +kernel
theorem dX11_ring_26 : decode cX11_ring 26 = .ok (.iconst 0, 1) := by decide +kernel
theorem dX11_ring_27 : decode cX11_ring 27 = .ok (.iload_n 1, 1) := by decide +kernel
theorem dX11_ring_28 : decode cX11_ring 28 = .ok (.iastore, 1) := by decide +kernel
theorem dX11_ring_29 : decode cX11_ring 29 = .ok (.aload_n 0, 1) := by decide +kernel
theorem dX11_ring_30 : decode cX11_ring 30 = .ok (.iconst 1, 1) := by decide +kernel
theorem dX11_ring_31 : decode cX11_ring 31 = .ok (.iconst 1, 1) := by decide +kernel
theorem dX11_ring_32 : decode cX11_ring 32 = .ok (.iload_n 1, 1) := by decide +kernel
theorem dX11_ring_33 : decode cX11_ring 33 = .ok (.ishl, 1) := by decide +kernel
theorem dX11_ring_34 : decode cX11_ring 34 = .ok (.invokevirtual 320, 3) := by decide +kernel
theorem dX11_ring_37 : decode cX11_ring 37 = .ok (.iinc 1 1, 3) := by decide +kernel
theorem dX11_ring_40 : decode cX11_ring 40 = .ok (.goto (-26), 3) := by decide +kernel
theorem dX11_ring_43 : decode cX11_ring 43 = .ok (.aload_n 0, 1) := by decide +kernel
theorem dX11_ring_44 : decode cX11_ring 44 = .ok (.getfield 308, 3) := by decide +kernel
theorem dX11_ring_47 : decode cX11_ring 47 = .ok (.ldc_w 307, 3) := by decide +kernel
theorem dX11_ring_50 : decode cX11_ring 50 = .ok (.if_icmp .ne 8, 3) := by decide +kernel
theorem dX11_ring_53 : decode cX11_ring 53 = .ok (.bipush (-2), 2) := by decide +kernel
theorem dX11_ring_55 : decode cX11_ring 55 = .ok (.goto 7, 3) := by decide +kernel
theorem dX11_ring_58 : decode cX11_ring 58 = .ok (.aload_n 0, 1) := by decide +kernel
theorem dX11_ring_59 : decode cX11_ring 59 = .ok (.invokevirtual 317, 3) := by decide +kernel
theorem dX11_ring_62 : decode cX11_ring 62 = .ok (.ireturn, 1) := by decide +kernel
theorem dX11_areFriends_0 : decode cX11_areFriends 0 = .ok (.iconst 0, 1) := by decide +kernel
theorem dX11_areFriends_1 : decode cX11_areFriends 1 = .ok (.istore_n 2, 1) := by decide +kernel
theorem dX11_areFriends_2 : decode cX11_areFriends 2 = .ok (.iload_n 2, 1) := by decide +kernel
theorem dX11_areFriends_3 : decode cX11_areFriends 3 = .ok (.aload_n 0, 1) := by decide +kernel
theorem dX11_areFriends_4 : decode cX11_areFriends 4 = .ok (.getfield 92, 3) := by decide +kernel
theorem dX11_areFriends_7 : decode cX11_areFriends 7 = .ok (.if_icmp .ge 39, 3) := by decide +kernel
theorem dX11_areFriends_10 : decode cX11_areFriends 10 = .ok (.iload_n 1, 1) := by decide +kernel
theorem dX11_areFriends_11 : decode cX11_areFriends 11 = .ok (.iload_n 2, 1) := by decide +kernel
theorem dX11_areFriends_12 : decode cX11_areFriends 12 = .ok (.invokestatic 196, 3) := by decide +kernel
theorem dX11_areFriends_15 : decode cX11_areFriends 15 = .ok (.ifCond .eq 25, 3) := by decide +kernel
theorem dX11_areFriends_18 : decode cX11_areFriends 18 = .ok (.iload_n 1, 1) := by decide +kernel
theorem dX11_areFriends_19 : decode cX11_areFriends 19 = .ok (.aload_n 0, 1) := by decide +kernel
theorem dX11_areFriends_20 : decode cX11_areFriends 20 = .ok (.getfield 9, 3) := by decide +kernel
theorem dX11_areFriends_23 : decode cX11_areFriends 23 = .ok (.bipush 28, 2) := by decide +kernel
theorem dX11_areFriends_25 : decode cX11_areFriends 25 = .ok (.iload_n 2, 1) := by decide +kernel
theorem dX11_areFriends_26 : decode cX11_areFriends 26 = .ok (.iadd, 1) := by decide +kernel
theorem dX11_areFriends_27 : decode cX11_areFriends 27 = .ok (.iaload, 1) := by decide +kernel
theorem dX11_areFriends_28 : decode cX11_areFriends 28 = .ok (.iconst 1, 1) := by decide +kernel
theorem dX11_areFriends_29 : decode cX11_areFriends 29 = .ok (.iload_n 2, 1) := by decide +kernel
theorem dX11_areFriends_30 : decode cX11_areFriends 30 = .ok (.ishl, 1) := by decide +kernel
theorem dX11_areFriends_31 : decode cX11_areFriends 31 = .ok (.ior, 1) := by decide +kernel
theorem dX11_areFriends_32 : decode cX11_areFriends 32 = .ok (.iconst (-1), 1) := by decide +kernel
theorem dX11_areFriends_33 : decode cX11_areFriends 33 = .ok (.ixor, 1) := by decide +kernel
theorem dX11_areFriends_34 : decode cX11_areFriends 34 = .ok (.iand, 1) := by decide +kernel
theorem dX11_areFriends_35 : decode cX11_areFriends 35 = .ok (.ifCond .eq 5, 3) := by decide +kernel
theorem dX11_areFriends_38 : decode cX11_areFriends 38 = .ok (.iconst 0, 1) := by decide +kernel
theorem dX11_areFriends_39 : decode cX11_areFriends 39 = .ok (.ireturn, 1) := by decide +kernel
theorem dX11_areFriends_40 : decode cX11_areFriends 40 = .ok (.iinc 2 1, 3) := by decide +kernel
theorem dX11_areFriends_43 : decode cX11_areFriends 43 = .ok (.goto (-41), 3) := by decide +kernel
theorem dX11_areFriends_46 : decode cX11_areFriends 46 = .ok (.iconst 1, 1) := by decide +kernel
theorem dX11_areFriends_47 : decode cX11_areFriends 47 = .ok (.ireturn, 1) := by decide +kernel
theorem dX11_friends_0 : decode cX11_friends 0 = .ok (.aload_n 0, 1) := by decide +kernel
theorem dX11_friends_1 : decode cX11_friends 1 = .ok (.iconst 0, 1) := by decide +kernel
theorem dX11_friends_2 : decode cX11_friends 2 = .ok (.putfield 85, 3) := by decide +kernel
theorem dX11_friends_5 : decode cX11_friends 5 = .ok (.iconst 0, 1) := by decide +kernel
theorem dX11_friends_6 : decode cX11_friends 6 = .ok (.istore_n 1, 1) := by decide +kernel
theorem dX11_friends_7 : decode cX11_friends 7 = .ok (.iconst 0, 1) := by decide +kernel
theorem dX11_friends_8 : decode cX11_friends 8 = .ok (.istore_n 2, 1) := by decide +kernel
theorem dX11_friends_9 : decode cX11_friends 9 = .ok (.iconst 0, 1) := by decide +kernel
theorem dX11_friends_10 : decode cX11_friends 10 = .ok (.istore_n 3, 1) := by decide +kernel
theorem dX11_friends_11 : decode cX11_friends 11 = .ok (.iload_n 3, 1) := by decide +kernel
theorem dX11_friends_12 : decode cX11_friends 12 = .ok (.aload_n 0, 1) := by decide +kernel
theorem dX11_friends_13 : decode cX11_friends 13 = .ok (.invokevirtual 285, 3) := by decide +kernel
theorem dX11_friends_16 : decode cX11_friends 16 = .ok (.if_icmp .gt 64, 3) := by decide +kernel
theorem dX11_friends_19 : decode cX11_friends 19 = .ok (.aload_n 0, 1) := by decide +kernel
theorem dX11_friends_20 : decode cX11_friends 20 = .ok (.iload_n 3, 1) := by decide +kernel
theorem dX11_friends_21 : decode cX11_friends 21 = .ok (.invokevirtual 323, 3) := by decide +kernel
theorem dX11_friends_24 : decode cX11_friends 24 = .ok (.ifCond .ne 6, 3) := by decide +kernel
theorem dX11_friends_27 : decode cX11_friends 27 = .ok (.goto 47, 3) := by decide +kernel
theorem dX11_friends_30 : decode cX11_friends 30 = .ok (.iload_n 3, 1) := by decide +kernel
theorem dX11_friends_31 : decode cX11_friends 31 = .ok (.invokestatic 204, 3) := by decide +kernel
theorem dX11_friends_34 : decode cX11_friends 34 = .ok (.iload_n 1, 1) := by decide +kernel
theorem dX11_friends_35 : decode cX11_friends 35 = .ok (.invokestatic 204, 3) := by decide +kernel
theorem dX11_friends_38 : decode cX11_friends 38 = .ok (.isub, 1) := by decide +kernel
theorem dX11_friends_39 : decode cX11_friends 39 = .ok (.istore 4, 2) := by decide +kernel
theorem dX11_friends_41 : decode cX11_friends 41 = .ok (.iload 4, 2) := by decide +kernel
theorem dX11_friends_43 : decode cX11_friends 43 = .ok (.ifCond .le 7, 3) := by decide +kernel
theorem dX11_friends_46 : decode cX11_friends 46 = .ok (.iconst 1, 1) := by decide +kernel
theorem dX11_friends_47 : decode cX11_friends 47 = .ok (.goto 15, 3) := by decide +kernel
theorem dX11_friends_50 : decode cX11_friends 50 = .ok (.iload 4, 2) := by decide +kernel
theorem dX11_friends_52 : decode cX11_friends 52 = .ok (.ifCond .ne 9, 3) := by decide +kernel
theorem dX11_friends_55 : decode cX11_friends 55 = .ok (.iload_n 2, 1) := by decide +kernel
theorem dX11_friends_56 : decode cX11_friends 56 = .ok (.iconst 1, 1) := by decide +kernel
theorem dX11_friends_57 : decode cX11_friends 57 = .ok (.iadd, 1) := by decide +kernel
theorem dX11_friends_58 : decode cX11_friends 58 = .ok (.goto 4, 3) := by decide +kernel
theorem dX11_friends_61 : decode cX11_friends 61 = .ok (.iload_n 2, 1) := by decide +kernel
theorem dX11_friends_62 : decode cX11_friends 62 = .ok (.istore_n 2, 1) := by decide +kernel
theorem dX11_friends_63 : decode cX11_friends 63 = .ok (.iload 4, 2) := by decide +kernel
theorem dX11_friends_65 : decode cX11_friends 65 = .ok (.ifCond .le 7, 3) := by decide +kernel
theorem dX11_friends_68 : decode cX11_friends 68 = .ok (.iload_n 3, 1) := by decide +kernel
theorem dX11_friends_69 : decode cX11_friends 69 = .ok (.goto 4, 3) := by decide +kernel
theorem dX11_friends_72 : decode cX11_friends 72 = .ok (.iload_n 1, 1) := by decide +kernel
theorem dX11_friends_73 : decode cX11_friends 73 = .ok (.istore_n 1, 1) := by decide +kernel
theorem dX11_friends_74 : decode cX11_friends 74 = .ok (.iinc 3 1, 3) := by decide +kernel
theorem dX11_friends_77 : decode cX11_friends 77 = .ok (.goto (-66), 3) := by decide +kernel
theorem dX11_friends_80 : decode cX11_friends 80 = .ok (.aload_n 0, 1) := by decide +kernel
theorem dX11_friends_81 : decode cX11_friends 81 = .ok (.iconst 0, 1) := by decide +kernel
theorem dX11_friends_82 : decode cX11_friends 82 = .ok (.putfield 89, 3) := by decide +kernel
theorem dX11_friends_85 : decode cX11_friends 85 = .ok (.aload_n 0, 1) := by decide +kernel
theorem dX11_friends_86 : decode cX11_friends 86 = .ok (.iload_n 1, 1) := by decide +kernel
theorem dX11_friends_87 : decode cX11_friends 87 = .ok (.i2l, 1) := by decide +kernel
theorem dX11_friends_88 : decode cX11_friends 88 = .ok (.invokevirtual 256, 3) := by decide +kernel
theorem dX11_friends_91 : decode cX11_friends 91 = .ok (.aload_n 0, 1) := by decide +kernel
theorem dX11_friends_92 : decode cX11_friends 92 = .ok (.iload_n 2, 1) := by decide +kernel
theorem dX11_friends_93 : decode cX11_friends 93 = .ok (.i2l, 1) := by decide +kernel
theorem dX11_friends_94 : decode cX11_friends 94 = .ok (.invokevirtual 256, 3) := by decide +kernel
theorem dX11_friends_97 : decode cX11_friends 97 = .ok (.iload_n 1, 1) := by decide +kernel
theorem dX11_friends_98 : decode cX11_friends 98 = .ok (.invokestatic 204, 3) := by decide +kernel
theorem dX11_friends_101 : decode cX11_friends 101 = .ok (.ireturn, 1) := by decide +kernel
theorem dX11_way_0 : decode cX11_way 0 = .ok (.aload_n 0, 1) := by decide +kernel
theorem dX11_way_1 : decode cX11_way 1 = .ok (.iconst 0, 1) := by decide +kernel
theorem dX11_way_2 : decode cX11_way 2 = .ok (.putfield 85, 3) := by decide +kernel
theorem dX11_way_5 : decode cX11_way 5 = .ok (.aload_n 0, 1) := by decide +kernel
theorem dX11_way_6 : decode cX11_way 6 = .ok (.iload_n 1, 1) := by decide +kernel
theorem dX11_way_7 : decode cX11_way 7 = .ok (.invokevirtual 99, 3) := by decide +kernel
theorem dX11_way_10 : decode cX11_way 10 = .ok (.ifCond .eq 11, 3) := by decide +kernel
theorem dX11_way_13 : decode cX11_way 13 = .ok (.aload_n 0, 1) := by decide +kernel
theorem dX11_way_14 : decode cX11_way 14 = .ok (.iload_n 2, 1) := by decide +kernel
theorem dX11_way_15 : decode cX11_way 15 = .ok (.invokevirtual 99, 3) := by decide +kernel
theorem dX11_way_18 : decode cX11_way 18 = .ok (.ifCond .ne 5, 3) := by decide +kernel
theorem dX11_way_21 : decode cX11_way 21 = .ok (.iconst (-1), 1) := by decide +kernel
theorem dX11_way_22 : decode cX11_way 22 = .ok (.ireturn, 1) := by decide +kernel
theorem dX11_way_23 : decode cX11_way 23 = .ok (.iconst 0, 1) := by decide +kernel
theorem dX11_way_24 : decode cX11_way 24 = .ok (.istore_n 3, 1) := by decide +kernel
theorem dX11_way_25 : decode cX11_way 25 = .ok (.iload_n 3, 1) := by decide +kernel
theorem dX11_way_26 : decode cX11_way 26 = .ok (.aload_n 0, 1) := by decide +kernel
theorem dX11_way_27 : decode cX11_way 27 = .ok (.getfield 92, 3) := by decide +kernel
theorem dX11_way_30 : decode cX11_way 30 = .ok (.if_icmp .ge 27, 3) := by decide +kernel
theorem dX11_way_33 : decode cX11_way 33 = .ok (.aload_n 0, 1) := by decide +kernel
theorem dX11_way_34 : decode cX11_way 34 = .ok (.getfield 57, 3) := by decide +kernel
theorem dX11_way_37 : decode cX11_way 37 = .ok (.iload_n 3, 1) := by decide +kernel
theorem dX11_way_38 : decode cX11_way 38 = .ok (.iload_n 3, 1) := by decide +kernel
theorem dX11_way_39 : decode cX11_way 39 = .ok (.iload_n 2, 1) := by decide +kernel
theorem dX11_way_40 : decode cX11_way 40 = .ok (.if_icmp .ne 7, 3) := by decide +kernel
theorem dX11_way_43 : decode cX11_way 43 = .ok (.iconst 0, 1) := by decide +kernel
theorem dX11_way_44 : decode cX11_way 44 = .ok (.goto 6, 3) := by decide +kernel
theorem dX11_way_47 : decode cX11_way 47 = .ok (.ldc_w 307, 3) := by decide +kernel
theorem dX11_way_50 : decode cX11_way 50 = .ok (.iastore, 1) := by decide +kernel
theorem dX11_way_51 : decode cX11_way 51 = .ok (.iinc 3 1, 3) := by decide +kernel
theorem dX11_way_54 : decode cX11_way 54 = .ok (.goto (-29), 3) := by decide +kernel
theorem dX11_way_57 : decode cX11_way 57 = .ok (.iconst 0, 1) := by decide +kernel
theorem dX11_way_58 : decode cX11_way 58 = .ok (.istore_n 3, 1) := by decide +kernel
theorem dX11_way_59 : decode cX11_way 59 = .ok (.iload_n 3, 1) := by decide +kernel
theorem dX11_way_60 : decode cX11_way 60 = .ok (.aload_n 0, 1) := by decide +kernel
theorem dX11_way_61 : decode cX11_way 61 = .ok (.getfield 92, 3) := by decide +kernel
theorem dX11_way_64 : decode cX11_way 64 = .ok (.if_icmp .ge 89, 3) := by decide +kernel
theorem dX11_way_67 : decode cX11_way 67 = .ok (.iconst 0, 1) := by decide +kernel
theorem dX11_way_68 : decode cX11_way 68 = .ok (.istore 4, 2) := by decide +kernel
theorem dX11_way_70 : decode cX11_way 70 = .ok (.iload 4, 2) := by decide +kernel
theorem dX11_way_72 : decode cX11_way 72 = .ok (.aload_n 0, 1) := by decide +kernel
theorem dX11_way_73 : decode cX11_way 73 = .ok (.getfield 92, 3) := by decide +kernel
theorem dX11_way_76 : decode cX11_way 76 = .ok (.if_icmp .ge 71, 3) := by decide +kernel
theorem dX11_way_79 : decode cX11_way 79 = .ok (.iconst 0, 1) := by decide +kernel
theorem dX11_way_80 : decode cX11_way 80 = .ok (.istore 5, 2) := by decide +kernel
theorem dX11_way_82 : decode cX11_way 82 = .ok (.iload 5, 2) := by decide +kernel
theorem dX11_way_84 : decode cX11_way 84 = .ok (.aload_n 0, 1) := by decide +kernel
theorem dX11_way_85 : decode cX11_way 85 = .ok (.getfield 92, 3) := by decide +kernel
theorem dX11_way_88 : decode cX11_way 88 = .ok (.if_icmp .ge 53, 3) := by decide +kernel
theorem dX11_way_91 : decode cX11_way 91 = .ok (.aload_n 0, 1) := by decide +kernel
theorem dX11_way_92 : decode cX11_way 92 = .ok (.getfield 9, 3) := by decide +kernel
theorem dX11_way_95 : decode cX11_way 95 = .ok (.bipush 28, 2) := by decide +kernel
theorem dX11_way_97 : decode cX11_way 97 = .ok (.iload 4, 2) := by decide +kernel
theorem dX11_way_99 : decode cX11_way 99 = .ok (.iadd, 1) := by decide +kernel
theorem dX11_way_100 : decode cX11_way 100 = .ok (.iaload, 1) := by decide +kernel
theorem dX11_way_101 : decode cX11_way 101 = .ok (.iload 5, 2) := by decide +kernel
theorem dX11_way_103 : decode cX11_way 103 = .ok (.invokestatic 196, 3) := by decide +kernel
theorem dX11_way_106 : decode cX11_way 106 = .ok (.ifCond .eq 29, 3) := by decide +kernel
theorem dX11_way_109 : decode cX11_way 109 = .ok (.aload_n 0, 1) := by decide +kernel
theorem dX11_way_110 : decode cX11_way 110 = .ok (.getfield 57, 3) := by decide +kernel
theorem dX11_way_113 : decode cX11_way 113 = .ok (.iload 4, 2) := by decide +kernel
theorem dX11_way_115 : decode cX11_way 115 = .ok (.aload_n 0, 1) := by decide +kernel
theorem dX11_way_116 : decode cX11_way 116 = .ok (.getfield 57, 3) := by decide +kernel
theorem dX11_way_119 : decode cX11_way 119 = .ok (.iload 4, 2) := by decide +kernel
theorem dX11_way_121 : decode cX11_way 121 = .ok (.iaload, 1) := by decide +kernel
theorem dX11_way_122 : decode cX11_way 122 = .ok (.aload_n 0, 1) := by decide +kernel
theorem dX11_way_123 : decode cX11_way 123 = .ok (.getfield 57, 3) := by decide +kernel
theorem dX11_way_126 : decode cX11_way 126 = .ok (.iload 5, 2) := by decide +kernel
theorem dX11_way_128 : decode cX11_way 128 = .ok (.iaload, 1) := by decide +kernel
theorem dX11_way_129 : decode cX11_way 129 = .ok (.iconst 1, 1) := by decide +kernel
theorem dX11_way_130 : decode cX11_way 130 = .ok (.iadd, 1) := by decide +kernel
theorem dX11_way_131 : decode cX11_way 131 = .ok (.invokestatic 223, 3) := by decide +kernel
theorem dX11_way_134 : decode cX11_way 134 = .ok (.iastore, 1) := by decide +kernel
theorem dX11_way_135 : decode cX11_way 135 = .ok (.iinc 5 1, 3) := by decide +kernel
theorem dX11_way_138 : decode cX11_way 138 = .ok (.goto (-56), 3) := by decide +kernel
theorem dX11_way_141 : decode cX11_way 141 = .ok (.iinc 4 1, 3) := by decide +kernel
theorem dX11_way_144 : decode cX11_way 144 = .ok (.goto (-74), 3) := by decide +kernel
theorem dX11_way_147 : decode cX11_way 147 = .ok (.iinc 3 1, 3) := by decide +kernel
theorem dX11_way_150 : decode cX11_way 150 = .ok (.goto (-91), 3) := by decide +kernel
theorem dX11_way_153 : decode cX11_way 153 = .ok (.aload_n 0, 1) := by decide +kernel
theorem dX11_way_154 : decode cX11_way 154 = .ok (.getfield 57, 3) := by decide +kernel
theorem dX11_way_157 : decode cX11_way 157 = .ok (.iload_n 1, 1) := by decide +kernel
theorem dX11_way_158 : decode cX11_way 158 = .ok (.iaload, 1) := by decide +kernel
theorem dX11_way_159 : decode cX11_way 159 = .ok (.ldc_w 307, 3) := by decide +kernel
theorem dX11_way_162 : decode cX11_way 162 = .ok (.if_icmp .lt 6, 3) := by decide +kernel
theorem dX11_way_165 : decode cX11_way 165 = .ok (.bipush (-2), 2) := by decide +kernel
theorem dX11_way_167 : decode cX11_way 167 = .ok (.ireturn, 1) := by decide +kernel
theorem dX11_way_168 : decode cX11_way 168 = .ok (.aload_n 0, 1) := by decide +kernel
theorem dX11_way_169 : decode cX11_way 169 = .ok (.iconst 0, 1) := by decide +kernel
theorem dX11_way_170 : decode cX11_way 170 = .ok (.putfield 89, 3) := by decide +kernel
theorem dX11_way_173 : decode cX11_way 173 = .ok (.aload_n 0, 1) := by decide +kernel
theorem dX11_way_174 : decode cX11_way 174 = .ok (.iload_n 1, 1) := by decide +kernel
theorem dX11_way_175 : decode cX11_way 175 = .ok (.i2l, 1) := by decide +kernel
theorem dX11_way_176 : decode cX11_way 176 = .ok (.invokevirtual 256, 3) := by decide +kernel
theorem dX11_way_179 : decode cX11_way 179 = .ok (.iload_n 1, 1) := by decide +kernel
theorem dX11_way_180 : decode cX11_way 180 = .ok (.istore_n 3, 1) := by decide +kernel
theorem dX11_way_181 : decode cX11_way 181 = .ok (.iload_n 3, 1) := by decide +kernel
theorem dX11_way_182 : decode cX11_way 182 = .ok (.iload_n 2, 1) := by decide +kernel
theorem dX11_way_183 : decode cX11_way 183 = .ok (.if_icmp .eq 59, 3) := by decide +kernel
theorem dX11_way_186 : decode cX11_way 186 = .ok (.iconst 0, 1) := by decide +kernel
theorem dX11_way_187 : decode cX11_way 187 = .ok (.istore 4, 2) := by decide +kernel
theorem dX11_way_189 : decode cX11_way 189 = .ok (.aload_n 0, 1) := by decide +kernel
theorem dX11_way_190 : decode cX11_way 190 = .ok (.getfield 9, 3) := by decide +kernel
theorem dX11_way_193 : decode cX11_way 193 = .ok (.bipush 28, 2) := by decide +kernel
theorem dX11_way_195 : decode cX11_way 195 = .ok (.iload_n 3, 1) := by decide +kernel
theorem dX11_way_196 : decode cX11_way 196 = .ok (.iadd, 1) := by decide +kernel
theorem dX11_way_197 : decode cX11_way 197 = .ok (.iaload, 1) := by decide +kernel
theorem dX11_way_198 : decode cX11_way 198 = .ok (.iload 4, 2) := by decide +kernel
theorem dX11_way_200 : decode cX11_way 200 = .ok (.invokestatic 196, 3) := by decide +kernel
theorem dX11_way_203 : decode cX11_way 203 = .ok (.ifCond .eq 21, 3) := by decide +kernel
theorem dX11_way_206 : decode cX11_way 206 = .ok (.aload_n 0, 1) := by decide +kernel
theorem dX11_way_207 : decode cX11_way 207 = .ok (.getfield 57, 3) := by decide +kernel
theorem dX11_way_210 : decode cX11_way 210 = .ok (.iload 4, 2) := by decide +kernel
theorem dX11_way_212 : decode cX11_way 212 = .ok (.iaload, 1) := by decide +kernel
theorem dX11_way_213 : decode cX11_way 213 = .ok (.aload_n 0, 1) := by decide +kernel
theorem dX11_way_214 : decode cX11_way 214 = .ok (.getfield 57, 3) := by decide +kernel
theorem dX11_way_217 : decode cX11_way 217 = .ok (.iload_n 3, 1) := by decide +kernel
theorem dX11_way_218 : decode cX11_way 218 = .ok (.iaload, 1) := by decide +kernel
theorem dX11_way_219 : decode cX11_way 219 = .ok (.iconst 1, 1) := by decide +kernel
theorem dX11_way_220 : decode cX11_way 220 = .ok (.isub, 1) := by decide +kernel
theorem dX11_way_221 : decode cX11_way 221 = .ok (.if_icmp .eq 9, 3) := by decide +kernel
theorem dX11_way_224 : decode cX11_way 224 = .ok (.iinc 4 1, 3) := by decide +kernel
theorem dX11_way_227 : decode cX11_way 227 = .ok (.goto (-38), 3) := by decide +kernel
theorem dX11_way_230 : decode cX11_way 230 = .ok (.iload 4, 2) := by decide +kernel
theorem dX11_way_232 : decode cX11_way 232 = .ok (.istore_n 3, 1) := by decide +kernel
theorem dX11_way_233 : decode cX11_way 233 = .ok (.aload_n 0, 1) := by decide +kernel
theorem dX11_way_234 : decode cX11_way 234 = .ok (.iload_n 3, 1) := by decide +kernel
theorem dX11_way_235 : decode cX11_way 235 = .ok (.i2l, 1) := by decide +kernel
theorem dX11_way_236 : decode cX11_way 236 = .ok (.invokevirtual 256, 3) := by decide +kernel
theorem dX11_way_239 : decode cX11_way 239 = .ok (.goto (-58), 3) := by decide +kernel
theorem dX11_way_242 : decode cX11_way 242 = .ok (.aload_n 0, 1) := by decide +kernel
theorem dX11_way_243 : decode cX11_way 243 = .ok (.getfield 57, 3) := by decide +kernel
theorem dX11_way_246 : decode cX11_way 246 = .ok (.iload_n 1, 1) := by decide +kernel
theorem dX11_way_247 : decode cX11_way 247 = .ok (.iaload, 1) := by decide +kernel
theorem dX11_way_248 : decode cX11_way 248 = .ok (.ireturn, 1) := by decide +kernel
theorem dX11_heard_0 : decode cX11_heard 0 = .ok (.aload_n 0, 1) := by decide +kernel
theorem dX11_heard_1 : decode cX11_heard 1 = .ok (.iconst 0, 1) := by decide +kernel
theorem dX11_heard_2 : decode cX11_heard 2 = .ok (.putfield 85, 3) := by decide +kernel
theorem dX11_heard_5 : decode cX11_heard 5 = .ok (.iload_n 1, 1) := by decide +kernel
theorem dX11_heard_6 : decode cX11_heard 6 = .ok (.ifCond .ne 8, 3) := by decide +kernel
theorem dX11_heard_9 : decode cX11_heard 9 = .ok (.bipush 9, 2) := by decide +kernel
theorem dX11_heard_11 : decode cX11_heard 11 = .ok (.goto 24, 3) := by decide +kernel
theorem dX11_heard_14 : decode cX11_heard 14 = .ok (.iload_n 1, 1) := by decide +kernel
theorem dX11_heard_15 : decode cX11_heard 15 = .ok (.iconst 1, 1) := by decide +kernel
theorem dX11_heard_16 : decode cX11_heard 16 = .ok (.if_icmp .ne 8, 3) := by decide +kernel
theorem dX11_heard_19 : decode cX11_heard 19 = .ok (.bipush 99, 2) := by decide +kernel
theorem dX11_heard_21 : decode cX11_heard 21 = .ok (.goto 14, 3) := by decide +kernel
theorem dX11_heard_24 : decode cX11_heard 24 = .ok (.iload_n 1, 1) := by decide +kernel
theorem dX11_heard_25 : decode cX11_heard 25 = .ok (.iconst 2, 1) := by decide +kernel
theorem dX11_heard_26 : decode cX11_heard 26 = .ok (.if_icmp .ne 7, 3) := by decide +kernel
theorem dX11_heard_29 : decode cX11_heard 29 = .ok (.iconst 1, 1) := by decide +kernel
theorem dX11_heard_30 : decode cX11_heard 30 = .ok (.goto 5, 3) := by decide +kernel
theorem dX11_heard_33 : decode cX11_heard 33 = .ok (.bipush 6, 2) := by decide +kernel
theorem dX11_heard_35 : decode cX11_heard 35 = .ok (.istore_n 3, 1) := by decide +kernel
theorem dX11_heard_36 : decode cX11_heard 36 = .ok (.iload_n 1, 1) := by decide +kernel
theorem dX11_heard_37 : decode cX11_heard 37 = .ok (.iconst 0, 1) := by decide +kernel
theorem dX11_heard_38 : decode cX11_heard 38 = .ok (.iconst 4, 1) := by decide +kernel
theorem dX11_heard_39 : decode cX11_heard 39 = .ok (.invokestatic 95, 3) := by decide +kernel
theorem dX11_heard_42 : decode cX11_heard 42 = .ok (.ifCond .eq 21, 3) := by decide +kernel
theorem dX11_heard_45 : decode cX11_heard 45 = .ok (.iload_n 2, 1) := by decide +kernel
theorem dX11_heard_46 : decode cX11_heard 46 = .ok (.iconst 0, 1) := by decide +kernel
theorem dX11_heard_47 : decode cX11_heard 47 = .ok (.iload_n 3, 1) := by decide +kernel
theorem dX11_heard_48 : decode cX11_heard 48 = .ok (.invokestatic 95, 3) := by decide +kernel
theorem dX11_heard_51 : decode cX11_heard 51 = .ok (.ifCond .eq 12, 3) := by decide +kernel
theorem dX11_heard_54 : decode cX11_heard 54 = .ok (.aload_n 0, 1) := by decide +kernel
theorem dX11_heard_55 : decode cX11_heard 55 = .ok (.getfield 326, 3) := by decide +kernel
theorem dX11_heard_58 : decode cX11_heard 58 = .ok (.bipush 12, 2) := by decide +kernel
theorem dX11_heard_60 : decode cX11_heard 60 = .ok (.if_icmp .ne 5, 3) := by decide +kernel
theorem dX11_heard_63 : decode cX11_heard 63 = .ok (.iconst (-1), 1) := by decide +kernel
theorem dX11_heard_64 : decode cX11_heard 64 = .ok (.ireturn, 1) := by decide +kernel
theorem dX11_heard_65 : decode cX11_heard 65 = .ok (.aload_n 0, 1) := by decide +kernel
theorem dX11_heard_66 : decode cX11_heard 66 = .ok (.getfield 60, 3) := by decide +kernel
theorem dX11_heard_69 : decode cX11_heard 69 = .ok (.aload_n 0, 1) := by decide +kernel
theorem dX11_heard_70 : decode cX11_heard 70 = .ok (.getfield 326, 3) := by decide +kernel
theorem dX11_heard_73 : decode cX11_heard 73 = .ok (.iload_n 1, 1) := by decide +kernel
theorem dX11_heard_74 : decode cX11_heard 74 = .ok (.iastore, 1) := by decide +kernel
theorem dX11_heard_75 : decode cX11_heard 75 = .ok (.aload_n 0, 1) := by decide +kernel
theorem dX11_heard_76 : decode cX11_heard 76 = .ok (.getfield 63, 3) := by decide +kernel
theorem dX11_heard_79 : decode cX11_heard 79 = .ok (.aload_n 0, 1) := by decide +kernel
theorem dX11_heard_80 : decode cX11_heard 80 = .ok (.getfield 326, 3) := by decide +kernel
theorem dX11_heard_83 : decode cX11_heard 83 = .ok (.iload_n 2, 1) := by decide +kernel
theorem dX11_heard_84 : decode cX11_heard 84 = .ok (.iastore, 1) := by decide +kernel
theorem dX11_heard_85 : decode cX11_heard 85 = .ok (.aload_n 0, 1) := by decide +kernel
theorem dX11_heard_86 : decode cX11_heard 86 = .ok (.dup, 1) := by decide +kernel
theorem dX11_heard_87 : decode cX11_heard 87 = .ok (.getfield 326, 3) := by decide +kernel
theorem dX11_heard_90 : decode cX11_heard 90 = .ok (.iconst 1, 1) := by decide +kernel
theorem dX11_heard_91 : decode cX11_heard 91 = .ok (.iadd, 1) := by decide +kernel
theorem dX11_heard_92 : decode cX11_heard 92 = .ok (.putfield 326, 3) := by decide +kernel
theorem dX11_heard_95 : decode cX11_heard 95 = .ok (.aload_n 0, 1) := by decide +kernel
theorem dX11_heard_96 : decode cX11_heard 96 = .ok (.getfield 326, 3) := by decide +kernel
theorem dX11_heard_99 : decode cX11_heard 99 = .ok (.ireturn, 1) := by decide +kernel
theorem dX11_forget_0 : decode cX11_forget 0 = .ok (.aload_n 0, 1) := by decide +kernel
theorem dX11_forget_1 : decode cX11_forget 1 = .ok (.iconst 0, 1) := by decide +kernel
theorem dX11_forget_2 : decode cX11_forget 2 = .ok (.putfield 85, 3) := by decide +kernel
theorem dX11_forget_5 : decode cX11_forget 5 = .ok (.aload_n 0, 1) := by decide +kernel
theorem dX11_forget_6 : decode cX11_forget 6 = .ok (.getfield 326, 3) := by decide +kernel
theorem dX11_forget_9 : decode cX11_forget 9 = .ok (.istore_n 1, 1) := by decide +kernel
theorem dX11_forget_10 : decode cX11_forget 10 = .ok (.aload_n 0, 1) := by decide +kernel
theorem dX11_forget_11 : decode cX11_forget 11 = .ok (.iconst 0, 1) := by decide +kernel
theorem dX11_forget_12 : decode cX11_forget 12 = .ok (.putfield 326, 3) := by decide +kernel
theorem dX11_forget_15 : decode cX11_forget 15 = .ok (.iload_n 1, 1) := by decide +kernel
theorem dX11_forget_16 : decode cX11_forget 16 = .ok (.ireturn, 1) := by decide +kernel
theorem dX11_isSo_0 : decode cX11_isSo 0 = .ok (.iload_n 2, 1) := by decide +kernel
theorem dX11_isSo_1 : decode cX11_isSo 1 = .ok (.tableswitch 108 0 3 #[31, 47, 66, 94], 31) := by decide +kernel
theorem dX11_isSo_32 : decode cX11_isSo 32 = .ok (.aload_n 0, 1) := by decide +kernel
theorem dX11_isSo_33 : decode cX11_isSo 33 = .ok (.getfield 9, 3) := by decide +kernel
theorem dX11_isSo_36 : decode cX11_isSo 36 = .ok (.iload_n 1, 1) := by decide +kernel
theorem dX11_isSo_37 : decode cX11_isSo 37 = .ok (.iaload, 1) := by decide +kernel
theorem dX11_isSo_38 : decode cX11_isSo 38 = .ok (.iload_n 3, 1) := by decide +kernel
theorem dX11_isSo_39 : decode cX11_isSo 39 = .ok (.if_icmp .lt 7, 3) := by decide +kernel
theorem dX11_isSo_42 : decode cX11_isSo 42 = .ok (.iconst 1, 1) := by decide +kernel
theorem dX11_isSo_43 : decode cX11_isSo 43 = .ok (.goto 4, 3) := by decide +kernel
theorem dX11_isSo_46 : decode cX11_isSo 46 = .ok (.iconst 0, 1) := by decide +kernel
theorem dX11_isSo_47 : decode cX11_isSo 47 = .ok (.ireturn, 1) := by decide +kernel
theorem dX11_isSo_48 : decode cX11_isSo 48 = .ok (.aload_n 0, 1) := by decide +kernel
theorem dX11_isSo_49 : decode cX11_isSo 49 = .ok (.getfield 9, 3) := by decide +kernel
theorem dX11_isSo_52 : decode cX11_isSo 52 = .ok (.bipush 14, 2) := by decide +kernel
theorem dX11_isSo_54 : decode cX11_isSo 54 = .ok (.iload_n 1, 1) := by decide +kernel
theorem dX11_isSo_55 : decode cX11_isSo 55 = .ok (.iadd, 1) := by decide +kernel
theorem dX11_isSo_56 : decode cX11_isSo 56 = .ok (.iaload, 1) := by decide +kernel
theorem dX11_isSo_57 : decode cX11_isSo 57 = .ok (.iload_n 3, 1) := by decide +kernel
theorem dX11_isSo_58 : decode cX11_isSo 58 = .ok (.if_icmp .gt 7, 3) := by decide +kernel
theorem dX11_isSo_61 : decode cX11_isSo 61 = .ok (.iconst 1, 1) := by decide +kernel
theorem dX11_isSo_62 : decode cX11_isSo 62 = .ok (.goto 4, 3) := by decide +kernel
theorem dX11_isSo_65 : decode cX11_isSo 65 = .ok (.iconst 0, 1) := by decide +kernel
theorem dX11_isSo_66 : decode cX11_isSo 66 = .ok (.ireturn, 1) := by decide +kernel
theorem dX11_isSo_67 : decode cX11_isSo 67 = .ok (.aload_n 0, 1) := by decide +kernel
theorem dX11_isSo_68 : decode cX11_isSo 68 = .ok (.aload_n 0, 1) := by decide +kernel
theorem dX11_isSo_69 : decode cX11_isSo 69 = .ok (.getfield 9, 3) := by decide +kernel
theorem dX11_isSo_72 : decode cX11_isSo 72 = .ok (.iload_n 1, 1) := by decide +kernel
theorem dX11_isSo_73 : decode cX11_isSo 73 = .ok (.invokevirtual 216, 3) := by decide +kernel
theorem dX11_isSo_76 : decode cX11_isSo 76 = .ok (.iload_n 3, 1) := by decide +kernel
theorem dX11_isSo_77 : decode cX11_isSo 77 = .ok (.iconst 1, 1) := by decide +kernel
theorem dX11_isSo_78 : decode cX11_isSo 78 = .ok (.if_icmp .ne 7, 3) := by decide +kernel
theorem dX11_isSo_81 : decode cX11_isSo 81 = .ok (.iconst 1, 1) := by decide +kernel
theorem dX11_isSo_82 : decode cX11_isSo 82 = .ok (.goto 4, 3) := by decide +kernel
theorem dX11_isSo_85 : decode cX11_isSo 85 = .ok (.iconst 0, 1) := by decide +kernel
theorem dX11_isSo_86 : decode cX11_isSo 86 = .ok (.if_icmp .ne 7, 3) := by decide +kernel
