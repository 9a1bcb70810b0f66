theorem dX5_wakers_2 : decode cX5_wakers 2 = .ok (.iconst 0, 1) := by decide +kernel
theorem dX5_wakers_3 : decode cX5_wakers 3 = .ok (.istore_n 3, 1) := by decide +kernel
theorem dX5_wakers_4 : decode cX5_wakers 4 = .ok (.iload_n 3, 1) := by decide +kernel
theorem dX5_wakers_5 : decode cX5_wakers 5 = .ok (.aload_n 1, 1) := by decide +kernel
theorem dX5_wakers_6 : decode cX5_wakers 6 = .ok (.getfield 25, 3) := by decide +kernel
theorem dX5_wakers_9 : decode cX5_wakers 9 = .ok (.if_icmp .ge 38, 3) := by decide +kernel
theorem dX5_wakers_12 : decode cX5_wakers 12 = .ok (.aload_n 1, 1) := by decide +kernel
theorem dX5_wakers_13 : decode cX5_wakers 13 = .ok (.getfield 30, 3) := by decide +kernel
theorem dX5_wakers_16 : decode cX5_wakers 16 = .ok (.iload_n 3, 1) := by decide +kernel
theorem dX5_wakers_17 : decode cX5_wakers 17 = .ok (.iaload, 1) := by decide +kernel
theorem dX5_wakers_18 : decode cX5_wakers 18 = .ok (.ifCond .ne 23, 3) := by decide +kernel
theorem dX5_wakers_21 : decode cX5_wakers 21 = .ok (.aload_n 0, 1) := by decide +kernel
theorem dX5_wakers_22 : decode cX5_wakers 22 = .ok (.aload_n 1, 1) := by decide +kernel
theorem dX5_wakers_23 : decode cX5_wakers 23 = .ok (.iload_n 3, 1) := by decide +kernel
theorem dX5_wakers_24 : decode cX5_wakers 24 = .ok (.aload_n 1, 1) := by decide +kernel
theorem dX5_wakers_25 : decode cX5_wakers 25 = .ok (.iload_n 3, 1) := by decide +kernel
theorem dX5_wakers_26 : decode cX5_wakers 26 = .ok (.invokevirtual 33, 3) := by decide +kernel
theorem dX5_wakers_29 : decode cX5_wakers 29 = .ok (.invokevirtual 37, 3) := by decide +kernel
theorem dX5_wakers_32 : decode cX5_wakers 32 = .ok (.ifCond .eq 9, 3) := by decide +kernel
theorem dX5_wakers_35 : decode cX5_wakers 35 = .ok (.iload_n 2, 1) := by decide +kernel
theorem dX5_wakers_36 : decode cX5_wakers 36 = .ok (.iconst 1, 1) := by decide +kernel
theorem dX5_wakers_37 : decode cX5_wakers 37 = .ok (.iload_n 3, 1) := by decide +kernel
theorem dX5_wakers_38 : decode cX5_wakers 38 = .ok (.ishl, 1) := by decide +kernel
theorem dX5_wakers_39 : decode cX5_wakers 39 = .ok (.ior, 1) := by decide +kernel
theorem dX5_wakers_40 : decode cX5_wakers 40 = .ok (.istore_n 2, 1) := by decide +kernel
theorem dX5_wakers_41 : decode cX5_wakers 41 = .ok (.iinc 3 1, 3) := by decide +kernel
theorem dX5_wakers_44 : decode cX5_wakers 44 = .ok (.goto (-40), 3) := by decide +kernel
theorem dX5_wakers_47 : decode cX5_wakers 47 = .ok (.iload_n 2, 1) := by decide +kernel
theorem dX5_wakers_48 : decode cX5_wakers 48 = .ok (.ireturn, 1) := by decide +kernel
theorem dX5_rouses_0 : decode cX5_rouses 0 = .ok (.aload_n 1, 1) := by decide +kernel
theorem dX5_rouses_1 : decode cX5_rouses 1 = .ok (.iload_n 2, 1) := by decide +kernel
theorem dX5_rouses_2 : decode cX5_rouses 2 = .ok (.invokevirtual 41, 3) := by decide +kernel
theorem dX5_rouses_5 : decode cX5_rouses 5 = .ok (.ifCond .eq 26, 3) := by decide +kernel
theorem dX5_rouses_8 : decode cX5_rouses 8 = .ok (.aload_n 1, 1) := by decide +kernel
theorem dX5_rouses_9 : decode cX5_rouses 9 = .ok (.getfield 30, 3) := by decide +kernel
theorem dX5_rouses_12 : decode cX5_rouses 12 = .ok (.iload_n 2, 1) := by decide +kernel
theorem dX5_rouses_13 : decode cX5_rouses 13 = .ok (.iaload, 1) := by decide +kernel
theorem dX5_rouses_14 : decode cX5_rouses 14 = .ok (.ifCond .ne 17, 3) := by decide +kernel
theorem dX5_rouses_17 : decode cX5_rouses 17 = .ok (.aload_n 0, 1) := by decide +kernel
theorem dX5_rouses_18 : decode cX5_rouses 18 = .ok (.aload_n 1, 1) := by decide +kernel
theorem dX5_rouses_19 : decode cX5_rouses 19 = .ok (.iload_n 2, 1) := by decide +kernel
theorem dX5_rouses_20 : decode cX5_rouses 20 = .ok (.iload_n 3, 1) := by decide +kernel
theorem dX5_rouses_21 : decode cX5_rouses 21 = .ok (.invokevirtual 37, 3) := by decide +kernel
theorem dX5_rouses_24 : decode cX5_rouses 24 = .ok (.ifCond .eq 7, 3) := by decide +kernel
theorem dX5_rouses_27 : decode cX5_rouses 27 = .ok (.iconst 1, 1) := by decide +kernel
theorem dX5_rouses_28 : decode cX5_rouses 28 = .ok (.goto 4, 3) := by decide +kernel
theorem dX5_rouses_31 : decode cX5_rouses 31 = .ok (.iconst 0, 1) := by decide +kernel
theorem dX5_rouses_32 : decode cX5_rouses 32 = .ok (.ireturn, 1) := by decide +kernel
theorem dX5_needers_0 : decode cX5_needers 0 = .ok (.aload_n 1, 1) := by decide +kernel
theorem dX5_needers_1 : decode cX5_needers 1 = .ok (.iload_n 2, 1) := by decide +kernel
theorem dX5_needers_2 : decode cX5_needers 2 = .ok (.invokevirtual 41, 3) := by decide +kernel
theorem dX5_needers_5 : decode cX5_needers 5 = .ok (.ifCond .ne 5, 3) := by decide +kernel
theorem dX5_needers_8 : decode cX5_needers 8 = .ok (.iconst 0, 1) := by decide +kernel
theorem dX5_needers_9 : decode cX5_needers 9 = .ok (.ireturn, 1) := by decide +kernel
theorem dX5_needers_10 : decode cX5_needers 10 = .ok (.aload_n 0, 1) := by decide +kernel
theorem dX5_needers_11 : decode cX5_needers 11 = .ok (.getfield 18, 3) := by decide +kernel
theorem dX5_needers_14 : decode cX5_needers 14 = .ok (.iconst 0, 1) := by decide +kernel
theorem dX5_needers_15 : decode cX5_needers 15 = .ok (.aload_n 1, 1) := by decide +kernel
theorem dX5_needers_16 : decode cX5_needers 16 = .ok (.getfield 45, 3) := by decide +kernel
theorem dX5_needers_19 : decode cX5_needers 19 = .ok (.iload_n 2, 1) := by decide +kernel
theorem dX5_needers_20 : decode cX5_needers 20 = .ok (.iaload, 1) := by decide +kernel
theorem dX5_needers_21 : decode cX5_needers 21 = .ok (.iastore, 1) := by decide +kernel
theorem dX5_needers_22 : decode cX5_needers 22 = .ok (.aload_n 0, 1) := by decide +kernel
theorem dX5_needers_23 : decode cX5_needers 23 = .ok (.getfield 18, 3) := by decide +kernel
theorem dX5_needers_26 : decode cX5_needers 26 = .ok (.iconst 2, 1) := by decide +kernel
theorem dX5_needers_27 : decode cX5_needers 27 = .ok (.iload_n 3, 1) := by decide +kernel
theorem dX5_needers_28 : decode cX5_needers 28 = .ok (.invokestatic 48, 3) := by decide +kernel
theorem dX5_needers_31 : decode cX5_needers 31 = .ok (.iastore, 1) := by decide +kernel
theorem dX5_needers_32 : decode cX5_needers 32 = .ok (.aload_n 0, 1) := by decide +kernel
theorem dX5_needers_33 : decode cX5_needers 33 = .ok (.getfield 18, 3) := by decide +kernel
theorem dX5_needers_36 : decode cX5_needers 36 = .ok (.iconst 4, 1) := by decide +kernel
theorem dX5_needers_37 : decode cX5_needers 37 = .ok (.aload_n 1, 1) := by decide +kernel
theorem dX5_needers_38 : decode cX5_needers 38 = .ok (.getfield 53, 3) := by decide +kernel
theorem dX5_needers_41 : decode cX5_needers 41 = .ok (.iload_n 2, 1) := by decide +kernel
theorem dX5_needers_42 : decode cX5_needers 42 = .ok (.iaload, 1) := by decide +kernel
theorem dX5_needers_43 : decode cX5_needers 43 = .ok (.iastore, 1) := by decide +kernel
theorem dX5_needers_44 : decode cX5_needers 44 = .ok (.aload_n 0, 1) := by decide +kernel
theorem dX5_needers_45 : decode cX5_needers 45 = .ok (.getfield 18, 3) := by decide +kernel
theorem dX5_needers_48 : decode cX5_needers 48 = .ok (.bipush 6, 2) := by decide +kernel
theorem dX5_needers_50 : decode cX5_needers 50 = .ok (.aload_n 1, 1) := by decide +kernel
theorem dX5_needers_51 : decode cX5_needers 51 = .ok (.getfield 56, 3) := by decide +kernel
theorem dX5_needers_54 : decode cX5_needers 54 = .ok (.bipush 7, 2) := by decide +kernel
theorem dX5_needers_56 : decode cX5_needers 56 = .ok (.irem, 1) := by decide +kernel
theorem dX5_needers_57 : decode cX5_needers 57 = .ok (.iastore, 1) := by decide +kernel
theorem dX5_needers_58 : decode cX5_needers 58 = .ok (.iconst 0, 1) := by decide +kernel
theorem dX5_needers_59 : decode cX5_needers 59 = .ok (.istore 4, 2) := by decide +kernel
theorem dX5_needers_61 : decode cX5_needers 61 = .ok (.iconst 0, 1) := by decide +kernel
theorem dX5_needers_62 : decode cX5_needers 62 = .ok (.istore 5, 2) := by decide +kernel
theorem dX5_needers_64 : decode cX5_needers 64 = .ok (.iload 5, 2) := by decide +kernel
theorem dX5_needers_66 : decode cX5_needers 66 = .ok (.aload_n 1, 1) := by decide +kernel
theorem dX5_needers_67 : decode cX5_needers 67 = .ok (.getfield 25, 3) := by decide +kernel
theorem dX5_needers_70 : decode cX5_needers 70 = .ok (.if_icmp .ge 84, 3) := by decide +kernel
theorem dX5_needers_73 : decode cX5_needers 73 = .ok (.iload_n 3, 1) := by decide +kernel
theorem dX5_needers_74 : decode cX5_needers 74 = .ok (.iload 5, 2) := by decide +kernel
theorem dX5_needers_76 : decode cX5_needers 76 = .ok (.ishr, 1) := by decide +kernel
theorem dX5_needers_77 : decode cX5_needers 77 = .ok (.iconst 1, 1) := by decide +kernel
theorem dX5_needers_78 : decode cX5_needers 78 = .ok (.iand, 1) := by decide +kernel
theorem dX5_needers_79 : decode cX5_needers 79 = .ok (.ifCond .eq 69, 3) := by decide +kernel
theorem dX5_needers_82 : decode cX5_needers 82 = .ok (.aload_n 0, 1) := by decide +kernel
theorem dX5_needers_83 : decode cX5_needers 83 = .ok (.getfield 18, 3) := by decide +kernel
theorem dX5_needers_86 : decode cX5_needers 86 = .ok (.iconst 1, 1) := by decide +kernel
theorem dX5_needers_87 : decode cX5_needers 87 = .ok (.aload_n 1, 1) := by decide +kernel
theorem dX5_needers_88 : decode cX5_needers 88 = .ok (.getfield 45, 3) := by decide +kernel
theorem dX5_needers_91 : decode cX5_needers 91 = .ok (.iload 5, 2) := by decide +kernel
theorem dX5_needers_93 : decode cX5_needers 93 = .ok (.iaload, 1) := by decide +kernel
theorem dX5_needers_94 : decode cX5_needers 94 = .ok (.iastore, 1) := by decide +kernel
theorem dX5_needers_95 : decode cX5_needers 95 = .ok (.aload_n 0, 1) := by decide +kernel
theorem dX5_needers_96 : decode cX5_needers 96 = .ok (.getfield 18, 3) := by decide +kernel
theorem dX5_needers_99 : decode cX5_needers 99 = .ok (.iconst 3, 1) := by decide +kernel
theorem dX5_needers_100 : decode cX5_needers 100 = .ok (.aload_n 1, 1) := by decide +kernel
theorem dX5_needers_101 : decode cX5_needers 101 = .ok (.getfield 59, 3) := by decide +kernel
theorem dX5_needers_104 : decode cX5_needers 104 = .ok (.iload 5, 2) := by decide +kernel
theorem dX5_needers_106 : decode cX5_needers 106 = .ok (.iaload, 1) := by decide +kernel
theorem dX5_needers_107 : decode cX5_needers 107 = .ok (.invokestatic 48, 3) := by decide +kernel
theorem dX5_needers_110 : decode cX5_needers 110 = .ok (.iastore, 1) := by decide +kernel
theorem dX5_needers_111 : decode cX5_needers 111 = .ok (.aload_n 0, 1) := by decide +kernel
theorem dX5_needers_112 : decode cX5_needers 112 = .ok (.getfield 18, 3) := by decide +kernel
theorem dX5_needers_115 : decode cX5_needers 115 = .ok (.iconst 5, 1) := by decide +kernel
theorem dX5_needers_116 : decode cX5_needers 116 = .ok (.aload_n 1, 1) := by decide +kernel
theorem dX5_needers_117 : decode cX5_needers 117 = .ok (.getfield 59, 3) := by decide +kernel
theorem dX5_needers_120 : decode cX5_needers 120 = .ok (.iload_n 2, 1) := by decide +kernel
theorem dX5_needers_121 : decode cX5_needers 121 = .ok (.iaload, 1) := by decide +kernel
theorem dX5_needers_122 : decode cX5_needers 122 = .ok (.iload 5, 2) := by decide +kernel
theorem dX5_needers_124 : decode cX5_needers 124 = .ok (.ishr, 1) := by decide +kernel
theorem dX5_needers_125 : decode cX5_needers 125 = .ok (.iconst 1, 1) := by decide +kernel
theorem dX5_needers_126 : decode cX5_needers 126 = .ok (.iand, 1) := by decide +kernel
theorem dX5_needers_127 : decode cX5_needers 127 = .ok (.iastore, 1) := by decide +kernel
theorem dX5_needers_128 : decode cX5_needers 128 = .ok (.iload 4, 2) := by decide +kernel
theorem dX5_needers_130 : decode cX5_needers 130 = .ok (.aload_n 0, 1) := by decide +kernel
theorem dX5_needers_131 : decode cX5_needers 131 = .ok (.invokevirtual 62, 3) := by decide +kernel
theorem dX5_needers_134 : decode cX5_needers 134 = .ok (.ifCond .le 10, 3) := by decide +kernel
theorem dX5_needers_137 : decode cX5_needers 137 = .ok (.iconst 1, 1) := by decide +kernel
theorem dX5_needers_138 : decode cX5_needers 138 = .ok (.iload 5, 2) := by decide +kernel
theorem dX5_needers_140 : decode cX5_needers 140 = .ok (.ishl, 1) := by decide +kernel
theorem dX5_needers_141 : decode cX5_needers 141 = .ok (.goto 4, 3) := by decide +kernel
theorem dX5_needers_144 : decode cX5_needers 144 = .ok (.iconst 0, 1) := by decide +kernel
theorem dX5_needers_145 : decode cX5_needers 145 = .ok (.ior, 1) := by decide +kernel
theorem dX5_needers_146 : decode cX5_needers 146 = .ok (.istore 4, 2) := by decide +kernel
theorem dX5_needers_148 : decode cX5_needers 148 = .ok (.iinc 5 1, 3) := by decide +kernel
theorem dX5_needers_151 : decode cX5_needers 151 = .ok (.goto (-87), 3) := by decide +kernel
theorem dX5_needers_154 : decode cX5_needers 154 = .ok (.iload 4, 2) := by decide +kernel
theorem dX5_needers_156 : decode cX5_needers 156 = .ok (.ireturn, 1) := by decide +kernel
theorem dX5_value_0 : decode cX5_value 0 = .ok (.iconst 0, 1) := by decide +kernel
theorem dX5_value_1 : decode cX5_value 1 = .ok (.istore_n 1, 1) := by decide +kernel
theorem dX5_value_2 : decode cX5_value 2 = .ok (.iconst 0, 1) := by decide +kernel
theorem dX5_value_3 : decode cX5_value 3 = .ok (.istore_n 2, 1) := by decide +kernel
theorem dX5_value_4 : decode cX5_value 4 = .ok (.iload_n 2, 1) := by decide +kernel
theorem dX5_value_5 : decode cX5_value 5 = .ok (.aload_n 0, 1) := by decide +kernel
theorem dX5_value_6 : decode cX5_value 6 = .ok (.getfield 21, 3) := by decide +kernel
theorem dX5_value_9 : decode cX5_value 9 = .ok (.if_icmp .ge 147, 3) := by decide +kernel
theorem dX5_value_12 : decode cX5_value 12 = .ok (.aload_n 0, 1) := by decide +kernel
theorem dX5_value_13 : decode cX5_value 13 = .ok (.getfield 11, 3) := by decide +kernel
theorem dX5_value_16 : decode cX5_value 16 = .ok (.iload_n 2, 1) := by decide +kernel
theorem dX5_value_17 : decode cX5_value 17 = .ok (.iaload, 1) := by decide +kernel
theorem dX5_value_18 : decode cX5_value 18 = .ok (.istore_n 3, 1) := by decide +kernel
theorem dX5_value_19 : decode cX5_value 19 = .ok (.iload_n 3, 1) := by decide +kernel
theorem dX5_value_20 : decode cX5_value 20 = .ok (.sipush 2007, 3) := by decide +kernel
theorem dX5_value_23 : decode cX5_value 23 = .ok (.if_icmp .ne 27, 3) := by decide +kernel
theorem dX5_value_26 : decode cX5_value 26 = .ok (.iload_n 1, 1) := by decide +kernel
theorem dX5_value_27 : decode cX5_value 27 = .ok (.ifCond .le 123, 3) := by decide +kernel
theorem dX5_value_30 : decode cX5_value 30 = .ok (.aload_n 0, 1) := by decide +kernel
theorem dX5_value_31 : decode cX5_value 31 = .ok (.getfield 15, 3) := by decide +kernel
theorem dX5_value_34 : decode cX5_value 34 = .ok (.iload_n 1, 1) := by decide +kernel
theorem dX5_value_35 : decode cX5_value 35 = .ok (.iconst 1, 1) := by decide +kernel
theorem dX5_value_36 : decode cX5_value 36 = .ok (.isub, 1) := by decide +kernel
theorem dX5_value_37 : decode cX5_value 37 = .ok (.aload_n 0, 1) := by decide +kernel
theorem dX5_value_38 : decode cX5_value 38 = .ok (.getfield 15, 3) := by decide +kernel
theorem dX5_value_41 : decode cX5_value 41 = .ok (.iload_n 1, 1) := by decide +kernel
theorem dX5_value_42 : decode cX5_value 42 = .ok (.iconst 1, 1) := by decide +kernel
theorem dX5_value_43 : decode cX5_value 43 = .ok (.isub, 1) := by decide +kernel
theorem dX5_value_44 : decode cX5_value 44 = .ok (.iaload, 1) := by decide +kernel
theorem dX5_value_45 : decode cX5_value 45 = .ok (.ineg, 1) := by decide +kernel
theorem dX5_value_46 : decode cX5_value 46 = .ok (.iastore, 1) := by decide +kernel
theorem dX5_value_47 : decode cX5_value 47 = .ok (.goto 103, 3) := by decide +kernel
theorem dX5_value_50 : decode cX5_value 50 = .ok (.iload_n 3, 1) := by decide +kernel
theorem dX5_value_51 : decode cX5_value 51 = .ok (.sipush 2000, 3) := by decide +kernel
theorem dX5_value_54 : decode cX5_value 54 = .ok (.if_icmp .lt 44, 3) := by decide +kernel
theorem dX5_value_57 : decode cX5_value 57 = .ok (.iload_n 1, 1) := by decide +kernel
theorem dX5_value_58 : decode cX5_value 58 = .ok (.iconst 1, 1) := by decide +kernel
theorem dX5_value_59 : decode cX5_value 59 = .ok (.if_icmp .le 91, 3) := by decide +kernel
theorem dX5_value_62 : decode cX5_value 62 = .ok (.iinc 1 (-1), 3) := by decide +kernel
theorem dX5_value_65 : decode cX5_value 65 = .ok (.aload_n 0, 1) := by decide +kernel
theorem dX5_value_66 : decode cX5_value 66 = .ok (.getfield 15, 3) := by decide +kernel
theorem dX5_value_69 : decode cX5_value 69 = .ok (.iload_n 1, 1) := by decide +kernel
theorem dX5_value_70 : decode cX5_value 70 = .ok (.iconst 1, 1) := by decide +kernel
theorem dX5_value_71 : decode cX5_value 71 = .ok (.isub, 1) := by decide +kernel
theorem dX5_value_72 : decode cX5_value 72 = .ok (.iload_n 3, 1) := by decide +kernel
theorem dX5_value_73 : decode cX5_value 73 = .ok (.sipush 2000, 3) := by decide +kernel
theorem dX5_value_76 : decode cX5_value 76 = .ok (.isub, 1) := by decide +kernel
theorem dX5_value_77 : decode cX5_value 77 = .ok (.aload_n 0, 1) := by decide +kernel
theorem dX5_value_78 : decode cX5_value 78 = .ok (.getfield 15, 3) := by decide +kernel
theorem dX5_value_81 : decode cX5_value 81 = .ok (.iload_n 1, 1) := by decide +kernel
theorem dX5_value_82 : decode cX5_value 82 = .ok (.iconst 1, 1) := by decide +kernel
theorem dX5_value_83 : decode cX5_value 83 = .ok (.isub, 1) := by decide +kernel
theorem dX5_value_84 : decode cX5_value 84 = .ok (.iaload, 1) := by decide +kernel
theorem dX5_value_85 : decode cX5_value 85 = .ok (.aload_n 0, 1) := by decide +kernel
theorem dX5_value_86 : decode cX5_value 86 = .ok (.getfield 15, 3) := by decide +kernel
theorem dX5_value_89 : decode cX5_value 89 = .ok (.iload_n 1, 1) := by decide +kernel
theorem dX5_value_90 : decode cX5_value 90 = .ok (.iaload, 1) := by decide +kernel
theorem dX5_value_91 : decode cX5_value 91 = .ok (.invokestatic 66, 3) := by decide +kernel
theorem dX5_value_94 : decode cX5_value 94 = .ok (.iastore, 1) := by decide +kernel
theorem dX5_value_95 : decode cX5_value 95 = .ok (.goto 55, 3) := by decide +kernel
theorem dX5_value_98 : decode cX5_value 98 = .ok (.iload_n 1, 1) := by decide +kernel
theorem dX5_value_99 : decode cX5_value 99 = .ok (.bipush 40, 2) := by decide +kernel
theorem dX5_value_101 : decode cX5_value 101 = .ok (.if_icmp .ge 49, 3) := by decide +kernel
theorem dX5_value_104 : decode cX5_value 104 = .ok (.iload_n 3, 1) := by decide +kernel
theorem dX5_value_105 : decode cX5_value 105 = .ok (.sipush 1000, 3) := by decide +kernel
theorem dX5_value_108 : decode cX5_value 108 = .ok (.isub, 1) := by decide +kernel
theorem dX5_value_109 : decode cX5_value 109 = .ok (.istore 4, 2) := by decide +kernel
theorem dX5_value_111 : decode cX5_value 111 = .ok (.aload_n 0, 1) := by decide +kernel
theorem dX5_value_112 : decode cX5_value 112 = .ok (.getfield 15, 3) := by decide +kernel
theorem dX5_value_115 : decode cX5_value 115 = .ok (.iload_n 1, 1) := by decide +kernel
theorem dX5_value_116 : decode cX5_value 116 = .ok (.iload 4, 2) := by decide +kernel
theorem dX5_value_118 : decode cX5_value 118 = .ok (.ifCond .ge 7, 3) := by decide +kernel
theorem dX5_value_121 : decode cX5_value 121 = .ok (.iload_n 3, 1) := by decide +kernel
theorem dX5_value_122 : decode cX5_value 122 = .ok (.goto 24, 3) := by decide +kernel
theorem dX5_value_125 : decode cX5_value 125 = .ok (.iload 4, 2) := by decide +kernel
theorem dX5_value_127 : decode cX5_value 127 = .ok (.aload_n 0, 1) := by decide +kernel
theorem dX5_value_128 : decode cX5_value 128 = .ok (.getfield 18, 3) := by decide +kernel
theorem dX5_value_131 : decode cX5_value 131 = .ok (.arraylength, 1) := by decide +kernel
theorem dX5_value_132 : decode cX5_value 132 = .ok (.if_icmp .ge 13, 3) := by decide +kernel
theorem dX5_value_135 : decode cX5_value 135 = .ok (.aload_n 0, 1) := by decide +kernel
theorem dX5_value_136 : decode cX5_value 136 = .ok (.getfield 18, 3) := by decide +kernel
theorem dX5_value_139 : decode cX5_value 139 = .ok (.iload 4, 2) := by decide +kernel
theorem dX5_value_141 : decode cX5_value 141 = .ok (.iaload, 1) := by decide +kernel
theorem dX5_value_142 : decode cX5_value 142 = .ok (.goto 4, 3) := by decide +kernel
theorem dX5_value_145 : decode cX5_value 145 = .ok (.iconst 0, 1) := by decide +kernel
theorem dX5_value_146 : decode cX5_value 146 = .ok (.iastore, 1) := by decide +kernel
theorem dX5_value_147 : decode cX5_value 147 = .ok (.iinc 1 1, 3) := by decide +kernel
theorem dX5_value_150 : decode cX5_value 150 = .ok (.iinc 2 1, 3) := by decide +kernel
theorem dX5_value_153 : decode cX5_value 153 = .ok (.goto (-149), 3) := by decide +kernel
theorem dX5_value_156 : decode cX5_value 156 = .ok (.iload_n 1, 1) := by decide +kernel
theorem dX5_value_157 : decode cX5_value 157 = .ok (.ifCond .le 12, 3) := by decide +kernel
theorem dX5_value_160 : decode cX5_value 160 = .ok (.aload_n 0, 1) := by decide +kernel
theorem dX5_value_161 : decode cX5_value 161 = .ok (.getfield 15, 3) := by decide +kernel
theorem dX5_value_164 : decode cX5_value 164 = .ok (.iconst 0, 1) := by decide +kernel
theorem dX5_value_165 : decode cX5_value 165 = .ok (.iaload, 1) := by decide +kernel
theorem dX5_value_166 : decode cX5_value 166 = .ok (.goto 4, 3) := by decide +kernel
theorem dX5_value_169 : decode cX5_value 169 = .ok (.iconst 0, 1) := by decide +kernel
theorem dX5_value_170 : decode cX5_value 170 = .ok (.ireturn, 1) := by decide +kernel
theorem dX5_joined_0 : decode cX5_joined 0 = .ok (.iload_n 0, 1) := by decide +kernel
theorem dX5_joined_1 : decode cX5_joined 1 = .ok (.tableswitch 84 0 5 #[39, 50, 61, 72, 76, 80], 39) := by decide +kernel
theorem dX5_joined_40 : decode cX5_joined 40 = .ok (.iload_n 1, 1) := by decide +kernel
theorem dX5_joined_41 : decode cX5_joined 41 = .ok (.iload_n 2, 1) := by decide +kernel
theorem dX5_joined_42 : decode cX5_joined 42 = .ok (.if_icmp .ge 7, 3) := by decide +kernel
theorem dX5_joined_45 : decode cX5_joined 45 = .ok (.iconst 1, 1) := by decide +kernel
theorem dX5_joined_46 : decode cX5_joined 46 = .ok (.goto 4, 3) := by decide +kernel
theorem dX5_joined_49 : decode cX5_joined 49 = .ok (.iconst 0, 1) := by decide +kernel
theorem dX5_joined_50 : decode cX5_joined 50 = .ok (.ireturn, 1) := by decide +kernel
theorem dX5_joined_51 : decode cX5_joined 51 = .ok (.iload_n 1, 1) := by decide +kernel
theorem dX5_joined_52 : decode cX5_joined 52 = .ok (.iload_n 2, 1) := by decide +kernel
theorem dX5_joined_53 : decode cX5_joined 53 = .ok (.if_icmp .le 7, 3) := by decide +kernel
theorem dX5_joined_56 : decode cX5_joined 56 = .ok (.iconst 1, 1) := by decide +kernel
theorem dX5_joined_57 : decode cX5_joined 57 = .ok (.goto 4, 3) := by decide +kernel
theorem dX5_joined_60 : decode cX5_joined 60 = .ok (.iconst 0, 1) := by decide +kernel
theorem dX5_joined_61 : decode cX5_joined 61 = .ok (.ireturn, 1) := by decide +kernel
theorem dX5_joined_62 : decode cX5_joined 62 = .ok (.iload_n 1, 1) := by decide +kernel
theorem dX5_joined_63 : decode cX5_joined 63 = .ok (.iload_n 2, 1) := by decide +kernel
theorem dX5_joined_64 : decode cX5_joined 64 = .ok (.if_icmp .ne 7, 3) := by decide +kernel
theorem dX5_joined_67 : decode cX5_joined 67 = .ok (.iconst 1, 1) := by decide +kernel
theorem dX5_joined_68 : decode cX5_joined 68 = .ok (.goto 4, 3) := by decide +kernel
theorem dX5_joined_71 : decode cX5_joined 71 = .ok (.iconst 0, 1) := by decide +kernel
theorem dX5_joined_72 : decode cX5_joined 72 = .ok (.ireturn, 1) := by decide +kernel
theorem dX5_joined_73 : decode cX5_joined 73 = .ok (.iload_n 1, 1) := by decide +kernel
theorem dX5_joined_74 : decode cX5_joined 74 = .ok (.iload_n 2, 1) := by decide +kernel
theorem dX5_joined_75 : decode cX5_joined 75 = .ok (.iadd, 1) := by decide +kernel
theorem dX5_joined_76 : decode cX5_joined 76 = .ok (.ireturn, 1) := by decide +kernel
theorem dX5_joined_77 : decode cX5_joined 77 = .ok (.iload_n 1, 1) := by decide +kernel
theorem dX5_joined_78 : decode cX5_joined 78 = .ok (.iload_n 2, 1) := by decide +kernel
theorem dX5_joined_79 : decode cX5_joined 79 = .ok (.isub, 1) := by decide +kernel
theorem dX5_joined_80 : decode cX5_joined 80 = .ok (.ireturn, 1) := by decide +kernel
theorem dX5_joined_81 : decode cX5_joined 81 = .ok (.iload_n 1, 1) := by decide +kernel
theorem dX5_joined_82 : decode cX5_joined 82 = .ok (.iload_n 2, 1) := by decide +kernel
theorem dX5_joined_83 : decode cX5_joined 83 = .ok (.imul, 1) := by decide +kernel
theorem dX5_joined_84 : decode cX5_joined 84 = .ok (.ireturn, 1) := by decide +kernel
theorem dX5_joined_85 : decode cX5_joined 85 = .ok (.iload_n 2, 1) := by decide +kernel
theorem dX5_joined_86 : decode cX5_joined 86 = .ok (.ifCond .ne 7, 3) := by decide +kernel
theorem dX5_joined_89 : decode cX5_joined 89 = .ok (.iconst 0, 1) := by decide +kernel
theorem dX5_joined_90 : decode cX5_joined 90 = .ok (.goto 6, 3) := by decide +kernel
theorem dX5_joined_93 : decode cX5_joined 93 = .ok (.iload_n 1, 1) := by decide +kernel
theorem dX5_joined_94 : decode cX5_joined 94 = .ok (.iload_n 2, 1) := by decide +kernel
theorem dX5_joined_95 : decode cX5_joined 95 = .ok (.idiv, 1) := by decide +kernel
theorem dX5_joined_96 : decode cX5_joined 96 = .ok (.ireturn, 1) := by decide +kernel
theorem dX6_init_0 : decode cX6_init 0 = .ok (.aload_n 0, 1) := by decide +kernel
theorem dX6_init_1 : decode cX6_init 1 = .ok (.invokespecial 3, 3) := by decide +kernel
theorem dX6_init_4 : decode cX6_init 4 = .ok (.aload_n 0, 1) := by decide +kernel
theorem dX6_init_5 : decode cX6_init 5 = .ok (.bipush 40, 2) := by decide +kernel
theorem dX6_init_7 : decode cX6_init 7 = .ok (.newarray .int, 2) := by decide +kernel
theorem dX6_init_9 : decode cX6_init 9 = .ok (.putfield 9, 3) := by decide +kernel
theorem dX6_init_12 : decode cX6_init 12 = .ok (.aload_n 0, 1) := by decide +kernel
theorem dX6_init_13 : decode cX6_init 13 = .ok (.iconst 0, 1) := by decide +kernel
theorem dX6_init_14 : decode cX6_init 14 = .ok (.putfield 15, 3) := by decide +kernel
theorem dX6_init_17 : decode cX6_init 17 = .ok (.aload_n 0, 1) := by decide +kernel
theorem dX6_init_18 : decode cX6_init 18 = .ok (.iconst 0, 1) := by decide +kernel
theorem dX6_init_19 : decode cX6_init 19 = .ok (.putfield 19, 3) := by decide +kernel
theorem dX6_init_22 : decode cX6_init 22 = .ok (.aload_n 0, 1) := by decide +kernel
theorem dX6_init_23 : decode cX6_init 23 = .ok (.iconst 0, 1) := by decide +kernel
theorem dX6_init_24 : decode cX6_init 24 = .ok (.putfield 22, 3) := by decide +kernel
theorem dX6_init_27 : decode cX6_init 27 = .ok (.aload_n 0, 1) := by decide +kernel
theorem dX6_init_28 : decode cX6_init 28 = .ok (.iconst 0, 1) := by decide +kernel
theorem dX6_init_29 : decode cX6_init 29 = .ok (.putfield 25, 3) := by decide +kernel
theorem dX6_init_32 : decode cX6_init 32 = .ok (.aload_n 0, 1) := by decide +kernel
theorem dX6_init_33 : decode cX6_init 33 = .ok (.iconst 0, 1) := by decide +kernel
theorem dX6_init_34 : decode cX6_init 34 = .ok (.putfield 28, 3) := by decide +kernel
theorem dX6_init_37 : decode cX6_init 37 = .ok (.return_, 1) := by decide +kernel
theorem dX6_faultIn_0 : decode cX6_faultIn 0 = .ok (.aload_n 0, 1) := by decide +kernel
theorem dX6_faultIn_1 : decode cX6_faultIn 1 = .ok (.iconst 0, 1) := by decide +kernel
theorem dX6_faultIn_2 : decode cX6_faultIn 2 = .ok (.putfield 15, 3) := by decide +kernel
theorem dX6_faultIn_5 : decode cX6_faultIn 5 = .ok (.aload_n 0, 1) := by decide +kernel
theorem dX6_faultIn_6 : decode cX6_faultIn 6 = .ok (.iconst 0, 1) := by decide +kernel
theorem dX6_faultIn_7 : decode cX6_faultIn 7 = .ok (.putfield 19, 3) := by decide +kernel
theorem dX6_faultIn_10 : decode cX6_faultIn 10 = .ok (.aload_n 0, 1) := by decide +kernel
theorem dX6_faultIn_11 : decode cX6_faultIn 11 = .ok (.iconst 0, 1) := by decide +kernel
theorem dX6_faultIn_12 : decode cX6_faultIn 12 = .ok (.putfield 22, 3) := by decide +kernel
theorem dX6_faultIn_15 : decode cX6_faultIn 15 = .ok (.aload_n 0, 1) := by decide +kernel
theorem dX6_faultIn_16 : decode cX6_faultIn 16 = .ok (.iconst 0, 1) := by decide +kernel
theorem dX6_faultIn_17 : decode cX6_faultIn 17 = .ok (.putfield 25, 3) := by decide +kernel
theorem dX6_faultIn_20 : decode cX6_faultIn 20 = .ok (.aload_n 0, 1) := by decide +kernel
theorem dX6_faultIn_21 : decode cX6_faultIn 21 = .ok (.iconst 0, 1) := by decide +kernel
theorem dX6_faultIn_22 : decode cX6_faultIn 22 = .ok (.putfield 28, 3) := by decide +kernel
theorem dX6_faultIn_25 : decode cX6_faultIn 25 = .ok (.aload_n 3, 1) := by decide +kernel
theorem dX6_faultIn_26 : decode cX6_faultIn 26 = .ok (.invokevirtual 32, 3) := by decide +kernel
theorem dX6_faultIn_29 : decode cX6_faultIn 29 = .ok (.iconst 0, 1) := by decide +kernel
theorem dX6_faultIn_30 : decode cX6_faultIn 30 = .ok (.istore 4, 2) := by decide +kernel
theorem dX6_faultIn_32 : decode cX6_faultIn 32 = .ok (.iload 4, 2) := by decide +kernel
theorem dX6_faultIn_34 : decode cX6_faultIn 34 = .ok (.iload_n 2, 1) := by decide +kernel
theorem dX6_faultIn_35 : decode cX6_faultIn 35 = .ok (.if_icmp .ge 61, 3) := by decide +kernel
theorem dX6_faultIn_38 : decode cX6_faultIn 38 = .ok (.iload 4, 2) := by decide +kernel
theorem dX6_faultIn_40 : decode cX6_faultIn 40 = .ok (.bipush 40, 2) := by decide +kernel
theorem dX6_faultIn_42 : decode cX6_faultIn 42 = .ok (.if_icmp .ge 54, 3) := by decide +kernel
theorem dX6_faultIn_45 : decode cX6_faultIn 45 = .ok (.iload 4, 2) := by decide +kernel
theorem dX6_faultIn_47 : decode cX6_faultIn 47 = .ok (.aload_n 1, 1) := by decide +kernel
theorem dX6_faultIn_48 : decode cX6_faultIn 48 = .ok (.arraylength, 1) := by decide +kernel
theorem dX6_faultIn_49 : decode cX6_faultIn 49 = .ok (.if_icmp .ge 47, 3) := by decide +kernel
theorem dX6_faultIn_52 : decode cX6_faultIn 52 = .ok (.aload_n 0, 1) := by decide +kernel
theorem dX6_faultIn_53 : decode cX6_faultIn 53 = .ok (.getfield 28, 3) := by decide +kernel
theorem dX6_faultIn_56 : decode cX6_faultIn 56 = .ok (.ifCond .eq 15, 3) := by decide +kernel
theorem dX6_faultIn_59 : decode cX6_faultIn 59 = .ok (.aload_n 0, 1) := by decide +kernel
theorem dX6_faultIn_60 : decode cX6_faultIn 60 = .ok (.aload_n 1, 1) := by decide +kernel
theorem dX6_faultIn_61 : decode cX6_faultIn 61 = .ok (.iload 4, 2) := by decide +kernel
theorem dX6_faultIn_63 : decode cX6_faultIn 63 = .ok (.caload, 1) := by decide +kernel
theorem dX6_faultIn_64 : decode cX6_faultIn 64 = .ok (.aload_n 3, 1) := by decide +kernel
theorem dX6_faultIn_65 : decode cX6_faultIn 65 = .ok (.invokevirtual 37, 3) := by decide +kernel
theorem dX6_faultIn_68 : decode cX6_faultIn 68 = .ok (.goto 12, 3) := by decide +kernel
theorem dX6_faultIn_71 : decode cX6_faultIn 71 = .ok (.aload_n 0, 1) := by decide +kernel
theorem dX6_faultIn_72 : decode cX6_faultIn 72 = .ok (.aload_n 1, 1) := by decide +kernel
theorem dX6_faultIn_73 : decode cX6_faultIn 73 = .ok (.iload 4, 2) := by decide +kernel
theorem dX6_faultIn_75 : decode cX6_faultIn 75 = .ok (.caload, 1) := by decide +kernel
theorem dX6_faultIn_76 : decode cX6_faultIn 76 = .ok (.aload_n 3, 1) := by decide +kernel
theorem dX6_faultIn_77 : decode cX6_faultIn 77 = .ok (.invokevirtual 41, 3) := by decide +kernel
theorem dX6_faultIn_80 : decode cX6_faultIn 80 = .ok (.istore 5, 2) := by decide +kernel
theorem dX6_faultIn_82 : decode cX6_faultIn 82 = .ok (.iload 5, 2) := by decide +kernel
theorem dX6_faultIn_84 : decode cX6_faultIn 84 = .ok (.ifCond .ne 6, 3) := by decide +kernel
theorem dX6_faultIn_87 : decode cX6_faultIn 87 = .ok (.iload 4, 2) := by decide +kernel
theorem dX6_faultIn_89 : decode cX6_faultIn 89 = .ok (.ireturn, 1) := by decide +kernel
theorem dX6_faultIn_90 : decode cX6_faultIn 90 = .ok (.iinc 4 1, 3) := by decide +kernel
theorem dX6_faultIn_93 : decode cX6_faultIn 93 = .ok (.goto (-61), 3) := by decide +kernel
theorem dX6_faultIn_96 : decode cX6_faultIn 96 = .ok (.iload_n 2, 1) := by decide +kernel
theorem dX6_faultIn_97 : decode cX6_faultIn 97 = .ok (.bipush 40, 2) := by decide +kernel
theorem dX6_faultIn_99 : decode cX6_faultIn 99 = .ok (.if_icmp .le 6, 3) := by decide +kernel
theorem dX6_faultIn_102 : decode cX6_faultIn 102 = .ok (.bipush 40, 2) := by decide +kernel
theorem dX6_faultIn_104 : decode cX6_faultIn 104 = .ok (.ireturn, 1) := by decide +kernel
theorem dX6_faultIn_105 : decode cX6_faultIn 105 = .ok (.aload_n 0, 1) := by decide +kernel
theorem dX6_faultIn_106 : decode cX6_faultIn 106 = .ok (.getfield 28, 3) := by decide +kernel
theorem dX6_faultIn_109 : decode cX6_faultIn 109 = .ok (.ifCond .eq 10, 3) := by decide +kernel
theorem dX6_faultIn_112 : decode cX6_faultIn 112 = .ok (.aload_n 0, 1) := by decide +kernel
theorem dX6_faultIn_113 : decode cX6_faultIn 113 = .ok (.getfield 19, 3) := by decide +kernel
theorem dX6_faultIn_116 : decode cX6_faultIn 116 = .ok (.ifCond .le 5, 3) := by decide +kernel
theorem dX6_faultIn_119 : decode cX6_faultIn 119 = .ok (.iload_n 2, 1) := by decide +kernel
theorem dX6_faultIn_120 : decode cX6_faultIn 120 = .ok (.ireturn, 1) := by decide +kernel
theorem dX6_faultIn_121 : decode cX6_faultIn 121 = .ok (.aload_n 0, 1) := by decide +kernel
theorem dX6_faultIn_122 : decode cX6_faultIn 122 = .ok (.iconst 1, 1) := by decide +kernel
theorem dX6_faultIn_123 : decode cX6_faultIn 123 = .ok (.aload_n 3, 1) := by decide +kernel
theorem dX6_faultIn_124 : decode cX6_faultIn 124 = .ok (.invokevirtual 44, 3) := by decide +kernel
theorem dX6_faultIn_127 : decode cX6_faultIn 127 = .ok (.iconst (-1), 1) := by decide +kernel
theorem dX6_faultIn_128 : decode cX6_faultIn 128 = .ok (.ireturn, 1) := by decide +kernel
theorem dX6_begins_0 : decode cX6_begins 0 = .ok (.ldc 48, 2) := by decide +kernel
theorem dX6_begins_2 : decode cX6_begins 2 = .ok (.iload_n 1, 1) := by decide +kernel
theorem dX6_begins_3 : decode cX6_begins 3 = .ok (.invokevirtual 50, 3) := by decide +kernel
theorem dX6_begins_6 : decode cX6_begins 6 = .ok (.istore_n 3, 1) := by decide +kernel
theorem dX6_begins_7 : decode cX6_begins 7 = .ok (.iload_n 1, 1) := by decide +kernel
theorem dX6_begins_8 : decode cX6_begins 8 = .ok (.bipush 48, 2) := by decide +kernel
theorem dX6_begins_10 : decode cX6_begins 10 = .ok (.if_icmp .lt 30, 3) := by decide +kernel
theorem dX6_begins_13 : decode cX6_begins 13 = .ok (.iload_n 1, 1) := by decide +kernel
theorem dX6_begins_14 : decode cX6_begins 14 = .ok (.bipush 57, 2) := by decide +kernel
theorem dX6_begins_16 : decode cX6_begins 16 = .ok (.if_icmp .gt 24, 3) := by decide +kernel
theorem dX6_begins_19 : decode cX6_begins 19 = .ok (.aload_n 2, 1) := by decide +kernel
theorem dX6_begins_20 : decode cX6_begins 20 = .ok (.iload_n 1, 1) := by decide +kernel
theorem dX6_begins_21 : decode cX6_begins 21 = .ok (.bipush 48, 2) := by decide +kernel
theorem dX6_begins_23 : decode cX6_begins 23 = .ok (.isub, 1) := by decide +kernel
theorem dX6_begins_24 : decode cX6_begins 24 = .ok (.invokevirtual 56, 3) := by decide +kernel
theorem dX6_begins_27 : decode cX6_begins 27 = .ok (.aload_n 0, 1) := by decide +kernel
theorem dX6_begins_28 : decode cX6_begins 28 = .ok (.iconst 1, 1) := by decide +kernel
theorem dX6_begins_29 : decode cX6_begins 29 = .ok (.putfield 25, 3) := by decide +kernel
theorem dX6_begins_32 : decode cX6_begins 32 = .ok (.aload_n 0, 1) := by decide +kernel
theorem dX6_begins_33 : decode cX6_begins 33 = .ok (.iconst 1, 1) := by decide +kernel
theorem dX6_begins_34 : decode cX6_begins 34 = .ok (.putfield 28, 3) := by decide +kernel
theorem dX6_begins_37 : decode cX6_begins 37 = .ok (.goto 96, 3) := by decide +kernel
theorem dX6_begins_40 : decode cX6_begins 40 = .ok (.iload_n 3, 1) := by decide +kernel
theorem dX6_begins_41 : decode cX6_begins 41 = .ok (.ifCond .lt 25, 3) := by decide +kernel
theorem dX6_begins_44 : decode cX6_begins 44 = .ok (.aload_n 2, 1) := by decide +kernel
theorem dX6_begins_45 : decode cX6_begins 45 = .ok (.sipush 1000, 3) := by decide +kernel
theorem dX6_begins_48 : decode cX6_begins 48 = .ok (.iload_n 3, 1) := by decide +kernel
theorem dX6_begins_49 : decode cX6_begins 49 = .ok (.iadd, 1) := by decide +kernel
theorem dX6_begins_50 : decode cX6_begins 50 = .ok (.invokevirtual 56, 3) := by decide +kernel
theorem dX6_begins_53 : decode cX6_begins 53 = .ok (.aload_n 0, 1) := by decide +kernel
theorem dX6_begins_54 : decode cX6_begins 54 = .ok (.iconst 0, 1) := by decide +kernel
theorem dX6_begins_55 : decode cX6_begins 55 = .ok (.putfield 25, 3) := by decide +kernel
theorem dX6_begins_58 : decode cX6_begins 58 = .ok (.aload_n 0, 1) := by decide +kernel
theorem dX6_begins_59 : decode cX6_begins 59 = .ok (.iconst 1, 1) := by decide +kernel
theorem dX6_begins_60 : decode cX6_begins 60 = .ok (.putfield 28, 3) := by decide +kernel
theorem dX6_begins_63 : decode cX6_begins 63 = .ok (.goto 70, 3) := by decide +kernel
theorem dX6_begins_66 : decode cX6_begins 66 = .ok (.iload_n 1, 1) := by decide +kernel
theorem dX6_begins_67 : decode cX6_begins 67 = .ok (.bipush 45, 2) := by decide +kernel
theorem dX6_begins_69 : decode cX6_begins 69 = .ok (.if_icmp .ne 13, 3) := by decide +kernel
theorem dX6_begins_72 : decode cX6_begins 72 = .ok (.aload_n 0, 1) := by decide +kernel
theorem dX6_begins_73 : decode cX6_begins 73 = .ok (.sipush 2007, 3) := by decide +kernel
theorem dX6_begins_76 : decode cX6_begins 76 = .ok (.invokevirtual 60, 3) := by decide +kernel
theorem dX6_begins_79 : decode cX6_begins 79 = .ok (.goto 54, 3) := by decide +kernel
theorem dX6_begins_82 : decode cX6_begins 82 = .ok (.iload_n 1, 1) := by decide +kernel
theorem dX6_begins_83 : decode cX6_begins 83 = .ok (.bipush 40, 2) := by decide +kernel
theorem dX6_begins_85 : decode cX6_begins 85 = .ok (.if_icmp .ne 46, 3) := by decide +kernel
theorem dX6_begins_88 : decode cX6_begins 88 = .ok (.aload_n 0, 1) := by decide +kernel
theorem dX6_begins_89 : decode cX6_begins 89 = .ok (.getfield 19, 3) := by decide +kernel
theorem dX6_begins_92 : decode cX6_begins 92 = .ok (.iconst 4, 1) := by decide +kernel
theorem dX6_begins_93 : decode cX6_begins 93 = .ok (.if_icmp .ge 38, 3) := by decide +kernel
theorem dX6_begins_96 : decode cX6_begins 96 = .ok (.aload_n 0, 1) := by decide +kernel
theorem dX6_begins_97 : decode cX6_begins 97 = .ok (.dup, 1) := by decide +kernel
theorem dX6_begins_98 : decode cX6_begins 98 = .ok (.getfield 19, 3) := by decide +kernel
theorem dX6_begins_101 : decode cX6_begins 101 = .ok (.iconst 1, 1) := by decide +kernel
theorem dX6_begins_102 : decode cX6_begins 102 = .ok (.iadd, 1) := by decide +kernel
theorem dX6_begins_103 : decode cX6_begins 103 = .ok (.putfield 19, 3) := by decide +kernel
theorem dX6_begins_106 : decode cX6_begins 106 = .ok (.aload_n 0, 1) := by decide +kernel
theorem dX6_begins_107 : decode cX6_begins 107 = .ok (.dup, 1) := by decide +kernel
theorem dX6_begins_108 : decode cX6_begins 108 = .ok (.getfield 22, 3) := by decide +kernel
theorem dX6_begins_111 : decode cX6_begins 111 = .ok (.iconst 1, 1) := by decide +kernel
theorem dX6_begins_112 : decode cX6_begins 112 = .ok (.aload_n 0, 1) := by decide +kernel
theorem dX6_begins_113 : decode cX6_begins 113 = .ok (.getfield 19, 3) := by decide +kernel
theorem dX6_begins_116 : decode cX6_begins 116 = .ok (.ishl, 1) := by decide +kernel
theorem dX6_begins_117 : decode cX6_begins 117 = .ok (.iconst (-1), 1) := by decide +kernel
theorem dX6_begins_118 : decode cX6_begins 118 = .ok (.ixor, 1) := by decide +kernel
theorem dX6_begins_119 : decode cX6_begins 119 = .ok (.iand, 1) := by decide +kernel
theorem dX6_begins_120 : decode cX6_begins 120 = .ok (.putfield 22, 3) := by decide +kernel
theorem dX6_begins_123 : decode cX6_begins 123 = .ok (.aload_n 0, 1) := by decide +kernel
theorem dX6_begins_124 : decode cX6_begins 124 = .ok (.iconst 0, 1) := by decide +kernel
theorem dX6_begins_125 : decode cX6_begins 125 = .ok (.invokevirtual 60, 3) := by decide +kernel
theorem dX6_begins_128 : decode cX6_begins 128 = .ok (.goto 5, 3) := by decide +kernel
theorem dX6_begins_131 : decode cX6_begins 131 = .ok (.iconst 0, 1) := by decide +kernel
theorem dX6_begins_132 : decode cX6_begins 132 = .ok (.ireturn, 1) := by decide +kernel
theorem dX6_begins_133 : decode cX6_begins 133 = .ok (.iconst 1, 1) := by decide +kernel
theorem dX6_begins_134 : decode cX6_begins 134 = .ok (.ireturn, 1) := by decide +kernel
theorem dX6_goesBehind_0 : decode cX6_goesBehind 0 = .ok (.iload_n 1, 1) := by decide +kernel
theorem dX6_goesBehind_1 : decode cX6_goesBehind 1 = .ok (.bipush 48, 2) := by decide +kernel
theorem dX6_goesBehind_3 : decode cX6_goesBehind 3 = .ok (.if_icmp .lt 19, 3) := by decide +kernel
theorem dX6_goesBehind_6 : decode cX6_goesBehind 6 = .ok (.iload_n 1, 1) := by decide +kernel
theorem dX6_goesBehind_7 : decode cX6_goesBehind 7 = .ok (.bipush 57, 2) := by decide +kernel
theorem dX6_goesBehind_9 : decode cX6_goesBehind 9 = .ok (.if_icmp .gt 13, 3) := by decide +kernel
theorem dX6_goesBehind_12 : decode cX6_goesBehind 12 = .ok (.aload_n 0, 1) := by decide +kernel
theorem dX6_goesBehind_13 : decode cX6_goesBehind 13 = .ok (.iload_n 1, 1) := by decide +kernel
theorem dX6_goesBehind_14 : decode cX6_goesBehind 14 = .ok (.bipush 48, 2) := by decide +kernel
theorem dX6_goesBehind_16 : decode cX6_goesBehind 16 = .ok (.isub, 1) := by decide +kernel
theorem dX6_goesBehind_17 : decode cX6_goesBehind 17 = .ok (.aload_n 2, 1) := by decide +kernel
theorem dX6_goesBehind_18 : decode cX6_goesBehind 18 = .ok (.invokevirtual 63, 3) := by decide +kernel
theorem dX6_goesBehind_21 : decode cX6_goesBehind 21 = .ok (.ireturn, 1) := by decide +kernel
theorem dX6_goesBehind_22 : decode cX6_goesBehind 22 = .ok (.aload_n 0, 1) := by decide +kernel
theorem dX6_goesBehind_23 : decode cX6_goesBehind 23 = .ok (.iconst 0, 1) := by decide +kernel
theorem dX6_goesBehind_24 : decode cX6_goesBehind 24 = .ok (.putfield 25, 3) := by decide +kernel
theorem dX6_goesBehind_27 : decode cX6_goesBehind 27 = .ok (.iload_n 1, 1) := by decide +kernel
theorem dX6_goesBehind_28 : decode cX6_goesBehind 28 = .ok (.bipush 41, 2) := by decide +kernel
theorem dX6_goesBehind_30 : decode cX6_goesBehind 30 = .ok (.if_icmp .ne 9, 3) := by decide +kernel
theorem dX6_goesBehind_33 : decode cX6_goesBehind 33 = .ok (.aload_n 0, 1) := by decide +kernel
theorem dX6_goesBehind_34 : decode cX6_goesBehind 34 = .ok (.aload_n 2, 1) := by decide +kernel
theorem dX6_goesBehind_35 : decode cX6_goesBehind 35 = .ok (.invokevirtual 67, 3) := by decide +kernel
theorem dX6_goesBehind_38 : decode cX6_goesBehind 38 = .ok (.ireturn, 1) := by decide +kernel
theorem dX6_goesBehind_39 : decode cX6_goesBehind 39 = .ok (.ldc 71, 2) := by decide +kernel
theorem dX6_goesBehind_41 : decode cX6_goesBehind 41 = .ok (.iload_n 1, 1) := by decide +kernel
theorem dX6_goesBehind_42 : decode cX6_goesBehind 42 = .ok (.invokevirtual 50, 3) := by decide +kernel
theorem dX6_goesBehind_45 : decode cX6_goesBehind 45 = .ok (.istore_n 3, 1) := by decide +kernel
theorem dX6_goesBehind_46 : decode cX6_goesBehind 46 = .ok (.iload_n 3, 1) := by decide +kernel
theorem dX6_goesBehind_47 : decode cX6_goesBehind 47 = .ok (.ifCond .ge 5, 3) := by decide +kernel
theorem dX6_goesBehind_50 : decode cX6_goesBehind 50 = .ok (.iconst 0, 1) := by decide +kernel
theorem dX6_goesBehind_51 : decode cX6_goesBehind 51 = .ok (.ireturn, 1) := by decide +kernel
theorem dX6_goesBehind_52 : decode cX6_goesBehind 52 = .ok (.sipush 2000, 3) := by decide +kernel
theorem dX6_goesBehind_55 : decode cX6_goesBehind 55 = .ok (.iload_n 3, 1) := by decide +kernel
theorem dX6_goesBehind_56 : decode cX6_goesBehind 56 = .ok (.iadd, 1) := by decide +kernel
theorem dX6_goesBehind_57 : decode cX6_goesBehind 57 = .ok (.invokestatic 73, 3) := by decide +kernel
theorem dX6_goesBehind_60 : decode cX6_goesBehind 60 = .ok (.istore 4, 2) := by decide +kernel
theorem dX6_goesBehind_62 : decode cX6_goesBehind 62 = .ok (.iload 4, 2) := by decide +kernel
theorem dX6_goesBehind_64 : decode cX6_goesBehind 64 = .ok (.iconst 1, 1) := by decide +kernel
theorem dX6_goesBehind_65 : decode cX6_goesBehind 65 = .ok (.if_icmp .ne 19, 3) := by decide +kernel
theorem dX6_goesBehind_68 : decode cX6_goesBehind 68 = .ok (.aload_n 0, 1) := by decide +kernel
theorem dX6_goesBehind_69 : decode cX6_goesBehind 69 = .ok (.getfield 22, 3) := by decide +kernel
theorem dX6_goesBehind_72 : decode cX6_goesBehind 72 = .ok (.aload_n 0, 1) := by decide +kernel
theorem dX6_goesBehind_73 : decode cX6_goesBehind 73 = .ok (.getfield 19, 3) := by decide +kernel
theorem dX6_goesBehind_76 : decode cX6_goesBehind 76 = .ok (.ishr, 1) := by decide +kernel
theorem dX6_goesBehind_77 : decode cX6_goesBehind 77 = .ok (.iconst 1, 1) := by decide +kernel
theorem dX6_goesBehind_78 : decode cX6_goesBehind 78 = .ok (.iand, 1) := by decide +kernel
theorem dX6_goesBehind_79 : decode cX6_goesBehind 79 = .ok (.ifCond .eq 5, 3) := by decide +kernel
theorem dX6_goesBehind_82 : decode cX6_goesBehind 82 = .ok (.iconst 0, 1) := by decide +kernel
theorem dX6_goesBehind_83 : decode cX6_goesBehind 83 = .ok (.ireturn, 1) := by decide +kernel
theorem dX6_goesBehind_84 : decode cX6_goesBehind 84 = .ok (.aload_n 0, 1) := by decide +kernel
theorem dX6_goesBehind_85 : decode cX6_goesBehind 85 = .ok (.dup, 1) := by decide +kernel
theorem dX6_goesBehind_86 : decode cX6_goesBehind 86 = .ok (.getfield 22, 3) := by decide +kernel
theorem dX6_goesBehind_89 : decode cX6_goesBehind 89 = .ok (.iload 4, 2) := by decide +kernel
theorem dX6_goesBehind_91 : decode cX6_goesBehind 91 = .ok (.iconst 1, 1) := by decide +kernel
theorem dX6_goesBehind_92 : decode cX6_goesBehind 92 = .ok (.if_icmp .ne 12, 3) := by decide +kernel
theorem dX6_goesBehind_95 : decode cX6_goesBehind 95 = .ok (.iconst 1, 1) := by decide +kernel
theorem dX6_goesBehind_96 : decode cX6_goesBehind 96 = .ok (.aload_n 0, 1) := by decide +kernel
theorem dX6_goesBehind_97 : decode cX6_goesBehind 97 = .ok (.getfield 19, 3) := by decide +kernel
theorem dX6_goesBehind_100 : decode cX6_goesBehind 100 = .ok (.ishl, 1) := by decide +kernel
theorem dX6_goesBehind_101 : decode cX6_goesBehind 101 = .ok (.goto 4, 3) := by decide +kernel
theorem dX6_goesBehind_104 : decode cX6_goesBehind 104 = .ok (.iconst 0, 1) := by decide +kernel
theorem dX6_goesBehind_105 : decode cX6_goesBehind 105 = .ok (.ior, 1) := by decide +kernel
theorem dX6_goesBehind_106 : decode cX6_goesBehind 106 = .ok (.putfield 22, 3) := by decide +kernel
theorem dX6_goesBehind_109 : decode cX6_goesBehind 109 = .ok (.aload_n 0, 1) := by decide +kernel
theorem dX6_goesBehind_110 : decode cX6_goesBehind 110 = .ok (.iload 4, 2) := by decide +kernel
theorem dX6_goesBehind_112 : decode cX6_goesBehind 112 = .ok (.aload_n 2, 1) := by decide +kernel
theorem dX6_goesBehind_113 : decode cX6_goesBehind 113 = .ok (.invokevirtual 44, 3) := by decide +kernel
theorem dX6_goesBehind_116 : decode cX6_goesBehind 116 = .ok (.aload_n 0, 1) := by decide +kernel
theorem dX6_goesBehind_117 : decode cX6_goesBehind 117 = .ok (.sipush 2000, 3) := by decide +kernel
theorem dX6_goesBehind_120 : decode cX6_goesBehind 120 = .ok (.iload_n 3, 1) := by decide +kernel
theorem dX6_goesBehind_121 : decode cX6_goesBehind 121 = .ok (.iadd, 1) := by decide +kernel
theorem dX6_goesBehind_122 : decode cX6_goesBehind 122 = .ok (.invokevirtual 60, 3) := by decide +kernel
theorem dX6_goesBehind_125 : decode cX6_goesBehind 125 = .ok (.aload_n 0, 1) := by decide +kernel
theorem dX6_goesBehind_126 : decode cX6_goesBehind 126 = .ok (.iconst 0, 1) := by decide +kernel
theorem dX6_goesBehind_127 : decode cX6_goesBehind 127 = .ok (.putfield 28, 3) := by decide +kernel
theorem dX6_goesBehind_130 : decode cX6_goesBehind 130 = .ok (.iconst 1, 1) := by decide +kernel
theorem dX6_goesBehind_131 : decode cX6_goesBehind 131 = .ok (.ireturn, 1) := by decide +kernel
theorem dX6_goesOnNumber_0 : decode cX6_goesOnNumber 0 = .ok (.aload_n 0, 1) := by decide +kernel
theorem dX6_goesOnNumber_1 : decode cX6_goesOnNumber 1 = .ok (.getfield 25, 3) := by decide +kernel
theorem dX6_goesOnNumber_4 : decode cX6_goesOnNumber 4 = .ok (.ifCond .eq 11, 3) := by decide +kernel
theorem dX6_goesOnNumber_7 : decode cX6_goesOnNumber 7 = .ok (.aload_n 0, 1) := by decide +kernel
theorem dX6_goesOnNumber_8 : decode cX6_goesOnNumber 8 = .ok (.getfield 25, 3) := by decide +kernel
theorem dX6_goesOnNumber_11 : decode cX6_goesOnNumber 11 = .ok (.iconst 3, 1) := by decide +kernel
theorem dX6_goesOnNumber_12 : decode cX6_goesOnNumber 12 = .ok (.if_icmp .lt 5, 3) := by decide +kernel
theorem dX6_goesOnNumber_15 : decode cX6_goesOnNumber 15 = .ok (.iconst 0, 1) := by decide +kernel
theorem dX6_goesOnNumber_16 : decode cX6_goesOnNumber 16 = .ok (.ireturn, 1) := by decide +kernel
theorem dX6_goesOnNumber_17 : decode cX6_goesOnNumber 17 = .ok (.aload_n 0, 1) := by decide +kernel
theorem dX6_goesOnNumber_18 : decode cX6_goesOnNumber 18 = .ok (.dup, 1) := by decide +kernel
theorem dX6_goesOnNumber_19 : decode cX6_goesOnNumber 19 = .ok (.getfield 25, 3) := by decide +kernel
theorem dX6_goesOnNumber_22 : decode cX6_goesOnNumber 22 = .ok (.iconst 1, 1) := by decide +kernel
theorem dX6_goesOnNumber_23 : decode cX6_goesOnNumber 23 = .ok (.iadd, 1) := by decide +kernel
theorem dX6_goesOnNumber_24 : decode cX6_goesOnNumber 24 = .ok (.putfield 25, 3) := by decide +kernel
theorem dX6_goesOnNumber_27 : decode cX6_goesOnNumber 27 = .ok (.aload_n 2, 1) := by decide +kernel
theorem dX6_goesOnNumber_28 : decode cX6_goesOnNumber 28 = .ok (.iload_n 1, 1) := by decide +kernel
theorem dX6_goesOnNumber_29 : decode cX6_goesOnNumber 29 = .ok (.invokevirtual 76, 3) := by decide +kernel
theorem dX6_goesOnNumber_32 : decode cX6_goesOnNumber 32 = .ok (.iconst 1, 1) := by decide +kernel
theorem dX6_goesOnNumber_33 : decode cX6_goesOnNumber 33 = .ok (.ireturn, 1) := by decide +kernel
theorem dX6_closes_0 : decode cX6_closes 0 = .ok (.aload_n 0, 1) := by decide +kernel
theorem dX6_closes_1 : decode cX6_closes 1 = .ok (.getfield 19, 3) := by decide +kernel
theorem dX6_closes_4 : decode cX6_closes 4 = .ok (.ifCond .eq 10, 3) := by decide +kernel
theorem dX6_closes_7 : decode cX6_closes 7 = .ok (.aload_n 0, 1) := by decide +kernel
theorem dX6_closes_8 : decode cX6_closes 8 = .ok (.getfield 15, 3) := by decide +kernel
theorem dX6_closes_11 : decode cX6_closes 11 = .ok (.ifCond .ne 5, 3) := by decide +kernel
theorem dX6_closes_14 : decode cX6_closes 14 = .ok (.iconst 0, 1) := by decide +kernel
theorem dX6_closes_15 : decode cX6_closes 15 = .ok (.ireturn, 1) := by decide +kernel
theorem dX6_closes_16 : decode cX6_closes 16 = .ok (.aload_n 0, 1) := by decide +kernel
theorem dX6_closes_17 : decode cX6_closes 17 = .ok (.iconst 1, 1) := by decide +kernel
theorem dX6_closes_18 : decode cX6_closes 18 = .ok (.aload_n 1, 1) := by decide +kernel
theorem dX6_closes_19 : decode cX6_closes 19 = .ok (.invokevirtual 44, 3) := by decide +kernel
theorem dX6_closes_22 : decode cX6_closes 22 = .ok (.aload_n 0, 1) := by decide +kernel
theorem dX6_closes_23 : decode cX6_closes 23 = .ok (.dup, 1) := by decide +kernel
theorem dX6_closes_24 : decode cX6_closes 24 = .ok (.getfield 19, 3) := by decide +kernel
theorem dX6_closes_27 : decode cX6_closes 27 = .ok (.iconst 1, 1) := by decide +kernel
theorem dX6_closes_28 : decode cX6_closes 28 = .ok (.isub, 1) := by decide +kernel
theorem dX6_closes_29 : decode cX6_closes 29 = .ok (.putfield 19, 3) := by decide +kernel
theorem dX6_closes_32 : decode cX6_closes 32 = .ok (.aload_n 0, 1) := by decide +kernel
theorem dX6_closes_33 : decode cX6_closes 33 = .ok (.iconst 0, 1) := by decide +kernel
theorem dX6_closes_34 : decode cX6_closes 34 = .ok (.aload_n 0, 1) := by decide +kernel
theorem dX6_closes_35 : decode cX6_closes 35 = .ok (.getfield 15, 3) := by decide +kernel
theorem dX6_closes_38 : decode cX6_closes 38 = .ok (.iconst 1, 1) := by decide +kernel
theorem dX6_closes_39 : decode cX6_closes 39 = .ok (.isub, 1) := by decide +kernel
theorem dX6_closes_40 : decode cX6_closes 40 = .ok (.invokestatic 79, 3) := by decide +kernel
theorem dX6_closes_43 : decode cX6_closes 43 = .ok (.putfield 15, 3) := by decide +kernel
theorem dX6_closes_46 : decode cX6_closes 46 = .ok (.iconst 1, 1) := by decide +kernel
theorem dX6_closes_47 : decode cX6_closes 47 = .ok (.ireturn, 1) := by decide +kernel
theorem dX6_waitsFor_0 : decode cX6_waitsFor 0 = .ok (.aload_n 0, 1) := by decide +kernel
theorem dX6_waitsFor_1 : decode cX6_waitsFor 1 = .ok (.getfield 15, 3) := by decide +kernel
theorem dX6_waitsFor_4 : decode cX6_waitsFor 4 = .ok (.bipush 40, 2) := by decide +kernel
theorem dX6_waitsFor_6 : decode cX6_waitsFor 6 = .ok (.if_icmp .ge 23, 3) := by decide +kernel
theorem dX6_waitsFor_9 : decode cX6_waitsFor 9 = .ok (.aload_n 0, 1) := by decide +kernel
theorem dX6_waitsFor_10 : decode cX6_waitsFor 10 = .ok (.getfield 9, 3) := by decide +kernel
theorem dX6_waitsFor_13 : decode cX6_waitsFor 13 = .ok (.aload_n 0, 1) := by decide +kernel
theorem dX6_waitsFor_14 : decode cX6_waitsFor 14 = .ok (.getfield 15, 3) := by decide +kernel
theorem dX6_waitsFor_17 : decode cX6_waitsFor 17 = .ok (.iload_n 1, 1) := by decide +kernel
theorem dX6_waitsFor_18 : decode cX6_waitsFor 18 = .ok (.iastore, 1) := by decide +kernel
theorem dX6_waitsFor_19 : decode cX6_waitsFor 19 = .ok (.aload_n 0, 1) := by decide +kernel
theorem dX6_waitsFor_20 : decode cX6_waitsFor 20 = .ok (.dup, 1) := by decide +kernel
theorem dX6_waitsFor_21 : decode cX6_waitsFor 21 = .ok (.getfield 15, 3) := by decide +kernel
theorem dX6_waitsFor_24 : decode cX6_waitsFor 24 = .ok (.iconst 1, 1) := by decide +kernel
theorem dX6_waitsFor_25 : decode cX6_waitsFor 25 = .ok (.iadd, 1) := by decide +kernel
theorem dX6_waitsFor_26 : decode cX6_waitsFor 26 = .ok (.putfield 15, 3) := by decide +kernel
theorem dX6_waitsFor_29 : decode cX6_waitsFor 29 = .ok (.return_, 1) := by decide +kernel
theorem dX6_settles_0 : decode cX6_settles 0 = .ok (.aload_n 0, 1) := by decide +kernel
theorem dX6_settles_1 : decode cX6_settles 1 = .ok (.getfield 15, 3) := by decide +kernel
theorem dX6_settles_4 : decode cX6_settles 4 = .ok (.iconst 1, 1) := by decide +kernel
theorem dX6_settles_5 : decode cX6_settles 5 = .ok (.isub, 1) := by decide +kernel
theorem dX6_settles_6 : decode cX6_settles 6 = .ok (.istore_n 3, 1) := by decide +kernel
theorem dX6_settles_7 : decode cX6_settles 7 = .ok (.iload_n 3, 1) := by decide +kernel
theorem dX6_settles_8 : decode cX6_settles 8 = .ok (.ifCond .lt 44, 3) := by decide +kernel
theorem dX6_settles_11 : decode cX6_settles 11 = .ok (.iload_n 3, 1) := by decide +kernel
theorem dX6_settles_12 : decode cX6_settles 12 = .ok (.bipush 40, 2) := by decide +kernel
theorem dX6_settles_14 : decode cX6_settles 14 = .ok (.if_icmp .ge 38, 3) := by decide +kernel
theorem dX6_settles_17 : decode cX6_settles 17 = .ok (.aload_n 0, 1) := by decide +kernel
theorem dX6_settles_18 : decode cX6_settles 18 = .ok (.getfield 9, 3) := by decide +kernel
theorem dX6_settles_21 : decode cX6_settles 21 = .ok (.iload_n 3, 1) := by decide +kernel
theorem dX6_settles_22 : decode cX6_settles 22 = .ok (.iaload, 1) := by decide +kernel
theorem dX6_settles_23 : decode cX6_settles 23 = .ok (.invokestatic 73, 3) := by decide +kernel
theorem dX6_settles_26 : decode cX6_settles 26 = .ok (.iload_n 1, 1) := by decide +kernel
theorem dX6_settles_27 : decode cX6_settles 27 = .ok (.if_icmp .ge 4, 3) := by decide +kernel
theorem dX6_settles_30 : decode cX6_settles 30 = .ok (.return_, 1) := by decide +kernel
theorem dX6_settles_31 : decode cX6_settles 31 = .ok (.aload_n 2, 1) := by decide +kernel
theorem dX6_settles_32 : decode cX6_settles 32 = .ok (.aload_n 0, 1) := by decide +kernel
theorem dX6_settles_33 : decode cX6_settles 33 = .ok (.getfield 9, 3) := by decide +kernel
theorem dX6_settles_36 : decode cX6_settles 36 = .ok (.iload_n 3, 1) := by decide +kernel
theorem dX6_settles_37 : decode cX6_settles 37 = .ok (.iaload, 1) := by decide +kernel
theorem dX6_settles_38 : decode cX6_settles 38 = .ok (.invokevirtual 56, 3) := by decide +kernel
theorem dX6_settles_41 : decode cX6_settles 41 = .ok (.aload_n 0, 1) := by decide +kernel
theorem dX6_settles_42 : decode cX6_settles 42 = .ok (.iload_n 3, 1) := by decide +kernel
theorem dX6_settles_43 : decode cX6_settles 43 = .ok (.putfield 15, 3) := by decide +kernel
theorem dX6_settles_46 : decode cX6_settles 46 = .ok (.iinc 3 (-1), 3) := by decide +kernel
theorem dX6_settles_49 : decode cX6_settles 49 = .ok (.goto (-42), 3) := by decide +kernel
theorem dX6_settles_52 : decode cX6_settles 52 = .ok (.return_, 1) := by decide +kernel
theorem dX6_bindingOf_0 : decode cX6_bindingOf 0 = .ok (.iload_n 0, 1) := by decide +kernel
theorem dX6_bindingOf_1 : decode cX6_bindingOf 1 = .ok (.ifCond .ne 5, 3) := by decide +kernel
theorem dX6_bindingOf_4 : decode cX6_bindingOf 4 = .ok (.iconst 0, 1) := by decide +kernel
theorem dX6_bindingOf_5 : decode cX6_bindingOf 5 = .ok (.ireturn, 1) := by decide +kernel
theorem dX6_bindingOf_6 : decode cX6_bindingOf 6 = .ok (.iload_n 0, 1) := by decide +kernel
theorem dX6_bindingOf_7 : decode cX6_bindingOf 7 = .ok (.sipush 2007, 3) := by decide +kernel
theorem dX6_bindingOf_10 : decode cX6_bindingOf 10 = .ok (.if_icmp .ne 5, 3) := by decide +kernel
theorem dX6_bindingOf_13 : decode cX6_bindingOf 13 = .ok (.iconst 4, 1) := by decide +kernel
theorem dX6_bindingOf_14 : decode cX6_bindingOf 14 = .ok (.ireturn, 1) := by decide +kernel
theorem dX6_bindingOf_15 : decode cX6_bindingOf 15 = .ok (.iload_n 0, 1) := by decide +kernel
theorem dX6_bindingOf_16 : decode cX6_bindingOf 16 = .ok (.sipush 2000, 3) := by decide +kernel
theorem dX6_bindingOf_19 : decode cX6_bindingOf 19 = .ok (.isub, 1) := by decide +kernel
theorem dX6_bindingOf_20 : decode cX6_bindingOf 20 = .ok (.istore_n 1, 1) := by decide +kernel
theorem dX6_bindingOf_21 : decode cX6_bindingOf 21 = .ok (.iload_n 1, 1) := by decide +kernel
theorem dX6_bindingOf_22 : decode cX6_bindingOf 22 = .ok (.iconst 3, 1) := by decide +kernel
theorem dX6_bindingOf_23 : decode cX6_bindingOf 23 = .ok (.if_icmp .ge 7, 3) := by decide +kernel
theorem dX6_bindingOf_26 : decode cX6_bindingOf 26 = .ok (.iconst 1, 1) := by decide +kernel
theorem dX6_bindingOf_27 : decode cX6_bindingOf 27 = .ok (.goto 13, 3) := by decide +kernel
theorem dX6_bindingOf_30 : decode cX6_bindingOf 30 = .ok (.iload_n 1, 1) := by decide +kernel
theorem dX6_bindingOf_31 : decode cX6_bindingOf 31 = .ok (.iconst 5, 1) := by decide +kernel
theorem dX6_bindingOf_32 : decode cX6_bindingOf 32 = .ok (.if_icmp .ge 7, 3) := by decide +kernel
theorem dX6_bindingOf_35 : decode cX6_bindingOf 35 = .ok (.iconst 2, 1) := by decide +kernel
theorem dX6_bindingOf_36 : decode cX6_bindingOf 36 = .ok (.goto 4, 3) := by decide +kernel
theorem dX6_bindingOf_39 : decode cX6_bindingOf 39 = .ok (.iconst 3, 1) := by decide +kernel
theorem dX6_bindingOf_40 : decode cX6_bindingOf 40 = .ok (.ireturn, 1) := by decide +kernel
theorem dX7_init_0 : decode cX7_init 0 = .ok (.aload_n 0, 1) := by decide +kernel
theorem dX7_init_1 : decode cX7_init 1 = .ok (.invokespecial 3, 3) := by decide +kernel
theorem dX7_init_4 : decode cX7_init 4 = .ok (.aload_n 0, 1) := by decide +kernel
theorem dX7_init_5 : decode cX7_init 5 = .ok (.sipush 1024, 3) := by decide +kernel
theorem dX7_init_8 : decode cX7_init 8 = .ok (.newarray .int, 2) := by decide +kernel
theorem dX7_init_10 : decode cX7_init 10 = .ok (.putfield 9, 3) := by decide +kernel
theorem dX7_init_13 : decode cX7_init 13 = .ok (.return_, 1) := by decide +kernel
theorem dX7_tellsServed_0 : decode cX7_tellsServed 0 = .ok (.aload_n 0, 1) := by decide +kernel
theorem dX7_tellsServed_1 : decode cX7_tellsServed 1 = .ok (.aload_n 1, 1) := by decide +kernel
theorem dX7_tellsServed_2 : decode cX7_tellsServed 2 = .ok (.iload_n 2, 1) := by decide +kernel
theorem dX7_tellsServed_3 : decode cX7_tellsServed 3 = .ok (.invokevirtual 15, 3) := by decide +kernel
theorem dX7_tellsServed_6 : decode cX7_tellsServed 6 = .ok (.aload_n 3, 1) := by decide +kernel
theorem dX7_tellsServed_7 : decode cX7_tellsServed 7 = .ok (.invokevirtual 19, 3) := by decide +kernel
theorem dX7_tellsServed_10 : decode cX7_tellsServed 10 = .ok (.iconst 0, 1) := by decide +kernel
theorem dX7_tellsServed_11 : decode cX7_tellsServed 11 = .ok (.istore 4, 2) := by decide +kernel
theorem dX7_tellsServed_13 : decode cX7_tellsServed 13 = .ok (.iconst 0, 1) := by decide +kernel
theorem dX7_tellsServed_14 : decode cX7_tellsServed 14 = .ok (.istore 5, 2) := by decide +kernel
theorem dX7_tellsServed_16 : decode cX7_tellsServed 16 = .ok (.iload 5, 2) := by decide +kernel
theorem dX7_tellsServed_18 : decode cX7_tellsServed 18 = .ok (.aload_n 1, 1) := by decide +kernel
theorem dX7_tellsServed_19 : decode cX7_tellsServed 19 = .ok (.getfield 24, 3) := by decide +kernel
theorem dX7_tellsServed_22 : decode cX7_tellsServed 22 = .ok (.if_icmp .ge 58, 3) := by decide +kernel
theorem dX7_tellsServed_25 : decode cX7_tellsServed 25 = .ok (.aload_n 0, 1) := by decide +kernel
theorem dX7_tellsServed_26 : decode cX7_tellsServed 26 = .ok (.iload 5, 2) := by decide +kernel
theorem dX7_tellsServed_28 : decode cX7_tellsServed 28 = .ok (.aload_n 1, 1) := by decide +kernel
theorem dX7_tellsServed_29 : decode cX7_tellsServed 29 = .ok (.getfield 30, 3) := by decide +kernel
theorem dX7_tellsServed_32 : decode cX7_tellsServed 32 = .ok (.iload 5, 2) := by decide +kernel
theorem dX7_tellsServed_34 : decode cX7_tellsServed 34 = .ok (.iaload, 1) := by decide +kernel
theorem dX7_tellsServed_35 : decode cX7_tellsServed 35 = .ok (.iload_n 2, 1) := by decide +kernel
theorem dX7_tellsServed_36 : decode cX7_tellsServed 36 = .ok (.iand, 1) := by decide +kernel
theorem dX7_tellsServed_37 : decode cX7_tellsServed 37 = .ok (.iload 4, 2) := by decide +kernel
theorem dX7_tellsServed_39 : decode cX7_tellsServed 39 = .ok (.iconst (-1), 1) := by decide +kernel
theorem dX7_tellsServed_40 : decode cX7_tellsServed 40 = .ok (.ixor, 1) := by decide +kernel
theorem dX7_tellsServed_41 : decode cX7_tellsServed 41 = .ok (.iand, 1) := by decide +kernel
theorem dX7_tellsServed_42 : decode cX7_tellsServed 42 = .ok (.iload 4, 2) := by decide +kernel
theorem dX7_tellsServed_44 : decode cX7_tellsServed 44 = .ok (.invokevirtual 33, 3) := by decide +kernel
theorem dX7_tellsServed_47 : decode cX7_tellsServed 47 = .ok (.istore 6, 2) := by decide +kernel
theorem dX7_tellsServed_49 : decode cX7_tellsServed 49 = .ok (.aload_n 3, 1) := by decide +kernel
theorem dX7_tellsServed_50 : decode cX7_tellsServed 50 = .ok (.iload 6, 2) := by decide +kernel
theorem dX7_tellsServed_52 : decode cX7_tellsServed 52 = .ok (.i2l, 1) := by decide +kernel
theorem dX7_tellsServed_53 : decode cX7_tellsServed 53 = .ok (.invokevirtual 37, 3) := by decide +kernel
theorem dX7_tellsServed_56 : decode cX7_tellsServed 56 = .ok (.iload 4, 2) := by decide +kernel
theorem dX7_tellsServed_58 : decode cX7_tellsServed 58 = .ok (.iload 6, 2) := by decide +kernel
theorem dX7_tellsServed_60 : decode cX7_tellsServed 60 = .ok (.ifCond .lt 10, 3) := by decide +kernel
theorem dX7_tellsServed_63 : decode cX7_tellsServed 63 = .ok (.iconst 1, 1) := by decide +kernel
theorem dX7_tellsServed_64 : decode cX7_tellsServed 64 = .ok (.iload 6, 2) := by decide +kernel
theorem dX7_tellsServed_66 : decode cX7_tellsServed 66 = .ok (.ishl, 1) := by decide +kernel
theorem dX7_tellsServed_67 : decode cX7_tellsServed 67 = .ok (.goto 4, 3) := by decide +kernel
theorem dX7_tellsServed_70 : decode cX7_tellsServed 70 = .ok (.iconst 0, 1) := by decide +kernel
theorem dX7_tellsServed_71 : decode cX7_tellsServed 71 = .ok (.ior, 1) := by decide +kernel
theorem dX7_tellsServed_72 : decode cX7_tellsServed 72 = .ok (.istore 4, 2) := by decide +kernel
theorem dX7_tellsServed_74 : decode cX7_tellsServed 74 = .ok (.iinc 5 1, 3) := by decide +kernel
theorem dX7_tellsServed_77 : decode cX7_tellsServed 77 = .ok (.goto (-61), 3) := by decide +kernel
theorem dX7_tellsServed_80 : decode cX7_tellsServed 80 = .ok (.aload_n 0, 1) := by decide +kernel
theorem dX7_tellsServed_81 : decode cX7_tellsServed 81 = .ok (.iconst 0, 1) := by decide +kernel
theorem dX7_tellsServed_82 : decode cX7_tellsServed 82 = .ok (.iconst 0, 1) := by decide +kernel
theorem dX7_tellsServed_83 : decode cX7_tellsServed 83 = .ok (.invokevirtual 41, 3) := by decide +kernel
theorem dX7_tellsServed_86 : decode cX7_tellsServed 86 = .ok (.ireturn, 1) := by decide +kernel
theorem dX7_reckons_0 : decode cX7_reckons 0 = .ok (.aload_n 1, 1) := by decide +kernel
theorem dX7_reckons_1 : decode cX7_reckons 1 = .ok (.invokevirtual 45, 3) := by decide +kernel
theorem dX7_reckons_4 : decode cX7_reckons 4 = .ok (.iconst 1, 1) := by decide +kernel
theorem dX7_reckons_5 : decode cX7_reckons 5 = .ok (.iadd, 1) := by decide +kernel
theorem dX7_reckons_6 : decode cX7_reckons 6 = .ok (.istore_n 3, 1) := by decide +kernel
theorem dX7_reckons_7 : decode cX7_reckons 7 = .ok (.aload_n 1, 1) := by decide +kernel
theorem dX7_reckons_8 : decode cX7_reckons 8 = .ok (.getfield 24, 3) := by decide +kernel
theorem dX7_reckons_11 : decode cX7_reckons 11 = .ok (.istore 4, 2) := by decide +kernel
theorem dX7_reckons_13 : decode cX7_reckons 13 = .ok (.iload 4, 2) := by decide +kernel
theorem dX7_reckons_15 : decode cX7_reckons 15 = .ok (.ifCond .lt 90, 3) := by decide +kernel
theorem dX7_reckons_18 : decode cX7_reckons 18 = .ok (.iconst 0, 1) := by decide +kernel
theorem dX7_reckons_19 : decode cX7_reckons 19 = .ok (.istore 5, 2) := by decide +kernel
theorem dX7_reckons_21 : decode cX7_reckons 21 = .ok (.iload 5, 2) := by decide +kernel
theorem dX7_reckons_23 : decode cX7_reckons 23 = .ok (.iload_n 3, 1) := by decide +kernel
theorem dX7_reckons_24 : decode cX7_reckons 24 = .ok (.if_icmp .ge 75, 3) := by decide +kernel
theorem dX7_reckons_27 : decode cX7_reckons 27 = .ok (.iload 4, 2) := by decide +kernel
theorem dX7_reckons_29 : decode cX7_reckons 29 = .ok (.aload_n 1, 1) := by decide +kernel
theorem dX7_reckons_30 : decode cX7_reckons 30 = .ok (.getfield 24, 3) := by decide +kernel
theorem dX7_reckons_33 : decode cX7_reckons 33 = .ok (.if_icmp .ge 20, 3) := by decide +kernel
theorem dX7_reckons_36 : decode cX7_reckons 36 = .ok (.aload_n 1, 1) := by decide +kernel
theorem dX7_reckons_37 : decode cX7_reckons 37 = .ok (.getfield 30, 3) := by decide +kernel
theorem dX7_reckons_40 : decode cX7_reckons 40 = .ok (.iload 4, 2) := by decide +kernel
theorem dX7_reckons_42 : decode cX7_reckons 42 = .ok (.iaload, 1) := by decide +kernel
theorem dX7_reckons_43 : decode cX7_reckons 43 = .ok (.iload_n 2, 1) := by decide +kernel
theorem dX7_reckons_44 : decode cX7_reckons 44 = .ok (.iand, 1) := by decide +kernel
theorem dX7_reckons_45 : decode cX7_reckons 45 = .ok (.iload 5, 2) := by decide +kernel
theorem dX7_reckons_47 : decode cX7_reckons 47 = .ok (.iconst (-1), 1) := by decide +kernel
theorem dX7_reckons_48 : decode cX7_reckons 48 = .ok (.ixor, 1) := by decide +kernel
theorem dX7_reckons_49 : decode cX7_reckons 49 = .ok (.iand, 1) := by decide +kernel
theorem dX7_reckons_50 : decode cX7_reckons 50 = .ok (.goto 4, 3) := by decide +kernel
theorem dX7_reckons_53 : decode cX7_reckons 53 = .ok (.iconst 0, 1) := by decide +kernel
theorem dX7_reckons_54 : decode cX7_reckons 54 = .ok (.istore 6, 2) := by decide +kernel
theorem dX7_reckons_56 : decode cX7_reckons 56 = .ok (.aload_n 0, 1) := by decide +kernel
theorem dX7_reckons_57 : decode cX7_reckons 57 = .ok (.getfield 9, 3) := by decide +kernel
theorem dX7_reckons_60 : decode cX7_reckons 60 = .ok (.iload 4, 2) := by decide +kernel
theorem dX7_reckons_62 : decode cX7_reckons 62 = .ok (.sipush 128, 3) := by decide +kernel
theorem dX7_reckons_65 : decode cX7_reckons 65 = .ok (.imul, 1) := by decide +kernel
theorem dX7_reckons_66 : decode cX7_reckons 66 = .ok (.iload 5, 2) := by decide +kernel
theorem dX7_reckons_68 : decode cX7_reckons 68 = .ok (.iadd, 1) := by decide +kernel
theorem dX7_reckons_69 : decode cX7_reckons 69 = .ok (.iload 4, 2) := by decide +kernel
theorem dX7_reckons_71 : decode cX7_reckons 71 = .ok (.aload_n 1, 1) := by decide +kernel
theorem dX7_reckons_72 : decode cX7_reckons 72 = .ok (.getfield 24, 3) := by decide +kernel
theorem dX7_reckons_75 : decode cX7_reckons 75 = .ok (.if_icmp .ge 16, 3) := by decide +kernel
theorem dX7_reckons_78 : decode cX7_reckons 78 = .ok (.aload_n 0, 1) := by decide +kernel
theorem dX7_reckons_79 : decode cX7_reckons 79 = .ok (.iload 4, 2) := by decide +kernel
theorem dX7_reckons_81 : decode cX7_reckons 81 = .ok (.iload 6, 2) := by decide +kernel
theorem dX7_reckons_83 : decode cX7_reckons 83 = .ok (.iload 5, 2) := by decide +kernel
theorem dX7_reckons_85 : decode cX7_reckons 85 = .ok (.invokevirtual 49, 3) := by decide +kernel
theorem dX7_reckons_88 : decode cX7_reckons 88 = .ok (.goto 4, 3) := by decide +kernel
theorem dX7_reckons_91 : decode cX7_reckons 91 = .ok (.iconst 0, 1) := by decide +kernel
theorem dX7_reckons_92 : decode cX7_reckons 92 = .ok (.iastore, 1) := by decide +kernel
theorem dX7_reckons_93 : decode cX7_reckons 93 = .ok (.iinc 5 1, 3) := by decide +kernel
theorem dX7_reckons_96 : decode cX7_reckons 96 = .ok (.goto (-75), 3) := by decide +kernel
theorem dX7_reckons_99 : decode cX7_reckons 99 = .ok (.iinc 4 (-1), 3) := by decide +kernel
theorem dX7_reckons_102 : decode cX7_reckons 102 = .ok (.goto (-89), 3) := by decide +kernel
theorem dX7_reckons_105 : decode cX7_reckons 105 = .ok (.return_, 1) := by decide +kernel
theorem dX7_best_0 : decode cX7_best 0 = .ok (.aload_n 0, 1) := by decide +kernel
theorem dX7_best_1 : decode cX7_best 1 = .ok (.iload_n 1, 1) := by decide +kernel
theorem dX7_best_2 : decode cX7_best 2 = .ok (.iconst 1, 1) := by decide +kernel
theorem dX7_best_3 : decode cX7_best 3 = .ok (.iadd, 1) := by decide +kernel
theorem dX7_best_4 : decode cX7_best 4 = .ok (.iload_n 3, 1) := by decide +kernel
theorem dX7_best_5 : decode cX7_best 5 = .ok (.invokevirtual 41, 3) := by decide +kernel
theorem dX7_best_8 : decode cX7_best 8 = .ok (.istore 4, 2) := by decide +kernel
theorem dX7_best_10 : decode cX7_best 10 = .ok (.iconst 0, 1) := by decide +kernel
theorem dX7_best_11 : decode cX7_best 11 = .ok (.istore 5, 2) := by decide +kernel
theorem dX7_best_13 : decode cX7_best 13 = .ok (.iload 5, 2) := by decide +kernel
theorem dX7_best_15 : decode cX7_best 15 = .ok (.bipush 7, 2) := by decide +kernel
theorem dX7_best_17 : decode cX7_best 17 = .ok (.if_icmp .ge 40, 3) := by decide +kernel
theorem dX7_best_20 : decode cX7_best 20 = .ok (.iload_n 2, 1) := by decide +kernel
theorem dX7_best_21 : decode cX7_best 21 = .ok (.iload 5, 2) := by decide +kernel
theorem dX7_best_23 : decode cX7_best 23 = .ok (.ishr, 1) := by decide +kernel
theorem dX7_best_24 : decode cX7_best 24 = .ok (.iconst 1, 1) := by decide +kernel
theorem dX7_best_25 : decode cX7_best 25 = .ok (.iand, 1) := by decide +kernel
theorem dX7_best_26 : decode cX7_best 26 = .ok (.ifCond .eq 25, 3) := by decide +kernel
theorem dX7_best_29 : decode cX7_best 29 = .ok (.iload 4, 2) := by decide +kernel
theorem dX7_best_31 : decode cX7_best 31 = .ok (.iconst 1, 1) := by decide +kernel
theorem dX7_best_32 : decode cX7_best 32 = .ok (.aload_n 0, 1) := by decide +kernel
theorem dX7_best_33 : decode cX7_best 33 = .ok (.iload_n 1, 1) := by decide +kernel
theorem dX7_best_34 : decode cX7_best 34 = .ok (.iconst 1, 1) := by decide +kernel
theorem dX7_best_35 : decode cX7_best 35 = .ok (.iadd, 1) := by decide +kernel
theorem dX7_best_36 : decode cX7_best 36 = .ok (.iload_n 3, 1) := by decide +kernel
theorem dX7_best_37 : decode cX7_best 37 = .ok (.iconst 1, 1) := by decide +kernel
theorem dX7_best_38 : decode cX7_best 38 = .ok (.iload 5, 2) := by decide +kernel
theorem dX7_best_40 : decode cX7_best 40 = .ok (.ishl, 1) := by decide +kernel
theorem dX7_best_41 : decode cX7_best 41 = .ok (.ior, 1) := by decide +kernel
theorem dX7_best_42 : decode cX7_best 42 = .ok (.invokevirtual 41, 3) := by decide +kernel
theorem dX7_best_45 : decode cX7_best 45 = .ok (.iadd, 1) := by decide +kernel
theorem dX7_best_46 : decode cX7_best 46 = .ok (.invokestatic 52, 3) := by decide +kernel
theorem dX7_best_49 : decode cX7_best 49 = .ok (.istore 4, 2) := by decide +kernel
theorem dX7_best_51 : decode cX7_best 51 = .ok (.iinc 5 1, 3) := by decide +kernel
theorem dX7_best_54 : decode cX7_best 54 = .ok (.goto (-41), 3) := by decide +kernel
theorem dX7_best_57 : decode cX7_best 57 = .ok (.iload 4, 2) := by decide +kernel
theorem dX7_best_59 : decode cX7_best 59 = .ok (.ireturn, 1) := by decide +kernel
theorem dX7_leastBy_0 : decode cX7_leastBy 0 = .ok (.aload_n 0, 1) := by decide +kernel
theorem dX7_leastBy_1 : decode cX7_leastBy 1 = .ok (.iload_n 1, 1) := by decide +kernel
theorem dX7_leastBy_2 : decode cX7_leastBy 2 = .ok (.iload_n 3, 1) := by decide +kernel
theorem dX7_leastBy_3 : decode cX7_leastBy 3 = .ok (.invokevirtual 41, 3) := by decide +kernel
theorem dX7_leastBy_6 : decode cX7_leastBy 6 = .ok (.istore 4, 2) := by decide +kernel
theorem dX7_leastBy_8 : decode cX7_leastBy 8 = .ok (.aload_n 0, 1) := by decide +kernel
theorem dX7_leastBy_9 : decode cX7_leastBy 9 = .ok (.iload_n 1, 1) := by decide +kernel
theorem dX7_leastBy_10 : decode cX7_leastBy 10 = .ok (.iconst 1, 1) := by decide +kernel
theorem dX7_leastBy_11 : decode cX7_leastBy 11 = .ok (.iadd, 1) := by decide +kernel
theorem dX7_leastBy_12 : decode cX7_leastBy 12 = .ok (.iload_n 3, 1) := by decide +kernel
theorem dX7_leastBy_13 : decode cX7_leastBy 13 = .ok (.invokevirtual 41, 3) := by decide +kernel
theorem dX7_leastBy_16 : decode cX7_leastBy 16 = .ok (.iload 4, 2) := by decide +kernel
theorem dX7_leastBy_18 : decode cX7_leastBy 18 = .ok (.if_icmp .ne 5, 3) := by decide +kernel
theorem dX7_leastBy_21 : decode cX7_leastBy 21 = .ok (.iconst (-1), 1) := by decide +kernel
theorem dX7_leastBy_22 : decode cX7_leastBy 22 = .ok (.ireturn, 1) := by decide +kernel
theorem dX7_leastBy_23 : decode cX7_leastBy 23 = .ok (.iconst 0, 1) := by decide +kernel
theorem dX7_leastBy_24 : decode cX7_leastBy 24 = .ok (.istore 5, 2) := by decide +kernel
theorem dX7_leastBy_26 : decode cX7_leastBy 26 = .ok (.iload 5, 2) := by decide +kernel
theorem dX7_leastBy_28 : decode cX7_leastBy 28 = .ok (.bipush 7, 2) := by decide +kernel
theorem dX7_leastBy_30 : decode cX7_leastBy 30 = .ok (.if_icmp .ge 41, 3) := by decide +kernel
theorem dX7_leastBy_33 : decode cX7_leastBy 33 = .ok (.iload_n 2, 1) := by decide +kernel
theorem dX7_leastBy_34 : decode cX7_leastBy 34 = .ok (.iload 5, 2) := by decide +kernel
theorem dX7_leastBy_36 : decode cX7_leastBy 36 = .ok (.ishr, 1) := by decide +kernel
theorem dX7_leastBy_37 : decode cX7_leastBy 37 = .ok (.iconst 1, 1) := by decide +kernel
theorem dX7_leastBy_38 : decode cX7_leastBy 38 = .ok (.iand, 1) := by decide +kernel
theorem dX7_leastBy_39 : decode cX7_leastBy 39 = .ok (.ifCond .eq 26, 3) := by decide +kernel
theorem dX7_leastBy_42 : decode cX7_leastBy 42 = .ok (.iconst 1, 1) := by decide +kernel
theorem dX7_leastBy_43 : decode cX7_leastBy 43 = .ok (.aload_n 0, 1) := by decide +kernel
theorem dX7_leastBy_44 : decode cX7_leastBy 44 = .ok (.iload_n 1, 1) := by decide +kernel
theorem dX7_leastBy_45 : decode cX7_leastBy 45 = .ok (.iconst 1, 1) := by decide +kernel
theorem dX7_leastBy_46 : decode cX7_leastBy 46 = .ok (.iadd, 1) := by decide +kernel
theorem dX7_leastBy_47 : decode cX7_leastBy 47 = .ok (.iload_n 3, 1) := by decide +kernel
theorem dX7_leastBy_48 : decode cX7_leastBy 48 = .ok (.iconst 1, 1) := by decide +kernel
theorem dX7_leastBy_49 : decode cX7_leastBy 49 = .ok (.iload 5, 2) := by decide +kernel
theorem dX7_leastBy_51 : decode cX7_leastBy 51 = .ok (.ishl, 1) := by decide +kernel
theorem dX7_leastBy_52 : decode cX7_leastBy 52 = .ok (.ior, 1) := by decide +kernel
theorem dX7_leastBy_53 : decode cX7_leastBy 53 = .ok (.invokevirtual 41, 3) := by decide +kernel
theorem dX7_leastBy_56 : decode cX7_leastBy 56 = .ok (.iadd, 1) := by decide +kernel
theorem dX7_leastBy_57 : decode cX7_leastBy 57 = .ok (.iload 4, 2) := by decide +kernel
theorem dX7_leastBy_59 : decode cX7_leastBy 59 = .ok (.if_icmp .ne 6, 3) := by decide +kernel
theorem dX7_leastBy_62 : decode cX7_leastBy 62 = .ok (.iload 5, 2) := by decide +kernel
theorem dX7_leastBy_64 : decode cX7_leastBy 64 = .ok (.ireturn, 1) := by decide +kernel
theorem dX7_leastBy_65 : decode cX7_leastBy 65 = .ok (.iinc 5 1, 3) := by decide +kernel
theorem dX7_leastBy_68 : decode cX7_leastBy 68 = .ok (.goto (-42), 3) := by decide +kernel
theorem dX7_leastBy_71 : decode cX7_leastBy 71 = .ok (.iconst (-1), 1) := by decide +kernel
theorem dX7_leastBy_72 : decode cX7_leastBy 72 = .ok (.ireturn, 1) := by decide +kernel
theorem dX7_mostFrom_0 : decode cX7_mostFrom 0 = .ok (.iload_n 1, 1) := by decide +kernel
theorem dX7_mostFrom_1 : decode cX7_mostFrom 1 = .ok (.sipush 128, 3) := by decide +kernel
theorem dX7_mostFrom_4 : decode cX7_mostFrom 4 = .ok (.imul, 1) := by decide +kernel
theorem dX7_mostFrom_5 : decode cX7_mostFrom 5 = .ok (.iload_n 2, 1) := by decide +kernel
theorem dX7_mostFrom_6 : decode cX7_mostFrom 6 = .ok (.iadd, 1) := by decide +kernel
theorem dX7_mostFrom_7 : decode cX7_mostFrom 7 = .ok (.istore_n 3, 1) := by decide +kernel
theorem dX7_mostFrom_8 : decode cX7_mostFrom 8 = .ok (.iload_n 3, 1) := by decide +kernel
theorem dX7_mostFrom_9 : decode cX7_mostFrom 9 = .ok (.ifCond .lt 21, 3) := by decide +kernel
theorem dX7_mostFrom_12 : decode cX7_mostFrom 12 = .ok (.iload_n 3, 1) := by decide +kernel
theorem dX7_mostFrom_13 : decode cX7_mostFrom 13 = .ok (.aload_n 0, 1) := by decide +kernel
theorem dX7_mostFrom_14 : decode cX7_mostFrom 14 = .ok (.getfield 9, 3) := by decide +kernel
theorem dX7_mostFrom_17 : decode cX7_mostFrom 17 = .ok (.arraylength, 1) := by decide +kernel
theorem dX7_mostFrom_18 : decode cX7_mostFrom 18 = .ok (.if_icmp .ge 12, 3) := by decide +kernel
theorem dX7_mostFrom_21 : decode cX7_mostFrom 21 = .ok (.aload_n 0, 1) := by decide +kernel
theorem dX7_mostFrom_22 : decode cX7_mostFrom 22 = .ok (.getfield 9, 3) := by decide +kernel
theorem dX7_mostFrom_25 : decode cX7_mostFrom 25 = .ok (.iload_n 3, 1) := by decide +kernel
theorem dX7_mostFrom_26 : decode cX7_mostFrom 26 = .ok (.iaload, 1) := by decide +kernel
theorem dX7_mostFrom_27 : decode cX7_mostFrom 27 = .ok (.goto 4, 3) := by decide +kernel
theorem dX7_mostFrom_30 : decode cX7_mostFrom 30 = .ok (.iconst 0, 1) := by decide +kernel
theorem dX7_mostFrom_31 : decode cX7_mostFrom 31 = .ok (.ireturn, 1) := by decide +kernel
theorem dX7_tooMany_0 : decode cX7_tooMany 0 = .ok (.aload_n 0, 1) := by decide +kernel
theorem dX7_tooMany_1 : decode cX7_tooMany 1 = .ok (.aload_n 0, 1) := by decide +kernel
theorem dX7_tooMany_2 : decode cX7_tooMany 2 = .ok (.invokevirtual 45, 3) := by decide +kernel
theorem dX7_tooMany_5 : decode cX7_tooMany 5 = .ok (.invokevirtual 57, 3) := by decide +kernel
theorem dX7_tooMany_8 : decode cX7_tooMany 8 = .ok (.istore_n 2, 1) := by decide +kernel
theorem dX7_tooMany_9 : decode cX7_tooMany 9 = .ok (.iconst 0, 1) := by decide +kernel
theorem dX7_tooMany_10 : decode cX7_tooMany 10 = .ok (.istore_n 3, 1) := by decide +kernel
theorem dX7_tooMany_11 : decode cX7_tooMany 11 = .ok (.iconst 1, 1) := by decide +kernel
theorem dX7_tooMany_12 : decode cX7_tooMany 12 = .ok (.istore 4, 2) := by decide +kernel
theorem dX7_tooMany_14 : decode cX7_tooMany 14 = .ok (.iload 4, 2) := by decide +kernel
theorem dX7_tooMany_16 : decode cX7_tooMany 16 = .ok (.sipush 128, 3) := by decide +kernel
theorem dX7_tooMany_19 : decode cX7_tooMany 19 = .ok (.if_icmp .ge 69, 3) := by decide +kernel
theorem dX7_tooMany_22 : decode cX7_tooMany 22 = .ok (.iload 4, 2) := by decide +kernel
theorem dX7_tooMany_24 : decode cX7_tooMany 24 = .ok (.invokestatic 61, 3) := by decide +kernel
theorem dX7_tooMany_27 : decode cX7_tooMany 27 = .ok (.istore 5, 2) := by decide +kernel
theorem dX7_tooMany_29 : decode cX7_tooMany 29 = .ok (.iload_n 3, 1) := by decide +kernel
theorem dX7_tooMany_30 : decode cX7_tooMany 30 = .ok (.ifCond .eq 12, 3) := by decide +kernel
theorem dX7_tooMany_33 : decode cX7_tooMany 33 = .ok (.iload 5, 2) := by decide +kernel
theorem dX7_tooMany_35 : decode cX7_tooMany 35 = .ok (.iload_n 3, 1) := by decide +kernel
theorem dX7_tooMany_36 : decode cX7_tooMany 36 = .ok (.invokestatic 61, 3) := by decide +kernel
theorem dX7_tooMany_39 : decode cX7_tooMany 39 = .ok (.if_icmp .ge 7, 3) := by decide +kernel
theorem dX7_tooMany_42 : decode cX7_tooMany 42 = .ok (.iconst 1, 1) := by decide +kernel
theorem dX7_tooMany_43 : decode cX7_tooMany 43 = .ok (.goto 4, 3) := by decide +kernel
theorem dX7_tooMany_46 : decode cX7_tooMany 46 = .ok (.iconst 0, 1) := by decide +kernel
theorem dX7_tooMany_47 : decode cX7_tooMany 47 = .ok (.istore 6, 2) := by decide +kernel
theorem dX7_tooMany_49 : decode cX7_tooMany 49 = .ok (.iload 4, 2) := by decide +kernel
theorem dX7_tooMany_51 : decode cX7_tooMany 51 = .ok (.iload_n 2, 1) := by decide +kernel
theorem dX7_tooMany_52 : decode cX7_tooMany 52 = .ok (.iconst (-1), 1) := by decide +kernel
theorem dX7_tooMany_53 : decode cX7_tooMany 53 = .ok (.ixor, 1) := by decide +kernel
theorem dX7_tooMany_54 : decode cX7_tooMany 54 = .ok (.iand, 1) := by decide +kernel
theorem dX7_tooMany_55 : decode cX7_tooMany 55 = .ok (.ifCond .ne 27, 3) := by decide +kernel
theorem dX7_tooMany_58 : decode cX7_tooMany 58 = .ok (.iload 6, 2) := by decide +kernel
theorem dX7_tooMany_60 : decode cX7_tooMany 60 = .ok (.ifCond .eq 22, 3) := by decide +kernel
theorem dX7_tooMany_63 : decode cX7_tooMany 63 = .ok (.aload_n 0, 1) := by decide +kernel
theorem dX7_tooMany_64 : decode cX7_tooMany 64 = .ok (.iload 4, 2) := by decide +kernel
theorem dX7_tooMany_66 : decode cX7_tooMany 66 = .ok (.invokevirtual 66, 3) := by decide +kernel
theorem dX7_tooMany_69 : decode cX7_tooMany 69 = .ok (.iload_n 1, 1) := by decide +kernel
theorem dX7_tooMany_70 : decode cX7_tooMany 70 = .ok (.iand, 1) := by decide +kernel
theorem dX7_tooMany_71 : decode cX7_tooMany 71 = .ok (.invokestatic 61, 3) := by decide +kernel
theorem dX7_tooMany_74 : decode cX7_tooMany 74 = .ok (.iload 5, 2) := by decide +kernel
theorem dX7_tooMany_76 : decode cX7_tooMany 76 = .ok (.if_icmp .ge 6, 3) := by decide +kernel
theorem dX7_tooMany_79 : decode cX7_tooMany 79 = .ok (.iload 4, 2) := by decide +kernel
theorem dX7_tooMany_81 : decode cX7_tooMany 81 = .ok (.istore_n 3, 1) := by decide +kernel
theorem dX7_tooMany_82 : decode cX7_tooMany 82 = .ok (.iinc 4 1, 3) := by decide +kernel
theorem dX7_tooMany_85 : decode cX7_tooMany 85 = .ok (.goto (-71), 3) := by decide +kernel
theorem dX7_tooMany_88 : decode cX7_tooMany 88 = .ok (.iload_n 3, 1) := by decide +kernel
theorem dX7_tooMany_89 : decode cX7_tooMany 89 = .ok (.ireturn, 1) := by decide +kernel
theorem dX7_fewest_0 : decode cX7_fewest 0 = .ok (.aload_n 0, 1) := by decide +kernel
theorem dX7_fewest_1 : decode cX7_fewest 1 = .ok (.iload_n 1, 1) := by decide +kernel
theorem dX7_fewest_2 : decode cX7_fewest 2 = .ok (.invokevirtual 57, 3) := by decide +kernel
theorem dX7_fewest_5 : decode cX7_fewest 5 = .ok (.istore_n 2, 1) := by decide +kernel
theorem dX7_fewest_6 : decode cX7_fewest 6 = .ok (.iload_n 1, 1) := by decide +kernel
theorem dX7_fewest_7 : decode cX7_fewest 7 = .ok (.istore_n 3, 1) := by decide +kernel
theorem dX7_fewest_8 : decode cX7_fewest 8 = .ok (.iconst 0, 1) := by decide +kernel
theorem dX7_fewest_9 : decode cX7_fewest 9 = .ok (.istore 4, 2) := by decide +kernel
theorem dX7_fewest_11 : decode cX7_fewest 11 = .ok (.iload 4, 2) := by decide +kernel
theorem dX7_fewest_13 : decode cX7_fewest 13 = .ok (.sipush 128, 3) := by decide +kernel
theorem dX7_fewest_16 : decode cX7_fewest 16 = .ok (.if_icmp .ge 55, 3) := by decide +kernel
theorem dX7_fewest_19 : decode cX7_fewest 19 = .ok (.iload 4, 2) := by decide +kernel
theorem dX7_fewest_21 : decode cX7_fewest 21 = .ok (.iload_n 1, 1) := by decide +kernel
theorem dX7_fewest_22 : decode cX7_fewest 22 = .ok (.iconst (-1), 1) := by decide +kernel
theorem dX7_fewest_23 : decode cX7_fewest 23 = .ok (.ixor, 1) := by decide +kernel
theorem dX7_fewest_24 : decode cX7_fewest 24 = .ok (.iand, 1) := by decide +kernel
theorem dX7_fewest_25 : decode cX7_fewest 25 = .ok (.ifCond .ne 19, 3) := by decide +kernel
theorem dX7_fewest_28 : decode cX7_fewest 28 = .ok (.iload 4, 2) := by decide +kernel
theorem dX7_fewest_30 : decode cX7_fewest 30 = .ok (.invokestatic 61, 3) := by decide +kernel
theorem dX7_fewest_33 : decode cX7_fewest 33 = .ok (.iload_n 3, 1) := by decide +kernel
theorem dX7_fewest_34 : decode cX7_fewest 34 = .ok (.invokestatic 61, 3) := by decide +kernel
theorem dX7_fewest_37 : decode cX7_fewest 37 = .ok (.if_icmp .ge 7, 3) := by decide +kernel
theorem dX7_fewest_40 : decode cX7_fewest 40 = .ok (.iconst 1, 1) := by decide +kernel
theorem dX7_fewest_41 : decode cX7_fewest 41 = .ok (.goto 4, 3) := by decide +kernel
theorem dX7_fewest_44 : decode cX7_fewest 44 = .ok (.iconst 0, 1) := by decide +kernel
theorem dX7_fewest_45 : decode cX7_fewest 45 = .ok (.istore 5, 2) := by decide +kernel
theorem dX7_fewest_47 : decode cX7_fewest 47 = .ok (.iload 5, 2) := by decide +kernel
theorem dX7_fewest_49 : decode cX7_fewest 49 = .ok (.ifCond .eq 16, 3) := by decide +kernel
theorem dX7_fewest_52 : decode cX7_fewest 52 = .ok (.aload_n 0, 1) := by decide +kernel
theorem dX7_fewest_53 : decode cX7_fewest 53 = .ok (.iload 4, 2) := by decide +kernel
theorem dX7_fewest_55 : decode cX7_fewest 55 = .ok (.invokevirtual 57, 3) := by decide +kernel
theorem dX7_fewest_58 : decode cX7_fewest 58 = .ok (.iload_n 2, 1) := by decide +kernel
theorem dX7_fewest_59 : decode cX7_fewest 59 = .ok (.if_icmp .ne 6, 3) := by decide +kernel
theorem dX7_fewest_62 : decode cX7_fewest 62 = .ok (.iload 4, 2) := by decide +kernel
theorem dX7_fewest_64 : decode cX7_fewest 64 = .ok (.istore_n 3, 1) := by decide +kernel
theorem dX7_fewest_65 : decode cX7_fewest 65 = .ok (.iinc 4 1, 3) := by decide +kernel
theorem dX7_fewest_68 : decode cX7_fewest 68 = .ok (.goto (-57), 3) := by decide +kernel
theorem dX7_fewest_71 : decode cX7_fewest 71 = .ok (.iload_n 3, 1) := by decide +kernel
theorem dX7_fewest_72 : decode cX7_fewest 72 = .ok (.ireturn, 1) := by decide +kernel
theorem dX8_init_0 : decode cX8_init 0 = .ok (.aload_n 0, 1) := by decide +kernel
theorem dX8_init_1 : decode cX8_init 1 = .ok (.invokespecial 3, 3) := by decide +kernel
theorem dX8_init_4 : decode cX8_init 4 = .ok (.aload_n 0, 1) := by decide +kernel
theorem dX8_init_5 : decode cX8_init 5 = .ok (.bipush 10, 2) := by decide +kernel
theorem dX8_init_7 : decode cX8_init 7 = .ok (.newarray .int, 2) := by decide +kernel
theorem dX8_init_9 : decode cX8_init 9 = .ok (.putfield 11, 3) := by decide +kernel
theorem dX8_init_12 : decode cX8_init 12 = .ok (.aload_n 0, 1) := by decide +kernel
theorem dX8_init_13 : decode cX8_init 13 = .ok (.bipush 10, 2) := by decide +kernel
theorem dX8_init_15 : decode cX8_init 15 = .ok (.newarray .int, 2) := by decide +kernel
theorem dX8_init_17 : decode cX8_init 17 = .ok (.putfield 15, 3) := by decide +kernel
theorem dX8_init_20 : decode cX8_init 20 = .ok (.aload_n 0, 1) := by decide +kernel
theorem dX8_init_21 : decode cX8_init 21 = .ok (.bipush 10, 2) := by decide +kernel
theorem dX8_init_23 : decode cX8_init 23 = .ok (.newarray .boolean, 2) := by decide +kernel
theorem dX8_init_25 : decode cX8_init 25 = .ok (.putfield 18, 3) := by decide +kernel
theorem dX8_init_28 : decode cX8_init 28 = .ok (.aload_n 0, 1) := by decide +kernel
theorem dX8_init_29 : decode cX8_init 29 = .ok (.sipush 160, 3) := by decide +kernel
theorem dX8_init_32 : decode cX8_init 32 = .ok (.newarray .boolean, 2) := by decide +kernel
theorem dX8_init_34 : decode cX8_init 34 = .ok (.putfield 22, 3) := by decide +kernel
theorem dX8_init_37 : decode cX8_init 37 = .ok (.aload_n 0, 1) := by decide +kernel
theorem dX8_init_38 : decode cX8_init 38 = .ok (.iconst 0, 1) := by decide +kernel
theorem dX8_init_39 : decode cX8_init 39 = .ok (.putfield 25, 3) := by decide +kernel
theorem dX8_init_42 : decode cX8_init 42 = .ok (.return_, 1) := by decide +kernel
theorem dX8_takes_0 : decode cX8_takes 0 = .ok (.iload_n 1, 1) := by decide +kernel
theorem dX8_takes_1 : decode cX8_takes 1 = .ok (.ifCond .lt 32, 3) := by decide +kernel
theorem dX8_takes_4 : decode cX8_takes 4 = .ok (.iload_n 1, 1) := by decide +kernel
theorem dX8_takes_5 : decode cX8_takes 5 = .ok (.bipush 9, 2) := by decide +kernel
theorem dX8_takes_7 : decode cX8_takes 7 = .ok (.if_icmp .gt 26, 3) := by decide +kernel
theorem dX8_takes_10 : decode cX8_takes 10 = .ok (.iload_n 2, 1) := by decide +kernel
theorem dX8_takes_11 : decode cX8_takes 11 = .ok (.ifCond .lt 22, 3) := by decide +kernel
theorem dX8_takes_14 : decode cX8_takes 14 = .ok (.iload_n 2, 1) := by decide +kernel
theorem dX8_takes_15 : decode cX8_takes 15 = .ok (.bipush 7, 2) := by decide +kernel
theorem dX8_takes_17 : decode cX8_takes 17 = .ok (.if_icmp .ge 16, 3) := by decide +kernel
theorem dX8_takes_20 : decode cX8_takes 20 = .ok (.iload_n 3, 1) := by decide +kernel
theorem dX8_takes_21 : decode cX8_takes 21 = .ok (.ifCond .lt 12, 3) := by decide +kernel
theorem dX8_takes_24 : decode cX8_takes 24 = .ok (.iload_n 3, 1) := by decide +kernel
theorem dX8_takes_25 : decode cX8_takes 25 = .ok (.iconst 1, 1) := by decide +kernel
theorem dX8_takes_26 : decode cX8_takes 26 = .ok (.if_icmp .gt 7, 3) := by decide +kernel
theorem dX8_takes_29 : decode cX8_takes 29 = .ok (.iconst 1, 1) := by decide +kernel
theorem dX8_takes_30 : decode cX8_takes 30 = .ok (.goto 4, 3) := by decide +kernel
theorem dX8_takes_33 : decode cX8_takes 33 = .ok (.iconst 0, 1) := by decide +kernel
theorem dX8_takes_34 : decode cX8_takes 34 = .ok (.istore 4, 2) := by decide +kernel
theorem dX8_takes_36 : decode cX8_takes 36 = .ok (.iload 4, 2) := by decide +kernel
theorem dX8_takes_38 : decode cX8_takes 38 = .ok (.ifCond .eq 12, 3) := by decide +kernel
theorem dX8_takes_41 : decode cX8_takes 41 = .ok (.aload_n 0, 1) := by decide +kernel
theorem dX8_takes_42 : decode cX8_takes 42 = .ok (.getfield 25, 3) := by decide +kernel
theorem dX8_takes_45 : decode cX8_takes 45 = .ok (.bipush 10, 2) := by decide +kernel
theorem dX8_takes_47 : decode cX8_takes 47 = .ok (.if_icmp .lt 5, 3) := by decide +kernel
theorem dX8_takes_50 : decode cX8_takes 50 = .ok (.iconst 0, 1) := by decide +kernel
theorem dX8_takes_51 : decode cX8_takes 51 = .ok (.ireturn, 1) := by decide +kernel
theorem dX8_takes_52 : decode cX8_takes 52 = .ok (.aload_n 0, 1) := by decide +kernel
theorem dX8_takes_53 : decode cX8_takes 53 = .ok (.getfield 11, 3) := by decide +kernel
theorem dX8_takes_56 : decode cX8_takes 56 = .ok (.aload_n 0, 1) := by decide +kernel
theorem dX8_takes_57 : decode cX8_takes 57 = .ok (.getfield 25, 3) := by decide +kernel
theorem dX8_takes_60 : decode cX8_takes 60 = .ok (.iload_n 1, 1) := by decide +kernel
theorem dX8_takes_61 : decode cX8_takes 61 = .ok (.iastore, 1) := by decide +kernel
theorem dX8_takes_62 : decode cX8_takes 62 = .ok (.aload_n 0, 1) := by decide +kernel
theorem dX8_takes_63 : decode cX8_takes 63 = .ok (.getfield 15, 3) := by decide +kernel
theorem dX8_takes_66 : decode cX8_takes 66 = .ok (.aload_n 0, 1) := by decide +kernel
theorem dX8_takes_67 : decode cX8_takes 67 = .ok (.getfield 25, 3) := by decide +kernel
theorem dX8_takes_70 : decode cX8_takes 70 = .ok (.iload_n 2, 1) := by decide +kernel
theorem dX8_takes_71 : decode cX8_takes 71 = .ok (.iastore, 1) := by decide +kernel
theorem dX8_takes_72 : decode cX8_takes 72 = .ok (.aload_n 0, 1) := by decide +kernel
theorem dX8_takes_73 : decode cX8_takes 73 = .ok (.getfield 18, 3) := by decide +kernel
theorem dX8_takes_76 : decode cX8_takes 76 = .ok (.aload_n 0, 1) := by decide +kernel
theorem dX8_takes_77 : decode cX8_takes 77 = .ok (.getfield 25, 3) := by decide +kernel
theorem dX8_takes_80 : decode cX8_takes 80 = .ok (.iload_n 3, 1) := by decide +kernel
theorem dX8_takes_81 : decode cX8_takes 81 = .ok (.iconst 1, 1) := by decide +kernel
theorem dX8_takes_82 : decode cX8_takes 82 = .ok (.if_icmp .ne 7, 3) := by decide +kernel
theorem dX8_takes_85 : decode cX8_takes 85 = .ok (.iconst 1, 1) := by decide +kernel
theorem dX8_takes_86 : decode cX8_takes 86 = .ok (.goto 4, 3) := by decide +kernel
theorem dX8_takes_89 : decode cX8_takes 89 = .ok (.iconst 0, 1) := by decide +kernel
theorem dX8_takes_90 : decode cX8_takes 90 = .ok (.bastore, 1) := by decide +kernel
theorem dX8_takes_91 : decode cX8_takes 91 = .ok (.aload_n 0, 1) := by decide +kernel
theorem dX8_takes_92 : decode cX8_takes 92 = .ok (.dup, 1) := by decide +kernel
theorem dX8_takes_93 : decode cX8_takes 93 = .ok (.getfield 25, 3) := by decide +kernel
theorem dX8_takes_96 : decode cX8_takes 96 = .ok (.iconst 1, 1) := by decide +kernel
theorem dX8_takes_97 : decode cX8_takes 97 = .ok (.iadd, 1) := by decide +kernel
theorem dX8_takes_98 : decode cX8_takes 98 = .ok (.putfield 25, 3) := by decide +kernel
theorem dX8_takes_101 : decode cX8_takes 101 = .ok (.iconst 1, 1) := by decide +kernel
theorem dX8_takes_102 : decode cX8_takes 102 = .ok (.ireturn, 1) := by decide +kernel
theorem dX8_empties_0 : decode cX8_empties 0 = .ok (.aload_n 0, 1) := by decide +kernel
theorem dX8_empties_1 : decode cX8_empties 1 = .ok (.getfield 25, 3) := by decide +kernel
theorem dX8_empties_4 : decode cX8_empties 4 = .ok (.istore_n 1, 1) := by decide +kernel
theorem dX8_empties_5 : decode cX8_empties 5 = .ok (.aload_n 0, 1) := by decide +kernel
theorem dX8_empties_6 : decode cX8_empties 6 = .ok (.iconst 0, 1) := by decide +kernel
theorem dX8_empties_7 : decode cX8_empties 7 = .ok (.putfield 25, 3) := by decide +kernel
theorem dX8_empties_10 : decode cX8_empties 10 = .ok (.iload_n 1, 1) := by decide +kernel
theorem dX8_empties_11 : decode cX8_empties 11 = .ok (.ireturn, 1) := by decide +kernel
theorem dX8_rouses_0 : decode cX8_rouses 0 = .ok (.iload_n 0, 1) := by decide +kernel
theorem dX8_rouses_1 : decode cX8_rouses 1 = .ok (.bipush 40, 2) := by decide +kernel
theorem dX8_rouses_3 : decode cX8_rouses 3 = .ok (.idiv, 1) := by decide +kernel
theorem dX8_rouses_4 : decode cX8_rouses 4 = .ok (.iload_n 1, 1) := by decide +kernel
theorem dX8_rouses_5 : decode cX8_rouses 5 = .ok (.imul, 1) := by decide +kernel
theorem dX8_rouses_6 : decode cX8_rouses 6 = .ok (.iload_n 0, 1) := by decide +kernel
theorem dX8_rouses_7 : decode cX8_rouses 7 = .ok (.bipush 10, 2) := by decide +kernel
theorem dX8_rouses_9 : decode cX8_rouses 9 = .ok (.idiv, 1) := by decide +kernel
theorem dX8_rouses_10 : decode cX8_rouses 10 = .ok (.iconst 4, 1) := by decide +kernel
theorem dX8_rouses_11 : decode cX8_rouses 11 = .ok (.irem, 1) := by decide +kernel
theorem dX8_rouses_12 : decode cX8_rouses 12 = .ok (.iload_n 2, 1) := by decide +kernel
theorem dX8_rouses_13 : decode cX8_rouses 13 = .ok (.imul, 1) := by decide +kernel
theorem dX8_rouses_14 : decode cX8_rouses 14 = .ok (.iadd, 1) := by decide +kernel
theorem dX8_rouses_15 : decode cX8_rouses 15 = .ok (.iload_n 0, 1) := by decide +kernel
theorem dX8_rouses_16 : decode cX8_rouses 16 = .ok (.bipush 10, 2) := by decide +kernel
theorem dX8_rouses_18 : decode cX8_rouses 18 = .ok (.irem, 1) := by decide +kernel
theorem dX8_rouses_19 : decode cX8_rouses 19 = .ok (.if_icmp .le 7, 3) := by decide +kernel
theorem dX8_rouses_22 : decode cX8_rouses 22 = .ok (.iconst 1, 1) := by decide +kernel
theorem dX8_rouses_23 : decode cX8_rouses 23 = .ok (.goto 4, 3) := by decide +kernel
theorem dX8_rouses_26 : decode cX8_rouses 26 = .ok (.iconst 0, 1) := by decide +kernel
theorem dX8_rouses_27 : decode cX8_rouses 27 = .ok (.ireturn, 1) := by decide +kernel
theorem dX8_sifts_0 : decode cX8_sifts 0 = .ok (.iconst 0, 1) := by decide +kernel
theorem dX8_sifts_1 : decode cX8_sifts 1 = .ok (.istore_n 1, 1) := by decide +kernel
theorem dX8_sifts_2 : decode cX8_sifts 2 = .ok (.iconst 0, 1) := by decide +kernel
theorem dX8_sifts_3 : decode cX8_sifts 3 = .ok (.istore_n 2, 1) := by decide +kernel
theorem dX8_sifts_4 : decode cX8_sifts 4 = .ok (.iload_n 2, 1) := by decide +kernel
theorem dX8_sifts_5 : decode cX8_sifts 5 = .ok (.sipush 160, 3) := by decide +kernel
theorem dX8_sifts_8 : decode cX8_sifts 8 = .ok (.if_icmp .ge 94, 3) := by decide +kernel
theorem dX8_sifts_11 : decode cX8_sifts 11 = .ok (.aload_n 0, 1) := by decide +kernel
theorem dX8_sifts_12 : decode cX8_sifts 12 = .ok (.getfield 22, 3) := by decide +kernel
theorem dX8_sifts_15 : decode cX8_sifts 15 = .ok (.iload_n 2, 1) := by decide +kernel
theorem dX8_sifts_16 : decode cX8_sifts 16 = .ok (.iconst 1, 1) := by decide +kernel
theorem dX8_sifts_17 : decode cX8_sifts 17 = .ok (.bastore, 1) := by decide +kernel
theorem dX8_sifts_18 : decode cX8_sifts 18 = .ok (.iconst 0, 1) := by decide +kernel
theorem dX8_sifts_19 : decode cX8_sifts 19 = .ok (.istore_n 3, 1) := by decide +kernel
theorem dX8_sifts_20 : decode cX8_sifts 20 = .ok (.iload_n 3, 1) := by decide +kernel
theorem dX8_sifts_21 : decode cX8_sifts 21 = .ok (.aload_n 0, 1) := by decide +kernel
theorem dX8_sifts_22 : decode cX8_sifts 22 = .ok (.getfield 25, 3) := by decide +kernel
theorem dX8_sifts_25 : decode cX8_sifts 25 = .ok (.if_icmp .ge 54, 3) := by decide +kernel
theorem dX8_sifts_28 : decode cX8_sifts 28 = .ok (.iload_n 3, 1) := by decide +kernel
theorem dX8_sifts_29 : decode cX8_sifts 29 = .ok (.bipush 10, 2) := by decide +kernel
theorem dX8_sifts_31 : decode cX8_sifts 31 = .ok (.if_icmp .ge 48, 3) := by decide +kernel
theorem dX8_sifts_34 : decode cX8_sifts 34 = .ok (.aload_n 0, 1) := by decide +kernel
theorem dX8_sifts_35 : decode cX8_sifts 35 = .ok (.getfield 22, 3) := by decide +kernel
theorem dX8_sifts_38 : decode cX8_sifts 38 = .ok (.iload_n 2, 1) := by decide +kernel
theorem dX8_sifts_39 : decode cX8_sifts 39 = .ok (.dup2, 1) := by decide +kernel
theorem dX8_sifts_40 : decode cX8_sifts 40 = .ok (.baload, 1) := by decide +kernel
theorem dX8_sifts_41 : decode cX8_sifts 41 = .ok (.iload_n 2, 1) := by decide +kernel
theorem dX8_sifts_42 : decode cX8_sifts 42 = .ok (.aload_n 0, 1) := by decide +kernel
theorem dX8_sifts_43 : decode cX8_sifts 43 = .ok (.getfield 11, 3) := by decide +kernel
theorem dX8_sifts_46 : decode cX8_sifts 46 = .ok (.iload_n 3, 1) := by decide +kernel
theorem dX8_sifts_47 : decode cX8_sifts 47 = .ok (.iaload, 1) := by decide +kernel
theorem dX8_sifts_48 : decode cX8_sifts 48 = .ok (.aload_n 0, 1) := by decide +kernel
theorem dX8_sifts_49 : decode cX8_sifts 49 = .ok (.getfield 15, 3) := by decide +kernel
theorem dX8_sifts_52 : decode cX8_sifts 52 = .ok (.iload_n 3, 1) := by decide +kernel
theorem dX8_sifts_53 : decode cX8_sifts 53 = .ok (.iaload, 1) := by decide +kernel
theorem dX8_sifts_54 : decode cX8_sifts 54 = .ok (.invokestatic 29, 3) := by decide +kernel
theorem dX8_sifts_57 : decode cX8_sifts 57 = .ok (.aload_n 0, 1) := by decide +kernel
theorem dX8_sifts_58 : decode cX8_sifts 58 = .ok (.getfield 18, 3) := by decide +kernel
theorem dX8_sifts_61 : decode cX8_sifts 61 = .ok (.iload_n 3, 1) := by decide +kernel
theorem dX8_sifts_62 : decode cX8_sifts 62 = .ok (.baload, 1) := by decide +kernel
theorem dX8_sifts_63 : decode cX8_sifts 63 = .ok (.if_icmp .ne 7, 3) := by decide +kernel
theorem dX8_sifts_66 : decode cX8_sifts 66 = .ok (.iconst 1, 1) := by decide +kernel
theorem dX8_sifts_67 : decode cX8_sifts 67 = .ok (.goto 4, 3) := by decide +kernel
theorem dX8_sifts_70 : decode cX8_sifts 70 = .ok (.iconst 0, 1) := by decide +kernel
theorem dX8_sifts_71 : decode cX8_sifts 71 = .ok (.iand, 1) := by decide +kernel
theorem dX8_sifts_72 : decode cX8_sifts 72 = .ok (.bastore, 1) := by decide +kernel
theorem dX8_sifts_73 : decode cX8_sifts 73 = .ok (.iinc 3 1, 3) := by decide +kernel
theorem dX8_sifts_76 : decode cX8_sifts 76 = .ok (.goto (-56), 3) := by decide +kernel
theorem dX8_sifts_79 : decode cX8_sifts 79 = .ok (.iload_n 1, 1) := by decide +kernel
theorem dX8_sifts_80 : decode cX8_sifts 80 = .ok (.aload_n 0, 1) := by decide +kernel
theorem dX8_sifts_81 : decode cX8_sifts 81 = .ok (.getfield 22, 3) := by decide +kernel
theorem dX8_sifts_84 : decode cX8_sifts 84 = .ok (.iload_n 2, 1) := by decide +kernel
theorem dX8_sifts_85 : decode cX8_sifts 85 = .ok (.baload, 1) := by decide +kernel
theorem dX8_sifts_86 : decode cX8_sifts 86 = .ok (.ifCond .eq 7, 3) := by decide +kernel
theorem dX8_sifts_89 : decode cX8_sifts 89 = .ok (.iconst 1, 1) := by decide +kernel
theorem dX8_sifts_90 : decode cX8_sifts 90 = .ok (.goto 4, 3) := by decide +kernel
theorem dX8_sifts_93 : decode cX8_sifts 93 = .ok (.iconst 0, 1) := by decide +kernel
theorem dX8_sifts_94 : decode cX8_sifts 94 = .ok (.iadd, 1) := by decide +kernel
theorem dX8_sifts_95 : decode cX8_sifts 95 = .ok (.istore_n 1, 1) := by decide +kernel
theorem dX8_sifts_96 : decode cX8_sifts 96 = .ok (.iinc 2 1, 3) := by decide +kernel
theorem dX8_sifts_99 : decode cX8_sifts 99 = .ok (.goto (-95), 3) := by decide +kernel
theorem dX8_sifts_102 : decode cX8_sifts 102 = .ok (.iload_n 1, 1) := by decide +kernel
theorem dX8_sifts_103 : decode cX8_sifts 103 = .ok (.ireturn, 1) := by decide +kernel
theorem dX8_leastLaw_0 : decode cX8_leastLaw 0 = .ok (.iconst 0, 1) := by decide +kernel
theorem dX8_leastLaw_1 : decode cX8_leastLaw 1 = .ok (.istore_n 1, 1) := by decide +kernel
theorem dX8_leastLaw_2 : decode cX8_leastLaw 2 = .ok (.iload_n 1, 1) := by decide +kernel
theorem dX8_leastLaw_3 : decode cX8_leastLaw 3 = .ok (.sipush 160, 3) := by decide +kernel
theorem dX8_leastLaw_6 : decode cX8_leastLaw 6 = .ok (.if_icmp .ge 20, 3) := by decide +kernel
theorem dX8_leastLaw_9 : decode cX8_leastLaw 9 = .ok (.aload_n 0, 1) := by decide +kernel
theorem dX8_leastLaw_10 : decode cX8_leastLaw 10 = .ok (.getfield 22, 3) := by decide +kernel
theorem dX8_leastLaw_13 : decode cX8_leastLaw 13 = .ok (.iload_n 1, 1) := by decide +kernel
theorem dX8_leastLaw_14 : decode cX8_leastLaw 14 = .ok (.baload, 1) := by decide +kernel
theorem dX8_leastLaw_15 : decode cX8_leastLaw 15 = .ok (.ifCond .eq 5, 3) := by decide +kernel
theorem dX8_leastLaw_18 : decode cX8_leastLaw 18 = .ok (.iload_n 1, 1) := by decide +kernel
theorem dX8_leastLaw_19 : decode cX8_leastLaw 19 = .ok (.ireturn, 1) := by decide +kernel
theorem dX8_leastLaw_20 : decode cX8_leastLaw 20 = .ok (.iinc 1 1, 3) := by decide +kernel
theorem dX8_leastLaw_23 : decode cX8_leastLaw 23 = .ok (.goto (-21), 3) := by decide +kernel
theorem dX8_leastLaw_26 : decode cX8_leastLaw 26 = .ok (.iconst (-1), 1) := by decide +kernel
theorem dX8_leastLaw_27 : decode cX8_leastLaw 27 = .ok (.ireturn, 1) := by decide +kernel
theorem dX8_waking_0 : decode cX8_waking 0 = .ok (.iconst 0, 1) := by decide +kernel
theorem dX8_waking_1 : decode cX8_waking 1 = .ok (.istore_n 3, 1) := by decide +kernel
theorem dX8_waking_2 : decode cX8_waking 2 = .ok (.iconst 0, 1) := by decide +kernel
theorem dX8_waking_3 : decode cX8_waking 3 = .ok (.istore 4, 2) := by decide +kernel
theorem dX8_waking_5 : decode cX8_waking 5 = .ok (.iload 4, 2) := by decide +kernel
theorem dX8_waking_7 : decode cX8_waking 7 = .ok (.sipush 160, 3) := by decide +kernel
theorem dX8_waking_10 : decode cX8_waking 10 = .ok (.if_icmp .ge 37, 3) := by decide +kernel
theorem dX8_waking_13 : decode cX8_waking 13 = .ok (.iload_n 3, 1) := by decide +kernel
theorem dX8_waking_14 : decode cX8_waking 14 = .ok (.aload_n 0, 1) := by decide +kernel
theorem dX8_waking_15 : decode cX8_waking 15 = .ok (.getfield 22, 3) := by decide +kernel
theorem dX8_waking_18 : decode cX8_waking 18 = .ok (.iload 4, 2) := by decide +kernel
theorem dX8_waking_20 : decode cX8_waking 20 = .ok (.baload, 1) := by decide +kernel
theorem dX8_waking_21 : decode cX8_waking 21 = .ok (.ifCond .eq 17, 3) := by decide +kernel
theorem dX8_waking_24 : decode cX8_waking 24 = .ok (.iload 4, 2) := by decide +kernel
theorem dX8_waking_26 : decode cX8_waking 26 = .ok (.iload_n 1, 1) := by decide +kernel
theorem dX8_waking_27 : decode cX8_waking 27 = .ok (.iload_n 2, 1) := by decide +kernel
theorem dX8_waking_28 : decode cX8_waking 28 = .ok (.invokestatic 29, 3) := by decide +kernel
theorem dX8_waking_31 : decode cX8_waking 31 = .ok (.ifCond .eq 7, 3) := by decide +kernel
theorem dX8_waking_34 : decode cX8_waking 34 = .ok (.iconst 1, 1) := by decide +kernel
theorem dX8_waking_35 : decode cX8_waking 35 = .ok (.goto 4, 3) := by decide +kernel
theorem dX8_waking_38 : decode cX8_waking 38 = .ok (.iconst 0, 1) := by decide +kernel
theorem dX8_waking_39 : decode cX8_waking 39 = .ok (.iadd, 1) := by decide +kernel
theorem dX8_waking_40 : decode cX8_waking 40 = .ok (.istore_n 3, 1) := by decide +kernel
theorem dX8_waking_41 : decode cX8_waking 41 = .ok (.iinc 4 1, 3) := by decide +kernel
theorem dX8_waking_44 : decode cX8_waking 44 = .ok (.goto (-39), 3) := by decide +kernel
theorem dX8_waking_47 : decode cX8_waking 47 = .ok (.iload_n 3, 1) := by decide +kernel
theorem dX8_waking_48 : decode cX8_waking 48 = .ok (.ireturn, 1) := by decide +kernel
theorem dX9_init_0 : decode cX9_init 0 = .ok (.aload_n 0, 1) := by decide +kernel
theorem dX9_init_1 : decode cX9_init 1 = .ok (.invokespecial 3, 3) := by decide +kernel
theorem dX9_init_4 : decode cX9_init 4 = .ok (.aload_n 0, 1) := by decide +kernel
theorem dX9_init_5 : decode cX9_init 5 = .ok (.bipush 80, 2) := by decide +kernel
theorem dX9_init_7 : decode cX9_init 7 = .ok (.newarray .char, 2) := by decide +kernel
theorem dX9_init_9 : decode cX9_init 9 = .ok (.putfield 9, 3) := by decide +kernel
theorem dX9_init_12 : decode cX9_init 12 = .ok (.aload_n 0, 1) := by decide +kernel
theorem dX9_init_13 : decode cX9_init 13 = .ok (.iconst 0, 1) := by decide +kernel
theorem dX9_init_14 : decode cX9_init 14 = .ok (.putfield 15, 3) := by decide +kernel
theorem dX9_init_17 : decode cX9_init 17 = .ok (.return_, 1) := by decide +kernel
theorem dX9_takes_0 : decode cX9_takes 0 = .ok (.aload_n 0, 1) := by decide +kernel
theorem dX9_takes_1 : decode cX9_takes 1 = .ok (.getfield 15, 3) := by decide +kernel
theorem dX9_takes_4 : decode cX9_takes 4 = .ok (.iconst 4, 1) := by decide +kernel
theorem dX9_takes_5 : decode cX9_takes 5 = .ok (.iadd, 1) := by decide +kernel
theorem dX9_takes_6 : decode cX9_takes 6 = .ok (.bipush 80, 2) := by decide +kernel
theorem dX9_takes_8 : decode cX9_takes 8 = .ok (.if_icmp .le 5, 3) := by decide +kernel
theorem dX9_takes_11 : decode cX9_takes 11 = .ok (.iconst 0, 1) := by decide +kernel
theorem dX9_takes_12 : decode cX9_takes 12 = .ok (.ireturn, 1) := by decide +kernel
theorem dX9_takes_13 : decode cX9_takes 13 = .ok (.bipush 24, 2) := by decide +kernel
theorem dX9_takes_15 : decode cX9_takes 15 = .ok (.istore_n 2, 1) := by decide +kernel
theorem dX9_takes_16 : decode cX9_takes 16 = .ok (.iload_n 2, 1) := by decide +kernel
theorem dX9_takes_17 : decode cX9_takes 17 = .ok (.ifCond .lt 36, 3) := by decide +kernel
theorem dX9_takes_20 : decode cX9_takes 20 = .ok (.aload_n 0, 1) := by decide +kernel
theorem dX9_takes_21 : decode cX9_takes 21 = .ok (.getfield 9, 3) := by decide +kernel
theorem dX9_takes_24 : decode cX9_takes 24 = .ok (.aload_n 0, 1) := by decide +kernel
theorem dX9_takes_25 : decode cX9_takes 25 = .ok (.getfield 15, 3) := by decide +kernel
theorem dX9_takes_28 : decode cX9_takes 28 = .ok (.iload_n 1, 1) := by decide +kernel
theorem dX9_takes_29 : decode cX9_takes 29 = .ok (.iload_n 2, 1) := by decide +kernel
theorem dX9_takes_30 : decode cX9_takes 30 = .ok (.iushr, 1) := by decide +kernel
theorem dX9_takes_31 : decode cX9_takes 31 = .ok (.sipush 255, 3) := by decide +kernel
theorem dX9_takes_34 : decode cX9_takes 34 = .ok (.iand, 1) := by decide +kernel
theorem dX9_takes_35 : decode cX9_takes 35 = .ok (.i2c, 1) := by decide +kernel
theorem dX9_takes_36 : decode cX9_takes 36 = .ok (.castore, 1) := by decide +kernel
theorem dX9_takes_37 : decode cX9_takes 37 = .ok (.aload_n 0, 1) := by decide +kernel
theorem dX9_takes_38 : decode cX9_takes 38 = .ok (.dup, 1) := by decide +kernel
theorem dX9_takes_39 : decode cX9_takes 39 = .ok (.getfield 15, 3) := by decide +kernel
theorem dX9_takes_42 : decode cX9_takes 42 = .ok (.iconst 1, 1) := by decide +kernel
theorem dX9_takes_43 : decode cX9_takes 43 = .ok (.iadd, 1) := by decide +kernel
theorem dX9_takes_44 : decode cX9_takes 44 = .ok (.putfield 15, 3) := by decide +kernel
theorem dX9_takes_47 : decode cX9_takes 47 = .ok (.iinc 2 (-8), 3) := by decide +kernel
theorem dX9_takes_50 : decode cX9_takes 50 = .ok (.goto (-34), 3) := by decide +kernel
theorem dX9_takes_53 : decode cX9_takes 53 = .ok (.iconst 1, 1) := by decide +kernel
theorem dX9_takes_54 : decode cX9_takes 54 = .ok (.ireturn, 1) := by decide +kernel
theorem dX9_cutsTo_0 : decode cX9_cutsTo 0 = .ok (.iload_n 1, 1) := by decide +kernel
theorem dX9_cutsTo_1 : decode cX9_cutsTo 1 = .ok (.ifCond .lt 11, 3) := by decide +kernel
theorem dX9_cutsTo_4 : decode cX9_cutsTo 4 = .ok (.iload_n 1, 1) := by decide +kernel
theorem dX9_cutsTo_5 : decode cX9_cutsTo 5 = .ok (.aload_n 0, 1) := by decide +kernel
theorem dX9_cutsTo_6 : decode cX9_cutsTo 6 = .ok (.getfield 15, 3) := by decide +kernel
theorem dX9_cutsTo_9 : decode cX9_cutsTo 9 = .ok (.if_icmp .le 5, 3) := by decide +kernel
theorem dX9_cutsTo_12 : decode cX9_cutsTo 12 = .ok (.iconst 0, 1) := by decide +kernel
theorem dX9_cutsTo_13 : decode cX9_cutsTo 13 = .ok (.ireturn, 1) := by decide +kernel
theorem dX9_cutsTo_14 : decode cX9_cutsTo 14 = .ok (.aload_n 0, 1) := by decide +kernel
theorem dX9_cutsTo_15 : decode cX9_cutsTo 15 = .ok (.iload_n 1, 1) := by decide +kernel
theorem dX9_cutsTo_16 : decode cX9_cutsTo 16 = .ok (.putfield 15, 3) := by decide +kernel
theorem dX9_cutsTo_19 : decode cX9_cutsTo 19 = .ok (.iconst 1, 1) := by decide +kernel
theorem dX9_cutsTo_20 : decode cX9_cutsTo 20 = .ok (.ireturn, 1) := by decide +kernel
theorem dX9_empties_0 : decode cX9_empties 0 = .ok (.aload_n 0, 1) := by decide +kernel
theorem dX9_empties_1 : decode cX9_empties 1 = .ok (.iconst 0, 1) := by decide +kernel
theorem dX9_empties_2 : decode cX9_empties 2 = .ok (.putfield 15, 3) := by decide +kernel
theorem dX9_empties_5 : decode cX9_empties 5 = .ok (.return_, 1) := by decide +kernel
theorem dX9_at_0 : decode cX9_at 0 = .ok (.iload_n 1, 1) := by decide +kernel
theorem dX9_at_1 : decode cX9_at 1 = .ok (.ifCond .lt 20, 3) := by decide +kernel
theorem dX9_at_4 : decode cX9_at 4 = .ok (.iload_n 1, 1) := by decide +kernel
theorem dX9_at_5 : decode cX9_at 5 = .ok (.aload_n 0, 1) := by decide +kernel
theorem dX9_at_6 : decode cX9_at 6 = .ok (.getfield 15, 3) := by decide +kernel
theorem dX9_at_9 : decode cX9_at 9 = .ok (.if_icmp .ge 12, 3) := by decide +kernel
theorem dX9_at_12 : decode cX9_at 12 = .ok (.aload_n 0, 1) := by decide +kernel
theorem dX9_at_13 : decode cX9_at 13 = .ok (.getfield 9, 3) := by decide +kernel
theorem dX9_at_16 : decode cX9_at 16 = .ok (.iload_n 1, 1) := by decide +kernel
theorem dX9_at_17 : decode cX9_at 17 = .ok (.caload, 1) := by decide +kernel
theorem dX9_at_18 : decode cX9_at 18 = .ok (.goto 4, 3) := by decide +kernel
theorem dX9_at_21 : decode cX9_at 21 = .ok (.iconst 0, 1) := by decide +kernel
theorem dX9_at_22 : decode cX9_at 22 = .ok (.ireturn, 1) := by decide +kernel
theorem dX9_digitAt_0 : decode cX9_digitAt 0 = .ok (.aload_n 0, 1) := by decide +kernel
theorem dX9_digitAt_1 : decode cX9_digitAt 1 = .ok (.iload_n 1, 1) := by decide +kernel
theorem dX9_digitAt_2 : decode cX9_digitAt 2 = .ok (.invokevirtual 19, 3) := by decide +kernel
theorem dX9_digitAt_5 : decode cX9_digitAt 5 = .ok (.istore_n 2, 1) := by decide +kernel
theorem dX9_digitAt_6 : decode cX9_digitAt 6 = .ok (.iload_n 2, 1) := by decide +kernel
theorem dX9_digitAt_7 : decode cX9_digitAt 7 = .ok (.bipush 48, 2) := by decide +kernel
theorem dX9_digitAt_9 : decode cX9_digitAt 9 = .ok (.if_icmp .lt 16, 3) := by decide +kernel
theorem dX9_digitAt_12 : decode cX9_digitAt 12 = .ok (.iload_n 2, 1) := by decide +kernel
theorem dX9_digitAt_13 : decode cX9_digitAt 13 = .ok (.bipush 57, 2) := by decide +kernel
theorem dX9_digitAt_15 : decode cX9_digitAt 15 = .ok (.if_icmp .gt 10, 3) := by decide +kernel
theorem dX9_digitAt_18 : decode cX9_digitAt 18 = .ok (.iload_n 2, 1) := by decide +kernel
theorem dX9_digitAt_19 : decode cX9_digitAt 19 = .ok (.bipush 48, 2) := by decide +kernel
theorem dX9_digitAt_21 : decode cX9_digitAt 21 = .ok (.isub, 1) := by decide +kernel
theorem dX9_digitAt_22 : decode cX9_digitAt 22 = .ok (.goto 4, 3) := by decide +kernel
theorem dX9_digitAt_25 : decode cX9_digitAt 25 = .ok (.iconst (-1), 1) := by decide +kernel
theorem dX9_digitAt_26 : decode cX9_digitAt 26 = .ok (.ireturn, 1) := by decide +kernel
theorem dX9_peopleFault_0 : decode cX9_peopleFault 0 = .ok (.iconst 0, 1) := by decide +kernel
theorem dX9_peopleFault_1 : decode cX9_peopleFault 1 = .ok (.istore_n 2, 1) := by decide +kernel
theorem dX9_peopleFault_2 : decode cX9_peopleFault 2 = .ok (.iload_n 2, 1) := by decide +kernel
theorem dX9_peopleFault_3 : decode cX9_peopleFault 3 = .ok (.aload_n 0, 1) := by decide +kernel
theorem dX9_peopleFault_4 : decode cX9_peopleFault 4 = .ok (.getfield 15, 3) := by decide +kernel
theorem dX9_peopleFault_7 : decode cX9_peopleFault 7 = .ok (.if_icmp .ge 60, 3) := by decide +kernel
theorem dX9_peopleFault_10 : decode cX9_peopleFault 10 = .ok (.iload_n 2, 1) := by decide +kernel
theorem dX9_peopleFault_11 : decode cX9_peopleFault 11 = .ok (.bipush 20, 2) := by decide +kernel
theorem dX9_peopleFault_13 : decode cX9_peopleFault 13 = .ok (.if_icmp .ge 54, 3) := by decide +kernel
theorem dX9_peopleFault_16 : decode cX9_peopleFault 16 = .ok (.iload_n 2, 1) := by decide +kernel
theorem dX9_peopleFault_17 : decode cX9_peopleFault 17 = .ok (.iconst 3, 1) := by decide +kernel
theorem dX9_peopleFault_18 : decode cX9_peopleFault 18 = .ok (.irem, 1) := by decide +kernel
theorem dX9_peopleFault_19 : decode cX9_peopleFault 19 = .ok (.istore_n 3, 1) := by decide +kernel
theorem dX9_peopleFault_20 : decode cX9_peopleFault 20 = .ok (.iload_n 3, 1) := by decide +kernel
theorem dX9_peopleFault_21 : decode cX9_peopleFault 21 = .ok (.ifCond .ne 12, 3) := by decide +kernel
theorem dX9_peopleFault_24 : decode cX9_peopleFault 24 = .ok (.iload_n 2, 1) := by decide +kernel
theorem dX9_peopleFault_25 : decode cX9_peopleFault 25 = .ok (.iconst 3, 1) := by decide +kernel
theorem dX9_peopleFault_26 : decode cX9_peopleFault 26 = .ok (.idiv, 1) := by decide +kernel
theorem dX9_peopleFault_27 : decode cX9_peopleFault 27 = .ok (.iload_n 1, 1) := by decide +kernel
theorem dX9_peopleFault_28 : decode cX9_peopleFault 28 = .ok (.if_icmp .lt 5, 3) := by decide +kernel
theorem dX9_peopleFault_31 : decode cX9_peopleFault 31 = .ok (.iload_n 2, 1) := by decide +kernel
theorem dX9_peopleFault_32 : decode cX9_peopleFault 32 = .ok (.ireturn, 1) := by decide +kernel
theorem dX9_peopleFault_33 : decode cX9_peopleFault 33 = .ok (.iload_n 3, 1) := by decide +kernel
theorem dX9_peopleFault_34 : decode cX9_peopleFault 34 = .ok (.iconst 2, 1) := by decide +kernel
theorem dX9_peopleFault_35 : decode cX9_peopleFault 35 = .ok (.if_icmp .ne 16, 3) := by decide +kernel
theorem dX9_peopleFault_38 : decode cX9_peopleFault 38 = .ok (.aload_n 0, 1) := by decide +kernel
theorem dX9_peopleFault_39 : decode cX9_peopleFault 39 = .ok (.iload_n 2, 1) := by decide +kernel
theorem dX9_peopleFault_40 : decode cX9_peopleFault 40 = .ok (.invokevirtual 19, 3) := by decide +kernel
theorem dX9_peopleFault_43 : decode cX9_peopleFault 43 = .ok (.bipush 59, 2) := by decide +kernel
theorem dX9_peopleFault_45 : decode cX9_peopleFault 45 = .ok (.if_icmp .eq 16, 3) := by decide +kernel
theorem dX9_peopleFault_48 : decode cX9_peopleFault 48 = .ok (.goto 11, 3) := by decide +kernel
theorem dX9_peopleFault_51 : decode cX9_peopleFault 51 = .ok (.aload_n 0, 1) := by decide +kernel
theorem dX9_peopleFault_52 : decode cX9_peopleFault 52 = .ok (.iload_n 2, 1) := by decide +kernel
theorem dX9_peopleFault_53 : decode cX9_peopleFault 53 = .ok (.invokevirtual 23, 3) := by decide +kernel
theorem dX9_peopleFault_56 : decode cX9_peopleFault 56 = .ok (.ifCond .ge 5, 3) := by decide +kernel
theorem dX9_peopleFault_59 : decode cX9_peopleFault 59 = .ok (.iload_n 2, 1) := by decide +kernel
theorem dX9_peopleFault_60 : decode cX9_peopleFault 60 = .ok (.ireturn, 1) := by decide +kernel
theorem dX9_peopleFault_61 : decode cX9_peopleFault 61 = .ok (.iinc 2 1, 3) := by decide +kernel
theorem dX9_peopleFault_64 : decode cX9_peopleFault 64 = .ok (.goto (-62), 3) := by decide +kernel
theorem dX9_peopleFault_67 : decode cX9_peopleFault 67 = .ok (.aload_n 0, 1) := by decide +kernel
theorem dX9_peopleFault_68 : decode cX9_peopleFault 68 = .ok (.getfield 15, 3) := by decide +kernel
theorem dX9_peopleFault_71 : decode cX9_peopleFault 71 = .ok (.bipush 20, 2) := by decide +kernel
theorem dX9_peopleFault_73 : decode cX9_peopleFault 73 = .ok (.if_icmp .le 6, 3) := by decide +kernel
theorem dX9_peopleFault_76 : decode cX9_peopleFault 76 = .ok (.bipush 20, 2) := by decide +kernel
theorem dX9_peopleFault_78 : decode cX9_peopleFault 78 = .ok (.ireturn, 1) := by decide +kernel
theorem dX9_peopleFault_79 : decode cX9_peopleFault 79 = .ok (.aload_n 0, 1) := by decide +kernel
theorem dX9_peopleFault_80 : decode cX9_peopleFault 80 = .ok (.getfield 15, 3) := by decide +kernel
theorem dX9_peopleFault_83 : decode cX9_peopleFault 83 = .ok (.iconst 3, 1) := by decide +kernel
theorem dX9_peopleFault_84 : decode cX9_peopleFault 84 = .ok (.irem, 1) := by decide +kernel
theorem dX9_peopleFault_85 : decode cX9_peopleFault 85 = .ok (.iconst 2, 1) := by decide +kernel
theorem dX9_peopleFault_86 : decode cX9_peopleFault 86 = .ok (.if_icmp .ne 7, 3) := by decide +kernel
theorem dX9_peopleFault_89 : decode cX9_peopleFault 89 = .ok (.iconst (-1), 1) := by decide +kernel
theorem dX9_peopleFault_90 : decode cX9_peopleFault 90 = .ok (.goto 7, 3) := by decide +kernel
theorem dX9_peopleFault_93 : decode cX9_peopleFault 93 = .ok (.aload_n 0, 1) := by decide +kernel
theorem dX9_peopleFault_94 : decode cX9_peopleFault 94 = .ok (.getfield 15, 3) := by decide +kernel
theorem dX9_peopleFault_97 : decode cX9_peopleFault 97 = .ok (.ireturn, 1) := by decide +kernel
theorem dX9_wantsFault_0 : decode cX9_wantsFault 0 = .ok (.iconst (-1), 1) := by decide +kernel
theorem dX9_wantsFault_1 : decode cX9_wantsFault 1 = .ok (.istore_n 2, 1) := by decide +kernel
theorem dX9_wantsFault_2 : decode cX9_wantsFault 2 = .ok (.iconst (-1), 1) := by decide +kernel
theorem dX9_wantsFault_3 : decode cX9_wantsFault 3 = .ok (.istore_n 3, 1) := by decide +kernel
theorem dX9_wantsFault_4 : decode cX9_wantsFault 4 = .ok (.iconst 0, 1) := by decide +kernel
theorem dX9_wantsFault_5 : decode cX9_wantsFault 5 = .ok (.istore 4, 2) := by decide +kernel
theorem dX9_wantsFault_7 : decode cX9_wantsFault 7 = .ok (.iload 4, 2) := by decide +kernel
theorem dX9_wantsFault_9 : decode cX9_wantsFault 9 = .ok (.aload_n 0, 1) := by decide +kernel
theorem dX9_wantsFault_10 : decode cX9_wantsFault 10 = .ok (.getfield 15, 3) := by decide +kernel
theorem dX9_wantsFault_13 : decode cX9_wantsFault 13 = .ok (.if_icmp .ge 96, 3) := by decide +kernel
theorem dX9_wantsFault_16 : decode cX9_wantsFault 16 = .ok (.iload 4, 2) := by decide +kernel
theorem dX9_wantsFault_18 : decode cX9_wantsFault 18 = .ok (.bipush 60, 2) := by decide +kernel
theorem dX9_wantsFault_20 : decode cX9_wantsFault 20 = .ok (.if_icmp .ge 89, 3) := by decide +kernel
theorem dX9_wantsFault_23 : decode cX9_wantsFault 23 = .ok (.iload_n 2, 1) := by decide +kernel
theorem dX9_wantsFault_24 : decode cX9_wantsFault 24 = .ok (.ifCond .ge 24, 3) := by decide +kernel
theorem dX9_wantsFault_27 : decode cX9_wantsFault 27 = .ok (.aload_n 0, 1) := by decide +kernel
theorem dX9_wantsFault_28 : decode cX9_wantsFault 28 = .ok (.iload 4, 2) := by decide +kernel
theorem dX9_wantsFault_30 : decode cX9_wantsFault 30 = .ok (.invokevirtual 23, 3) := by decide +kernel
theorem dX9_wantsFault_33 : decode cX9_wantsFault 33 = .ok (.istore_n 2, 1) := by decide +kernel
theorem dX9_wantsFault_34 : decode cX9_wantsFault 34 = .ok (.iconst (-1), 1) := by decide +kernel
theorem dX9_wantsFault_35 : decode cX9_wantsFault 35 = .ok (.istore_n 3, 1) := by decide +kernel
theorem dX9_wantsFault_36 : decode cX9_wantsFault 36 = .ok (.iload_n 2, 1) := by decide +kernel
theorem dX9_wantsFault_37 : decode cX9_wantsFault 37 = .ok (.ifCond .lt 8, 3) := by decide +kernel
theorem dX9_wantsFault_40 : decode cX9_wantsFault 40 = .ok (.iload_n 2, 1) := by decide +kernel
theorem dX9_wantsFault_41 : decode cX9_wantsFault 41 = .ok (.iload_n 1, 1) := by decide +kernel
theorem dX9_wantsFault_42 : decode cX9_wantsFault 42 = .ok (.if_icmp .lt 61, 3) := by decide +kernel
theorem dX9_wantsFault_45 : decode cX9_wantsFault 45 = .ok (.iload 4, 2) := by decide +kernel
theorem dX9_wantsFault_47 : decode cX9_wantsFault 47 = .ok (.ireturn, 1) := by decide +kernel
theorem dX9_wantsFault_48 : decode cX9_wantsFault 48 = .ok (.aload_n 0, 1) := by decide +kernel
theorem dX9_wantsFault_49 : decode cX9_wantsFault 49 = .ok (.iload 4, 2) := by decide +kernel
theorem dX9_wantsFault_51 : decode cX9_wantsFault 51 = .ok (.invokevirtual 19, 3) := by decide +kernel
theorem dX9_wantsFault_54 : decode cX9_wantsFault 54 = .ok (.bipush 59, 2) := by decide +kernel
theorem dX9_wantsFault_56 : decode cX9_wantsFault 56 = .ok (.if_icmp .ne 12, 3) := by decide +kernel
theorem dX9_wantsFault_59 : decode cX9_wantsFault 59 = .ok (.iload_n 3, 1) := by decide +kernel
theorem dX9_wantsFault_60 : decode cX9_wantsFault 60 = .ok (.ifCond .lt 8, 3) := by decide +kernel
theorem dX9_wantsFault_63 : decode cX9_wantsFault 63 = .ok (.iconst (-1), 1) := by decide +kernel
theorem dX9_wantsFault_64 : decode cX9_wantsFault 64 = .ok (.istore_n 2, 1) := by decide +kernel
theorem dX9_wantsFault_65 : decode cX9_wantsFault 65 = .ok (.goto 38, 3) := by decide +kernel
theorem dX9_wantsFault_68 : decode cX9_wantsFault 68 = .ok (.aload_n 0, 1) := by decide +kernel
theorem dX9_wantsFault_69 : decode cX9_wantsFault 69 = .ok (.iload 4, 2) := by decide +kernel
theorem dX9_wantsFault_71 : decode cX9_wantsFault 71 = .ok (.invokevirtual 19, 3) := by decide +kernel
theorem dX9_wantsFault_74 : decode cX9_wantsFault 74 = .ok (.bipush 97, 2) := by decide +kernel
theorem dX9_wantsFault_76 : decode cX9_wantsFault 76 = .ok (.isub, 1) := by decide +kernel
theorem dX9_wantsFault_77 : decode cX9_wantsFault 77 = .ok (.istore 5, 2) := by decide +kernel
theorem dX9_wantsFault_79 : decode cX9_wantsFault 79 = .ok (.iload 5, 2) := by decide +kernel
theorem dX9_wantsFault_81 : decode cX9_wantsFault 81 = .ok (.iload_n 3, 1) := by decide +kernel
theorem dX9_wantsFault_82 : decode cX9_wantsFault 82 = .ok (.if_icmp .le 15, 3) := by decide +kernel
theorem dX9_wantsFault_85 : decode cX9_wantsFault 85 = .ok (.iload 5, 2) := by decide +kernel
theorem dX9_wantsFault_87 : decode cX9_wantsFault 87 = .ok (.iload_n 1, 1) := by decide +kernel
theorem dX9_wantsFault_88 : decode cX9_wantsFault 88 = .ok (.if_icmp .ge 9, 3) := by decide +kernel
theorem dX9_wantsFault_91 : decode cX9_wantsFault 91 = .ok (.iload 5, 2) := by decide +kernel
theorem dX9_wantsFault_93 : decode cX9_wantsFault 93 = .ok (.iload_n 2, 1) := by decide +kernel
theorem dX9_wantsFault_94 : decode cX9_wantsFault 94 = .ok (.if_icmp .ne 6, 3) := by decide +kernel
theorem dX9_wantsFault_97 : decode cX9_wantsFault 97 = .ok (.iload 4, 2) := by decide +kernel
theorem dX9_wantsFault_99 : decode cX9_wantsFault 99 = .ok (.ireturn, 1) := by decide +kernel
theorem dX9_wantsFault_100 : decode cX9_wantsFault 100 = .ok (.iload 5, 2) := by decide +kernel
theorem dX9_wantsFault_102 : decode cX9_wantsFault 102 = .ok (.istore_n 3, 1) := by decide +kernel
theorem dX9_wantsFault_103 : decode cX9_wantsFault 103 = .ok (.iinc 4 1, 3) := by decide +kernel
theorem dX9_wantsFault_106 : decode cX9_wantsFault 106 = .ok (.goto (-99), 3) := by decide +kernel
theorem dX9_wantsFault_109 : decode cX9_wantsFault 109 = .ok (.aload_n 0, 1) := by decide +kernel
theorem dX9_wantsFault_110 : decode cX9_wantsFault 110 = .ok (.getfield 15, 3) := by decide +kernel
theorem dX9_wantsFault_113 : decode cX9_wantsFault 113 = .ok (.bipush 60, 2) := by decide +kernel
theorem dX9_wantsFault_115 : decode cX9_wantsFault 115 = .ok (.if_icmp .le 6, 3) := by decide +kernel
theorem dX9_wantsFault_118 : decode cX9_wantsFault 118 = .ok (.bipush 60, 2) := by decide +kernel
theorem dX9_wantsFault_120 : decode cX9_wantsFault 120 = .ok (.ireturn, 1) := by decide +kernel
theorem dX9_wantsFault_121 : decode cX9_wantsFault 121 = .ok (.iload_n 2, 1) := by decide +kernel
theorem dX9_wantsFault_122 : decode cX9_wantsFault 122 = .ok (.ifCond .lt 11, 3) := by decide +kernel
theorem dX9_wantsFault_125 : decode cX9_wantsFault 125 = .ok (.iload_n 3, 1) := by decide +kernel
theorem dX9_wantsFault_126 : decode cX9_wantsFault 126 = .ok (.ifCond .lt 7, 3) := by decide +kernel
theorem dX9_wantsFault_129 : decode cX9_wantsFault 129 = .ok (.iconst (-1), 1) := by decide +kernel
theorem dX9_wantsFault_130 : decode cX9_wantsFault 130 = .ok (.goto 7, 3) := by decide +kernel
theorem dX9_wantsFault_133 : decode cX9_wantsFault 133 = .ok (.aload_n 0, 1) := by decide +kernel
theorem dX9_wantsFault_134 : decode cX9_wantsFault 134 = .ok (.getfield 15, 3) := by decide +kernel
theorem dX9_wantsFault_137 : decode cX9_wantsFault 137 = .ok (.ireturn, 1) := by decide +kernel
theorem dX9_weekFault_0 : decode cX9_weekFault 0 = .ok (.iconst 0, 1) := by decide +kernel
theorem dX9_weekFault_1 : decode cX9_weekFault 1 = .ok (.istore_n 1, 1) := by decide +kernel
theorem dX9_weekFault_2 : decode cX9_weekFault 2 = .ok (.iconst 0, 1) := by decide +kernel
theorem dX9_weekFault_3 : decode cX9_weekFault 3 = .ok (.istore_n 2, 1) := by decide +kernel
theorem dX9_weekFault_4 : decode cX9_weekFault 4 = .ok (.iconst 0, 1) := by decide +kernel
theorem dX9_weekFault_5 : decode cX9_weekFault 5 = .ok (.istore_n 3, 1) := by decide +kernel
theorem dX9_weekFault_6 : decode cX9_weekFault 6 = .ok (.iload_n 3, 1) := by decide +kernel
theorem dX9_weekFault_7 : decode cX9_weekFault 7 = .ok (.aload_n 0, 1) := by decide +kernel
theorem dX9_weekFault_8 : decode cX9_weekFault 8 = .ok (.getfield 15, 3) := by decide +kernel
theorem dX9_weekFault_11 : decode cX9_weekFault 11 = .ok (.if_icmp .ge 82, 3) := by decide +kernel
theorem dX9_weekFault_14 : decode cX9_weekFault 14 = .ok (.iload_n 3, 1) := by decide +kernel
theorem dX9_weekFault_15 : decode cX9_weekFault 15 = .ok (.bipush 60, 2) := by decide +kernel
theorem dX9_weekFault_17 : decode cX9_weekFault 17 = .ok (.if_icmp .ge 76, 3) := by decide +kernel
theorem dX9_weekFault_20 : decode cX9_weekFault 20 = .ok (.iload_n 2, 1) := by decide +kernel
theorem dX9_weekFault_21 : decode cX9_weekFault 21 = .ok (.ifCond .ne 20, 3) := by decide +kernel
theorem dX9_weekFault_24 : decode cX9_weekFault 24 = .ok (.aload_n 0, 1) := by decide +kernel
theorem dX9_weekFault_25 : decode cX9_weekFault 25 = .ok (.iload_n 3, 1) := by decide +kernel
theorem dX9_weekFault_26 : decode cX9_weekFault 26 = .ok (.invokevirtual 19, 3) := by decide +kernel
theorem dX9_weekFault_29 : decode cX9_weekFault 29 = .ok (.istore_n 1, 1) := by decide +kernel
theorem dX9_weekFault_30 : decode cX9_weekFault 30 = .ok (.iload_n 1, 1) := by decide +kernel
theorem dX9_weekFault_31 : decode cX9_weekFault 31 = .ok (.invokestatic 27, 3) := by decide +kernel
theorem dX9_weekFault_34 : decode cX9_weekFault 34 = .ok (.istore_n 2, 1) := by decide +kernel
theorem dX9_weekFault_35 : decode cX9_weekFault 35 = .ok (.iload_n 2, 1) := by decide +kernel
theorem dX9_weekFault_36 : decode cX9_weekFault 36 = .ok (.ifCond .ne 51, 3) := by decide +kernel
theorem dX9_weekFault_39 : decode cX9_weekFault 39 = .ok (.iload_n 3, 1) := by decide +kernel
theorem dX9_weekFault_40 : decode cX9_weekFault 40 = .ok (.ireturn, 1) := by decide +kernel
theorem dX9_weekFault_41 : decode cX9_weekFault 41 = .ok (.iload_n 1, 1) := by decide +kernel
theorem dX9_weekFault_42 : decode cX9_weekFault 42 = .ok (.bipush 112, 2) := by decide +kernel
theorem dX9_weekFault_44 : decode cX9_weekFault 44 = .ok (.if_icmp .ne 22, 3) := by decide +kernel
theorem dX9_weekFault_47 : decode cX9_weekFault 47 = .ok (.iload_n 2, 1) := by decide +kernel
theorem dX9_weekFault_48 : decode cX9_weekFault 48 = .ok (.iconst 1, 1) := by decide +kernel
theorem dX9_weekFault_49 : decode cX9_weekFault 49 = .ok (.if_icmp .ne 17, 3) := by decide +kernel
theorem dX9_weekFault_52 : decode cX9_weekFault 52 = .ok (.aload_n 0, 1) := by decide +kernel
theorem dX9_weekFault_53 : decode cX9_weekFault 53 = .ok (.iload_n 3, 1) := by decide +kernel
theorem dX9_weekFault_54 : decode cX9_weekFault 54 = .ok (.invokevirtual 19, 3) := by decide +kernel
theorem dX9_weekFault_57 : decode cX9_weekFault 57 = .ok (.bipush 48, 2) := by decide +kernel
theorem dX9_weekFault_59 : decode cX9_weekFault 59 = .ok (.if_icmp .ne 7, 3) := by decide +kernel
theorem dX9_weekFault_62 : decode cX9_weekFault 62 = .ok (.iconst 1, 1) := by decide +kernel
theorem dX9_weekFault_63 : decode cX9_weekFault 63 = .ok (.goto 4, 3) := by decide +kernel
theorem dX9_weekFault_66 : decode cX9_weekFault 66 = .ok (.iconst 0, 1) := by decide +kernel
theorem dX9_weekFault_67 : decode cX9_weekFault 67 = .ok (.istore 4, 2) := by decide +kernel
theorem dX9_weekFault_69 : decode cX9_weekFault 69 = .ok (.aload_n 0, 1) := by decide +kernel
theorem dX9_weekFault_70 : decode cX9_weekFault 70 = .ok (.iload_n 3, 1) := by decide +kernel
theorem dX9_weekFault_71 : decode cX9_weekFault 71 = .ok (.invokevirtual 23, 3) := by decide +kernel
theorem dX9_weekFault_74 : decode cX9_weekFault 74 = .ok (.ifCond .lt 8, 3) := by decide +kernel
theorem dX9_weekFault_77 : decode cX9_weekFault 77 = .ok (.iload 4, 2) := by decide +kernel
theorem dX9_weekFault_79 : decode cX9_weekFault 79 = .ok (.ifCond .eq 5, 3) := by decide +kernel
theorem dX9_weekFault_82 : decode cX9_weekFault 82 = .ok (.iload_n 3, 1) := by decide +kernel
theorem dX9_weekFault_83 : decode cX9_weekFault 83 = .ok (.ireturn, 1) := by decide +kernel
theorem dX9_weekFault_84 : decode cX9_weekFault 84 = .ok (.iinc 2 (-1), 3) := by decide +kernel
theorem dX9_weekFault_87 : decode cX9_weekFault 87 = .ok (.iinc 3 1, 3) := by decide +kernel
theorem dX9_weekFault_90 : decode cX9_weekFault 90 = .ok (.goto (-84), 3) := by decide +kernel
theorem dX9_weekFault_93 : decode cX9_weekFault 93 = .ok (.aload_n 0, 1) := by decide +kernel
theorem dX9_weekFault_94 : decode cX9_weekFault 94 = .ok (.getfield 15, 3) := by decide +kernel
theorem dX9_weekFault_97 : decode cX9_weekFault 97 = .ok (.bipush 60, 2) := by decide +kernel
theorem dX9_weekFault_99 : decode cX9_weekFault 99 = .ok (.if_icmp .le 6, 3) := by decide +kernel
theorem dX9_weekFault_102 : decode cX9_weekFault 102 = .ok (.bipush 60, 2) := by decide +kernel
theorem dX9_weekFault_104 : decode cX9_weekFault 104 = .ok (.ireturn, 1) := by decide +kernel
theorem dX9_weekFault_105 : decode cX9_weekFault 105 = .ok (.iload_n 2, 1) := by decide +kernel
theorem dX9_weekFault_106 : decode cX9_weekFault 106 = .ok (.ifCond .ne 7, 3) := by decide +kernel
theorem dX9_weekFault_109 : decode cX9_weekFault 109 = .ok (.iconst (-1), 1) := by decide +kernel
theorem dX9_weekFault_110 : decode cX9_weekFault 110 = .ok (.goto 7, 3) := by decide +kernel
theorem dX9_weekFault_113 : decode cX9_weekFault 113 = .ok (.aload_n 0, 1) := by decide +kernel
theorem dX9_weekFault_114 : decode cX9_weekFault 114 = .ok (.getfield 15, 3) := by decide +kernel
theorem dX9_weekFault_117 : decode cX9_weekFault 117 = .ok (.ireturn, 1) := by decide +kernel
theorem dX9_digitsOf_0 : decode cX9_digitsOf 0 = .ok (.iload_n 0, 1) := by decide +kernel
theorem dX9_digitsOf_1 : decode cX9_digitsOf 1 = .ok (.tableswitch 55 108 116 #[51, 55, 51, 55, 53, 55, 55, 53, 53], 51) := by decide +kernel
theorem dX9_digitsOf_52 : decode cX9_digitsOf 52 = .ok (.iconst 1, 1) := by decide +kernel
theorem dX9_digitsOf_53 : decode cX9_digitsOf 53 = .ok (.ireturn, 1) := by decide +kernel
theorem dX9_digitsOf_54 : decode cX9_digitsOf 54 = .ok (.iconst 2, 1) := by decide +kernel
theorem dX9_digitsOf_55 : decode cX9_digitsOf 55 = .ok (.ireturn, 1) := by decide +kernel
theorem dX9_digitsOf_56 : decode cX9_digitsOf 56 = .ok (.iconst 0, 1) := by decide +kernel
theorem dX9_digitsOf_57 : decode cX9_digitsOf 57 = .ok (.ireturn, 1) := by decide +kernel
theorem dX10_init_0 : decode cX10_init 0 = .ok (.aload_n 0, 1) := by decide +kernel
theorem dX10_init_1 : decode cX10_init 1 = .ok (.invokespecial 3, 3) := by decide +kernel
theorem dX10_init_4 : decode cX10_init 4 = .ok (.aload_n 0, 1) := by decide +kernel
theorem dX10_init_5 : decode cX10_init 5 = .ok (.new 9, 3) := by decide +kernel
theorem dX10_init_8 : decode cX10_init 8 = .ok (.dup, 1) := by decide +kernel
theorem dX10_init_9 : decode cX10_init 9 = .ok (.invokespecial 11, 3) := by decide +kernel
theorem dX10_init_12 : decode cX10_init 12 = .ok (.putfield 12, 3) := by decide +kernel
theorem dX10_init_15 : decode cX10_init 15 = .ok (.aload_n 0, 1) := by decide +kernel
theorem dX10_init_16 : decode cX10_init 16 = .ok (.new 16, 3) := by decide +kernel
theorem dX10_init_19 : decode cX10_init 19 = .ok (.dup, 1) := by decide +kernel
theorem dX10_init_20 : decode cX10_init 20 = .ok (.invokespecial 18, 3) := by decide +kernel
theorem dX10_init_23 : decode cX10_init 23 = .ok (.putfield 19, 3) := by decide +kernel
theorem dX10_init_26 : decode cX10_init 26 = .ok (.aload_n 0, 1) := by decide +kernel
theorem dX10_init_27 : decode cX10_init 27 = .ok (.new 23, 3) := by decide +kernel
theorem dX10_init_30 : decode cX10_init 30 = .ok (.dup, 1) := by decide +kernel
theorem dX10_init_31 : decode cX10_init 31 = .ok (.invokespecial 25, 3) := by decide +kernel
theorem dX10_init_34 : decode cX10_init 34 = .ok (.putfield 26, 3) := by decide +kernel
theorem dX10_init_37 : decode cX10_init 37 = .ok (.aload_n 0, 1) := by decide +kernel
theorem dX10_init_38 : decode cX10_init 38 = .ok (.new 23, 3) := by decide +kernel
theorem dX10_init_41 : decode cX10_init 41 = .ok (.dup, 1) := by decide +kernel
theorem dX10_init_42 : decode cX10_init 42 = .ok (.invokespecial 25, 3) := by decide +kernel
theorem dX10_init_45 : decode cX10_init 45 = .ok (.putfield 30, 3) := by decide +kernel
theorem dX10_init_48 : decode cX10_init 48 = .ok (.aload_n 0, 1) := by decide +kernel
theorem dX10_init_49 : decode cX10_init 49 = .ok (.new 33, 3) := by decide +kernel
theorem dX10_init_52 : decode cX10_init 52 = .ok (.dup, 1) := by decide +kernel
theorem dX10_init_53 : decode cX10_init 53 = .ok (.invokespecial 35, 3) := by decide +kernel
theorem dX10_init_56 : decode cX10_init 56 = .ok (.putfield 36, 3) := by decide +kernel
theorem dX10_init_59 : decode cX10_init 59 = .ok (.aload_n 0, 1) := by decide +kernel
theorem dX10_init_60 : decode cX10_init 60 = .ok (.new 40, 3) := by decide +kernel
theorem dX10_init_63 : decode cX10_init 63 = .ok (.dup, 1) := by decide +kernel
theorem dX10_init_64 : decode cX10_init 64 = .ok (.invokespecial 42, 3) := by decide +kernel
theorem dX10_init_67 : decode cX10_init 67 = .ok (.putfield 43, 3) := by decide +kernel
theorem dX10_init_70 : decode cX10_init 70 = .ok (.aload_n 0, 1) := by decide +kernel
theorem dX10_init_71 : decode cX10_init 71 = .ok (.new 47, 3) := by decide +kernel
theorem dX10_init_74 : decode cX10_init 74 = .ok (.dup, 1) := by decide +kernel
theorem dX10_init_75 : decode cX10_init 75 = .ok (.invokespecial 49, 3) := by decide +kernel
theorem dX10_init_78 : decode cX10_init 78 = .ok (.putfield 50, 3) := by decide +kernel
theorem dX10_init_81 : decode cX10_init 81 = .ok (.aload_n 0, 1) := by decide +kernel
theorem dX10_init_82 : decode cX10_init 82 = .ok (.new 47, 3) := by decide +kernel
theorem dX10_init_85 : decode cX10_init 85 = .ok (.dup, 1) := by decide +kernel
theorem dX10_init_86 : decode cX10_init 86 = .ok (.invokespecial 49, 3) := by decide +kernel
theorem dX10_init_89 : decode cX10_init 89 = .ok (.putfield 54, 3) := by decide +kernel
theorem dX10_init_92 : decode cX10_init 92 = .ok (.aload_n 0, 1) := by decide +kernel
