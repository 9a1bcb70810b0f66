theorem dX11_letterOf_6 : decode cX11_letterOf 6 = .ok (.iconst 0, 1) := by decide +kernel
theorem dX11_letterOf_7 : decode cX11_letterOf 7 = .ok (.goto 65, 3) := by decide +kernel
theorem dX11_letterOf_10 : decode cX11_letterOf 10 = .ok (.iload_n 0, 1) := by decide +kernel
theorem dX11_letterOf_11 : decode cX11_letterOf 11 = .ok (.bipush 116, 2) := by decide +kernel
theorem dX11_letterOf_13 : decode cX11_letterOf 13 = .ok (.if_icmp .ne 7, 3) := by decide +kernel
theorem dX11_letterOf_16 : decode cX11_letterOf 16 = .ok (.iconst 1, 1) := by decide +kernel
theorem dX11_letterOf_17 : decode cX11_letterOf 17 = .ok (.goto 55, 3) := by decide +kernel
theorem dX11_letterOf_20 : decode cX11_letterOf 20 = .ok (.iload_n 0, 1) := by decide +kernel
theorem dX11_letterOf_21 : decode cX11_letterOf 21 = .ok (.bipush 119, 2) := by decide +kernel
theorem dX11_letterOf_23 : decode cX11_letterOf 23 = .ok (.if_icmp .ne 7, 3) := by decide +kernel
theorem dX11_letterOf_26 : decode cX11_letterOf 26 = .ok (.iconst 2, 1) := by decide +kernel
theorem dX11_letterOf_27 : decode cX11_letterOf 27 = .ok (.goto 45, 3) := by decide +kernel
theorem dX11_letterOf_30 : decode cX11_letterOf 30 = .ok (.iload_n 0, 1) := by decide +kernel
theorem dX11_letterOf_31 : decode cX11_letterOf 31 = .ok (.bipush 118, 2) := by decide +kernel
theorem dX11_letterOf_33 : decode cX11_letterOf 33 = .ok (.if_icmp .ne 7, 3) := by decide +kernel
theorem dX11_letterOf_36 : decode cX11_letterOf 36 = .ok (.iconst 3, 1) := by decide +kernel
theorem dX11_letterOf_37 : decode cX11_letterOf 37 = .ok (.goto 35, 3) := by decide +kernel
theorem dX11_letterOf_40 : decode cX11_letterOf 40 = .ok (.iload_n 0, 1) := by decide +kernel
theorem dX11_letterOf_41 : decode cX11_letterOf 41 = .ok (.bipush 117, 2) := by decide +kernel
theorem dX11_letterOf_43 : decode cX11_letterOf 43 = .ok (.if_icmp .ne 7, 3) := by decide +kernel
theorem dX11_letterOf_46 : decode cX11_letterOf 46 = .ok (.iconst 4, 1) := by decide +kernel
theorem dX11_letterOf_47 : decode cX11_letterOf 47 = .ok (.goto 25, 3) := by decide +kernel
theorem dX11_letterOf_50 : decode cX11_letterOf 50 = .ok (.iload_n 0, 1) := by decide +kernel
theorem dX11_letterOf_51 : decode cX11_letterOf 51 = .ok (.bipush 98, 2) := by decide +kernel
theorem dX11_letterOf_53 : decode cX11_letterOf 53 = .ok (.if_icmp .ne 7, 3) := by decide +kernel
theorem dX11_letterOf_56 : decode cX11_letterOf 56 = .ok (.iconst 5, 1) := by decide +kernel
theorem dX11_letterOf_57 : decode cX11_letterOf 57 = .ok (.goto 15, 3) := by decide +kernel
theorem dX11_letterOf_60 : decode cX11_letterOf 60 = .ok (.iload_n 0, 1) := by decide +kernel
theorem dX11_letterOf_61 : decode cX11_letterOf 61 = .ok (.bipush 110, 2) := by decide +kernel
theorem dX11_letterOf_63 : decode cX11_letterOf 63 = .ok (.if_icmp .ne 8, 3) := by decide +kernel
theorem dX11_letterOf_66 : decode cX11_letterOf 66 = .ok (.bipush 6, 2) := by decide +kernel
theorem dX11_letterOf_68 : decode cX11_letterOf 68 = .ok (.goto 4, 3) := by decide +kernel
theorem dX11_letterOf_71 : decode cX11_letterOf 71 = .ok (.iconst (-1), 1) := by decide +kernel
theorem dX11_letterOf_72 : decode cX11_letterOf 72 = .ok (.ireturn, 1) := by decide +kernel
theorem dX11_thing_0 : decode cX11_thing 0 = .ok (.aload_n 0, 1) := by decide +kernel
theorem dX11_thing_1 : decode cX11_thing 1 = .ok (.bipush 45, 2) := by decide +kernel
theorem dX11_thing_3 : decode cX11_thing 3 = .ok (.invokevirtual 133, 3) := by decide +kernel
theorem dX11_thing_6 : decode cX11_thing 6 = .ok (.ifCond .eq 10, 3) := by decide +kernel
theorem dX11_thing_9 : decode cX11_thing 9 = .ok (.aload_n 0, 1) := by decide +kernel
theorem dX11_thing_10 : decode cX11_thing 10 = .ok (.iload_n 1, 1) := by decide +kernel
theorem dX11_thing_11 : decode cX11_thing 11 = .ok (.invokevirtual 170, 3) := by decide +kernel
theorem dX11_thing_14 : decode cX11_thing 14 = .ok (.ineg, 1) := by decide +kernel
theorem dX11_thing_15 : decode cX11_thing 15 = .ok (.ireturn, 1) := by decide +kernel
theorem dX11_thing_16 : decode cX11_thing 16 = .ok (.aload_n 0, 1) := by decide +kernel
theorem dX11_thing_17 : decode cX11_thing 17 = .ok (.invokevirtual 125, 3) := by decide +kernel
theorem dX11_thing_20 : decode cX11_thing 20 = .ok (.ifCond .ne 5, 3) := by decide +kernel
theorem dX11_thing_23 : decode cX11_thing 23 = .ok (.iconst 0, 1) := by decide +kernel
theorem dX11_thing_24 : decode cX11_thing 24 = .ok (.ireturn, 1) := by decide +kernel
theorem dX11_thing_25 : decode cX11_thing 25 = .ok (.aload_n 0, 1) := by decide +kernel
theorem dX11_thing_26 : decode cX11_thing 26 = .ok (.invokevirtual 129, 3) := by decide +kernel
theorem dX11_thing_29 : decode cX11_thing 29 = .ok (.istore_n 2, 1) := by decide +kernel
theorem dX11_thing_30 : decode cX11_thing 30 = .ok (.iload_n 2, 1) := by decide +kernel
theorem dX11_thing_31 : decode cX11_thing 31 = .ok (.bipush 40, 2) := by decide +kernel
theorem dX11_thing_33 : decode cX11_thing 33 = .ok (.if_icmp .ne 34, 3) := by decide +kernel
theorem dX11_thing_36 : decode cX11_thing 36 = .ok (.iload_n 1, 1) := by decide +kernel
theorem dX11_thing_37 : decode cX11_thing 37 = .ok (.iconst 4, 1) := by decide +kernel
theorem dX11_thing_38 : decode cX11_thing 38 = .ok (.if_icmp .ge 29, 3) := by decide +kernel
theorem dX11_thing_41 : decode cX11_thing 41 = .ok (.aload_n 0, 1) := by decide +kernel
theorem dX11_thing_42 : decode cX11_thing 42 = .ok (.dup, 1) := by decide +kernel
theorem dX11_thing_43 : decode cX11_thing 43 = .ok (.getfield 115, 3) := by decide +kernel
theorem dX11_thing_46 : decode cX11_thing 46 = .ok (.iconst 1, 1) := by decide +kernel
theorem dX11_thing_47 : decode cX11_thing 47 = .ok (.iadd, 1) := by decide +kernel
theorem dX11_thing_48 : decode cX11_thing 48 = .ok (.putfield 115, 3) := by decide +kernel
theorem dX11_thing_51 : decode cX11_thing 51 = .ok (.aload_n 0, 1) := by decide +kernel
theorem dX11_thing_52 : decode cX11_thing 52 = .ok (.iload_n 1, 1) := by decide +kernel
theorem dX11_thing_53 : decode cX11_thing 53 = .ok (.iconst 1, 1) := by decide +kernel
theorem dX11_thing_54 : decode cX11_thing 54 = .ok (.iadd, 1) := by decide +kernel
theorem dX11_thing_55 : decode cX11_thing 55 = .ok (.invokevirtual 173, 3) := by decide +kernel
theorem dX11_thing_58 : decode cX11_thing 58 = .ok (.istore_n 3, 1) := by decide +kernel
theorem dX11_thing_59 : decode cX11_thing 59 = .ok (.aload_n 0, 1) := by decide +kernel
theorem dX11_thing_60 : decode cX11_thing 60 = .ok (.bipush 41, 2) := by decide +kernel
theorem dX11_thing_62 : decode cX11_thing 62 = .ok (.invokevirtual 176, 3) := by decide +kernel
theorem dX11_thing_65 : decode cX11_thing 65 = .ok (.iload_n 3, 1) := by decide +kernel
theorem dX11_thing_66 : decode cX11_thing 66 = .ok (.ireturn, 1) := by decide +kernel
theorem dX11_thing_67 : decode cX11_thing 67 = .ok (.iload_n 2, 1) := by decide +kernel
theorem dX11_thing_68 : decode cX11_thing 68 = .ok (.bipush 48, 2) := by decide +kernel
theorem dX11_thing_70 : decode cX11_thing 70 = .ok (.bipush 57, 2) := by decide +kernel
theorem dX11_thing_72 : decode cX11_thing 72 = .ok (.invokestatic 95, 3) := by decide +kernel
theorem dX11_thing_75 : decode cX11_thing 75 = .ok (.ifCond .eq 9, 3) := by decide +kernel
theorem dX11_thing_78 : decode cX11_thing 78 = .ok (.aload_n 0, 1) := by decide +kernel
theorem dX11_thing_79 : decode cX11_thing 79 = .ok (.iconst 3, 1) := by decide +kernel
theorem dX11_thing_80 : decode cX11_thing 80 = .ok (.invokevirtual 180, 3) := by decide +kernel
theorem dX11_thing_83 : decode cX11_thing 83 = .ok (.ireturn, 1) := by decide +kernel
theorem dX11_thing_84 : decode cX11_thing 84 = .ok (.iload_n 2, 1) := by decide +kernel
theorem dX11_thing_85 : decode cX11_thing 85 = .ok (.invokestatic 183, 3) := by decide +kernel
theorem dX11_thing_88 : decode cX11_thing 88 = .ok (.iconst (-1), 1) := by decide +kernel
theorem dX11_thing_89 : decode cX11_thing 89 = .ok (.if_icmp .ne 13, 3) := by decide +kernel
theorem dX11_thing_92 : decode cX11_thing 92 = .ok (.aload_n 0, 1) := by decide +kernel
theorem dX11_thing_93 : decode cX11_thing 93 = .ok (.aload_n 0, 1) := by decide +kernel
theorem dX11_thing_94 : decode cX11_thing 94 = .ok (.getfield 115, 3) := by decide +kernel
theorem dX11_thing_97 : decode cX11_thing 97 = .ok (.invokevirtual 137, 3) := by decide +kernel
theorem dX11_thing_100 : decode cX11_thing 100 = .ok (.iconst 0, 1) := by decide +kernel
theorem dX11_thing_101 : decode cX11_thing 101 = .ok (.ireturn, 1) := by decide +kernel
theorem dX11_thing_102 : decode cX11_thing 102 = .ok (.aload_n 0, 1) := by decide +kernel
theorem dX11_thing_103 : decode cX11_thing 103 = .ok (.dup, 1) := by decide +kernel
theorem dX11_thing_104 : decode cX11_thing 104 = .ok (.getfield 115, 3) := by decide +kernel
theorem dX11_thing_107 : decode cX11_thing 107 = .ok (.iconst 1, 1) := by decide +kernel
theorem dX11_thing_108 : decode cX11_thing 108 = .ok (.iadd, 1) := by decide +kernel
theorem dX11_thing_109 : decode cX11_thing 109 = .ok (.putfield 115, 3) := by decide +kernel
theorem dX11_thing_112 : decode cX11_thing 112 = .ok (.aload_n 0, 1) := by decide +kernel
theorem dX11_thing_113 : decode cX11_thing 113 = .ok (.getfield 186, 3) := by decide +kernel
theorem dX11_thing_116 : decode cX11_thing 116 = .ok (.ifCond .eq 15, 3) := by decide +kernel
theorem dX11_thing_119 : decode cX11_thing 119 = .ok (.aload_n 0, 1) := by decide +kernel
theorem dX11_thing_120 : decode cX11_thing 120 = .ok (.getfield 30, 3) := by decide +kernel
theorem dX11_thing_123 : decode cX11_thing 123 = .ok (.iload_n 2, 1) := by decide +kernel
theorem dX11_thing_124 : decode cX11_thing 124 = .ok (.invokestatic 183, 3) := by decide +kernel
theorem dX11_thing_127 : decode cX11_thing 127 = .ok (.iaload, 1) := by decide +kernel
theorem dX11_thing_128 : decode cX11_thing 128 = .ok (.goto 4, 3) := by decide +kernel
theorem dX11_thing_131 : decode cX11_thing 131 = .ok (.iconst 0, 1) := by decide +kernel
theorem dX11_thing_132 : decode cX11_thing 132 = .ok (.ireturn, 1) := by decide +kernel
theorem dX11_readRule_0 : decode cX11_readRule 0 = .ok (.aload_n 0, 1) := by decide +kernel
theorem dX11_readRule_1 : decode cX11_readRule 1 = .ok (.bipush 40, 2) := by decide +kernel
theorem dX11_readRule_3 : decode cX11_readRule 3 = .ok (.invokevirtual 151, 3) := by decide +kernel
theorem dX11_readRule_6 : decode cX11_readRule 6 = .ok (.aload_n 0, 1) := by decide +kernel
theorem dX11_readRule_7 : decode cX11_readRule 7 = .ok (.iconst 0, 1) := by decide +kernel
theorem dX11_readRule_8 : decode cX11_readRule 8 = .ok (.putfield 186, 3) := by decide +kernel
theorem dX11_readRule_11 : decode cX11_readRule 11 = .ok (.aload_n 0, 1) := by decide +kernel
theorem dX11_readRule_12 : decode cX11_readRule 12 = .ok (.getfield 109, 3) := by decide +kernel
theorem dX11_readRule_15 : decode cX11_readRule 15 = .ok (.ifCond .le 9, 3) := by decide +kernel
theorem dX11_readRule_18 : decode cX11_readRule 18 = .ok (.aload_n 0, 1) := by decide +kernel
theorem dX11_readRule_19 : decode cX11_readRule 19 = .ok (.iconst 0, 1) := by decide +kernel
theorem dX11_readRule_20 : decode cX11_readRule 20 = .ok (.invokevirtual 173, 3) := by decide +kernel
theorem dX11_readRule_23 : decode cX11_readRule 23 = .ok (.pop, 1) := by decide +kernel
theorem dX11_readRule_24 : decode cX11_readRule 24 = .ok (.aload_n 0, 1) := by decide +kernel
theorem dX11_readRule_25 : decode cX11_readRule 25 = .ok (.invokevirtual 154, 3) := by decide +kernel
theorem dX11_readRule_28 : decode cX11_readRule 28 = .ok (.ireturn, 1) := by decide +kernel
theorem dX11_rule_0 : decode cX11_rule 0 = .ok (.aload_n 0, 1) := by decide +kernel
theorem dX11_rule_1 : decode cX11_rule 1 = .ok (.iconst 0, 1) := by decide +kernel
theorem dX11_rule_2 : decode cX11_rule 2 = .ok (.putfield 85, 3) := by decide +kernel
theorem dX11_rule_5 : decode cX11_rule 5 = .ok (.aload_n 0, 1) := by decide +kernel
theorem dX11_rule_6 : decode cX11_rule 6 = .ok (.getfield 103, 3) := by decide +kernel
theorem dX11_rule_9 : decode cX11_rule 9 = .ok (.istore_n 1, 1) := by decide +kernel
theorem dX11_rule_10 : decode cX11_rule 10 = .ok (.aload_n 0, 1) := by decide +kernel
theorem dX11_rule_11 : decode cX11_rule 11 = .ok (.invokevirtual 190, 3) := by decide +kernel
theorem dX11_rule_14 : decode cX11_rule 14 = .ok (.ifCond .ne 10, 3) := by decide +kernel
theorem dX11_rule_17 : decode cX11_rule 17 = .ok (.iconst (-1), 1) := by decide +kernel
theorem dX11_rule_18 : decode cX11_rule 18 = .ok (.aload_n 0, 1) := by decide +kernel
theorem dX11_rule_19 : decode cX11_rule 19 = .ok (.getfield 118, 3) := by decide +kernel
theorem dX11_rule_22 : decode cX11_rule 22 = .ok (.isub, 1) := by decide +kernel
theorem dX11_rule_23 : decode cX11_rule 23 = .ok (.ireturn, 1) := by decide +kernel
theorem dX11_rule_24 : decode cX11_rule 24 = .ok (.iconst 0, 1) := by decide +kernel
theorem dX11_rule_25 : decode cX11_rule 25 = .ok (.istore_n 2, 1) := by decide +kernel
theorem dX11_rule_26 : decode cX11_rule 26 = .ok (.iload_n 2, 1) := by decide +kernel
theorem dX11_rule_27 : decode cX11_rule 27 = .ok (.iload_n 1, 1) := by decide +kernel
theorem dX11_rule_28 : decode cX11_rule 28 = .ok (.if_icmp .ge 21, 3) := by decide +kernel
theorem dX11_rule_31 : decode cX11_rule 31 = .ok (.aload_n 0, 1) := by decide +kernel
theorem dX11_rule_32 : decode cX11_rule 32 = .ok (.getfield 24, 3) := by decide +kernel
theorem dX11_rule_35 : decode cX11_rule 35 = .ok (.iload_n 2, 1) := by decide +kernel
theorem dX11_rule_36 : decode cX11_rule 36 = .ok (.aload_n 0, 1) := by decide +kernel
theorem dX11_rule_37 : decode cX11_rule 37 = .ok (.getfield 13, 3) := by decide +kernel
theorem dX11_rule_40 : decode cX11_rule 40 = .ok (.iload_n 2, 1) := by decide +kernel
theorem dX11_rule_41 : decode cX11_rule 41 = .ok (.baload, 1) := by decide +kernel
theorem dX11_rule_42 : decode cX11_rule 42 = .ok (.bastore, 1) := by decide +kernel
theorem dX11_rule_43 : decode cX11_rule 43 = .ok (.iinc 2 1, 3) := by decide +kernel
theorem dX11_rule_46 : decode cX11_rule 46 = .ok (.goto (-20), 3) := by decide +kernel
theorem dX11_rule_49 : decode cX11_rule 49 = .ok (.aload_n 0, 1) := by decide +kernel
theorem dX11_rule_50 : decode cX11_rule 50 = .ok (.iload_n 1, 1) := by decide +kernel
theorem dX11_rule_51 : decode cX11_rule 51 = .ok (.putfield 193, 3) := by decide +kernel
theorem dX11_rule_54 : decode cX11_rule 54 = .ok (.iconst 0, 1) := by decide +kernel
theorem dX11_rule_55 : decode cX11_rule 55 = .ok (.ireturn, 1) := by decide +kernel
theorem dX11_wantedBy_0 : decode cX11_wantedBy 0 = .ok (.iconst 0, 1) := by decide +kernel
theorem dX11_wantedBy_1 : decode cX11_wantedBy 1 = .ok (.istore_n 3, 1) := by decide +kernel
theorem dX11_wantedBy_2 : decode cX11_wantedBy 2 = .ok (.iconst 0, 1) := by decide +kernel
theorem dX11_wantedBy_3 : decode cX11_wantedBy 3 = .ok (.istore 4, 2) := by decide +kernel
theorem dX11_wantedBy_5 : decode cX11_wantedBy 5 = .ok (.iload 4, 2) := by decide +kernel
theorem dX11_wantedBy_7 : decode cX11_wantedBy 7 = .ok (.aload_n 0, 1) := by decide +kernel
theorem dX11_wantedBy_8 : decode cX11_wantedBy 8 = .ok (.getfield 92, 3) := by decide +kernel
theorem dX11_wantedBy_11 : decode cX11_wantedBy 11 = .ok (.if_icmp .ge 34, 3) := by decide +kernel
theorem dX11_wantedBy_14 : decode cX11_wantedBy 14 = .ok (.iload_n 3, 1) := by decide +kernel
theorem dX11_wantedBy_15 : decode cX11_wantedBy 15 = .ok (.aload_n 1, 1) := by decide +kernel
theorem dX11_wantedBy_16 : decode cX11_wantedBy 16 = .ok (.bipush 28, 2) := by decide +kernel
theorem dX11_wantedBy_18 : decode cX11_wantedBy 18 = .ok (.iload 4, 2) := by decide +kernel
theorem dX11_wantedBy_20 : decode cX11_wantedBy 20 = .ok (.iadd, 1) := by decide +kernel
theorem dX11_wantedBy_21 : decode cX11_wantedBy 21 = .ok (.iaload, 1) := by decide +kernel
theorem dX11_wantedBy_22 : decode cX11_wantedBy 22 = .ok (.iload_n 2, 1) := by decide +kernel
theorem dX11_wantedBy_23 : decode cX11_wantedBy 23 = .ok (.invokestatic 196, 3) := by decide +kernel
theorem dX11_wantedBy_26 : decode cX11_wantedBy 26 = .ok (.ifCond .eq 10, 3) := by decide +kernel
theorem dX11_wantedBy_29 : decode cX11_wantedBy 29 = .ok (.iconst 1, 1) := by decide +kernel
theorem dX11_wantedBy_30 : decode cX11_wantedBy 30 = .ok (.iload 4, 2) := by decide +kernel
theorem dX11_wantedBy_32 : decode cX11_wantedBy 32 = .ok (.ishl, 1) := by decide +kernel
theorem dX11_wantedBy_33 : decode cX11_wantedBy 33 = .ok (.goto 4, 3) := by decide +kernel
theorem dX11_wantedBy_36 : decode cX11_wantedBy 36 = .ok (.iconst 0, 1) := by decide +kernel
theorem dX11_wantedBy_37 : decode cX11_wantedBy 37 = .ok (.ior, 1) := by decide +kernel
theorem dX11_wantedBy_38 : decode cX11_wantedBy 38 = .ok (.istore_n 3, 1) := by decide +kernel
theorem dX11_wantedBy_39 : decode cX11_wantedBy 39 = .ok (.iinc 4 1, 3) := by decide +kernel
theorem dX11_wantedBy_42 : decode cX11_wantedBy 42 = .ok (.goto (-37), 3) := by decide +kernel
theorem dX11_wantedBy_45 : decode cX11_wantedBy 45 = .ok (.iload_n 3, 1) := by decide +kernel
theorem dX11_wantedBy_46 : decode cX11_wantedBy 46 = .ok (.ireturn, 1) := by decide +kernel
theorem dX11_needs_0 : decode cX11_needs 0 = .ok (.aload_n 0, 1) := by decide +kernel
theorem dX11_needs_1 : decode cX11_needs 1 = .ok (.aload_n 1, 1) := by decide +kernel
theorem dX11_needs_2 : decode cX11_needs 2 = .ok (.iload_n 3, 1) := by decide +kernel
theorem dX11_needs_3 : decode cX11_needs 3 = .ok (.invokevirtual 200, 3) := by decide +kernel
theorem dX11_needs_6 : decode cX11_needs 6 = .ok (.invokestatic 204, 3) := by decide +kernel
theorem dX11_needs_9 : decode cX11_needs 9 = .ok (.istore 4, 2) := by decide +kernel
theorem dX11_needs_11 : decode cX11_needs 11 = .ok (.aload_n 0, 1) := by decide +kernel
theorem dX11_needs_12 : decode cX11_needs 12 = .ok (.getfield 193, 3) := by decide +kernel
theorem dX11_needs_15 : decode cX11_needs 15 = .ok (.ifCond .ne 20, 3) := by decide +kernel
theorem dX11_needs_18 : decode cX11_needs 18 = .ok (.aload_n 1, 1) := by decide +kernel
theorem dX11_needs_19 : decode cX11_needs 19 = .ok (.iload_n 3, 1) := by decide +kernel
theorem dX11_needs_20 : decode cX11_needs 20 = .ok (.iaload, 1) := by decide +kernel
theorem dX11_needs_21 : decode cX11_needs 21 = .ok (.iconst 4, 1) := by decide +kernel
theorem dX11_needs_22 : decode cX11_needs 22 = .ok (.isub, 1) := by decide +kernel
theorem dX11_needs_23 : decode cX11_needs 23 = .ok (.iload 4, 2) := by decide +kernel
theorem dX11_needs_25 : decode cX11_needs 25 = .ok (.iadd, 1) := by decide +kernel
theorem dX11_needs_26 : decode cX11_needs 26 = .ok (.ifCond .le 7, 3) := by decide +kernel
theorem dX11_needs_29 : decode cX11_needs 29 = .ok (.iconst 1, 1) := by decide +kernel
theorem dX11_needs_30 : decode cX11_needs 30 = .ok (.goto 4, 3) := by decide +kernel
theorem dX11_needs_33 : decode cX11_needs 33 = .ok (.iconst 0, 1) := by decide +kernel
theorem dX11_needs_34 : decode cX11_needs 34 = .ok (.ireturn, 1) := by decide +kernel
theorem dX11_needs_35 : decode cX11_needs 35 = .ok (.aload_n 0, 1) := by decide +kernel
theorem dX11_needs_36 : decode cX11_needs 36 = .ok (.getfield 30, 3) := by decide +kernel
theorem dX11_needs_39 : decode cX11_needs 39 = .ok (.iconst 0, 1) := by decide +kernel
theorem dX11_needs_40 : decode cX11_needs 40 = .ok (.aload_n 1, 1) := by decide +kernel
theorem dX11_needs_41 : decode cX11_needs 41 = .ok (.iload_n 3, 1) := by decide +kernel
theorem dX11_needs_42 : decode cX11_needs 42 = .ok (.iaload, 1) := by decide +kernel
theorem dX11_needs_43 : decode cX11_needs 43 = .ok (.iastore, 1) := by decide +kernel
theorem dX11_needs_44 : decode cX11_needs 44 = .ok (.aload_n 0, 1) := by decide +kernel
theorem dX11_needs_45 : decode cX11_needs 45 = .ok (.getfield 30, 3) := by decide +kernel
theorem dX11_needs_48 : decode cX11_needs 48 = .ok (.iconst 1, 1) := by decide +kernel
theorem dX11_needs_49 : decode cX11_needs 49 = .ok (.aload_n 1, 1) := by decide +kernel
theorem dX11_needs_50 : decode cX11_needs 50 = .ok (.iload_n 2, 1) := by decide +kernel
theorem dX11_needs_51 : decode cX11_needs 51 = .ok (.iaload, 1) := by decide +kernel
theorem dX11_needs_52 : decode cX11_needs 52 = .ok (.iastore, 1) := by decide +kernel
theorem dX11_needs_53 : decode cX11_needs 53 = .ok (.aload_n 0, 1) := by decide +kernel
theorem dX11_needs_54 : decode cX11_needs 54 = .ok (.getfield 30, 3) := by decide +kernel
theorem dX11_needs_57 : decode cX11_needs 57 = .ok (.iconst 2, 1) := by decide +kernel
theorem dX11_needs_58 : decode cX11_needs 58 = .ok (.iload 4, 2) := by decide +kernel
theorem dX11_needs_60 : decode cX11_needs 60 = .ok (.iastore, 1) := by decide +kernel
theorem dX11_needs_61 : decode cX11_needs 61 = .ok (.aload_n 0, 1) := by decide +kernel
theorem dX11_needs_62 : decode cX11_needs 62 = .ok (.getfield 30, 3) := by decide +kernel
theorem dX11_needs_65 : decode cX11_needs 65 = .ok (.iconst 3, 1) := by decide +kernel
theorem dX11_needs_66 : decode cX11_needs 66 = .ok (.aload_n 1, 1) := by decide +kernel
theorem dX11_needs_67 : decode cX11_needs 67 = .ok (.bipush 28, 2) := by decide +kernel
theorem dX11_needs_69 : decode cX11_needs 69 = .ok (.iload_n 2, 1) := by decide +kernel
theorem dX11_needs_70 : decode cX11_needs 70 = .ok (.iadd, 1) := by decide +kernel
theorem dX11_needs_71 : decode cX11_needs 71 = .ok (.iaload, 1) := by decide +kernel
theorem dX11_needs_72 : decode cX11_needs 72 = .ok (.invokestatic 204, 3) := by decide +kernel
theorem dX11_needs_75 : decode cX11_needs 75 = .ok (.iastore, 1) := by decide +kernel
theorem dX11_needs_76 : decode cX11_needs 76 = .ok (.aload_n 0, 1) := by decide +kernel
theorem dX11_needs_77 : decode cX11_needs 77 = .ok (.getfield 30, 3) := by decide +kernel
theorem dX11_needs_80 : decode cX11_needs 80 = .ok (.iconst 4, 1) := by decide +kernel
theorem dX11_needs_81 : decode cX11_needs 81 = .ok (.aload_n 1, 1) := by decide +kernel
theorem dX11_needs_82 : decode cX11_needs 82 = .ok (.bipush 14, 2) := by decide +kernel
theorem dX11_needs_84 : decode cX11_needs 84 = .ok (.iload_n 3, 1) := by decide +kernel
theorem dX11_needs_85 : decode cX11_needs 85 = .ok (.iadd, 1) := by decide +kernel
theorem dX11_needs_86 : decode cX11_needs 86 = .ok (.iaload, 1) := by decide +kernel
theorem dX11_needs_87 : decode cX11_needs 87 = .ok (.iastore, 1) := by decide +kernel
theorem dX11_needs_88 : decode cX11_needs 88 = .ok (.aload_n 0, 1) := by decide +kernel
theorem dX11_needs_89 : decode cX11_needs 89 = .ok (.getfield 30, 3) := by decide +kernel
theorem dX11_needs_92 : decode cX11_needs 92 = .ok (.iconst 5, 1) := by decide +kernel
theorem dX11_needs_93 : decode cX11_needs 93 = .ok (.aload_n 1, 1) := by decide +kernel
theorem dX11_needs_94 : decode cX11_needs 94 = .ok (.bipush 28, 2) := by decide +kernel
theorem dX11_needs_96 : decode cX11_needs 96 = .ok (.iload_n 3, 1) := by decide +kernel
theorem dX11_needs_97 : decode cX11_needs 97 = .ok (.iadd, 1) := by decide +kernel
theorem dX11_needs_98 : decode cX11_needs 98 = .ok (.iaload, 1) := by decide +kernel
theorem dX11_needs_99 : decode cX11_needs 99 = .ok (.iload_n 2, 1) := by decide +kernel
theorem dX11_needs_100 : decode cX11_needs 100 = .ok (.ishr, 1) := by decide +kernel
theorem dX11_needs_101 : decode cX11_needs 101 = .ok (.iconst 1, 1) := by decide +kernel
theorem dX11_needs_102 : decode cX11_needs 102 = .ok (.iand, 1) := by decide +kernel
theorem dX11_needs_103 : decode cX11_needs 103 = .ok (.iastore, 1) := by decide +kernel
theorem dX11_needs_104 : decode cX11_needs 104 = .ok (.aload_n 0, 1) := by decide +kernel
theorem dX11_needs_105 : decode cX11_needs 105 = .ok (.getfield 30, 3) := by decide +kernel
theorem dX11_needs_108 : decode cX11_needs 108 = .ok (.bipush 6, 2) := by decide +kernel
theorem dX11_needs_110 : decode cX11_needs 110 = .ok (.aload_n 1, 1) := by decide +kernel
theorem dX11_needs_111 : decode cX11_needs 111 = .ok (.bipush 35, 2) := by decide +kernel
theorem dX11_needs_113 : decode cX11_needs 113 = .ok (.iaload, 1) := by decide +kernel
theorem dX11_needs_114 : decode cX11_needs 114 = .ok (.bipush 7, 2) := by decide +kernel
theorem dX11_needs_116 : decode cX11_needs 116 = .ok (.irem, 1) := by decide +kernel
theorem dX11_needs_117 : decode cX11_needs 117 = .ok (.iastore, 1) := by decide +kernel
theorem dX11_needs_118 : decode cX11_needs 118 = .ok (.aload_n 0, 1) := by decide +kernel
theorem dX11_needs_119 : decode cX11_needs 119 = .ok (.aload_n 0, 1) := by decide +kernel
theorem dX11_needs_120 : decode cX11_needs 120 = .ok (.getfield 24, 3) := by decide +kernel
theorem dX11_needs_123 : decode cX11_needs 123 = .ok (.aload_n 0, 1) := by decide +kernel
theorem dX11_needs_124 : decode cX11_needs 124 = .ok (.getfield 193, 3) := by decide +kernel
theorem dX11_needs_127 : decode cX11_needs 127 = .ok (.bipush 40, 2) := by decide +kernel
theorem dX11_needs_129 : decode cX11_needs 129 = .ok (.invokevirtual 121, 3) := by decide +kernel
theorem dX11_needs_132 : decode cX11_needs 132 = .ok (.aload_n 0, 1) := by decide +kernel
theorem dX11_needs_133 : decode cX11_needs 133 = .ok (.iconst 1, 1) := by decide +kernel
theorem dX11_needs_134 : decode cX11_needs 134 = .ok (.putfield 186, 3) := by decide +kernel
theorem dX11_needs_137 : decode cX11_needs 137 = .ok (.aload_n 0, 1) := by decide +kernel
theorem dX11_needs_138 : decode cX11_needs 138 = .ok (.iconst 0, 1) := by decide +kernel
theorem dX11_needs_139 : decode cX11_needs 139 = .ok (.invokevirtual 173, 3) := by decide +kernel
theorem dX11_needs_142 : decode cX11_needs 142 = .ok (.istore 5, 2) := by decide +kernel
theorem dX11_needs_144 : decode cX11_needs 144 = .ok (.aload_n 0, 1) := by decide +kernel
theorem dX11_needs_145 : decode cX11_needs 145 = .ok (.iconst 0, 1) := by decide +kernel
theorem dX11_needs_146 : decode cX11_needs 146 = .ok (.putfield 186, 3) := by decide +kernel
theorem dX11_needs_149 : decode cX11_needs 149 = .ok (.iload 5, 2) := by decide +kernel
theorem dX11_needs_151 : decode cX11_needs 151 = .ok (.ifCond .le 7, 3) := by decide +kernel
theorem dX11_needs_154 : decode cX11_needs 154 = .ok (.iconst 1, 1) := by decide +kernel
theorem dX11_needs_155 : decode cX11_needs 155 = .ok (.goto 4, 3) := by decide +kernel
theorem dX11_needs_158 : decode cX11_needs 158 = .ok (.iconst 0, 1) := by decide +kernel
theorem dX11_needs_159 : decode cX11_needs 159 = .ok (.ireturn, 1) := by decide +kernel
theorem dX11_neededBy_0 : decode cX11_neededBy 0 = .ok (.aload_n 0, 1) := by decide +kernel
theorem dX11_neededBy_1 : decode cX11_neededBy 1 = .ok (.aload_n 1, 1) := by decide +kernel
theorem dX11_neededBy_2 : decode cX11_neededBy 2 = .ok (.iload_n 2, 1) := by decide +kernel
theorem dX11_neededBy_3 : decode cX11_neededBy 3 = .ok (.invokevirtual 200, 3) := by decide +kernel
theorem dX11_neededBy_6 : decode cX11_neededBy 6 = .ok (.istore_n 3, 1) := by decide +kernel
theorem dX11_neededBy_7 : decode cX11_neededBy 7 = .ok (.iconst 0, 1) := by decide +kernel
theorem dX11_neededBy_8 : decode cX11_neededBy 8 = .ok (.istore 4, 2) := by decide +kernel
theorem dX11_neededBy_10 : decode cX11_neededBy 10 = .ok (.iconst 0, 1) := by decide +kernel
theorem dX11_neededBy_11 : decode cX11_neededBy 11 = .ok (.istore 5, 2) := by decide +kernel
theorem dX11_neededBy_13 : decode cX11_neededBy 13 = .ok (.iload 5, 2) := by decide +kernel
theorem dX11_neededBy_15 : decode cX11_neededBy 15 = .ok (.aload_n 0, 1) := by decide +kernel
theorem dX11_neededBy_16 : decode cX11_neededBy 16 = .ok (.getfield 92, 3) := by decide +kernel
theorem dX11_neededBy_19 : decode cX11_neededBy 19 = .ok (.if_icmp .ge 42, 3) := by decide +kernel
theorem dX11_neededBy_22 : decode cX11_neededBy 22 = .ok (.iload 4, 2) := by decide +kernel
theorem dX11_neededBy_24 : decode cX11_neededBy 24 = .ok (.iload_n 3, 1) := by decide +kernel
theorem dX11_neededBy_25 : decode cX11_neededBy 25 = .ok (.iload 5, 2) := by decide +kernel
theorem dX11_neededBy_27 : decode cX11_neededBy 27 = .ok (.invokestatic 196, 3) := by decide +kernel
theorem dX11_neededBy_30 : decode cX11_neededBy 30 = .ok (.ifCond .eq 21, 3) := by decide +kernel
theorem dX11_neededBy_33 : decode cX11_neededBy 33 = .ok (.aload_n 0, 1) := by decide +kernel
theorem dX11_neededBy_34 : decode cX11_neededBy 34 = .ok (.aload_n 1, 1) := by decide +kernel
theorem dX11_neededBy_35 : decode cX11_neededBy 35 = .ok (.iload 5, 2) := by decide +kernel
theorem dX11_neededBy_37 : decode cX11_neededBy 37 = .ok (.iload_n 2, 1) := by decide +kernel
theorem dX11_neededBy_38 : decode cX11_neededBy 38 = .ok (.invokevirtual 209, 3) := by decide +kernel
theorem dX11_neededBy_41 : decode cX11_neededBy 41 = .ok (.ifCond .eq 10, 3) := by decide +kernel
theorem dX11_neededBy_44 : decode cX11_neededBy 44 = .ok (.iconst 1, 1) := by decide +kernel
theorem dX11_neededBy_45 : decode cX11_neededBy 45 = .ok (.iload 5, 2) := by decide +kernel
theorem dX11_neededBy_47 : decode cX11_neededBy 47 = .ok (.ishl, 1) := by decide +kernel
theorem dX11_neededBy_48 : decode cX11_neededBy 48 = .ok (.goto 4, 3) := by decide +kernel
theorem dX11_neededBy_51 : decode cX11_neededBy 51 = .ok (.iconst 0, 1) := by decide +kernel
theorem dX11_neededBy_52 : decode cX11_neededBy 52 = .ok (.ior, 1) := by decide +kernel
theorem dX11_neededBy_53 : decode cX11_neededBy 53 = .ok (.istore 4, 2) := by decide +kernel
theorem dX11_neededBy_55 : decode cX11_neededBy 55 = .ok (.iinc 5 1, 3) := by decide +kernel
theorem dX11_neededBy_58 : decode cX11_neededBy 58 = .ok (.goto (-45), 3) := by decide +kernel
theorem dX11_neededBy_61 : decode cX11_neededBy 61 = .ok (.iload 4, 2) := by decide +kernel
theorem dX11_neededBy_63 : decode cX11_neededBy 63 = .ok (.ireturn, 1) := by decide +kernel
theorem dX11_isAwake_0 : decode cX11_isAwake 0 = .ok (.aload_n 1, 1) := by decide +kernel
theorem dX11_isAwake_1 : decode cX11_isAwake 1 = .ok (.bipush 7, 2) := by decide +kernel
theorem dX11_isAwake_3 : decode cX11_isAwake 3 = .ok (.iload_n 2, 1) := by decide +kernel
theorem dX11_isAwake_4 : decode cX11_isAwake 4 = .ok (.iadd, 1) := by decide +kernel
theorem dX11_isAwake_5 : decode cX11_isAwake 5 = .ok (.iaload, 1) := by decide +kernel
theorem dX11_isAwake_6 : decode cX11_isAwake 6 = .ok (.ifCond .ne 16, 3) := by decide +kernel
theorem dX11_isAwake_9 : decode cX11_isAwake 9 = .ok (.aload_n 0, 1) := by decide +kernel
theorem dX11_isAwake_10 : decode cX11_isAwake 10 = .ok (.aload_n 1, 1) := by decide +kernel
theorem dX11_isAwake_11 : decode cX11_isAwake 11 = .ok (.iload_n 2, 1) := by decide +kernel
theorem dX11_isAwake_12 : decode cX11_isAwake 12 = .ok (.invokevirtual 213, 3) := by decide +kernel
theorem dX11_isAwake_15 : decode cX11_isAwake 15 = .ok (.ifCond .eq 7, 3) := by decide +kernel
theorem dX11_isAwake_18 : decode cX11_isAwake 18 = .ok (.iconst 1, 1) := by decide +kernel
theorem dX11_isAwake_19 : decode cX11_isAwake 19 = .ok (.goto 4, 3) := by decide +kernel
theorem dX11_isAwake_22 : decode cX11_isAwake 22 = .ok (.iconst 0, 1) := by decide +kernel
theorem dX11_isAwake_23 : decode cX11_isAwake 23 = .ok (.ireturn, 1) := by decide +kernel
theorem dX11_awake_0 : decode cX11_awake 0 = .ok (.iconst 0, 1) := by decide +kernel
theorem dX11_awake_1 : decode cX11_awake 1 = .ok (.istore_n 2, 1) := by decide +kernel
theorem dX11_awake_2 : decode cX11_awake 2 = .ok (.iconst 0, 1) := by decide +kernel
theorem dX11_awake_3 : decode cX11_awake 3 = .ok (.istore_n 3, 1) := by decide +kernel
theorem dX11_awake_4 : decode cX11_awake 4 = .ok (.iload_n 3, 1) := by decide +kernel
theorem dX11_awake_5 : decode cX11_awake 5 = .ok (.aload_n 0, 1) := by decide +kernel
theorem dX11_awake_6 : decode cX11_awake 6 = .ok (.getfield 92, 3) := by decide +kernel
theorem dX11_awake_9 : decode cX11_awake 9 = .ok (.if_icmp .ge 28, 3) := by decide +kernel
theorem dX11_awake_12 : decode cX11_awake 12 = .ok (.iload_n 2, 1) := by decide +kernel
theorem dX11_awake_13 : decode cX11_awake 13 = .ok (.aload_n 0, 1) := by decide +kernel
theorem dX11_awake_14 : decode cX11_awake 14 = .ok (.aload_n 1, 1) := by decide +kernel
theorem dX11_awake_15 : decode cX11_awake 15 = .ok (.iload_n 3, 1) := by decide +kernel
theorem dX11_awake_16 : decode cX11_awake 16 = .ok (.invokevirtual 216, 3) := by decide +kernel
theorem dX11_awake_19 : decode cX11_awake 19 = .ok (.ifCond .eq 9, 3) := by decide +kernel
theorem dX11_awake_22 : decode cX11_awake 22 = .ok (.iconst 1, 1) := by decide +kernel
theorem dX11_awake_23 : decode cX11_awake 23 = .ok (.iload_n 3, 1) := by decide +kernel
theorem dX11_awake_24 : decode cX11_awake 24 = .ok (.ishl, 1) := by decide +kernel
theorem dX11_awake_25 : decode cX11_awake 25 = .ok (.goto 4, 3) := by decide +kernel
theorem dX11_awake_28 : decode cX11_awake 28 = .ok (.iconst 0, 1) := by decide +kernel
theorem dX11_awake_29 : decode cX11_awake 29 = .ok (.ior, 1) := by decide +kernel
theorem dX11_awake_30 : decode cX11_awake 30 = .ok (.istore_n 2, 1) := by decide +kernel
theorem dX11_awake_31 : decode cX11_awake 31 = .ok (.iinc 3 1, 3) := by decide +kernel
theorem dX11_awake_34 : decode cX11_awake 34 = .ok (.goto (-30), 3) := by decide +kernel
theorem dX11_awake_37 : decode cX11_awake 37 = .ok (.iload_n 2, 1) := by decide +kernel
theorem dX11_awake_38 : decode cX11_awake 38 = .ok (.ireturn, 1) := by decide +kernel
theorem dX11_unmet_0 : decode cX11_unmet 0 = .ok (.iconst 0, 1) := by decide +kernel
theorem dX11_unmet_1 : decode cX11_unmet 1 = .ok (.istore_n 3, 1) := by decide +kernel
theorem dX11_unmet_2 : decode cX11_unmet 2 = .ok (.iconst 0, 1) := by decide +kernel
theorem dX11_unmet_3 : decode cX11_unmet 3 = .ok (.istore 4, 2) := by decide +kernel
theorem dX11_unmet_5 : decode cX11_unmet 5 = .ok (.iload 4, 2) := by decide +kernel
theorem dX11_unmet_7 : decode cX11_unmet 7 = .ok (.aload_n 0, 1) := by decide +kernel
theorem dX11_unmet_8 : decode cX11_unmet 8 = .ok (.getfield 92, 3) := by decide +kernel
theorem dX11_unmet_11 : decode cX11_unmet 11 = .ok (.if_icmp .ge 39, 3) := by decide +kernel
theorem dX11_unmet_14 : decode cX11_unmet 14 = .ok (.iload_n 3, 1) := by decide +kernel
theorem dX11_unmet_15 : decode cX11_unmet 15 = .ok (.aload_n 1, 1) := by decide +kernel
theorem dX11_unmet_16 : decode cX11_unmet 16 = .ok (.bipush 28, 2) := by decide +kernel
theorem dX11_unmet_18 : decode cX11_unmet 18 = .ok (.iload 4, 2) := by decide +kernel
theorem dX11_unmet_20 : decode cX11_unmet 20 = .ok (.iadd, 1) := by decide +kernel
theorem dX11_unmet_21 : decode cX11_unmet 21 = .ok (.iaload, 1) := by decide +kernel
theorem dX11_unmet_22 : decode cX11_unmet 22 = .ok (.ifCond .eq 19, 3) := by decide +kernel
theorem dX11_unmet_25 : decode cX11_unmet 25 = .ok (.aload_n 1, 1) := by decide +kernel
theorem dX11_unmet_26 : decode cX11_unmet 26 = .ok (.bipush 28, 2) := by decide +kernel
theorem dX11_unmet_28 : decode cX11_unmet 28 = .ok (.iload 4, 2) := by decide +kernel
theorem dX11_unmet_30 : decode cX11_unmet 30 = .ok (.iadd, 1) := by decide +kernel
theorem dX11_unmet_31 : decode cX11_unmet 31 = .ok (.iaload, 1) := by decide +kernel
theorem dX11_unmet_32 : decode cX11_unmet 32 = .ok (.iload_n 2, 1) := by decide +kernel
theorem dX11_unmet_33 : decode cX11_unmet 33 = .ok (.iand, 1) := by decide +kernel
theorem dX11_unmet_34 : decode cX11_unmet 34 = .ok (.ifCond .ne 7, 3) := by decide +kernel
theorem dX11_unmet_37 : decode cX11_unmet 37 = .ok (.iconst 1, 1) := by decide +kernel
theorem dX11_unmet_38 : decode cX11_unmet 38 = .ok (.goto 4, 3) := by decide +kernel
theorem dX11_unmet_41 : decode cX11_unmet 41 = .ok (.iconst 0, 1) := by decide +kernel
theorem dX11_unmet_42 : decode cX11_unmet 42 = .ok (.iadd, 1) := by decide +kernel
theorem dX11_unmet_43 : decode cX11_unmet 43 = .ok (.istore_n 3, 1) := by decide +kernel
theorem dX11_unmet_44 : decode cX11_unmet 44 = .ok (.iinc 4 1, 3) := by decide +kernel
theorem dX11_unmet_47 : decode cX11_unmet 47 = .ok (.goto (-42), 3) := by decide +kernel
theorem dX11_unmet_50 : decode cX11_unmet 50 = .ok (.iload_n 3, 1) := by decide +kernel
theorem dX11_unmet_51 : decode cX11_unmet 51 = .ok (.ireturn, 1) := by decide +kernel
theorem dX11_one_0 : decode cX11_one 0 = .ok (.aload_n 0, 1) := by decide +kernel
theorem dX11_one_1 : decode cX11_one 1 = .ok (.iconst 0, 1) := by decide +kernel
theorem dX11_one_2 : decode cX11_one 2 = .ok (.putfield 85, 3) := by decide +kernel
theorem dX11_one_5 : decode cX11_one 5 = .ok (.aload_n 0, 1) := by decide +kernel
theorem dX11_one_6 : decode cX11_one 6 = .ok (.iload_n 1, 1) := by decide +kernel
theorem dX11_one_7 : decode cX11_one 7 = .ok (.invokevirtual 99, 3) := by decide +kernel
theorem dX11_one_10 : decode cX11_one 10 = .ok (.ifCond .eq 13, 3) := by decide +kernel
theorem dX11_one_13 : decode cX11_one 13 = .ok (.iload_n 2, 1) := by decide +kernel
theorem dX11_one_14 : decode cX11_one 14 = .ok (.iconst 0, 1) := by decide +kernel
theorem dX11_one_15 : decode cX11_one 15 = .ok (.bipush 6, 2) := by decide +kernel
theorem dX11_one_17 : decode cX11_one 17 = .ok (.invokestatic 95, 3) := by decide +kernel
theorem dX11_one_20 : decode cX11_one 20 = .ok (.ifCond .ne 8, 3) := by decide +kernel
theorem dX11_one_23 : decode cX11_one 23 = .ok (.aload_n 0, 1) := by decide +kernel
theorem dX11_one_24 : decode cX11_one 24 = .ok (.invokevirtual 220, 3) := by decide +kernel
theorem dX11_one_27 : decode cX11_one 27 = .ok (.ireturn, 1) := by decide +kernel
theorem dX11_one_28 : decode cX11_one 28 = .ok (.iload_n 2, 1) := by decide +kernel
theorem dX11_one_29 : decode cX11_one 29 = .ok (.iconst 5, 1) := by decide +kernel
theorem dX11_one_30 : decode cX11_one 30 = .ok (.if_icmp .ge 17, 3) := by decide +kernel
theorem dX11_one_33 : decode cX11_one 33 = .ok (.aload_n 0, 1) := by decide +kernel
theorem dX11_one_34 : decode cX11_one 34 = .ok (.getfield 9, 3) := by decide +kernel
theorem dX11_one_37 : decode cX11_one 37 = .ok (.bipush 7, 2) := by decide +kernel
theorem dX11_one_39 : decode cX11_one 39 = .ok (.iload_n 2, 1) := by decide +kernel
theorem dX11_one_40 : decode cX11_one 40 = .ok (.imul, 1) := by decide +kernel
theorem dX11_one_41 : decode cX11_one 41 = .ok (.iload_n 1, 1) := by decide +kernel
theorem dX11_one_42 : decode cX11_one 42 = .ok (.iadd, 1) := by decide +kernel
theorem dX11_one_43 : decode cX11_one 43 = .ok (.iaload, 1) := by decide +kernel
theorem dX11_one_44 : decode cX11_one 44 = .ok (.goto 29, 3) := by decide +kernel
theorem dX11_one_47 : decode cX11_one 47 = .ok (.iload_n 2, 1) := by decide +kernel
theorem dX11_one_48 : decode cX11_one 48 = .ok (.iconst 5, 1) := by decide +kernel
theorem dX11_one_49 : decode cX11_one 49 = .ok (.if_icmp .ne 15, 3) := by decide +kernel
theorem dX11_one_52 : decode cX11_one 52 = .ok (.aload_n 0, 1) := by decide +kernel
theorem dX11_one_53 : decode cX11_one 53 = .ok (.aload_n 0, 1) := by decide +kernel
theorem dX11_one_54 : decode cX11_one 54 = .ok (.getfield 9, 3) := by decide +kernel
theorem dX11_one_57 : decode cX11_one 57 = .ok (.iload_n 1, 1) := by decide +kernel
theorem dX11_one_58 : decode cX11_one 58 = .ok (.invokevirtual 200, 3) := by decide +kernel
theorem dX11_one_61 : decode cX11_one 61 = .ok (.goto 12, 3) := by decide +kernel
theorem dX11_one_64 : decode cX11_one 64 = .ok (.aload_n 0, 1) := by decide +kernel
theorem dX11_one_65 : decode cX11_one 65 = .ok (.aload_n 0, 1) := by decide +kernel
theorem dX11_one_66 : decode cX11_one 66 = .ok (.getfield 9, 3) := by decide +kernel
theorem dX11_one_69 : decode cX11_one 69 = .ok (.iload_n 1, 1) := by decide +kernel
theorem dX11_one_70 : decode cX11_one 70 = .ok (.invokevirtual 213, 3) := by decide +kernel
theorem dX11_one_73 : decode cX11_one 73 = .ok (.ireturn, 1) := by decide +kernel
theorem dX11_sumOf_0 : decode cX11_sumOf 0 = .ok (.iconst 0, 1) := by decide +kernel
theorem dX11_sumOf_1 : decode cX11_sumOf 1 = .ok (.istore_n 3, 1) := by decide +kernel
theorem dX11_sumOf_2 : decode cX11_sumOf 2 = .ok (.iconst 0, 1) := by decide +kernel
theorem dX11_sumOf_3 : decode cX11_sumOf 3 = .ok (.istore 4, 2) := by decide +kernel
theorem dX11_sumOf_5 : decode cX11_sumOf 5 = .ok (.iload 4, 2) := by decide +kernel
theorem dX11_sumOf_7 : decode cX11_sumOf 7 = .ok (.aload_n 0, 1) := by decide +kernel
theorem dX11_sumOf_8 : decode cX11_sumOf 8 = .ok (.getfield 92, 3) := by decide +kernel
theorem dX11_sumOf_11 : decode cX11_sumOf 11 = .ok (.if_icmp .ge 18, 3) := by decide +kernel
theorem dX11_sumOf_14 : decode cX11_sumOf 14 = .ok (.iload_n 3, 1) := by decide +kernel
theorem dX11_sumOf_15 : decode cX11_sumOf 15 = .ok (.aload_n 1, 1) := by decide +kernel
theorem dX11_sumOf_16 : decode cX11_sumOf 16 = .ok (.iload_n 2, 1) := by decide +kernel
theorem dX11_sumOf_17 : decode cX11_sumOf 17 = .ok (.iload 4, 2) := by decide +kernel
theorem dX11_sumOf_19 : decode cX11_sumOf 19 = .ok (.iadd, 1) := by decide +kernel
theorem dX11_sumOf_20 : decode cX11_sumOf 20 = .ok (.iaload, 1) := by decide +kernel
theorem dX11_sumOf_21 : decode cX11_sumOf 21 = .ok (.iadd, 1) := by decide +kernel
theorem dX11_sumOf_22 : decode cX11_sumOf 22 = .ok (.istore_n 3, 1) := by decide +kernel
theorem dX11_sumOf_23 : decode cX11_sumOf 23 = .ok (.iinc 4 1, 3) := by decide +kernel
theorem dX11_sumOf_26 : decode cX11_sumOf 26 = .ok (.goto (-21), 3) := by decide +kernel
theorem dX11_sumOf_29 : decode cX11_sumOf 29 = .ok (.iload_n 3, 1) := by decide +kernel
theorem dX11_sumOf_30 : decode cX11_sumOf 30 = .ok (.ireturn, 1) := by decide +kernel
theorem dX11_sheet_0 : decode cX11_sheet 0 = .ok (.aload_n 0, 1) := by decide +kernel
theorem dX11_sheet_1 : decode cX11_sheet 1 = .ok (.iconst 0, 1) := by decide +kernel
theorem dX11_sheet_2 : decode cX11_sheet 2 = .ok (.putfield 85, 3) := by decide +kernel
theorem dX11_sheet_5 : decode cX11_sheet 5 = .ok (.iload_n 1, 1) := by decide +kernel
theorem dX11_sheet_6 : decode cX11_sheet 6 = .ok (.iconst 0, 1) := by decide +kernel
theorem dX11_sheet_7 : decode cX11_sheet 7 = .ok (.iconst 3, 1) := by decide +kernel
theorem dX11_sheet_8 : decode cX11_sheet 8 = .ok (.invokestatic 95, 3) := by decide +kernel
theorem dX11_sheet_11 : decode cX11_sheet 11 = .ok (.ifCond .eq 9, 3) := by decide +kernel
theorem dX11_sheet_14 : decode cX11_sheet 14 = .ok (.iload_n 2, 1) := by decide +kernel
theorem dX11_sheet_15 : decode cX11_sheet 15 = .ok (.bipush 7, 2) := by decide +kernel
theorem dX11_sheet_17 : decode cX11_sheet 17 = .ok (.if_icmp .le 5, 3) := by decide +kernel
theorem dX11_sheet_20 : decode cX11_sheet 20 = .ok (.iconst (-1), 1) := by decide +kernel
theorem dX11_sheet_21 : decode cX11_sheet 21 = .ok (.ireturn, 1) := by decide +kernel
theorem dX11_sheet_22 : decode cX11_sheet 22 = .ok (.iload_n 1, 1) := by decide +kernel
theorem dX11_sheet_23 : decode cX11_sheet 23 = .ok (.iconst 3, 1) := by decide +kernel
theorem dX11_sheet_24 : decode cX11_sheet 24 = .ok (.if_icmp .ge 10, 3) := by decide +kernel
theorem dX11_sheet_27 : decode cX11_sheet 27 = .ok (.iload_n 2, 1) := by decide +kernel
theorem dX11_sheet_28 : decode cX11_sheet 28 = .ok (.ifCond .ge 6, 3) := by decide +kernel
theorem dX11_sheet_31 : decode cX11_sheet 31 = .ok (.bipush (-2), 2) := by decide +kernel
theorem dX11_sheet_33 : decode cX11_sheet 33 = .ok (.ireturn, 1) := by decide +kernel
theorem dX11_sheet_34 : decode cX11_sheet 34 = .ok (.iload_n 3, 1) := by decide +kernel
theorem dX11_sheet_35 : decode cX11_sheet 35 = .ok (.istore 5, 2) := by decide +kernel
theorem dX11_sheet_37 : decode cX11_sheet 37 = .ok (.iconst 0, 1) := by decide +kernel
theorem dX11_sheet_38 : decode cX11_sheet 38 = .ok (.istore 6, 2) := by decide +kernel
theorem dX11_sheet_40 : decode cX11_sheet 40 = .ok (.iload 6, 2) := by decide +kernel
theorem dX11_sheet_42 : decode cX11_sheet 42 = .ok (.aload_n 0, 1) := by decide +kernel
theorem dX11_sheet_43 : decode cX11_sheet 43 = .ok (.getfield 92, 3) := by decide +kernel
theorem dX11_sheet_46 : decode cX11_sheet 46 = .ok (.if_icmp .ge 74, 3) := by decide +kernel
theorem dX11_sheet_49 : decode cX11_sheet 49 = .ok (.iload_n 1, 1) := by decide +kernel
theorem dX11_sheet_50 : decode cX11_sheet 50 = .ok (.ifCond .ne 9, 3) := by decide +kernel
theorem dX11_sheet_53 : decode cX11_sheet 53 = .ok (.iload 5, 2) := by decide +kernel
theorem dX11_sheet_55 : decode cX11_sheet 55 = .ok (.i2b, 1) := by decide +kernel
theorem dX11_sheet_56 : decode cX11_sheet 56 = .ok (.goto 16, 3) := by decide +kernel
theorem dX11_sheet_59 : decode cX11_sheet 59 = .ok (.iload_n 1, 1) := by decide +kernel
theorem dX11_sheet_60 : decode cX11_sheet 60 = .ok (.iconst 1, 1) := by decide +kernel
theorem dX11_sheet_61 : decode cX11_sheet 61 = .ok (.if_icmp .ne 9, 3) := by decide +kernel
theorem dX11_sheet_64 : decode cX11_sheet 64 = .ok (.iload 5, 2) := by decide +kernel
theorem dX11_sheet_66 : decode cX11_sheet 66 = .ok (.i2s, 1) := by decide +kernel
theorem dX11_sheet_67 : decode cX11_sheet 67 = .ok (.goto 5, 3) := by decide +kernel
theorem dX11_sheet_70 : decode cX11_sheet 70 = .ok (.iload 5, 2) := by decide +kernel
theorem dX11_sheet_72 : decode cX11_sheet 72 = .ok (.istore 7, 2) := by decide +kernel
theorem dX11_sheet_74 : decode cX11_sheet 74 = .ok (.aload_n 0, 1) := by decide +kernel
theorem dX11_sheet_75 : decode cX11_sheet 75 = .ok (.getfield 9, 3) := by decide +kernel
theorem dX11_sheet_78 : decode cX11_sheet 78 = .ok (.iload 6, 2) := by decide +kernel
theorem dX11_sheet_80 : decode cX11_sheet 80 = .ok (.iload_n 1, 1) := by decide +kernel
theorem dX11_sheet_81 : decode cX11_sheet 81 = .ok (.iconst 3, 1) := by decide +kernel
theorem dX11_sheet_82 : decode cX11_sheet 82 = .ok (.if_icmp .eq 9, 3) := by decide +kernel
theorem dX11_sheet_85 : decode cX11_sheet 85 = .ok (.iload 6, 2) := by decide +kernel
theorem dX11_sheet_87 : decode cX11_sheet 87 = .ok (.iload_n 2, 1) := by decide +kernel
theorem dX11_sheet_88 : decode cX11_sheet 88 = .ok (.if_icmp .lt 7, 3) := by decide +kernel
theorem dX11_sheet_91 : decode cX11_sheet 91 = .ok (.iconst 0, 1) := by decide +kernel
theorem dX11_sheet_92 : decode cX11_sheet 92 = .ok (.goto 14, 3) := by decide +kernel
theorem dX11_sheet_95 : decode cX11_sheet 95 = .ok (.iconst 0, 1) := by decide +kernel
theorem dX11_sheet_96 : decode cX11_sheet 96 = .ok (.bipush 9, 2) := by decide +kernel
theorem dX11_sheet_98 : decode cX11_sheet 98 = .ok (.iload 7, 2) := by decide +kernel
theorem dX11_sheet_100 : decode cX11_sheet 100 = .ok (.invokestatic 223, 3) := by decide +kernel
theorem dX11_sheet_103 : decode cX11_sheet 103 = .ok (.invokestatic 229, 3) := by decide +kernel
theorem dX11_sheet_106 : decode cX11_sheet 106 = .ok (.iastore, 1) := by decide +kernel
theorem dX11_sheet_107 : decode cX11_sheet 107 = .ok (.iload 5, 2) := by decide +kernel
theorem dX11_sheet_109 : decode cX11_sheet 109 = .ok (.iload 4, 2) := by decide +kernel
theorem dX11_sheet_111 : decode cX11_sheet 111 = .ok (.iadd, 1) := by decide +kernel
theorem dX11_sheet_112 : decode cX11_sheet 112 = .ok (.istore 5, 2) := by decide +kernel
theorem dX11_sheet_114 : decode cX11_sheet 114 = .ok (.iinc 6 1, 3) := by decide +kernel
theorem dX11_sheet_117 : decode cX11_sheet 117 = .ok (.goto (-77), 3) := by decide +kernel
theorem dX11_sheet_120 : decode cX11_sheet 120 = .ok (.iload_n 1, 1) := by decide +kernel
theorem dX11_sheet_121 : decode cX11_sheet 121 = .ok (.iconst 3, 1) := by decide +kernel
theorem dX11_sheet_122 : decode cX11_sheet 122 = .ok (.if_icmp .ne 8, 3) := by decide +kernel
theorem dX11_sheet_125 : decode cX11_sheet 125 = .ok (.bipush (-3), 2) := by decide +kernel
theorem dX11_sheet_127 : decode cX11_sheet 127 = .ok (.goto 12, 3) := by decide +kernel
theorem dX11_sheet_130 : decode cX11_sheet 130 = .ok (.aload_n 0, 1) := by decide +kernel
theorem dX11_sheet_131 : decode cX11_sheet 131 = .ok (.aload_n 0, 1) := by decide +kernel
theorem dX11_sheet_132 : decode cX11_sheet 132 = .ok (.getfield 9, 3) := by decide +kernel
theorem dX11_sheet_135 : decode cX11_sheet 135 = .ok (.iconst 0, 1) := by decide +kernel
theorem dX11_sheet_136 : decode cX11_sheet 136 = .ok (.invokevirtual 232, 3) := by decide +kernel
theorem dX11_sheet_139 : decode cX11_sheet 139 = .ok (.ireturn, 1) := by decide +kernel
theorem dX11_lay_0 : decode cX11_lay 0 = .ok (.iconst 0, 1) := by decide +kernel
theorem dX11_lay_1 : decode cX11_lay 1 = .ok (.istore_n 3, 1) := by decide +kernel
theorem dX11_lay_2 : decode cX11_lay 2 = .ok (.iload_n 3, 1) := by decide +kernel
theorem dX11_lay_3 : decode cX11_lay 3 = .ok (.bipush 37, 2) := by decide +kernel
theorem dX11_lay_5 : decode cX11_lay 5 = .ok (.if_icmp .ge 17, 3) := by decide +kernel
theorem dX11_lay_8 : decode cX11_lay 8 = .ok (.aload_n 1, 1) := by decide +kernel
theorem dX11_lay_9 : decode cX11_lay 9 = .ok (.iload_n 2, 1) := by decide +kernel
theorem dX11_lay_10 : decode cX11_lay 10 = .ok (.iload_n 3, 1) := by decide +kernel
theorem dX11_lay_11 : decode cX11_lay 11 = .ok (.iadd, 1) := by decide +kernel
theorem dX11_lay_12 : decode cX11_lay 12 = .ok (.aload_n 0, 1) := by decide +kernel
theorem dX11_lay_13 : decode cX11_lay 13 = .ok (.iload_n 3, 1) := by decide +kernel
theorem dX11_lay_14 : decode cX11_lay 14 = .ok (.iaload, 1) := by decide +kernel
theorem dX11_lay_15 : decode cX11_lay 15 = .ok (.iastore, 1) := by decide +kernel
theorem dX11_lay_16 : decode cX11_lay 16 = .ok (.iinc 3 1, 3) := by decide +kernel
theorem dX11_lay_19 : decode cX11_lay 19 = .ok (.goto (-17), 3) := by decide +kernel
theorem dX11_lay_22 : decode cX11_lay 22 = .ok (.return_, 1) := by decide +kernel
theorem dX11_remember_0 : decode cX11_remember 0 = .ok (.aload_n 0, 1) := by decide +kernel
theorem dX11_remember_1 : decode cX11_remember 1 = .ok (.getfield 145, 3) := by decide +kernel
theorem dX11_remember_4 : decode cX11_remember 4 = .ok (.bipush 12, 2) := by decide +kernel
theorem dX11_remember_6 : decode cX11_remember 6 = .ok (.if_icmp .ne 43, 3) := by decide +kernel
theorem dX11_remember_9 : decode cX11_remember 9 = .ok (.iconst 0, 1) := by decide +kernel
theorem dX11_remember_10 : decode cX11_remember 10 = .ok (.istore_n 2, 1) := by decide +kernel
theorem dX11_remember_11 : decode cX11_remember 11 = .ok (.iload_n 2, 1) := by decide +kernel
theorem dX11_remember_12 : decode cX11_remember 12 = .ok (.sipush 407, 3) := by decide +kernel
theorem dX11_remember_15 : decode cX11_remember 15 = .ok (.if_icmp .ge 24, 3) := by decide +kernel
theorem dX11_remember_18 : decode cX11_remember 18 = .ok (.aload_n 0, 1) := by decide +kernel
theorem dX11_remember_19 : decode cX11_remember 19 = .ok (.getfield 33, 3) := by decide +kernel
theorem dX11_remember_22 : decode cX11_remember 22 = .ok (.iload_n 2, 1) := by decide +kernel
theorem dX11_remember_23 : decode cX11_remember 23 = .ok (.aload_n 0, 1) := by decide +kernel
theorem dX11_remember_24 : decode cX11_remember 24 = .ok (.getfield 33, 3) := by decide +kernel
theorem dX11_remember_27 : decode cX11_remember 27 = .ok (.iload_n 2, 1) := by decide +kernel
theorem dX11_remember_28 : decode cX11_remember 28 = .ok (.bipush 37, 2) := by decide +kernel
theorem dX11_remember_30 : decode cX11_remember 30 = .ok (.iadd, 1) := by decide +kernel
theorem dX11_remember_31 : decode cX11_remember 31 = .ok (.iaload, 1) := by decide +kernel
theorem dX11_remember_32 : decode cX11_remember 32 = .ok (.iastore, 1) := by decide +kernel
theorem dX11_remember_33 : decode cX11_remember 33 = .ok (.iinc 2 1, 3) := by decide +kernel
theorem dX11_remember_36 : decode cX11_remember 36 = .ok (.goto (-25), 3) := by decide +kernel
theorem dX11_remember_39 : decode cX11_remember 39 = .ok (.aload_n 0, 1) := by decide +kernel
theorem dX11_remember_40 : decode cX11_remember 40 = .ok (.dup, 1) := by decide +kernel
theorem dX11_remember_41 : decode cX11_remember 41 = .ok (.getfield 145, 3) := by decide +kernel
theorem dX11_remember_44 : decode cX11_remember 44 = .ok (.iconst 1, 1) := by decide +kernel
theorem dX11_remember_45 : decode cX11_remember 45 = .ok (.isub, 1) := by decide +kernel
theorem dX11_remember_46 : decode cX11_remember 46 = .ok (.putfield 145, 3) := by decide +kernel
theorem dX11_remember_49 : decode cX11_remember 49 = .ok (.aload_n 1, 1) := by decide +kernel
theorem dX11_remember_50 : decode cX11_remember 50 = .ok (.aload_n 0, 1) := by decide +kernel
theorem dX11_remember_51 : decode cX11_remember 51 = .ok (.getfield 33, 3) := by decide +kernel
theorem dX11_remember_54 : decode cX11_remember 54 = .ok (.bipush 37, 2) := by decide +kernel
theorem dX11_remember_56 : decode cX11_remember 56 = .ok (.aload_n 0, 1) := by decide +kernel
theorem dX11_remember_57 : decode cX11_remember 57 = .ok (.getfield 145, 3) := by decide +kernel
theorem dX11_remember_60 : decode cX11_remember 60 = .ok (.imul, 1) := by decide +kernel
theorem dX11_remember_61 : decode cX11_remember 61 = .ok (.invokestatic 235, 3) := by decide +kernel
theorem dX11_remember_64 : decode cX11_remember 64 = .ok (.aload_n 0, 1) := by decide +kernel
theorem dX11_remember_65 : decode cX11_remember 65 = .ok (.dup, 1) := by decide +kernel
theorem dX11_remember_66 : decode cX11_remember 66 = .ok (.getfield 145, 3) := by decide +kernel
theorem dX11_remember_69 : decode cX11_remember 69 = .ok (.iconst 1, 1) := by decide +kernel
theorem dX11_remember_70 : decode cX11_remember 70 = .ok (.iadd, 1) := by decide +kernel
theorem dX11_remember_71 : decode cX11_remember 71 = .ok (.putfield 145, 3) := by decide +kernel
theorem dX11_remember_74 : decode cX11_remember 74 = .ok (.return_, 1) := by decide +kernel
theorem dX11_goMorning_0 : decode cX11_goMorning 0 = .ok (.aload_n 0, 1) := by decide +kernel
theorem dX11_goMorning_1 : decode cX11_goMorning 1 = .ok (.aload_n 1, 1) := by decide +kernel
theorem dX11_goMorning_2 : decode cX11_goMorning 2 = .ok (.invokevirtual 239, 3) := by decide +kernel
theorem dX11_goMorning_5 : decode cX11_goMorning 5 = .ok (.istore_n 2, 1) := by decide +kernel
theorem dX11_goMorning_6 : decode cX11_goMorning 6 = .ok (.aload_n 1, 1) := by decide +kernel
theorem dX11_goMorning_7 : decode cX11_goMorning 7 = .ok (.bipush 36, 2) := by decide +kernel
theorem dX11_goMorning_9 : decode cX11_goMorning 9 = .ok (.sipush 9999, 3) := by decide +kernel
theorem dX11_goMorning_12 : decode cX11_goMorning 12 = .ok (.aload_n 1, 1) := by decide +kernel
theorem dX11_goMorning_13 : decode cX11_goMorning 13 = .ok (.bipush 36, 2) := by decide +kernel
theorem dX11_goMorning_15 : decode cX11_goMorning 15 = .ok (.iaload, 1) := by decide +kernel
theorem dX11_goMorning_16 : decode cX11_goMorning 16 = .ok (.aload_n 0, 1) := by decide +kernel
theorem dX11_goMorning_17 : decode cX11_goMorning 17 = .ok (.aload_n 1, 1) := by decide +kernel
theorem dX11_goMorning_18 : decode cX11_goMorning 18 = .ok (.iload_n 2, 1) := by decide +kernel
theorem dX11_goMorning_19 : decode cX11_goMorning 19 = .ok (.invokevirtual 243, 3) := by decide +kernel
theorem dX11_goMorning_22 : decode cX11_goMorning 22 = .ok (.iadd, 1) := by decide +kernel
theorem dX11_goMorning_23 : decode cX11_goMorning 23 = .ok (.invokestatic 223, 3) := by decide +kernel
theorem dX11_goMorning_26 : decode cX11_goMorning 26 = .ok (.iastore, 1) := by decide +kernel
theorem dX11_goMorning_27 : decode cX11_goMorning 27 = .ok (.iconst 0, 1) := by decide +kernel
theorem dX11_goMorning_28 : decode cX11_goMorning 28 = .ok (.istore_n 3, 1) := by decide +kernel
theorem dX11_goMorning_29 : decode cX11_goMorning 29 = .ok (.iload_n 3, 1) := by decide +kernel
theorem dX11_goMorning_30 : decode cX11_goMorning 30 = .ok (.aload_n 0, 1) := by decide +kernel
theorem dX11_goMorning_31 : decode cX11_goMorning 31 = .ok (.getfield 92, 3) := by decide +kernel
theorem dX11_goMorning_34 : decode cX11_goMorning 34 = .ok (.if_icmp .ge 86, 3) := by decide +kernel
theorem dX11_goMorning_37 : decode cX11_goMorning 37 = .ok (.iload_n 2, 1) := by decide +kernel
theorem dX11_goMorning_38 : decode cX11_goMorning 38 = .ok (.iload_n 3, 1) := by decide +kernel
theorem dX11_goMorning_39 : decode cX11_goMorning 39 = .ok (.invokestatic 196, 3) := by decide +kernel
theorem dX11_goMorning_42 : decode cX11_goMorning 42 = .ok (.ifCond .eq 23, 3) := by decide +kernel
theorem dX11_goMorning_45 : decode cX11_goMorning 45 = .ok (.aload_n 1, 1) := by decide +kernel
theorem dX11_goMorning_46 : decode cX11_goMorning 46 = .ok (.bipush 21, 2) := by decide +kernel
theorem dX11_goMorning_48 : decode cX11_goMorning 48 = .ok (.iload_n 3, 1) := by decide +kernel
theorem dX11_goMorning_49 : decode cX11_goMorning 49 = .ok (.iadd, 1) := by decide +kernel
theorem dX11_goMorning_50 : decode cX11_goMorning 50 = .ok (.sipush 999, 3) := by decide +kernel
theorem dX11_goMorning_53 : decode cX11_goMorning 53 = .ok (.aload_n 1, 1) := by decide +kernel
theorem dX11_goMorning_54 : decode cX11_goMorning 54 = .ok (.bipush 21, 2) := by decide +kernel
theorem dX11_goMorning_56 : decode cX11_goMorning 56 = .ok (.iload_n 3, 1) := by decide +kernel
theorem dX11_goMorning_57 : decode cX11_goMorning 57 = .ok (.iadd, 1) := by decide +kernel
theorem dX11_goMorning_58 : decode cX11_goMorning 58 = .ok (.iaload, 1) := by decide +kernel
theorem dX11_goMorning_59 : decode cX11_goMorning 59 = .ok (.iconst 1, 1) := by decide +kernel
theorem dX11_goMorning_60 : decode cX11_goMorning 60 = .ok (.iadd, 1) := by decide +kernel
theorem dX11_goMorning_61 : decode cX11_goMorning 61 = .ok (.invokestatic 223, 3) := by decide +kernel
theorem dX11_goMorning_64 : decode cX11_goMorning 64 = .ok (.iastore, 1) := by decide +kernel
theorem dX11_goMorning_65 : decode cX11_goMorning 65 = .ok (.aload_n 1, 1) := by decide +kernel
theorem dX11_goMorning_66 : decode cX11_goMorning 66 = .ok (.bipush 14, 2) := by decide +kernel
theorem dX11_goMorning_68 : decode cX11_goMorning 68 = .ok (.iload_n 3, 1) := by decide +kernel
theorem dX11_goMorning_69 : decode cX11_goMorning 69 = .ok (.iadd, 1) := by decide +kernel
theorem dX11_goMorning_70 : decode cX11_goMorning 70 = .ok (.iload_n 2, 1) := by decide +kernel
theorem dX11_goMorning_71 : decode cX11_goMorning 71 = .ok (.iload_n 3, 1) := by decide +kernel
theorem dX11_goMorning_72 : decode cX11_goMorning 72 = .ok (.invokestatic 196, 3) := by decide +kernel
theorem dX11_goMorning_75 : decode cX11_goMorning 75 = .ok (.ifCond .eq 7, 3) := by decide +kernel
theorem dX11_goMorning_78 : decode cX11_goMorning 78 = .ok (.iconst 0, 1) := by decide +kernel
theorem dX11_goMorning_79 : decode cX11_goMorning 79 = .ok (.goto 16, 3) := by decide +kernel
theorem dX11_goMorning_82 : decode cX11_goMorning 82 = .ok (.bipush 99, 2) := by decide +kernel
theorem dX11_goMorning_84 : decode cX11_goMorning 84 = .ok (.aload_n 1, 1) := by decide +kernel
theorem dX11_goMorning_85 : decode cX11_goMorning 85 = .ok (.bipush 14, 2) := by decide +kernel
theorem dX11_goMorning_87 : decode cX11_goMorning 87 = .ok (.iload_n 3, 1) := by decide +kernel
theorem dX11_goMorning_88 : decode cX11_goMorning 88 = .ok (.iadd, 1) := by decide +kernel
theorem dX11_goMorning_89 : decode cX11_goMorning 89 = .ok (.iaload, 1) := by decide +kernel
theorem dX11_goMorning_90 : decode cX11_goMorning 90 = .ok (.iconst 1, 1) := by decide +kernel
theorem dX11_goMorning_91 : decode cX11_goMorning 91 = .ok (.iadd, 1) := by decide +kernel
theorem dX11_goMorning_92 : decode cX11_goMorning 92 = .ok (.invokestatic 223, 3) := by decide +kernel
theorem dX11_goMorning_95 : decode cX11_goMorning 95 = .ok (.iastore, 1) := by decide +kernel
theorem dX11_goMorning_96 : decode cX11_goMorning 96 = .ok (.aload_n 1, 1) := by decide +kernel
theorem dX11_goMorning_97 : decode cX11_goMorning 97 = .ok (.bipush 7, 2) := by decide +kernel
theorem dX11_goMorning_99 : decode cX11_goMorning 99 = .ok (.iload_n 3, 1) := by decide +kernel
theorem dX11_goMorning_100 : decode cX11_goMorning 100 = .ok (.iadd, 1) := by decide +kernel
theorem dX11_goMorning_101 : decode cX11_goMorning 101 = .ok (.iconst 0, 1) := by decide +kernel
theorem dX11_goMorning_102 : decode cX11_goMorning 102 = .ok (.aload_n 1, 1) := by decide +kernel
theorem dX11_goMorning_103 : decode cX11_goMorning 103 = .ok (.bipush 7, 2) := by decide +kernel
theorem dX11_goMorning_105 : decode cX11_goMorning 105 = .ok (.iload_n 3, 1) := by decide +kernel
theorem dX11_goMorning_106 : decode cX11_goMorning 106 = .ok (.iadd, 1) := by decide +kernel
theorem dX11_goMorning_107 : decode cX11_goMorning 107 = .ok (.iaload, 1) := by decide +kernel
theorem dX11_goMorning_108 : decode cX11_goMorning 108 = .ok (.iconst 1, 1) := by decide +kernel
theorem dX11_goMorning_109 : decode cX11_goMorning 109 = .ok (.isub, 1) := by decide +kernel
theorem dX11_goMorning_110 : decode cX11_goMorning 110 = .ok (.invokestatic 229, 3) := by decide +kernel
theorem dX11_goMorning_113 : decode cX11_goMorning 113 = .ok (.iastore, 1) := by decide +kernel
theorem dX11_goMorning_114 : decode cX11_goMorning 114 = .ok (.iinc 3 1, 3) := by decide +kernel
theorem dX11_goMorning_117 : decode cX11_goMorning 117 = .ok (.goto (-88), 3) := by decide +kernel
theorem dX11_goMorning_120 : decode cX11_goMorning 120 = .ok (.aload_n 1, 1) := by decide +kernel
theorem dX11_goMorning_121 : decode cX11_goMorning 121 = .ok (.bipush 35, 2) := by decide +kernel
theorem dX11_goMorning_123 : decode cX11_goMorning 123 = .ok (.dup2, 1) := by decide +kernel
theorem dX11_goMorning_124 : decode cX11_goMorning 124 = .ok (.iaload, 1) := by decide +kernel
theorem dX11_goMorning_125 : decode cX11_goMorning 125 = .ok (.iconst 1, 1) := by decide +kernel
theorem dX11_goMorning_126 : decode cX11_goMorning 126 = .ok (.iadd, 1) := by decide +kernel
theorem dX11_goMorning_127 : decode cX11_goMorning 127 = .ok (.iastore, 1) := by decide +kernel
theorem dX11_goMorning_128 : decode cX11_goMorning 128 = .ok (.iload_n 2, 1) := by decide +kernel
theorem dX11_goMorning_129 : decode cX11_goMorning 129 = .ok (.ireturn, 1) := by decide +kernel
theorem dX11_goMornings_0 : decode cX11_goMornings 0 = .ok (.iconst 0, 1) := by decide +kernel
theorem dX11_goMornings_1 : decode cX11_goMornings 1 = .ok (.istore_n 3, 1) := by decide +kernel
theorem dX11_goMornings_2 : decode cX11_goMornings 2 = .ok (.iconst 0, 1) := by decide +kernel
theorem dX11_goMornings_3 : decode cX11_goMornings 3 = .ok (.istore 4, 2) := by decide +kernel
theorem dX11_goMornings_5 : decode cX11_goMornings 5 = .ok (.iload 4, 2) := by decide +kernel
theorem dX11_goMornings_7 : decode cX11_goMornings 7 = .ok (.iload_n 2, 1) := by decide +kernel
theorem dX11_goMornings_8 : decode cX11_goMornings 8 = .ok (.if_icmp .ge 15, 3) := by decide +kernel
theorem dX11_goMornings_11 : decode cX11_goMornings 11 = .ok (.aload_n 0, 1) := by decide +kernel
theorem dX11_goMornings_12 : decode cX11_goMornings 12 = .ok (.aload_n 1, 1) := by decide +kernel
theorem dX11_goMornings_13 : decode cX11_goMornings 13 = .ok (.invokevirtual 246, 3) := by decide +kernel
theorem dX11_goMornings_16 : decode cX11_goMornings 16 = .ok (.istore_n 3, 1) := by decide +kernel
theorem dX11_goMornings_17 : decode cX11_goMornings 17 = .ok (.iinc 4 1, 3) := by decide +kernel
theorem dX11_goMornings_20 : decode cX11_goMornings 20 = .ok (.goto (-15), 3) := by decide +kernel
theorem dX11_goMornings_23 : decode cX11_goMornings 23 = .ok (.iload_n 3, 1) := by decide +kernel
theorem dX11_goMornings_24 : decode cX11_goMornings 24 = .ok (.ireturn, 1) := by decide +kernel
theorem dX11_mornings_0 : decode cX11_mornings 0 = .ok (.aload_n 0, 1) := by decide +kernel
theorem dX11_mornings_1 : decode cX11_mornings 1 = .ok (.iconst 0, 1) := by decide +kernel
theorem dX11_mornings_2 : decode cX11_mornings 2 = .ok (.putfield 85, 3) := by decide +kernel
theorem dX11_mornings_5 : decode cX11_mornings 5 = .ok (.iload_n 1, 1) := by decide +kernel
theorem dX11_mornings_6 : decode cX11_mornings 6 = .ok (.iconst 0, 1) := by decide +kernel
theorem dX11_mornings_7 : decode cX11_mornings 7 = .ok (.bipush 60, 2) := by decide +kernel
theorem dX11_mornings_9 : decode cX11_mornings 9 = .ok (.invokestatic 95, 3) := by decide +kernel
theorem dX11_mornings_12 : decode cX11_mornings 12 = .ok (.ifCond .ne 5, 3) := by decide +kernel
theorem dX11_mornings_15 : decode cX11_mornings 15 = .ok (.iconst (-1), 1) := by decide +kernel
theorem dX11_mornings_16 : decode cX11_mornings 16 = .ok (.ireturn, 1) := by decide +kernel
theorem dX11_mornings_17 : decode cX11_mornings 17 = .ok (.iload_n 1, 1) := by decide +kernel
theorem dX11_mornings_18 : decode cX11_mornings 18 = .ok (.ifCond .le 11, 3) := by decide +kernel
theorem dX11_mornings_21 : decode cX11_mornings 21 = .ok (.aload_n 0, 1) := by decide +kernel
theorem dX11_mornings_22 : decode cX11_mornings 22 = .ok (.aload_n 0, 1) := by decide +kernel
theorem dX11_mornings_23 : decode cX11_mornings 23 = .ok (.getfield 9, 3) := by decide +kernel
theorem dX11_mornings_26 : decode cX11_mornings 26 = .ok (.invokevirtual 249, 3) := by decide +kernel
theorem dX11_mornings_29 : decode cX11_mornings 29 = .ok (.aload_n 0, 1) := by decide +kernel
theorem dX11_mornings_30 : decode cX11_mornings 30 = .ok (.getfield 9, 3) := by decide +kernel
theorem dX11_mornings_33 : decode cX11_mornings 33 = .ok (.bipush 36, 2) := by decide +kernel
theorem dX11_mornings_35 : decode cX11_mornings 35 = .ok (.iaload, 1) := by decide +kernel
theorem dX11_mornings_36 : decode cX11_mornings 36 = .ok (.istore_n 2, 1) := by decide +kernel
theorem dX11_mornings_37 : decode cX11_mornings 37 = .ok (.aload_n 0, 1) := by decide +kernel
theorem dX11_mornings_38 : decode cX11_mornings 38 = .ok (.aload_n 0, 1) := by decide +kernel
theorem dX11_mornings_39 : decode cX11_mornings 39 = .ok (.getfield 9, 3) := by decide +kernel
theorem dX11_mornings_42 : decode cX11_mornings 42 = .ok (.iload_n 1, 1) := by decide +kernel
theorem dX11_mornings_43 : decode cX11_mornings 43 = .ok (.invokevirtual 253, 3) := by decide +kernel
theorem dX11_mornings_46 : decode cX11_mornings 46 = .ok (.istore_n 3, 1) := by decide +kernel
theorem dX11_mornings_47 : decode cX11_mornings 47 = .ok (.aload_n 0, 1) := by decide +kernel
theorem dX11_mornings_48 : decode cX11_mornings 48 = .ok (.iconst 0, 1) := by decide +kernel
theorem dX11_mornings_49 : decode cX11_mornings 49 = .ok (.putfield 89, 3) := by decide +kernel
theorem dX11_mornings_52 : decode cX11_mornings 52 = .ok (.aload_n 0, 1) := by decide +kernel
theorem dX11_mornings_53 : decode cX11_mornings 53 = .ok (.aload_n 0, 1) := by decide +kernel
theorem dX11_mornings_54 : decode cX11_mornings 54 = .ok (.getfield 9, 3) := by decide +kernel
theorem dX11_mornings_57 : decode cX11_mornings 57 = .ok (.bipush 36, 2) := by decide +kernel
theorem dX11_mornings_59 : decode cX11_mornings 59 = .ok (.iaload, 1) := by decide +kernel
theorem dX11_mornings_60 : decode cX11_mornings 60 = .ok (.iload_n 2, 1) := by decide +kernel
theorem dX11_mornings_61 : decode cX11_mornings 61 = .ok (.isub, 1) := by decide +kernel
theorem dX11_mornings_62 : decode cX11_mornings 62 = .ok (.i2l, 1) := by decide +kernel
theorem dX11_mornings_63 : decode cX11_mornings 63 = .ok (.invokevirtual 256, 3) := by decide +kernel
theorem dX11_mornings_66 : decode cX11_mornings 66 = .ok (.aload_n 0, 1) := by decide +kernel
theorem dX11_mornings_67 : decode cX11_mornings 67 = .ok (.aload_n 0, 1) := by decide +kernel
theorem dX11_mornings_68 : decode cX11_mornings 68 = .ok (.aload_n 0, 1) := by decide +kernel
theorem dX11_mornings_69 : decode cX11_mornings 69 = .ok (.getfield 9, 3) := by decide +kernel
theorem dX11_mornings_72 : decode cX11_mornings 72 = .ok (.bipush 21, 2) := by decide +kernel
theorem dX11_mornings_74 : decode cX11_mornings 74 = .ok (.invokevirtual 232, 3) := by decide +kernel
theorem dX11_mornings_77 : decode cX11_mornings 77 = .ok (.i2l, 1) := by decide +kernel
theorem dX11_mornings_78 : decode cX11_mornings 78 = .ok (.invokevirtual 256, 3) := by decide +kernel
theorem dX11_mornings_81 : decode cX11_mornings 81 = .ok (.iload_n 3, 1) := by decide +kernel
theorem dX11_mornings_82 : decode cX11_mornings 82 = .ok (.ireturn, 1) := by decide +kernel
theorem dX11_wishes_0 : decode cX11_wishes 0 = .ok (.aload_n 0, 1) := by decide +kernel
theorem dX11_wishes_1 : decode cX11_wishes 1 = .ok (.iconst 0, 1) := by decide +kernel
theorem dX11_wishes_2 : decode cX11_wishes 2 = .ok (.putfield 85, 3) := by decide +kernel
theorem dX11_wishes_5 : decode cX11_wishes 5 = .ok (.aload_n 0, 1) := by decide +kernel
theorem dX11_wishes_6 : decode cX11_wishes 6 = .ok (.iload_n 1, 1) := by decide +kernel
theorem dX11_wishes_7 : decode cX11_wishes 7 = .ok (.iload_n 2, 1) := by decide +kernel
theorem dX11_wishes_8 : decode cX11_wishes 8 = .ok (.invokevirtual 260, 3) := by decide +kernel
theorem dX11_wishes_11 : decode cX11_wishes 11 = .ok (.ifCond .ne 5, 3) := by decide +kernel
theorem dX11_wishes_14 : decode cX11_wishes 14 = .ok (.iconst (-1), 1) := by decide +kernel
theorem dX11_wishes_15 : decode cX11_wishes 15 = .ok (.ireturn, 1) := by decide +kernel
theorem dX11_wishes_16 : decode cX11_wishes 16 = .ok (.aload_n 0, 1) := by decide +kernel
theorem dX11_wishes_17 : decode cX11_wishes 17 = .ok (.aload_n 0, 1) := by decide +kernel
theorem dX11_wishes_18 : decode cX11_wishes 18 = .ok (.getfield 9, 3) := by decide +kernel
theorem dX11_wishes_21 : decode cX11_wishes 21 = .ok (.invokevirtual 249, 3) := by decide +kernel
theorem dX11_wishes_24 : decode cX11_wishes 24 = .ok (.aload_n 0, 1) := by decide +kernel
theorem dX11_wishes_25 : decode cX11_wishes 25 = .ok (.getfield 9, 3) := by decide +kernel
theorem dX11_wishes_28 : decode cX11_wishes 28 = .ok (.bipush 28, 2) := by decide +kernel
theorem dX11_wishes_30 : decode cX11_wishes 30 = .ok (.iload_n 1, 1) := by decide +kernel
theorem dX11_wishes_31 : decode cX11_wishes 31 = .ok (.iadd, 1) := by decide +kernel
theorem dX11_wishes_32 : decode cX11_wishes 32 = .ok (.dup2, 1) := by decide +kernel
theorem dX11_wishes_33 : decode cX11_wishes 33 = .ok (.iaload, 1) := by decide +kernel
theorem dX11_wishes_34 : decode cX11_wishes 34 = .ok (.iconst 1, 1) := by decide +kernel
theorem dX11_wishes_35 : decode cX11_wishes 35 = .ok (.iload_n 2, 1) := by decide +kernel
theorem dX11_wishes_36 : decode cX11_wishes 36 = .ok (.ishl, 1) := by decide +kernel
theorem dX11_wishes_37 : decode cX11_wishes 37 = .ok (.ixor, 1) := by decide +kernel
theorem dX11_wishes_38 : decode cX11_wishes 38 = .ok (.iastore, 1) := by decide +kernel
theorem dX11_wishes_39 : decode cX11_wishes 39 = .ok (.aload_n 0, 1) := by decide +kernel
theorem dX11_wishes_40 : decode cX11_wishes 40 = .ok (.getfield 9, 3) := by decide +kernel
theorem dX11_wishes_43 : decode cX11_wishes 43 = .ok (.bipush 28, 2) := by decide +kernel
theorem dX11_wishes_45 : decode cX11_wishes 45 = .ok (.iload_n 1, 1) := by decide +kernel
theorem dX11_wishes_46 : decode cX11_wishes 46 = .ok (.iadd, 1) := by decide +kernel
theorem dX11_wishes_47 : decode cX11_wishes 47 = .ok (.iaload, 1) := by decide +kernel
theorem dX11_wishes_48 : decode cX11_wishes 48 = .ok (.ireturn, 1) := by decide +kernel
theorem dX11_refusesPills_0 : decode cX11_refusesPills 0 = .ok (.aload_n 0, 1) := by decide +kernel
theorem dX11_refusesPills_1 : decode cX11_refusesPills 1 = .ok (.iload_n 1, 1) := by decide +kernel
theorem dX11_refusesPills_2 : decode cX11_refusesPills 2 = .ok (.invokevirtual 99, 3) := by decide +kernel
theorem dX11_refusesPills_5 : decode cX11_refusesPills 5 = .ok (.ifCond .eq 13, 3) := by decide +kernel
theorem dX11_refusesPills_8 : decode cX11_refusesPills 8 = .ok (.iload_n 2, 1) := by decide +kernel
theorem dX11_refusesPills_9 : decode cX11_refusesPills 9 = .ok (.iconst 1, 1) := by decide +kernel
theorem dX11_refusesPills_10 : decode cX11_refusesPills 10 = .ok (.bipush 9, 2) := by decide +kernel
theorem dX11_refusesPills_12 : decode cX11_refusesPills 12 = .ok (.invokestatic 95, 3) := by decide +kernel
theorem dX11_refusesPills_15 : decode cX11_refusesPills 15 = .ok (.ifCond .ne 5, 3) := by decide +kernel
theorem dX11_refusesPills_18 : decode cX11_refusesPills 18 = .ok (.iconst (-1), 1) := by decide +kernel
theorem dX11_refusesPills_19 : decode cX11_refusesPills 19 = .ok (.ireturn, 1) := by decide +kernel
theorem dX11_refusesPills_20 : decode cX11_refusesPills 20 = .ok (.aload_n 0, 1) := by decide +kernel
theorem dX11_refusesPills_21 : decode cX11_refusesPills 21 = .ok (.getfield 9, 3) := by decide +kernel
theorem dX11_refusesPills_24 : decode cX11_refusesPills 24 = .ok (.bipush 7, 2) := by decide +kernel
theorem dX11_refusesPills_26 : decode cX11_refusesPills 26 = .ok (.iload_n 1, 1) := by decide +kernel
theorem dX11_refusesPills_27 : decode cX11_refusesPills 27 = .ok (.iadd, 1) := by decide +kernel
theorem dX11_refusesPills_28 : decode cX11_refusesPills 28 = .ok (.iaload, 1) := by decide +kernel
theorem dX11_refusesPills_29 : decode cX11_refusesPills 29 = .ok (.iload_n 2, 1) := by decide +kernel
theorem dX11_refusesPills_30 : decode cX11_refusesPills 30 = .ok (.iadd, 1) := by decide +kernel
theorem dX11_refusesPills_31 : decode cX11_refusesPills 31 = .ok (.bipush 9, 2) := by decide +kernel
theorem dX11_refusesPills_33 : decode cX11_refusesPills 33 = .ok (.if_icmp .le 8, 3) := by decide +kernel
theorem dX11_refusesPills_36 : decode cX11_refusesPills 36 = .ok (.bipush (-2), 2) := by decide +kernel
theorem dX11_refusesPills_38 : decode cX11_refusesPills 38 = .ok (.goto 4, 3) := by decide +kernel
theorem dX11_refusesPills_41 : decode cX11_refusesPills 41 = .ok (.iconst 0, 1) := by decide +kernel
theorem dX11_refusesPills_42 : decode cX11_refusesPills 42 = .ok (.ireturn, 1) := by decide +kernel
theorem dX11_pills_0 : decode cX11_pills 0 = .ok (.aload_n 0, 1) := by decide +kernel
theorem dX11_pills_1 : decode cX11_pills 1 = .ok (.iconst 0, 1) := by decide +kernel
theorem dX11_pills_2 : decode cX11_pills 2 = .ok (.putfield 85, 3) := by decide +kernel
theorem dX11_pills_5 : decode cX11_pills 5 = .ok (.aload_n 0, 1) := by decide +kernel
theorem dX11_pills_6 : decode cX11_pills 6 = .ok (.iload_n 1, 1) := by decide +kernel
theorem dX11_pills_7 : decode cX11_pills 7 = .ok (.iload_n 2, 1) := by decide +kernel
theorem dX11_pills_8 : decode cX11_pills 8 = .ok (.invokevirtual 263, 3) := by decide +kernel
theorem dX11_pills_11 : decode cX11_pills 11 = .ok (.istore_n 3, 1) := by decide +kernel
theorem dX11_pills_12 : decode cX11_pills 12 = .ok (.iload_n 3, 1) := by decide +kernel
theorem dX11_pills_13 : decode cX11_pills 13 = .ok (.ifCond .ge 5, 3) := by decide +kernel
theorem dX11_pills_16 : decode cX11_pills 16 = .ok (.iload_n 3, 1) := by decide +kernel
theorem dX11_pills_17 : decode cX11_pills 17 = .ok (.ireturn, 1) := by decide +kernel
theorem dX11_pills_18 : decode cX11_pills 18 = .ok (.aload_n 0, 1) := by decide +kernel
theorem dX11_pills_19 : decode cX11_pills 19 = .ok (.aload_n 0, 1) := by decide +kernel
theorem dX11_pills_20 : decode cX11_pills 20 = .ok (.getfield 9, 3) := by decide +kernel
theorem dX11_pills_23 : decode cX11_pills 23 = .ok (.invokevirtual 249, 3) := by decide +kernel
theorem dX11_pills_26 : decode cX11_pills 26 = .ok (.aload_n 0, 1) := by decide +kernel
theorem dX11_pills_27 : decode cX11_pills 27 = .ok (.getfield 9, 3) := by decide +kernel
theorem dX11_pills_30 : decode cX11_pills 30 = .ok (.bipush 7, 2) := by decide +kernel
theorem dX11_pills_32 : decode cX11_pills 32 = .ok (.iload_n 1, 1) := by decide +kernel
theorem dX11_pills_33 : decode cX11_pills 33 = .ok (.iadd, 1) := by decide +kernel
theorem dX11_pills_34 : decode cX11_pills 34 = .ok (.dup2, 1) := by decide +kernel
theorem dX11_pills_35 : decode cX11_pills 35 = .ok (.iaload, 1) := by decide +kernel
theorem dX11_pills_36 : decode cX11_pills 36 = .ok (.iload_n 2, 1) := by decide +kernel
theorem dX11_pills_37 : decode cX11_pills 37 = .ok (.iadd, 1) := by decide +kernel
theorem dX11_pills_38 : decode cX11_pills 38 = .ok (.iastore, 1) := by decide +kernel
theorem dX11_pills_39 : decode cX11_pills 39 = .ok (.aload_n 0, 1) := by decide +kernel
theorem dX11_pills_40 : decode cX11_pills 40 = .ok (.getfield 9, 3) := by decide +kernel
theorem dX11_pills_43 : decode cX11_pills 43 = .ok (.bipush 7, 2) := by decide +kernel
theorem dX11_pills_45 : decode cX11_pills 45 = .ok (.iload_n 1, 1) := by decide +kernel
theorem dX11_pills_46 : decode cX11_pills 46 = .ok (.iadd, 1) := by decide +kernel
theorem dX11_pills_47 : decode cX11_pills 47 = .ok (.iaload, 1) := by decide +kernel
theorem dX11_pills_48 : decode cX11_pills 48 = .ok (.ireturn, 1) := by decide +kernel
theorem dX11_refusesSkill_0 : decode cX11_refusesSkill 0 = .ok (.aload_n 0, 1) := by decide +kernel
theorem dX11_refusesSkill_1 : decode cX11_refusesSkill 1 = .ok (.iload_n 1, 1) := by decide +kernel
theorem dX11_refusesSkill_2 : decode cX11_refusesSkill 2 = .ok (.invokevirtual 99, 3) := by decide +kernel
theorem dX11_refusesSkill_5 : decode cX11_refusesSkill 5 = .ok (.ifCond .eq 13, 3) := by decide +kernel
theorem dX11_refusesSkill_8 : decode cX11_refusesSkill 8 = .ok (.iload_n 2, 1) := by decide +kernel
theorem dX11_refusesSkill_9 : decode cX11_refusesSkill 9 = .ok (.iconst 0, 1) := by decide +kernel
theorem dX11_refusesSkill_10 : decode cX11_refusesSkill 10 = .ok (.bipush 9, 2) := by decide +kernel
theorem dX11_refusesSkill_12 : decode cX11_refusesSkill 12 = .ok (.invokestatic 95, 3) := by decide +kernel
theorem dX11_refusesSkill_15 : decode cX11_refusesSkill 15 = .ok (.ifCond .ne 5, 3) := by decide +kernel
theorem dX11_refusesSkill_18 : decode cX11_refusesSkill 18 = .ok (.iconst (-1), 1) := by decide +kernel
theorem dX11_refusesSkill_19 : decode cX11_refusesSkill 19 = .ok (.ireturn, 1) := by decide +kernel
theorem dX11_refusesSkill_20 : decode cX11_refusesSkill 20 = .ok (.aload_n 0, 1) := by decide +kernel
theorem dX11_refusesSkill_21 : decode cX11_refusesSkill 21 = .ok (.getfield 9, 3) := by decide +kernel
theorem dX11_refusesSkill_24 : decode cX11_refusesSkill 24 = .ok (.iload_n 1, 1) := by decide +kernel
theorem dX11_refusesSkill_25 : decode cX11_refusesSkill 25 = .ok (.iaload, 1) := by decide +kernel
theorem dX11_refusesSkill_26 : decode cX11_refusesSkill 26 = .ok (.iload_n 2, 1) := by decide +kernel
theorem dX11_refusesSkill_27 : decode cX11_refusesSkill 27 = .ok (.if_icmp .ne 8, 3) := by decide +kernel
theorem dX11_refusesSkill_30 : decode cX11_refusesSkill 30 = .ok (.bipush (-2), 2) := by decide +kernel
theorem dX11_refusesSkill_32 : decode cX11_refusesSkill 32 = .ok (.goto 4, 3) := by decide +kernel
theorem dX11_refusesSkill_35 : decode cX11_refusesSkill 35 = .ok (.iconst 0, 1) := by decide +kernel
theorem dX11_refusesSkill_36 : decode cX11_refusesSkill 36 = .ok (.ireturn, 1) := by decide +kernel
theorem dX11_learns_0 : decode cX11_learns 0 = .ok (.aload_n 0, 1) := by decide +kernel
theorem dX11_learns_1 : decode cX11_learns 1 = .ok (.iconst 0, 1) := by decide +kernel
theorem dX11_learns_2 : decode cX11_learns 2 = .ok (.putfield 85, 3) := by decide +kernel
theorem dX11_learns_5 : decode cX11_learns 5 = .ok (.aload_n 0, 1) := by decide +kernel
theorem dX11_learns_6 : decode cX11_learns 6 = .ok (.iload_n 1, 1) := by decide +kernel
theorem dX11_learns_7 : decode cX11_learns 7 = .ok (.iload_n 2, 1) := by decide +kernel
theorem dX11_learns_8 : decode cX11_learns 8 = .ok (.invokevirtual 266, 3) := by decide +kernel
theorem dX11_learns_11 : decode cX11_learns 11 = .ok (.istore_n 3, 1) := by decide +kernel
theorem dX11_learns_12 : decode cX11_learns 12 = .ok (.iload_n 3, 1) := by decide +kernel
theorem dX11_learns_13 : decode cX11_learns 13 = .ok (.ifCond .ge 5, 3) := by decide +kernel
theorem dX11_learns_16 : decode cX11_learns 16 = .ok (.iload_n 3, 1) := by decide +kernel
theorem dX11_learns_17 : decode cX11_learns 17 = .ok (.ireturn, 1) := by decide +kernel
theorem dX11_learns_18 : decode cX11_learns 18 = .ok (.aload_n 0, 1) := by decide +kernel
theorem dX11_learns_19 : decode cX11_learns 19 = .ok (.aload_n 0, 1) := by decide +kernel
theorem dX11_learns_20 : decode cX11_learns 20 = .ok (.getfield 9, 3) := by decide +kernel
theorem dX11_learns_23 : decode cX11_learns 23 = .ok (.invokevirtual 249, 3) := by decide +kernel
theorem dX11_learns_26 : decode cX11_learns 26 = .ok (.aload_n 0, 1) := by decide +kernel
theorem dX11_learns_27 : decode cX11_learns 27 = .ok (.getfield 9, 3) := by decide +kernel
theorem dX11_learns_30 : decode cX11_learns 30 = .ok (.iload_n 1, 1) := by decide +kernel
theorem dX11_learns_31 : decode cX11_learns 31 = .ok (.iaload, 1) := by decide +kernel
theorem dX11_learns_32 : decode cX11_learns 32 = .ok (.istore 4, 2) := by decide +kernel
theorem dX11_learns_34 : decode cX11_learns 34 = .ok (.aload_n 0, 1) := by decide +kernel
theorem dX11_learns_35 : decode cX11_learns 35 = .ok (.getfield 9, 3) := by decide +kernel
theorem dX11_learns_38 : decode cX11_learns 38 = .ok (.iload_n 1, 1) := by decide +kernel
theorem dX11_learns_39 : decode cX11_learns 39 = .ok (.iload_n 2, 1) := by decide +kernel
theorem dX11_learns_40 : decode cX11_learns 40 = .ok (.iastore, 1) := by decide +kernel
theorem dX11_learns_41 : decode cX11_learns 41 = .ok (.bipush 10, 2) := by decide +kernel
theorem dX11_learns_43 : decode cX11_learns 43 = .ok (.iload 4, 2) := by decide +kernel
theorem dX11_learns_45 : decode cX11_learns 45 = .ok (.iadd, 1) := by decide +kernel
theorem dX11_learns_46 : decode cX11_learns 46 = .ok (.ireturn, 1) := by decide +kernel
theorem dX11_wantsOf_0 : decode cX11_wantsOf 0 = .ok (.aload_n 1, 1) := by decide +kernel
theorem dX11_wantsOf_1 : decode cX11_wantsOf 1 = .ok (.bipush 28, 2) := by decide +kernel
theorem dX11_wantsOf_3 : decode cX11_wantsOf 3 = .ok (.iload_n 2, 1) := by decide +kernel
theorem dX11_wantsOf_4 : decode cX11_wantsOf 4 = .ok (.iadd, 1) := by decide +kernel
theorem dX11_wantsOf_5 : decode cX11_wantsOf 5 = .ok (.iaload, 1) := by decide +kernel
theorem dX11_wantsOf_6 : decode cX11_wantsOf 6 = .ok (.invokestatic 204, 3) := by decide +kernel
theorem dX11_wantsOf_9 : decode cX11_wantsOf 9 = .ok (.aload_n 0, 1) := by decide +kernel
theorem dX11_wantsOf_10 : decode cX11_wantsOf 10 = .ok (.aload_n 1, 1) := by decide +kernel
theorem dX11_wantsOf_11 : decode cX11_wantsOf 11 = .ok (.iload_n 2, 1) := by decide +kernel
theorem dX11_wantsOf_12 : decode cX11_wantsOf 12 = .ok (.invokevirtual 200, 3) := by decide +kernel
theorem dX11_wantsOf_15 : decode cX11_wantsOf 15 = .ok (.invokestatic 204, 3) := by decide +kernel
theorem dX11_wantsOf_18 : decode cX11_wantsOf 18 = .ok (.iadd, 1) := by decide +kernel
theorem dX11_wantsOf_19 : decode cX11_wantsOf 19 = .ok (.ireturn, 1) := by decide +kernel
theorem dX11_goAway_0 : decode cX11_goAway 0 = .ok (.aload_n 1, 1) := by decide +kernel
theorem dX11_goAway_1 : decode cX11_goAway 1 = .ok (.bipush 28, 2) := by decide +kernel
theorem dX11_goAway_3 : decode cX11_goAway 3 = .ok (.iload_n 2, 1) := by decide +kernel
theorem dX11_goAway_4 : decode cX11_goAway 4 = .ok (.iadd, 1) := by decide +kernel
theorem dX11_goAway_5 : decode cX11_goAway 5 = .ok (.iconst 0, 1) := by decide +kernel
theorem dX11_goAway_6 : decode cX11_goAway 6 = .ok (.iastore, 1) := by decide +kernel
theorem dX11_goAway_7 : decode cX11_goAway 7 = .ok (.iconst 0, 1) := by decide +kernel
theorem dX11_goAway_8 : decode cX11_goAway 8 = .ok (.istore_n 3, 1) := by decide +kernel
theorem dX11_goAway_9 : decode cX11_goAway 9 = .ok (.iload_n 3, 1) := by decide +kernel
theorem dX11_goAway_10 : decode cX11_goAway 10 = .ok (.aload_n 0, 1) := by decide +kernel
theorem dX11_goAway_11 : decode cX11_goAway 11 = .ok (.getfield 92, 3) := by decide +kernel
theorem dX11_goAway_14 : decode cX11_goAway 14 = .ok (.if_icmp .ge 23, 3) := by decide +kernel
theorem dX11_goAway_17 : decode cX11_goAway 17 = .ok (.aload_n 1, 1) := by decide +kernel
theorem dX11_goAway_18 : decode cX11_goAway 18 = .ok (.bipush 28, 2) := by decide +kernel
theorem dX11_goAway_20 : decode cX11_goAway 20 = .ok (.iload_n 3, 1) := by decide +kernel
theorem dX11_goAway_21 : decode cX11_goAway 21 = .ok (.iadd, 1) := by decide +kernel
theorem dX11_goAway_22 : decode cX11_goAway 22 = .ok (.dup2, 1) := by decide +kernel
theorem dX11_goAway_23 : decode cX11_goAway 23 = .ok (.iaload, 1) := by decide +kernel
theorem dX11_goAway_24 : decode cX11_goAway 24 = .ok (.iconst 1, 1) := by decide +kernel
theorem dX11_goAway_25 : decode cX11_goAway 25 = .ok (.iload_n 2, 1) := by decide +kernel
theorem dX11_goAway_26 : decode cX11_goAway 26 = .ok (.ishl, 1) := by decide +kernel
theorem dX11_goAway_27 : decode cX11_goAway 27 = .ok (.iconst (-1), 1) := by decide +kernel
theorem dX11_goAway_28 : decode cX11_goAway 28 = .ok (.ixor, 1) := by decide +kernel
theorem dX11_goAway_29 : decode cX11_goAway 29 = .ok (.iand, 1) := by decide +kernel
theorem dX11_goAway_30 : decode cX11_goAway 30 = .ok (.iastore, 1) := by decide +kernel
theorem dX11_goAway_31 : decode cX11_goAway 31 = .ok (.iinc 3 1, 3) := by decide +kernel
theorem dX11_goAway_34 : decode cX11_goAway 34 = .ok (.goto (-25), 3) := by decide +kernel
theorem dX11_goAway_37 : decode cX11_goAway 37 = .ok (.return_, 1) := by decide +kernel
theorem dX11_refusesLeave_0 : decode cX11_refusesLeave 0 = .ok (.aload_n 0, 1) := by decide +kernel
theorem dX11_refusesLeave_1 : decode cX11_refusesLeave 1 = .ok (.iload_n 1, 1) := by decide +kernel
theorem dX11_refusesLeave_2 : decode cX11_refusesLeave 2 = .ok (.invokevirtual 99, 3) := by decide +kernel
theorem dX11_refusesLeave_5 : decode cX11_refusesLeave 5 = .ok (.ifCond .ne 5, 3) := by decide +kernel
theorem dX11_refusesLeave_8 : decode cX11_refusesLeave 8 = .ok (.iconst (-1), 1) := by decide +kernel
theorem dX11_refusesLeave_9 : decode cX11_refusesLeave 9 = .ok (.ireturn, 1) := by decide +kernel
theorem dX11_refusesLeave_10 : decode cX11_refusesLeave 10 = .ok (.aload_n 0, 1) := by decide +kernel
theorem dX11_refusesLeave_11 : decode cX11_refusesLeave 11 = .ok (.aload_n 0, 1) := by decide +kernel
theorem dX11_refusesLeave_12 : decode cX11_refusesLeave 12 = .ok (.getfield 9, 3) := by decide +kernel
theorem dX11_refusesLeave_15 : decode cX11_refusesLeave 15 = .ok (.iload_n 1, 1) := by decide +kernel
theorem dX11_refusesLeave_16 : decode cX11_refusesLeave 16 = .ok (.invokevirtual 269, 3) := by decide +kernel
theorem dX11_refusesLeave_19 : decode cX11_refusesLeave 19 = .ok (.ifCond .ne 8, 3) := by decide +kernel
theorem dX11_refusesLeave_22 : decode cX11_refusesLeave 22 = .ok (.bipush (-2), 2) := by decide +kernel
theorem dX11_refusesLeave_24 : decode cX11_refusesLeave 24 = .ok (.goto 4, 3) := by decide +kernel
theorem dX11_refusesLeave_27 : decode cX11_refusesLeave 27 = .ok (.iconst 0, 1) := by decide +kernel
theorem dX11_refusesLeave_28 : decode cX11_refusesLeave 28 = .ok (.ireturn, 1) := by decide +kernel
theorem dX11_leaves_0 : decode cX11_leaves 0 = .ok (.aload_n 0, 1) := by decide +kernel
theorem dX11_leaves_1 : decode cX11_leaves 1 = .ok (.iconst 0, 1) := by decide +kernel
theorem dX11_leaves_2 : decode cX11_leaves 2 = .ok (.putfield 85, 3) := by decide +kernel
theorem dX11_leaves_5 : decode cX11_leaves 5 = .ok (.aload_n 0, 1) := by decide +kernel
theorem dX11_leaves_6 : decode cX11_leaves 6 = .ok (.iload_n 1, 1) := by decide +kernel
theorem dX11_leaves_7 : decode cX11_leaves 7 = .ok (.invokevirtual 272, 3) := by decide +kernel
theorem dX11_leaves_10 : decode cX11_leaves 10 = .ok (.istore_n 2, 1) := by decide +kernel
theorem dX11_leaves_11 : decode cX11_leaves 11 = .ok (.iload_n 2, 1) := by decide +kernel
theorem dX11_leaves_12 : decode cX11_leaves 12 = .ok (.ifCond .ge 5, 3) := by decide +kernel
theorem dX11_leaves_15 : decode cX11_leaves 15 = .ok (.iload_n 2, 1) := by decide +kernel
theorem dX11_leaves_16 : decode cX11_leaves 16 = .ok (.ireturn, 1) := by decide +kernel
theorem dX11_leaves_17 : decode cX11_leaves 17 = .ok (.aload_n 0, 1) := by decide +kernel
theorem dX11_leaves_18 : decode cX11_leaves 18 = .ok (.aload_n 0, 1) := by decide +kernel
theorem dX11_leaves_19 : decode cX11_leaves 19 = .ok (.getfield 9, 3) := by decide +kernel
theorem dX11_leaves_22 : decode cX11_leaves 22 = .ok (.invokevirtual 249, 3) := by decide +kernel
theorem dX11_leaves_25 : decode cX11_leaves 25 = .ok (.aload_n 0, 1) := by decide +kernel
theorem dX11_leaves_26 : decode cX11_leaves 26 = .ok (.aload_n 0, 1) := by decide +kernel
theorem dX11_leaves_27 : decode cX11_leaves 27 = .ok (.getfield 9, 3) := by decide +kernel
theorem dX11_leaves_30 : decode cX11_leaves 30 = .ok (.iload_n 1, 1) := by decide +kernel
theorem dX11_leaves_31 : decode cX11_leaves 31 = .ok (.invokevirtual 269, 3) := by decide +kernel
theorem dX11_leaves_34 : decode cX11_leaves 34 = .ok (.istore_n 3, 1) := by decide +kernel
theorem dX11_leaves_35 : decode cX11_leaves 35 = .ok (.aload_n 0, 1) := by decide +kernel
theorem dX11_leaves_36 : decode cX11_leaves 36 = .ok (.aload_n 0, 1) := by decide +kernel
theorem dX11_leaves_37 : decode cX11_leaves 37 = .ok (.getfield 9, 3) := by decide +kernel
theorem dX11_leaves_40 : decode cX11_leaves 40 = .ok (.iload_n 1, 1) := by decide +kernel
theorem dX11_leaves_41 : decode cX11_leaves 41 = .ok (.invokevirtual 275, 3) := by decide +kernel
theorem dX11_leaves_44 : decode cX11_leaves 44 = .ok (.iload_n 3, 1) := by decide +kernel
theorem dX11_leaves_45 : decode cX11_leaves 45 = .ok (.ireturn, 1) := by decide +kernel
theorem dX11_week_0 : decode cX11_week 0 = .ok (.aload_n 0, 1) := by decide +kernel
theorem dX11_week_1 : decode cX11_week 1 = .ok (.iconst 0, 1) := by decide +kernel
theorem dX11_week_2 : decode cX11_week 2 = .ok (.putfield 85, 3) := by decide +kernel
theorem dX11_week_5 : decode cX11_week 5 = .ok (.aload_n 0, 1) := by decide +kernel
theorem dX11_week_6 : decode cX11_week 6 = .ok (.bipush 60, 2) := by decide +kernel
theorem dX11_week_8 : decode cX11_week 8 = .ok (.invokevirtual 151, 3) := by decide +kernel
theorem dX11_week_11 : decode cX11_week 11 = .ok (.iconst 0, 1) := by decide +kernel
theorem dX11_week_12 : decode cX11_week 12 = .ok (.istore_n 1, 1) := by decide +kernel
theorem dX11_week_13 : decode cX11_week 13 = .ok (.aload_n 0, 1) := by decide +kernel
theorem dX11_week_14 : decode cX11_week 14 = .ok (.invokevirtual 125, 3) := by decide +kernel
theorem dX11_week_17 : decode cX11_week 17 = .ok (.ifCond .eq 27, 3) := by decide +kernel
theorem dX11_week_20 : decode cX11_week 20 = .ok (.aload_n 0, 1) := by decide +kernel
theorem dX11_week_21 : decode cX11_week 21 = .ok (.getfield 115, 3) := by decide +kernel
theorem dX11_week_24 : decode cX11_week 24 = .ok (.aload_n 0, 1) := by decide +kernel
theorem dX11_week_25 : decode cX11_week 25 = .ok (.getfield 109, 3) := by decide +kernel
theorem dX11_week_28 : decode cX11_week 28 = .ok (.if_icmp .ge 16, 3) := by decide +kernel
theorem dX11_week_31 : decode cX11_week 31 = .ok (.aload_n 0, 1) := by decide +kernel
theorem dX11_week_32 : decode cX11_week 32 = .ok (.iconst 3, 1) := by decide +kernel
theorem dX11_week_33 : decode cX11_week 33 = .ok (.iload_n 1, 1) := by decide +kernel
theorem dX11_week_34 : decode cX11_week 34 = .ok (.imul, 1) := by decide +kernel
theorem dX11_week_35 : decode cX11_week 35 = .ok (.invokevirtual 279, 3) := by decide +kernel
theorem dX11_week_38 : decode cX11_week 38 = .ok (.iinc 1 1, 3) := by decide +kernel
theorem dX11_week_41 : decode cX11_week 41 = .ok (.goto (-28), 3) := by decide +kernel
theorem dX11_week_44 : decode cX11_week 44 = .ok (.aload_n 0, 1) := by decide +kernel
theorem dX11_week_45 : decode cX11_week 45 = .ok (.invokevirtual 154, 3) := by decide +kernel
theorem dX11_week_48 : decode cX11_week 48 = .ok (.ifCond .ne 10, 3) := by decide +kernel
theorem dX11_week_51 : decode cX11_week 51 = .ok (.iconst (-1), 1) := by decide +kernel
theorem dX11_week_52 : decode cX11_week 52 = .ok (.aload_n 0, 1) := by decide +kernel
theorem dX11_week_53 : decode cX11_week 53 = .ok (.getfield 118, 3) := by decide +kernel
theorem dX11_week_56 : decode cX11_week 56 = .ok (.isub, 1) := by decide +kernel
theorem dX11_week_57 : decode cX11_week 57 = .ok (.ireturn, 1) := by decide +kernel
theorem dX11_week_58 : decode cX11_week 58 = .ok (.aload_n 0, 1) := by decide +kernel
theorem dX11_week_59 : decode cX11_week 59 = .ok (.getfield 9, 3) := by decide +kernel
theorem dX11_week_62 : decode cX11_week 62 = .ok (.aload_n 0, 1) := by decide +kernel
theorem dX11_week_63 : decode cX11_week 63 = .ok (.getfield 36, 3) := by decide +kernel
theorem dX11_week_66 : decode cX11_week 66 = .ok (.iconst 0, 1) := by decide +kernel
theorem dX11_week_67 : decode cX11_week 67 = .ok (.invokestatic 235, 3) := by decide +kernel
theorem dX11_week_70 : decode cX11_week 70 = .ok (.iconst 0, 1) := by decide +kernel
theorem dX11_week_71 : decode cX11_week 71 = .ok (.istore_n 2, 1) := by decide +kernel
theorem dX11_week_72 : decode cX11_week 72 = .ok (.iload_n 2, 1) := by decide +kernel
theorem dX11_week_73 : decode cX11_week 73 = .ok (.iload_n 1, 1) := by decide +kernel
theorem dX11_week_74 : decode cX11_week 74 = .ok (.if_icmp .ge 44, 3) := by decide +kernel
theorem dX11_week_77 : decode cX11_week 77 = .ok (.aload_n 0, 1) := by decide +kernel
theorem dX11_week_78 : decode cX11_week 78 = .ok (.aload_n 0, 1) := by decide +kernel
theorem dX11_week_79 : decode cX11_week 79 = .ok (.getfield 42, 3) := by decide +kernel
theorem dX11_week_82 : decode cX11_week 82 = .ok (.iconst 3, 1) := by decide +kernel
theorem dX11_week_83 : decode cX11_week 83 = .ok (.iload_n 2, 1) := by decide +kernel
theorem dX11_week_84 : decode cX11_week 84 = .ok (.imul, 1) := by decide +kernel
theorem dX11_week_85 : decode cX11_week 85 = .ok (.iaload, 1) := by decide +kernel
theorem dX11_week_86 : decode cX11_week 86 = .ok (.aload_n 0, 1) := by decide +kernel
theorem dX11_week_87 : decode cX11_week 87 = .ok (.getfield 42, 3) := by decide +kernel
theorem dX11_week_90 : decode cX11_week 90 = .ok (.iconst 3, 1) := by decide +kernel
theorem dX11_week_91 : decode cX11_week 91 = .ok (.iload_n 2, 1) := by decide +kernel
theorem dX11_week_92 : decode cX11_week 92 = .ok (.imul, 1) := by decide +kernel
theorem dX11_week_93 : decode cX11_week 93 = .ok (.iconst 1, 1) := by decide +kernel
theorem dX11_week_94 : decode cX11_week 94 = .ok (.iadd, 1) := by decide +kernel
theorem dX11_week_95 : decode cX11_week 95 = .ok (.iaload, 1) := by decide +kernel
theorem dX11_week_96 : decode cX11_week 96 = .ok (.aload_n 0, 1) := by decide +kernel
theorem dX11_week_97 : decode cX11_week 97 = .ok (.getfield 42, 3) := by decide +kernel
theorem dX11_week_100 : decode cX11_week 100 = .ok (.iconst 3, 1) := by decide +kernel
theorem dX11_week_101 : decode cX11_week 101 = .ok (.iload_n 2, 1) := by decide +kernel
theorem dX11_week_102 : decode cX11_week 102 = .ok (.imul, 1) := by decide +kernel
theorem dX11_week_103 : decode cX11_week 103 = .ok (.iconst 2, 1) := by decide +kernel
theorem dX11_week_104 : decode cX11_week 104 = .ok (.iadd, 1) := by decide +kernel
theorem dX11_week_105 : decode cX11_week 105 = .ok (.iaload, 1) := by decide +kernel
theorem dX11_week_106 : decode cX11_week 106 = .ok (.invokevirtual 282, 3) := by decide +kernel
theorem dX11_week_109 : decode cX11_week 109 = .ok (.ifCond .eq 9, 3) := by decide +kernel
theorem dX11_week_112 : decode cX11_week 112 = .ok (.iinc 2 1, 3) := by decide +kernel
theorem dX11_week_115 : decode cX11_week 115 = .ok (.goto (-43), 3) := by decide +kernel
theorem dX11_week_118 : decode cX11_week 118 = .ok (.iload_n 2, 1) := by decide +kernel
theorem dX11_week_119 : decode cX11_week 119 = .ok (.ifCond .le 11, 3) := by decide +kernel
theorem dX11_week_122 : decode cX11_week 122 = .ok (.aload_n 0, 1) := by decide +kernel
theorem dX11_week_123 : decode cX11_week 123 = .ok (.aload_n 0, 1) := by decide +kernel
theorem dX11_week_124 : decode cX11_week 124 = .ok (.getfield 36, 3) := by decide +kernel
theorem dX11_week_127 : decode cX11_week 127 = .ok (.invokevirtual 249, 3) := by decide +kernel
theorem dX11_week_130 : decode cX11_week 130 = .ok (.aload_n 0, 1) := by decide +kernel
theorem dX11_week_131 : decode cX11_week 131 = .ok (.iconst 0, 1) := by decide +kernel
theorem dX11_week_132 : decode cX11_week 132 = .ok (.putfield 89, 3) := by decide +kernel
theorem dX11_week_135 : decode cX11_week 135 = .ok (.aload_n 0, 1) := by decide +kernel
theorem dX11_week_136 : decode cX11_week 136 = .ok (.iload_n 2, 1) := by decide +kernel
theorem dX11_week_137 : decode cX11_week 137 = .ok (.iload_n 1, 1) := by decide +kernel
theorem dX11_week_138 : decode cX11_week 138 = .ok (.if_icmp .ge 7, 3) := by decide +kernel
theorem dX11_week_141 : decode cX11_week 141 = .ok (.lconst 1, 1) := by decide +kernel
theorem dX11_week_142 : decode cX11_week 142 = .ok (.goto 4, 3) := by decide +kernel
theorem dX11_week_145 : decode cX11_week 145 = .ok (.lconst 0, 1) := by decide +kernel
theorem dX11_week_146 : decode cX11_week 146 = .ok (.invokevirtual 256, 3) := by decide +kernel
theorem dX11_week_149 : decode cX11_week 149 = .ok (.aload_n 0, 1) := by decide +kernel
theorem dX11_week_150 : decode cX11_week 150 = .ok (.aload_n 0, 1) := by decide +kernel
theorem dX11_week_151 : decode cX11_week 151 = .ok (.getfield 9, 3) := by decide +kernel
theorem dX11_week_154 : decode cX11_week 154 = .ok (.bipush 36, 2) := by decide +kernel
theorem dX11_week_156 : decode cX11_week 156 = .ok (.iaload, 1) := by decide +kernel
theorem dX11_week_157 : decode cX11_week 157 = .ok (.i2l, 1) := by decide +kernel
theorem dX11_week_158 : decode cX11_week 158 = .ok (.invokevirtual 256, 3) := by decide +kernel
theorem dX11_week_161 : decode cX11_week 161 = .ok (.iload_n 2, 1) := by decide +kernel
theorem dX11_week_162 : decode cX11_week 162 = .ok (.ireturn, 1) := by decide +kernel
theorem dX11_readAct_0 : decode cX11_readAct 0 = .ok (.aload_n 0, 1) := by decide +kernel
theorem dX11_readAct_1 : decode cX11_readAct 1 = .ok (.invokevirtual 129, 3) := by decide +kernel
theorem dX11_readAct_4 : decode cX11_readAct 4 = .ok (.istore_n 2, 1) := by decide +kernel
theorem dX11_readAct_5 : decode cX11_readAct 5 = .ok (.iload_n 2, 1) := by decide +kernel
theorem dX11_readAct_6 : decode cX11_readAct 6 = .ok (.bipush 110, 2) := by decide +kernel
theorem dX11_readAct_8 : decode cX11_readAct 8 = .ok (.if_icmp .eq 36, 3) := by decide +kernel
theorem dX11_readAct_11 : decode cX11_readAct 11 = .ok (.iload_n 2, 1) := by decide +kernel
theorem dX11_readAct_12 : decode cX11_readAct 12 = .ok (.bipush 116, 2) := by decide +kernel
theorem dX11_readAct_14 : decode cX11_readAct 14 = .ok (.if_icmp .eq 30, 3) := by decide +kernel
theorem dX11_readAct_17 : decode cX11_readAct 17 = .ok (.iload_n 2, 1) := by decide +kernel
theorem dX11_readAct_18 : decode cX11_readAct 18 = .ok (.bipush 112, 2) := by decide +kernel
theorem dX11_readAct_20 : decode cX11_readAct 20 = .ok (.if_icmp .eq 24, 3) := by decide +kernel
theorem dX11_readAct_23 : decode cX11_readAct 23 = .ok (.iload_n 2, 1) := by decide +kernel
theorem dX11_readAct_24 : decode cX11_readAct 24 = .ok (.bipush 115, 2) := by decide +kernel
theorem dX11_readAct_26 : decode cX11_readAct 26 = .ok (.if_icmp .eq 18, 3) := by decide +kernel
theorem dX11_readAct_29 : decode cX11_readAct 29 = .ok (.iload_n 2, 1) := by decide +kernel
theorem dX11_readAct_30 : decode cX11_readAct 30 = .ok (.bipush 108, 2) := by decide +kernel
theorem dX11_readAct_32 : decode cX11_readAct 32 = .ok (.if_icmp .eq 12, 3) := by decide +kernel
theorem dX11_readAct_35 : decode cX11_readAct 35 = .ok (.aload_n 0, 1) := by decide +kernel
theorem dX11_readAct_36 : decode cX11_readAct 36 = .ok (.aload_n 0, 1) := by decide +kernel
theorem dX11_readAct_37 : decode cX11_readAct 37 = .ok (.getfield 115, 3) := by decide +kernel
theorem dX11_readAct_40 : decode cX11_readAct 40 = .ok (.invokevirtual 137, 3) := by decide +kernel
theorem dX11_readAct_43 : decode cX11_readAct 43 = .ok (.return_, 1) := by decide +kernel
theorem dX11_readAct_44 : decode cX11_readAct 44 = .ok (.aload_n 0, 1) := by decide +kernel
theorem dX11_readAct_45 : decode cX11_readAct 45 = .ok (.dup, 1) := by decide +kernel
theorem dX11_readAct_46 : decode cX11_readAct 46 = .ok (.getfield 115, 3) := by decide +kernel
theorem dX11_readAct_49 : decode cX11_readAct 49 = .ok (.iconst 1, 1) := by decide +kernel
theorem dX11_readAct_50 : decode cX11_readAct 50 = .ok (.iadd, 1) := by decide +kernel
theorem dX11_readAct_51 : decode cX11_readAct 51 = .ok (.putfield 115, 3) := by decide +kernel
theorem dX11_readAct_54 : decode cX11_readAct 54 = .ok (.aload_n 0, 1) := by decide +kernel
theorem dX11_readAct_55 : decode cX11_readAct 55 = .ok (.getfield 42, 3) := by decide +kernel
theorem dX11_readAct_58 : decode cX11_readAct 58 = .ok (.iload_n 1, 1) := by decide +kernel
theorem dX11_readAct_59 : decode cX11_readAct 59 = .ok (.iload_n 2, 1) := by decide +kernel
theorem dX11_readAct_60 : decode cX11_readAct 60 = .ok (.iastore, 1) := by decide +kernel
theorem dX11_readAct_61 : decode cX11_readAct 61 = .ok (.aload_n 0, 1) := by decide +kernel
theorem dX11_readAct_62 : decode cX11_readAct 62 = .ok (.getfield 42, 3) := by decide +kernel
theorem dX11_readAct_65 : decode cX11_readAct 65 = .ok (.iload_n 1, 1) := by decide +kernel
theorem dX11_readAct_66 : decode cX11_readAct 66 = .ok (.iconst 1, 1) := by decide +kernel
theorem dX11_readAct_67 : decode cX11_readAct 67 = .ok (.iadd, 1) := by decide +kernel
theorem dX11_readAct_68 : decode cX11_readAct 68 = .ok (.aload_n 0, 1) := by decide +kernel
theorem dX11_readAct_69 : decode cX11_readAct 69 = .ok (.bipush 48, 2) := by decide +kernel
theorem dX11_readAct_71 : decode cX11_readAct 71 = .ok (.bipush 10, 2) := by decide +kernel
theorem dX11_readAct_73 : decode cX11_readAct 73 = .ok (.invokevirtual 141, 3) := by decide +kernel
theorem dX11_readAct_76 : decode cX11_readAct 76 = .ok (.iastore, 1) := by decide +kernel
theorem dX11_readAct_77 : decode cX11_readAct 77 = .ok (.iload_n 2, 1) := by decide +kernel
theorem dX11_readAct_78 : decode cX11_readAct 78 = .ok (.bipush 116, 2) := by decide +kernel
theorem dX11_readAct_80 : decode cX11_readAct 80 = .ok (.if_icmp .eq 9, 3) := by decide +kernel
theorem dX11_readAct_83 : decode cX11_readAct 83 = .ok (.iload_n 2, 1) := by decide +kernel
theorem dX11_readAct_84 : decode cX11_readAct 84 = .ok (.bipush 115, 2) := by decide +kernel
theorem dX11_readAct_86 : decode cX11_readAct 86 = .ok (.if_icmp .ne 19, 3) := by decide +kernel
theorem dX11_readAct_89 : decode cX11_readAct 89 = .ok (.aload_n 0, 1) := by decide +kernel
theorem dX11_readAct_90 : decode cX11_readAct 90 = .ok (.getfield 42, 3) := by decide +kernel
theorem dX11_readAct_93 : decode cX11_readAct 93 = .ok (.iload_n 1, 1) := by decide +kernel
theorem dX11_readAct_94 : decode cX11_readAct 94 = .ok (.iconst 2, 1) := by decide +kernel
theorem dX11_readAct_95 : decode cX11_readAct 95 = .ok (.iadd, 1) := by decide +kernel
theorem dX11_readAct_96 : decode cX11_readAct 96 = .ok (.aload_n 0, 1) := by decide +kernel
theorem dX11_readAct_97 : decode cX11_readAct 97 = .ok (.bipush 48, 2) := by decide +kernel
theorem dX11_readAct_99 : decode cX11_readAct 99 = .ok (.bipush 10, 2) := by decide +kernel
theorem dX11_readAct_101 : decode cX11_readAct 101 = .ok (.invokevirtual 141, 3) := by decide +kernel
theorem dX11_readAct_104 : decode cX11_readAct 104 = .ok (.iastore, 1) := by decide +kernel
theorem dX11_readAct_105 : decode cX11_readAct 105 = .ok (.iload_n 2, 1) := by decide +kernel
theorem dX11_readAct_106 : decode cX11_readAct 106 = .ok (.bipush 112, 2) := by decide +kernel
theorem dX11_readAct_108 : decode cX11_readAct 108 = .ok (.if_icmp .ne 21, 3) := by decide +kernel
theorem dX11_readAct_111 : decode cX11_readAct 111 = .ok (.aload_n 0, 1) := by decide +kernel
theorem dX11_readAct_112 : decode cX11_readAct 112 = .ok (.getfield 42, 3) := by decide +kernel
theorem dX11_readAct_115 : decode cX11_readAct 115 = .ok (.iload_n 1, 1) := by decide +kernel
theorem dX11_readAct_116 : decode cX11_readAct 116 = .ok (.iconst 2, 1) := by decide +kernel
theorem dX11_readAct_117 : decode cX11_readAct 117 = .ok (.iadd, 1) := by decide +kernel
theorem dX11_readAct_118 : decode cX11_readAct 118 = .ok (.aload_n 0, 1) := by decide +kernel
theorem dX11_readAct_119 : decode cX11_readAct 119 = .ok (.bipush 49, 2) := by decide +kernel
theorem dX11_readAct_121 : decode cX11_readAct 121 = .ok (.bipush 9, 2) := by decide +kernel
theorem dX11_readAct_123 : decode cX11_readAct 123 = .ok (.invokevirtual 141, 3) := by decide +kernel
theorem dX11_readAct_126 : decode cX11_readAct 126 = .ok (.iconst 1, 1) := by decide +kernel
theorem dX11_readAct_127 : decode cX11_readAct 127 = .ok (.iadd, 1) := by decide +kernel
theorem dX11_readAct_128 : decode cX11_readAct 128 = .ok (.iastore, 1) := by decide +kernel
theorem dX11_readAct_129 : decode cX11_readAct 129 = .ok (.return_, 1) := by decide +kernel
theorem dX11_act_0 : decode cX11_act 0 = .ok (.iload_n 1, 1) := by decide +kernel
theorem dX11_act_1 : decode cX11_act 1 = .ok (.tableswitch 129 110 116 #[43, 129, 83, 129, 129, 109, 55], 43) := by decide +kernel
theorem dX11_act_44 : decode cX11_act 44 = .ok (.aload_n 0, 1) := by decide +kernel
theorem dX11_act_45 : decode cX11_act 45 = .ok (.aload_n 0, 1) := by decide +kernel
theorem dX11_act_46 : decode cX11_act 46 = .ok (.getfield 9, 3) := by decide +kernel
theorem dX11_act_49 : decode cX11_act 49 = .ok (.iload_n 2, 1) := by decide +kernel
theorem dX11_act_50 : decode cX11_act 50 = .ok (.invokevirtual 253, 3) := by decide +kernel
theorem dX11_act_53 : decode cX11_act 53 = .ok (.pop, 1) := by decide +kernel
theorem dX11_act_54 : decode cX11_act 54 = .ok (.iconst 1, 1) := by decide +kernel
theorem dX11_act_55 : decode cX11_act 55 = .ok (.ireturn, 1) := by decide +kernel
theorem dX11_act_56 : decode cX11_act 56 = .ok (.aload_n 0, 1) := by decide +kernel
theorem dX11_act_57 : decode cX11_act 57 = .ok (.iload_n 2, 1) := by decide +kernel
theorem dX11_act_58 : decode cX11_act 58 = .ok (.iload_n 3, 1) := by decide +kernel
theorem dX11_act_59 : decode cX11_act 59 = .ok (.invokevirtual 260, 3) := by decide +kernel
theorem dX11_act_62 : decode cX11_act 62 = .ok (.ifCond .ne 5, 3) := by decide +kernel
theorem dX11_act_65 : decode cX11_act 65 = .ok (.iconst 0, 1) := by decide +kernel
theorem dX11_act_66 : decode cX11_act 66 = .ok (.ireturn, 1) := by decide +kernel
theorem dX11_act_67 : decode cX11_act 67 = .ok (.aload_n 0, 1) := by decide +kernel
theorem dX11_act_68 : decode cX11_act 68 = .ok (.getfield 9, 3) := by decide +kernel
theorem dX11_act_71 : decode cX11_act 71 = .ok (.bipush 28, 2) := by decide +kernel
theorem dX11_act_73 : decode cX11_act 73 = .ok (.iload_n 2, 1) := by decide +kernel
theorem dX11_act_74 : decode cX11_act 74 = .ok (.iadd, 1) := by decide +kernel
theorem dX11_act_75 : decode cX11_act 75 = .ok (.dup2, 1) := by decide +kernel
theorem dX11_act_76 : decode cX11_act 76 = .ok (.iaload, 1) := by decide +kernel
theorem dX11_act_77 : decode cX11_act 77 = .ok (.iconst 1, 1) := by decide +kernel
theorem dX11_act_78 : decode cX11_act 78 = .ok (.iload_n 3, 1) := by decide +kernel
theorem dX11_act_79 : decode cX11_act 79 = .ok (.ishl, 1) := by decide +kernel
theorem dX11_act_80 : decode cX11_act 80 = .ok (.ixor, 1) := by decide +kernel
theorem dX11_act_81 : decode cX11_act 81 = .ok (.iastore, 1) := by decide +kernel
theorem dX11_act_82 : decode cX11_act 82 = .ok (.iconst 1, 1) := by decide +kernel
theorem dX11_act_83 : decode cX11_act 83 = .ok (.ireturn, 1) := by decide +kernel
theorem dX11_act_84 : decode cX11_act 84 = .ok (.aload_n 0, 1) := by decide +kernel
theorem dX11_act_85 : decode cX11_act 85 = .ok (.iload_n 2, 1) := by decide +kernel
theorem dX11_act_86 : decode cX11_act 86 = .ok (.iload_n 3, 1) := by decide +kernel
theorem dX11_act_87 : decode cX11_act 87 = .ok (.invokevirtual 263, 3) := by decide +kernel
theorem dX11_act_90 : decode cX11_act 90 = .ok (.ifCond .ge 5, 3) := by decide +kernel
theorem dX11_act_93 : decode cX11_act 93 = .ok (.iconst 0, 1) := by decide +kernel
theorem dX11_act_94 : decode cX11_act 94 = .ok (.ireturn, 1) := by decide +kernel
theorem dX11_act_95 : decode cX11_act 95 = .ok (.aload_n 0, 1) := by decide +kernel
theorem dX11_act_96 : decode cX11_act 96 = .ok (.getfield 9, 3) := by decide +kernel
theorem dX11_act_99 : decode cX11_act 99 = .ok (.bipush 7, 2) := by decide +kernel
theorem dX11_act_101 : decode cX11_act 101 = .ok (.iload_n 2, 1) := by decide +kernel
theorem dX11_act_102 : decode cX11_act 102 = .ok (.iadd, 1) := by decide +kernel
theorem dX11_act_103 : decode cX11_act 103 = .ok (.dup2, 1) := by decide +kernel
theorem dX11_act_104 : decode cX11_act 104 = .ok (.iaload, 1) := by decide +kernel
theorem dX11_act_105 : decode cX11_act 105 = .ok (.iload_n 3, 1) := by decide +kernel
theorem dX11_act_106 : decode cX11_act 106 = .ok (.iadd, 1) := by decide +kernel
theorem dX11_act_107 : decode cX11_act 107 = .ok (.iastore, 1) := by decide +kernel
theorem dX11_act_108 : decode cX11_act 108 = .ok (.iconst 1, 1) := by decide +kernel
theorem dX11_act_109 : decode cX11_act 109 = .ok (.ireturn, 1) := by decide +kernel
theorem dX11_act_110 : decode cX11_act 110 = .ok (.aload_n 0, 1) := by decide +kernel
theorem dX11_act_111 : decode cX11_act 111 = .ok (.iload_n 2, 1) := by decide +kernel
theorem dX11_act_112 : decode cX11_act 112 = .ok (.iload_n 3, 1) := by decide +kernel
theorem dX11_act_113 : decode cX11_act 113 = .ok (.invokevirtual 266, 3) := by decide +kernel
theorem dX11_act_116 : decode cX11_act 116 = .ok (.ifCond .ge 5, 3) := by decide +kernel
theorem dX11_act_119 : decode cX11_act 119 = .ok (.iconst 0, 1) := by decide +kernel
theorem dX11_act_120 : decode cX11_act 120 = .ok (.ireturn, 1) := by decide +kernel
theorem dX11_act_121 : decode cX11_act 121 = .ok (.aload_n 0, 1) := by decide +kernel
theorem dX11_act_122 : decode cX11_act 122 = .ok (.getfield 9, 3) := by decide +kernel
theorem dX11_act_125 : decode cX11_act 125 = .ok (.iload_n 2, 1) := by decide +kernel
theorem dX11_act_126 : decode cX11_act 126 = .ok (.iload_n 3, 1) := by decide +kernel
theorem dX11_act_127 : decode cX11_act 127 = .ok (.iastore, 1) := by decide +kernel
theorem dX11_act_128 : decode cX11_act 128 = .ok (.iconst 1, 1) := by decide +kernel
theorem dX11_act_129 : decode cX11_act 129 = .ok (.ireturn, 1) := by decide +kernel
theorem dX11_act_130 : decode cX11_act 130 = .ok (.aload_n 0, 1) := by decide +kernel
theorem dX11_act_131 : decode cX11_act 131 = .ok (.iload_n 2, 1) := by decide +kernel
theorem dX11_act_132 : decode cX11_act 132 = .ok (.invokevirtual 272, 3) := by decide +kernel
theorem dX11_act_135 : decode cX11_act 135 = .ok (.ifCond .ge 5, 3) := by decide +kernel
theorem dX11_act_138 : decode cX11_act 138 = .ok (.iconst 0, 1) := by decide +kernel
theorem dX11_act_139 : decode cX11_act 139 = .ok (.ireturn, 1) := by decide +kernel
theorem dX11_act_140 : decode cX11_act 140 = .ok (.aload_n 0, 1) := by decide +kernel
theorem dX11_act_141 : decode cX11_act 141 = .ok (.aload_n 0, 1) := by decide +kernel
theorem dX11_act_142 : decode cX11_act 142 = .ok (.getfield 9, 3) := by decide +kernel
theorem dX11_act_145 : decode cX11_act 145 = .ok (.iload_n 2, 1) := by decide +kernel
theorem dX11_act_146 : decode cX11_act 146 = .ok (.invokevirtual 275, 3) := by decide +kernel
theorem dX11_act_149 : decode cX11_act 149 = .ok (.iconst 1, 1) := by decide +kernel
theorem dX11_act_150 : decode cX11_act 150 = .ok (.ireturn, 1) := by decide +kernel
theorem dX11_undo_0 : decode cX11_undo 0 = .ok (.aload_n 0, 1) := by decide +kernel
theorem dX11_undo_1 : decode cX11_undo 1 = .ok (.iconst 0, 1) := by decide +kernel
theorem dX11_undo_2 : decode cX11_undo 2 = .ok (.putfield 85, 3) := by decide +kernel
theorem dX11_undo_5 : decode cX11_undo 5 = .ok (.aload_n 0, 1) := by decide +kernel
theorem dX11_undo_6 : decode cX11_undo 6 = .ok (.getfield 145, 3) := by decide +kernel
theorem dX11_undo_9 : decode cX11_undo 9 = .ok (.ifCond .ne 5, 3) := by decide +kernel
theorem dX11_undo_12 : decode cX11_undo 12 = .ok (.iconst (-1), 1) := by decide +kernel
theorem dX11_undo_13 : decode cX11_undo 13 = .ok (.ireturn, 1) := by decide +kernel
theorem dX11_undo_14 : decode cX11_undo 14 = .ok (.aload_n 0, 1) := by decide +kernel
theorem dX11_undo_15 : decode cX11_undo 15 = .ok (.dup, 1) := by decide +kernel
theorem dX11_undo_16 : decode cX11_undo 16 = .ok (.getfield 145, 3) := by decide +kernel
theorem dX11_undo_19 : decode cX11_undo 19 = .ok (.iconst 1, 1) := by decide +kernel
theorem dX11_undo_20 : decode cX11_undo 20 = .ok (.isub, 1) := by decide +kernel
theorem dX11_undo_21 : decode cX11_undo 21 = .ok (.putfield 145, 3) := by decide +kernel
theorem dX11_undo_24 : decode cX11_undo 24 = .ok (.iconst 0, 1) := by decide +kernel
theorem dX11_undo_25 : decode cX11_undo 25 = .ok (.istore_n 1, 1) := by decide +kernel
theorem dX11_undo_26 : decode cX11_undo 26 = .ok (.iload_n 1, 1) := by decide +kernel
theorem dX11_undo_27 : decode cX11_undo 27 = .ok (.bipush 37, 2) := by decide +kernel
theorem dX11_undo_29 : decode cX11_undo 29 = .ok (.if_icmp .ge 29, 3) := by decide +kernel
theorem dX11_undo_32 : decode cX11_undo 32 = .ok (.aload_n 0, 1) := by decide +kernel
theorem dX11_undo_33 : decode cX11_undo 33 = .ok (.getfield 9, 3) := by decide +kernel
theorem dX11_undo_36 : decode cX11_undo 36 = .ok (.iload_n 1, 1) := by decide +kernel
theorem dX11_undo_37 : decode cX11_undo 37 = .ok (.aload_n 0, 1) := by decide +kernel
theorem dX11_undo_38 : decode cX11_undo 38 = .ok (.getfield 33, 3) := by decide +kernel
theorem dX11_undo_41 : decode cX11_undo 41 = .ok (.bipush 37, 2) := by decide +kernel
theorem dX11_undo_43 : decode cX11_undo 43 = .ok (.aload_n 0, 1) := by decide +kernel
theorem dX11_undo_44 : decode cX11_undo 44 = .ok (.getfield 145, 3) := by decide +kernel
theorem dX11_undo_47 : decode cX11_undo 47 = .ok (.imul, 1) := by decide +kernel
theorem dX11_undo_48 : decode cX11_undo 48 = .ok (.iload_n 1, 1) := by decide +kernel
theorem dX11_undo_49 : decode cX11_undo 49 = .ok (.iadd, 1) := by decide +kernel
theorem dX11_undo_50 : decode cX11_undo 50 = .ok (.iaload, 1) := by decide +kernel
theorem dX11_undo_51 : decode cX11_undo 51 = .ok (.iastore, 1) := by decide +kernel
theorem dX11_undo_52 : decode cX11_undo 52 = .ok (.iinc 1 1, 3) := by decide +kernel
theorem dX11_undo_55 : decode cX11_undo 55 = .ok (.goto (-29), 3) := by decide +kernel
theorem dX11_undo_58 : decode cX11_undo 58 = .ok (.aload_n 0, 1) := by decide +kernel
theorem dX11_undo_59 : decode cX11_undo 59 = .ok (.getfield 145, 3) := by decide +kernel
theorem dX11_undo_62 : decode cX11_undo 62 = .ok (.ireturn, 1) := by decide +kernel
theorem dX11_wakes_0 : decode cX11_wakes 0 = .ok (.aload_n 0, 1) := by decide +kernel
theorem dX11_wakes_1 : decode cX11_wakes 1 = .ok (.iconst 0, 1) := by decide +kernel
theorem dX11_wakes_2 : decode cX11_wakes 2 = .ok (.putfield 85, 3) := by decide +kernel
theorem dX11_wakes_5 : decode cX11_wakes 5 = .ok (.aload_n 0, 1) := by decide +kernel
theorem dX11_wakes_6 : decode cX11_wakes 6 = .ok (.aload_n 0, 1) := by decide +kernel
theorem dX11_wakes_7 : decode cX11_wakes 7 = .ok (.getfield 9, 3) := by decide +kernel
theorem dX11_wakes_10 : decode cX11_wakes 10 = .ok (.invokevirtual 239, 3) := by decide +kernel
theorem dX11_wakes_13 : decode cX11_wakes 13 = .ok (.istore_n 1, 1) := by decide +kernel
theorem dX11_wakes_14 : decode cX11_wakes 14 = .ok (.aload_n 0, 1) := by decide +kernel
theorem dX11_wakes_15 : decode cX11_wakes 15 = .ok (.iconst 0, 1) := by decide +kernel
theorem dX11_wakes_16 : decode cX11_wakes 16 = .ok (.putfield 89, 3) := by decide +kernel
theorem dX11_wakes_19 : decode cX11_wakes 19 = .ok (.aload_n 0, 1) := by decide +kernel
theorem dX11_wakes_20 : decode cX11_wakes 20 = .ok (.iload_n 1, 1) := by decide +kernel
theorem dX11_wakes_21 : decode cX11_wakes 21 = .ok (.invokestatic 204, 3) := by decide +kernel
theorem dX11_wakes_24 : decode cX11_wakes 24 = .ok (.i2l, 1) := by decide +kernel
theorem dX11_wakes_25 : decode cX11_wakes 25 = .ok (.invokevirtual 256, 3) := by decide +kernel
theorem dX11_wakes_28 : decode cX11_wakes 28 = .ok (.aload_n 0, 1) := by decide +kernel
theorem dX11_wakes_29 : decode cX11_wakes 29 = .ok (.aload_n 0, 1) := by decide +kernel
theorem dX11_wakes_30 : decode cX11_wakes 30 = .ok (.aload_n 0, 1) := by decide +kernel
theorem dX11_wakes_31 : decode cX11_wakes 31 = .ok (.getfield 9, 3) := by decide +kernel
theorem dX11_wakes_34 : decode cX11_wakes 34 = .ok (.iload_n 1, 1) := by decide +kernel
theorem dX11_wakes_35 : decode cX11_wakes 35 = .ok (.invokevirtual 243, 3) := by decide +kernel
theorem dX11_wakes_38 : decode cX11_wakes 38 = .ok (.i2l, 1) := by decide +kernel
theorem dX11_wakes_39 : decode cX11_wakes 39 = .ok (.invokevirtual 256, 3) := by decide +kernel
theorem dX11_wakes_42 : decode cX11_wakes 42 = .ok (.iload_n 1, 1) := by decide +kernel
theorem dX11_wakes_43 : decode cX11_wakes 43 = .ok (.ireturn, 1) := by decide +kernel
theorem dX11_later_0 : decode cX11_later 0 = .ok (.aload_n 0, 1) := by decide +kernel
theorem dX11_later_1 : decode cX11_later 1 = .ok (.iconst 0, 1) := by decide +kernel
theorem dX11_later_2 : decode cX11_later 2 = .ok (.putfield 85, 3) := by decide +kernel
theorem dX11_later_5 : decode cX11_later 5 = .ok (.aload_n 0, 1) := by decide +kernel
theorem dX11_later_6 : decode cX11_later 6 = .ok (.iload_n 1, 1) := by decide +kernel
theorem dX11_later_7 : decode cX11_later 7 = .ok (.invokevirtual 99, 3) := by decide +kernel
theorem dX11_later_10 : decode cX11_later 10 = .ok (.ifCond .eq 13, 3) := by decide +kernel
theorem dX11_later_13 : decode cX11_later 13 = .ok (.iload_n 2, 1) := by decide +kernel
theorem dX11_later_14 : decode cX11_later 14 = .ok (.iconst 0, 1) := by decide +kernel
theorem dX11_later_15 : decode cX11_later 15 = .ok (.bipush 99, 2) := by decide +kernel
theorem dX11_later_17 : decode cX11_later 17 = .ok (.invokestatic 95, 3) := by decide +kernel
theorem dX11_later_20 : decode cX11_later 20 = .ok (.ifCond .ne 5, 3) := by decide +kernel
theorem dX11_later_23 : decode cX11_later 23 = .ok (.iconst (-1), 1) := by decide +kernel
theorem dX11_later_24 : decode cX11_later 24 = .ok (.ireturn, 1) := by decide +kernel
theorem dX11_later_25 : decode cX11_later 25 = .ok (.aload_n 0, 1) := by decide +kernel
theorem dX11_later_26 : decode cX11_later 26 = .ok (.getfield 9, 3) := by decide +kernel
theorem dX11_later_29 : decode cX11_later 29 = .ok (.aload_n 0, 1) := by decide +kernel
theorem dX11_later_30 : decode cX11_later 30 = .ok (.getfield 39, 3) := by decide +kernel
theorem dX11_later_33 : decode cX11_later 33 = .ok (.iconst 0, 1) := by decide +kernel
theorem dX11_later_34 : decode cX11_later 34 = .ok (.invokestatic 235, 3) := by decide +kernel
theorem dX11_later_37 : decode cX11_later 37 = .ok (.iconst 0, 1) := by decide +kernel
theorem dX11_later_38 : decode cX11_later 38 = .ok (.istore_n 3, 1) := by decide +kernel
theorem dX11_later_39 : decode cX11_later 39 = .ok (.iconst 0, 1) := by decide +kernel
theorem dX11_later_40 : decode cX11_later 40 = .ok (.istore 4, 2) := by decide +kernel
theorem dX11_later_42 : decode cX11_later 42 = .ok (.iload 4, 2) := by decide +kernel
theorem dX11_later_44 : decode cX11_later 44 = .ok (.iload_n 2, 1) := by decide +kernel
theorem dX11_later_45 : decode cX11_later 45 = .ok (.if_icmp .ge 32, 3) := by decide +kernel
theorem dX11_later_48 : decode cX11_later 48 = .ok (.iload_n 3, 1) := by decide +kernel
theorem dX11_later_49 : decode cX11_later 49 = .ok (.aload_n 0, 1) := by decide +kernel
theorem dX11_later_50 : decode cX11_later 50 = .ok (.aload_n 0, 1) := by decide +kernel
theorem dX11_later_51 : decode cX11_later 51 = .ok (.getfield 39, 3) := by decide +kernel
theorem dX11_later_54 : decode cX11_later 54 = .ok (.invokevirtual 246, 3) := by decide +kernel
theorem dX11_later_57 : decode cX11_later 57 = .ok (.iload_n 1, 1) := by decide +kernel
theorem dX11_later_58 : decode cX11_later 58 = .ok (.invokestatic 196, 3) := by decide +kernel
theorem dX11_later_61 : decode cX11_later 61 = .ok (.ifCond .eq 7, 3) := by decide +kernel
theorem dX11_later_64 : decode cX11_later 64 = .ok (.iconst 1, 1) := by decide +kernel
theorem dX11_later_65 : decode cX11_later 65 = .ok (.goto 4, 3) := by decide +kernel
theorem dX11_later_68 : decode cX11_later 68 = .ok (.iconst 0, 1) := by decide +kernel
theorem dX11_later_69 : decode cX11_later 69 = .ok (.iadd, 1) := by decide +kernel
theorem dX11_later_70 : decode cX11_later 70 = .ok (.istore_n 3, 1) := by decide +kernel
theorem dX11_later_71 : decode cX11_later 71 = .ok (.iinc 4 1, 3) := by decide +kernel
theorem dX11_later_74 : decode cX11_later 74 = .ok (.goto (-32), 3) := by decide +kernel
theorem dX11_later_77 : decode cX11_later 77 = .ok (.aload_n 0, 1) := by decide +kernel
theorem dX11_later_78 : decode cX11_later 78 = .ok (.iconst 0, 1) := by decide +kernel
theorem dX11_later_79 : decode cX11_later 79 = .ok (.putfield 89, 3) := by decide +kernel
theorem dX11_later_82 : decode cX11_later 82 = .ok (.aload_n 0, 1) := by decide +kernel
theorem dX11_later_83 : decode cX11_later 83 = .ok (.iload_n 3, 1) := by decide +kernel
theorem dX11_later_84 : decode cX11_later 84 = .ok (.i2l, 1) := by decide +kernel
theorem dX11_later_85 : decode cX11_later 85 = .ok (.invokevirtual 256, 3) := by decide +kernel
theorem dX11_later_88 : decode cX11_later 88 = .ok (.aload_n 0, 1) := by decide +kernel
theorem dX11_later_89 : decode cX11_later 89 = .ok (.aload_n 0, 1) := by decide +kernel
theorem dX11_later_90 : decode cX11_later 90 = .ok (.aload_n 0, 1) := by decide +kernel
theorem dX11_later_91 : decode cX11_later 91 = .ok (.getfield 39, 3) := by decide +kernel
theorem dX11_later_94 : decode cX11_later 94 = .ok (.invokevirtual 239, 3) := by decide +kernel
theorem dX11_later_97 : decode cX11_later 97 = .ok (.i2l, 1) := by decide +kernel
theorem dX11_later_98 : decode cX11_later 98 = .ok (.invokevirtual 256, 3) := by decide +kernel
theorem dX11_later_101 : decode cX11_later 101 = .ok (.aload_n 0, 1) := by decide +kernel
theorem dX11_later_102 : decode cX11_later 102 = .ok (.getfield 39, 3) := by decide +kernel
theorem dX11_later_105 : decode cX11_later 105 = .ok (.bipush 14, 2) := by decide +kernel
theorem dX11_later_107 : decode cX11_later 107 = .ok (.iload_n 1, 1) := by decide +kernel
theorem dX11_later_108 : decode cX11_later 108 = .ok (.iadd, 1) := by decide +kernel
theorem dX11_later_109 : decode cX11_later 109 = .ok (.iaload, 1) := by decide +kernel
theorem dX11_later_110 : decode cX11_later 110 = .ok (.ireturn, 1) := by decide +kernel
theorem dX11_when_0 : decode cX11_when 0 = .ok (.aload_n 0, 1) := by decide +kernel
theorem dX11_when_1 : decode cX11_when 1 = .ok (.iconst 0, 1) := by decide +kernel
theorem dX11_when_2 : decode cX11_when 2 = .ok (.putfield 85, 3) := by decide +kernel
theorem dX11_when_5 : decode cX11_when 5 = .ok (.aload_n 0, 1) := by decide +kernel
theorem dX11_when_6 : decode cX11_when 6 = .ok (.iload_n 1, 1) := by decide +kernel
theorem dX11_when_7 : decode cX11_when 7 = .ok (.invokevirtual 99, 3) := by decide +kernel
theorem dX11_when_10 : decode cX11_when 10 = .ok (.ifCond .ne 5, 3) := by decide +kernel
theorem dX11_when_13 : decode cX11_when 13 = .ok (.iconst (-1), 1) := by decide +kernel
theorem dX11_when_14 : decode cX11_when 14 = .ok (.ireturn, 1) := by decide +kernel
theorem dX11_when_15 : decode cX11_when 15 = .ok (.aload_n 0, 1) := by decide +kernel
theorem dX11_when_16 : decode cX11_when 16 = .ok (.getfield 9, 3) := by decide +kernel
theorem dX11_when_19 : decode cX11_when 19 = .ok (.aload_n 0, 1) := by decide +kernel
theorem dX11_when_20 : decode cX11_when 20 = .ok (.getfield 39, 3) := by decide +kernel
theorem dX11_when_23 : decode cX11_when 23 = .ok (.iconst 0, 1) := by decide +kernel
theorem dX11_when_24 : decode cX11_when 24 = .ok (.invokestatic 235, 3) := by decide +kernel
theorem dX11_when_27 : decode cX11_when 27 = .ok (.bipush (-2), 2) := by decide +kernel
theorem dX11_when_29 : decode cX11_when 29 = .ok (.istore_n 2, 1) := by decide +kernel
theorem dX11_when_30 : decode cX11_when 30 = .ok (.iconst 0, 1) := by decide +kernel
theorem dX11_when_31 : decode cX11_when 31 = .ok (.istore_n 3, 1) := by decide +kernel
theorem dX11_when_32 : decode cX11_when 32 = .ok (.iconst 1, 1) := by decide +kernel
theorem dX11_when_33 : decode cX11_when 33 = .ok (.istore 4, 2) := by decide +kernel
theorem dX11_when_35 : decode cX11_when 35 = .ok (.iload 4, 2) := by decide +kernel
theorem dX11_when_37 : decode cX11_when 37 = .ok (.bipush 99, 2) := by decide +kernel
theorem dX11_when_39 : decode cX11_when 39 = .ok (.if_icmp .gt 43, 3) := by decide +kernel
theorem dX11_when_42 : decode cX11_when 42 = .ok (.aload_n 0, 1) := by decide +kernel
theorem dX11_when_43 : decode cX11_when 43 = .ok (.aload_n 0, 1) := by decide +kernel
theorem dX11_when_44 : decode cX11_when 44 = .ok (.getfield 39, 3) := by decide +kernel
theorem dX11_when_47 : decode cX11_when 47 = .ok (.invokevirtual 246, 3) := by decide +kernel
theorem dX11_when_50 : decode cX11_when 50 = .ok (.iload_n 1, 1) := by decide +kernel
theorem dX11_when_51 : decode cX11_when 51 = .ok (.invokestatic 196, 3) := by decide +kernel
theorem dX11_when_54 : decode cX11_when 54 = .ok (.ifCond .ne 6, 3) := by decide +kernel
theorem dX11_when_57 : decode cX11_when 57 = .ok (.goto 19, 3) := by decide +kernel
theorem dX11_when_60 : decode cX11_when 60 = .ok (.iload_n 2, 1) := by decide +kernel
theorem dX11_when_61 : decode cX11_when 61 = .ok (.bipush (-2), 2) := by decide +kernel
theorem dX11_when_63 : decode cX11_when 63 = .ok (.if_icmp .ne 8, 3) := by decide +kernel
theorem dX11_when_66 : decode cX11_when 66 = .ok (.iload 4, 2) := by decide +kernel
theorem dX11_when_68 : decode cX11_when 68 = .ok (.goto 4, 3) := by decide +kernel
theorem dX11_when_71 : decode cX11_when 71 = .ok (.iload_n 2, 1) := by decide +kernel
theorem dX11_when_72 : decode cX11_when 72 = .ok (.istore_n 2, 1) := by decide +kernel
theorem dX11_when_73 : decode cX11_when 73 = .ok (.iinc 3 1, 3) := by decide +kernel
theorem dX11_when_76 : decode cX11_when 76 = .ok (.iinc 4 1, 3) := by decide +kernel
theorem dX11_when_79 : decode cX11_when 79 = .ok (.goto (-44), 3) := by decide +kernel
theorem dX11_when_82 : decode cX11_when 82 = .ok (.iload_n 2, 1) := by decide +kernel
theorem dX11_when_83 : decode cX11_when 83 = .ok (.bipush (-2), 2) := by decide +kernel
theorem dX11_when_85 : decode cX11_when 85 = .ok (.if_icmp .ne 6, 3) := by decide +kernel
theorem dX11_when_88 : decode cX11_when 88 = .ok (.bipush (-2), 2) := by decide +kernel
theorem dX11_when_90 : decode cX11_when 90 = .ok (.ireturn, 1) := by decide +kernel
theorem dX11_when_91 : decode cX11_when 91 = .ok (.aload_n 0, 1) := by decide +kernel
theorem dX11_when_92 : decode cX11_when 92 = .ok (.iconst 0, 1) := by decide +kernel
theorem dX11_when_93 : decode cX11_when 93 = .ok (.putfield 89, 3) := by decide +kernel
theorem dX11_when_96 : decode cX11_when 96 = .ok (.aload_n 0, 1) := by decide +kernel
theorem dX11_when_97 : decode cX11_when 97 = .ok (.iload_n 3, 1) := by decide +kernel
theorem dX11_when_98 : decode cX11_when 98 = .ok (.i2l, 1) := by decide +kernel
theorem dX11_when_99 : decode cX11_when 99 = .ok (.invokevirtual 256, 3) := by decide +kernel
theorem dX11_when_102 : decode cX11_when 102 = .ok (.iload_n 2, 1) := by decide +kernel
theorem dX11_when_103 : decode cX11_when 103 = .ok (.ireturn, 1) := by decide +kernel
theorem dX11_quiet_0 : decode cX11_quiet 0 = .ok (.aload_n 0, 1) := by decide +kernel
theorem dX11_quiet_1 : decode cX11_quiet 1 = .ok (.iconst 0, 1) := by decide +kernel
theorem dX11_quiet_2 : decode cX11_quiet 2 = .ok (.putfield 85, 3) := by decide +kernel
theorem dX11_quiet_5 : decode cX11_quiet 5 = .ok (.aload_n 0, 1) := by decide +kernel
theorem dX11_quiet_6 : decode cX11_quiet 6 = .ok (.getfield 9, 3) := by decide +kernel
theorem dX11_quiet_9 : decode cX11_quiet 9 = .ok (.aload_n 0, 1) := by decide +kernel
theorem dX11_quiet_10 : decode cX11_quiet 10 = .ok (.getfield 39, 3) := by decide +kernel
theorem dX11_quiet_13 : decode cX11_quiet 13 = .ok (.iconst 0, 1) := by decide +kernel
theorem dX11_quiet_14 : decode cX11_quiet 14 = .ok (.invokestatic 235, 3) := by decide +kernel
theorem dX11_quiet_17 : decode cX11_quiet 17 = .ok (.bipush (-2), 2) := by decide +kernel
theorem dX11_quiet_19 : decode cX11_quiet 19 = .ok (.istore_n 1, 1) := by decide +kernel
theorem dX11_quiet_20 : decode cX11_quiet 20 = .ok (.iconst 0, 1) := by decide +kernel
theorem dX11_quiet_21 : decode cX11_quiet 21 = .ok (.istore_n 2, 1) := by decide +kernel
theorem dX11_quiet_22 : decode cX11_quiet 22 = .ok (.iconst 1, 1) := by decide +kernel
theorem dX11_quiet_23 : decode cX11_quiet 23 = .ok (.istore_n 3, 1) := by decide +kernel
theorem dX11_quiet_24 : decode cX11_quiet 24 = .ok (.iload_n 3, 1) := by decide +kernel
theorem dX11_quiet_25 : decode cX11_quiet 25 = .ok (.bipush 99, 2) := by decide +kernel
theorem dX11_quiet_27 : decode cX11_quiet 27 = .ok (.if_icmp .gt 38, 3) := by decide +kernel
theorem dX11_quiet_30 : decode cX11_quiet 30 = .ok (.aload_n 0, 1) := by decide +kernel
theorem dX11_quiet_31 : decode cX11_quiet 31 = .ok (.aload_n 0, 1) := by decide +kernel
theorem dX11_quiet_32 : decode cX11_quiet 32 = .ok (.getfield 39, 3) := by decide +kernel
theorem dX11_quiet_35 : decode cX11_quiet 35 = .ok (.invokevirtual 246, 3) := by decide +kernel
theorem dX11_quiet_38 : decode cX11_quiet 38 = .ok (.ifCond .eq 6, 3) := by decide +kernel
theorem dX11_quiet_41 : decode cX11_quiet 41 = .ok (.goto 18, 3) := by decide +kernel
theorem dX11_quiet_44 : decode cX11_quiet 44 = .ok (.iload_n 1, 1) := by decide +kernel
theorem dX11_quiet_45 : decode cX11_quiet 45 = .ok (.bipush (-2), 2) := by decide +kernel
theorem dX11_quiet_47 : decode cX11_quiet 47 = .ok (.if_icmp .ne 7, 3) := by decide +kernel
theorem dX11_quiet_50 : decode cX11_quiet 50 = .ok (.iload_n 3, 1) := by decide +kernel
theorem dX11_quiet_51 : decode cX11_quiet 51 = .ok (.goto 4, 3) := by decide +kernel
theorem dX11_quiet_54 : decode cX11_quiet 54 = .ok (.iload_n 1, 1) := by decide +kernel
theorem dX11_quiet_55 : decode cX11_quiet 55 = .ok (.istore_n 1, 1) := by decide +kernel
theorem dX11_quiet_56 : decode cX11_quiet 56 = .ok (.iinc 2 1, 3) := by decide +kernel
theorem dX11_quiet_59 : decode cX11_quiet 59 = .ok (.iinc 3 1, 3) := by decide +kernel
theorem dX11_quiet_62 : decode cX11_quiet 62 = .ok (.goto (-38), 3) := by decide +kernel
theorem dX11_quiet_65 : decode cX11_quiet 65 = .ok (.iload_n 1, 1) := by decide +kernel
theorem dX11_quiet_66 : decode cX11_quiet 66 = .ok (.bipush (-2), 2) := by decide +kernel
theorem dX11_quiet_68 : decode cX11_quiet 68 = .ok (.if_icmp .ne 6, 3) := by decide +kernel
theorem dX11_quiet_71 : decode cX11_quiet 71 = .ok (.bipush (-2), 2) := by decide +kernel
theorem dX11_quiet_73 : decode cX11_quiet 73 = .ok (.ireturn, 1) := by decide +kernel
theorem dX11_quiet_74 : decode cX11_quiet 74 = .ok (.aload_n 0, 1) := by decide +kernel
theorem dX11_quiet_75 : decode cX11_quiet 75 = .ok (.iconst 0, 1) := by decide +kernel
theorem dX11_quiet_76 : decode cX11_quiet 76 = .ok (.putfield 89, 3) := by decide +kernel
theorem dX11_quiet_79 : decode cX11_quiet 79 = .ok (.aload_n 0, 1) := by decide +kernel
theorem dX11_quiet_80 : decode cX11_quiet 80 = .ok (.iload_n 2, 1) := by decide +kernel
theorem dX11_quiet_81 : decode cX11_quiet 81 = .ok (.i2l, 1) := by decide +kernel
theorem dX11_quiet_82 : decode cX11_quiet 82 = .ok (.invokevirtual 256, 3) := by decide +kernel
theorem dX11_quiet_85 : decode cX11_quiet 85 = .ok (.iload_n 1, 1) := by decide +kernel
theorem dX11_quiet_86 : decode cX11_quiet 86 = .ok (.ireturn, 1) := by decide +kernel
theorem dX11_runs_0 : decode cX11_runs 0 = .ok (.aload_n 0, 1) := by decide +kernel
theorem dX11_runs_1 : decode cX11_runs 1 = .ok (.iconst 0, 1) := by decide +kernel
theorem dX11_runs_2 : decode cX11_runs 2 = .ok (.putfield 85, 3) := by decide +kernel
theorem dX11_runs_5 : decode cX11_runs 5 = .ok (.aload_n 0, 1) := by decide +kernel
theorem dX11_runs_6 : decode cX11_runs 6 = .ok (.iload_n 1, 1) := by decide +kernel
theorem dX11_runs_7 : decode cX11_runs 7 = .ok (.invokevirtual 99, 3) := by decide +kernel
theorem dX11_runs_10 : decode cX11_runs 10 = .ok (.ifCond .eq 13, 3) := by decide +kernel
theorem dX11_runs_13 : decode cX11_runs 13 = .ok (.iload_n 2, 1) := by decide +kernel
theorem dX11_runs_14 : decode cX11_runs 14 = .ok (.iconst 1, 1) := by decide +kernel
theorem dX11_runs_15 : decode cX11_runs 15 = .ok (.bipush 99, 2) := by decide +kernel
theorem dX11_runs_17 : decode cX11_runs 17 = .ok (.invokestatic 95, 3) := by decide +kernel
theorem dX11_runs_20 : decode cX11_runs 20 = .ok (.ifCond .ne 5, 3) := by decide +kernel
theorem dX11_runs_23 : decode cX11_runs 23 = .ok (.iconst (-1), 1) := by decide +kernel
theorem dX11_runs_24 : decode cX11_runs 24 = .ok (.ireturn, 1) := by decide +kernel
theorem dX11_runs_25 : decode cX11_runs 25 = .ok (.aload_n 0, 1) := by decide +kernel
theorem dX11_runs_26 : decode cX11_runs 26 = .ok (.getfield 9, 3) := by decide +kernel
theorem dX11_runs_29 : decode cX11_runs 29 = .ok (.aload_n 0, 1) := by decide +kernel
theorem dX11_runs_30 : decode cX11_runs 30 = .ok (.getfield 39, 3) := by decide +kernel
theorem dX11_runs_33 : decode cX11_runs 33 = .ok (.iconst 0, 1) := by decide +kernel
theorem dX11_runs_34 : decode cX11_runs 34 = .ok (.invokestatic 235, 3) := by decide +kernel
theorem dX11_runs_37 : decode cX11_runs 37 = .ok (.iconst 0, 1) := by decide +kernel
theorem dX11_runs_38 : decode cX11_runs 38 = .ok (.istore_n 3, 1) := by decide +kernel
theorem dX11_runs_39 : decode cX11_runs 39 = .ok (.iconst 0, 1) := by decide +kernel
theorem dX11_runs_40 : decode cX11_runs 40 = .ok (.istore 4, 2) := by decide +kernel
theorem dX11_runs_42 : decode cX11_runs 42 = .ok (.iconst 0, 1) := by decide +kernel
theorem dX11_runs_43 : decode cX11_runs 43 = .ok (.istore 5, 2) := by decide +kernel
theorem dX11_runs_45 : decode cX11_runs 45 = .ok (.iconst 1, 1) := by decide +kernel
theorem dX11_runs_46 : decode cX11_runs 46 = .ok (.istore 6, 2) := by decide +kernel
theorem dX11_runs_48 : decode cX11_runs 48 = .ok (.iload 6, 2) := by decide +kernel
theorem dX11_runs_50 : decode cX11_runs 50 = .ok (.iload_n 2, 1) := by decide +kernel
theorem dX11_runs_51 : decode cX11_runs 51 = .ok (.if_icmp .gt 55, 3) := by decide +kernel
theorem dX11_runs_54 : decode cX11_runs 54 = .ok (.aload_n 0, 1) := by decide +kernel
theorem dX11_runs_55 : decode cX11_runs 55 = .ok (.aload_n 0, 1) := by decide +kernel
theorem dX11_runs_56 : decode cX11_runs 56 = .ok (.getfield 39, 3) := by decide +kernel
theorem dX11_runs_59 : decode cX11_runs 59 = .ok (.invokevirtual 246, 3) := by decide +kernel
theorem dX11_runs_62 : decode cX11_runs 62 = .ok (.iload_n 1, 1) := by decide +kernel
theorem dX11_runs_63 : decode cX11_runs 63 = .ok (.invokestatic 196, 3) := by decide +kernel
theorem dX11_runs_66 : decode cX11_runs 66 = .ok (.ifCond .eq 10, 3) := by decide +kernel
theorem dX11_runs_69 : decode cX11_runs 69 = .ok (.iload 5, 2) := by decide +kernel
theorem dX11_runs_71 : decode cX11_runs 71 = .ok (.iconst 1, 1) := by decide +kernel
theorem dX11_runs_72 : decode cX11_runs 72 = .ok (.iadd, 1) := by decide +kernel
theorem dX11_runs_73 : decode cX11_runs 73 = .ok (.goto 4, 3) := by decide +kernel
theorem dX11_runs_76 : decode cX11_runs 76 = .ok (.iconst 0, 1) := by decide +kernel
theorem dX11_runs_77 : decode cX11_runs 77 = .ok (.istore 5, 2) := by decide +kernel
theorem dX11_runs_79 : decode cX11_runs 79 = .ok (.iload 5, 2) := by decide +kernel
theorem dX11_runs_81 : decode cX11_runs 81 = .ok (.iload_n 3, 1) := by decide +kernel
theorem dX11_runs_82 : decode cX11_runs 82 = .ok (.if_icmp .gt 6, 3) := by decide +kernel
theorem dX11_runs_85 : decode cX11_runs 85 = .ok (.goto 15, 3) := by decide +kernel
theorem dX11_runs_88 : decode cX11_runs 88 = .ok (.iload 5, 2) := by decide +kernel
theorem dX11_runs_90 : decode cX11_runs 90 = .ok (.istore_n 3, 1) := by decide +kernel
theorem dX11_runs_91 : decode cX11_runs 91 = .ok (.iload 6, 2) := by decide +kernel
