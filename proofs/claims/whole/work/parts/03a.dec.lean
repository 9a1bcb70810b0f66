theorem dX0_init_0 : decode cX0_init 0 = .ok (.aload_n 0, 1) := by decide +kernel
theorem dX0_init_1 : decode cX0_init 1 = .ok (.invokespecial 3, 3) := by decide +kernel
theorem dX0_init_4 : decode cX0_init 4 = .ok (.aload_n 0, 1) := by decide +kernel
theorem dX0_init_5 : decode cX0_init 5 = .ok (.bipush 7, 2) := by decide +kernel
theorem dX0_init_7 : decode cX0_init 7 = .ok (.newarray .int, 2) := by decide +kernel
theorem dX0_init_9 : decode cX0_init 9 = .ok (.putfield 9, 3) := by decide +kernel
theorem dX0_init_12 : decode cX0_init 12 = .ok (.aload_n 0, 1) := by decide +kernel
theorem dX0_init_13 : decode cX0_init 13 = .ok (.bipush 7, 2) := by decide +kernel
theorem dX0_init_15 : decode cX0_init 15 = .ok (.newarray .int, 2) := by decide +kernel
theorem dX0_init_17 : decode cX0_init 17 = .ok (.putfield 15, 3) := by decide +kernel
theorem dX0_init_20 : decode cX0_init 20 = .ok (.aload_n 0, 1) := by decide +kernel
theorem dX0_init_21 : decode cX0_init 21 = .ok (.bipush 7, 2) := by decide +kernel
theorem dX0_init_23 : decode cX0_init 23 = .ok (.newarray .int, 2) := by decide +kernel
theorem dX0_init_25 : decode cX0_init 25 = .ok (.putfield 18, 3) := by decide +kernel
theorem dX0_init_28 : decode cX0_init 28 = .ok (.aload_n 0, 1) := by decide +kernel
theorem dX0_init_29 : decode cX0_init 29 = .ok (.bipush 7, 2) := by decide +kernel
theorem dX0_init_31 : decode cX0_init 31 = .ok (.newarray .int, 2) := by decide +kernel
theorem dX0_init_33 : decode cX0_init 33 = .ok (.putfield 21, 3) := by decide +kernel
theorem dX0_init_36 : decode cX0_init 36 = .ok (.aload_n 0, 1) := by decide +kernel
theorem dX0_init_37 : decode cX0_init 37 = .ok (.bipush 7, 2) := by decide +kernel
theorem dX0_init_39 : decode cX0_init 39 = .ok (.newarray .int, 2) := by decide +kernel
theorem dX0_init_41 : decode cX0_init 41 = .ok (.putfield 24, 3) := by decide +kernel
theorem dX0_init_44 : decode cX0_init 44 = .ok (.aload_n 0, 1) := by decide +kernel
theorem dX0_init_45 : decode cX0_init 45 = .ok (.iconst 0, 1) := by decide +kernel
theorem dX0_init_46 : decode cX0_init 46 = .ok (.putfield 27, 3) := by decide +kernel
theorem dX0_init_49 : decode cX0_init 49 = .ok (.aload_n 0, 1) := by decide +kernel
theorem dX0_init_50 : decode cX0_init 50 = .ok (.iconst 0, 1) := by decide +kernel
theorem dX0_init_51 : decode cX0_init 51 = .ok (.putfield 31, 3) := by decide +kernel
theorem dX0_init_54 : decode cX0_init 54 = .ok (.aload_n 0, 1) := by decide +kernel
theorem dX0_init_55 : decode cX0_init 55 = .ok (.iconst 0, 1) := by decide +kernel
theorem dX0_init_56 : decode cX0_init 56 = .ok (.putfield 34, 3) := by decide +kernel
theorem dX0_init_59 : decode cX0_init 59 = .ok (.return_, 1) := by decide +kernel
theorem dX0_becomes_0 : decode cX0_becomes 0 = .ok (.iconst 0, 1) := by decide +kernel
theorem dX0_becomes_1 : decode cX0_becomes 1 = .ok (.istore_n 2, 1) := by decide +kernel
theorem dX0_becomes_2 : decode cX0_becomes 2 = .ok (.iload_n 2, 1) := by decide +kernel
theorem dX0_becomes_3 : decode cX0_becomes 3 = .ok (.bipush 7, 2) := by decide +kernel
theorem dX0_becomes_5 : decode cX0_becomes 5 = .ok (.if_icmp .ge 69, 3) := by decide +kernel
theorem dX0_becomes_8 : decode cX0_becomes 8 = .ok (.aload_n 0, 1) := by decide +kernel
theorem dX0_becomes_9 : decode cX0_becomes 9 = .ok (.getfield 9, 3) := by decide +kernel
theorem dX0_becomes_12 : decode cX0_becomes 12 = .ok (.iload_n 2, 1) := by decide +kernel
theorem dX0_becomes_13 : decode cX0_becomes 13 = .ok (.aload_n 1, 1) := by decide +kernel
theorem dX0_becomes_14 : decode cX0_becomes 14 = .ok (.getfield 9, 3) := by decide +kernel
theorem dX0_becomes_17 : decode cX0_becomes 17 = .ok (.iload_n 2, 1) := by decide +kernel
theorem dX0_becomes_18 : decode cX0_becomes 18 = .ok (.iaload, 1) := by decide +kernel
theorem dX0_becomes_19 : decode cX0_becomes 19 = .ok (.iastore, 1) := by decide +kernel
theorem dX0_becomes_20 : decode cX0_becomes 20 = .ok (.aload_n 0, 1) := by decide +kernel
theorem dX0_becomes_21 : decode cX0_becomes 21 = .ok (.getfield 15, 3) := by decide +kernel
theorem dX0_becomes_24 : decode cX0_becomes 24 = .ok (.iload_n 2, 1) := by decide +kernel
theorem dX0_becomes_25 : decode cX0_becomes 25 = .ok (.aload_n 1, 1) := by decide +kernel
theorem dX0_becomes_26 : decode cX0_becomes 26 = .ok (.getfield 15, 3) := by decide +kernel
theorem dX0_becomes_29 : decode cX0_becomes 29 = .ok (.iload_n 2, 1) := by decide +kernel
theorem dX0_becomes_30 : decode cX0_becomes 30 = .ok (.iaload, 1) := by decide +kernel
theorem dX0_becomes_31 : decode cX0_becomes 31 = .ok (.iastore, 1) := by decide +kernel
theorem dX0_becomes_32 : decode cX0_becomes 32 = .ok (.aload_n 0, 1) := by decide +kernel
theorem dX0_becomes_33 : decode cX0_becomes 33 = .ok (.getfield 18, 3) := by decide +kernel
theorem dX0_becomes_36 : decode cX0_becomes 36 = .ok (.iload_n 2, 1) := by decide +kernel
theorem dX0_becomes_37 : decode cX0_becomes 37 = .ok (.aload_n 1, 1) := by decide +kernel
theorem dX0_becomes_38 : decode cX0_becomes 38 = .ok (.getfield 18, 3) := by decide +kernel
theorem dX0_becomes_41 : decode cX0_becomes 41 = .ok (.iload_n 2, 1) := by decide +kernel
theorem dX0_becomes_42 : decode cX0_becomes 42 = .ok (.iaload, 1) := by decide +kernel
theorem dX0_becomes_43 : decode cX0_becomes 43 = .ok (.iastore, 1) := by decide +kernel
theorem dX0_becomes_44 : decode cX0_becomes 44 = .ok (.aload_n 0, 1) := by decide +kernel
theorem dX0_becomes_45 : decode cX0_becomes 45 = .ok (.getfield 21, 3) := by decide +kernel
theorem dX0_becomes_48 : decode cX0_becomes 48 = .ok (.iload_n 2, 1) := by decide +kernel
theorem dX0_becomes_49 : decode cX0_becomes 49 = .ok (.aload_n 1, 1) := by decide +kernel
theorem dX0_becomes_50 : decode cX0_becomes 50 = .ok (.getfield 21, 3) := by decide +kernel
theorem dX0_becomes_53 : decode cX0_becomes 53 = .ok (.iload_n 2, 1) := by decide +kernel
theorem dX0_becomes_54 : decode cX0_becomes 54 = .ok (.iaload, 1) := by decide +kernel
theorem dX0_becomes_55 : decode cX0_becomes 55 = .ok (.iastore, 1) := by decide +kernel
theorem dX0_becomes_56 : decode cX0_becomes 56 = .ok (.aload_n 0, 1) := by decide +kernel
theorem dX0_becomes_57 : decode cX0_becomes 57 = .ok (.getfield 24, 3) := by decide +kernel
theorem dX0_becomes_60 : decode cX0_becomes 60 = .ok (.iload_n 2, 1) := by decide +kernel
theorem dX0_becomes_61 : decode cX0_becomes 61 = .ok (.aload_n 1, 1) := by decide +kernel
theorem dX0_becomes_62 : decode cX0_becomes 62 = .ok (.getfield 24, 3) := by decide +kernel
theorem dX0_becomes_65 : decode cX0_becomes 65 = .ok (.iload_n 2, 1) := by decide +kernel
theorem dX0_becomes_66 : decode cX0_becomes 66 = .ok (.iaload, 1) := by decide +kernel
theorem dX0_becomes_67 : decode cX0_becomes 67 = .ok (.iastore, 1) := by decide +kernel
theorem dX0_becomes_68 : decode cX0_becomes 68 = .ok (.iinc 2 1, 3) := by decide +kernel
theorem dX0_becomes_71 : decode cX0_becomes 71 = .ok (.goto (-69), 3) := by decide +kernel
theorem dX0_becomes_74 : decode cX0_becomes 74 = .ok (.aload_n 0, 1) := by decide +kernel
theorem dX0_becomes_75 : decode cX0_becomes 75 = .ok (.aload_n 1, 1) := by decide +kernel
theorem dX0_becomes_76 : decode cX0_becomes 76 = .ok (.getfield 27, 3) := by decide +kernel
theorem dX0_becomes_79 : decode cX0_becomes 79 = .ok (.putfield 27, 3) := by decide +kernel
theorem dX0_becomes_82 : decode cX0_becomes 82 = .ok (.aload_n 0, 1) := by decide +kernel
theorem dX0_becomes_83 : decode cX0_becomes 83 = .ok (.aload_n 1, 1) := by decide +kernel
theorem dX0_becomes_84 : decode cX0_becomes 84 = .ok (.getfield 31, 3) := by decide +kernel
theorem dX0_becomes_87 : decode cX0_becomes 87 = .ok (.putfield 31, 3) := by decide +kernel
theorem dX0_becomes_90 : decode cX0_becomes 90 = .ok (.aload_n 0, 1) := by decide +kernel
theorem dX0_becomes_91 : decode cX0_becomes 91 = .ok (.aload_n 1, 1) := by decide +kernel
theorem dX0_becomes_92 : decode cX0_becomes 92 = .ok (.getfield 34, 3) := by decide +kernel
theorem dX0_becomes_95 : decode cX0_becomes 95 = .ok (.putfield 34, 3) := by decide +kernel
theorem dX0_becomes_98 : decode cX0_becomes 98 = .ok (.return_, 1) := by decide +kernel
theorem dX0_has_0 : decode cX0_has 0 = .ok (.iload_n 1, 1) := by decide +kernel
theorem dX0_has_1 : decode cX0_has 1 = .ok (.ifCond .lt 15, 3) := by decide +kernel
theorem dX0_has_4 : decode cX0_has 4 = .ok (.iload_n 1, 1) := by decide +kernel
theorem dX0_has_5 : decode cX0_has 5 = .ok (.aload_n 0, 1) := by decide +kernel
theorem dX0_has_6 : decode cX0_has 6 = .ok (.getfield 27, 3) := by decide +kernel
theorem dX0_has_9 : decode cX0_has 9 = .ok (.if_icmp .ge 7, 3) := by decide +kernel
theorem dX0_has_12 : decode cX0_has 12 = .ok (.iconst 1, 1) := by decide +kernel
theorem dX0_has_13 : decode cX0_has 13 = .ok (.goto 4, 3) := by decide +kernel
theorem dX0_has_16 : decode cX0_has 16 = .ok (.iconst 0, 1) := by decide +kernel
theorem dX0_has_17 : decode cX0_has 17 = .ok (.ireturn, 1) := by decide +kernel
theorem dX0_everybody_0 : decode cX0_everybody 0 = .ok (.iconst 1, 1) := by decide +kernel
theorem dX0_everybody_1 : decode cX0_everybody 1 = .ok (.aload_n 0, 1) := by decide +kernel
theorem dX0_everybody_2 : decode cX0_everybody 2 = .ok (.getfield 27, 3) := by decide +kernel
theorem dX0_everybody_5 : decode cX0_everybody 5 = .ok (.ishl, 1) := by decide +kernel
theorem dX0_everybody_6 : decode cX0_everybody 6 = .ok (.iconst 1, 1) := by decide +kernel
theorem dX0_everybody_7 : decode cX0_everybody 7 = .ok (.isub, 1) := by decide +kernel
theorem dX0_everybody_8 : decode cX0_everybody 8 = .ok (.ireturn, 1) := by decide +kernel
theorem dX0_comes_0 : decode cX0_comes 0 = .ok (.aload_n 0, 1) := by decide +kernel
theorem dX0_comes_1 : decode cX0_comes 1 = .ok (.getfield 27, 3) := by decide +kernel
theorem dX0_comes_4 : decode cX0_comes 4 = .ok (.bipush 7, 2) := by decide +kernel
theorem dX0_comes_6 : decode cX0_comes 6 = .ok (.if_icmp .ge 63, 3) := by decide +kernel
theorem dX0_comes_9 : decode cX0_comes 9 = .ok (.aload_n 0, 1) := by decide +kernel
theorem dX0_comes_10 : decode cX0_comes 10 = .ok (.getfield 9, 3) := by decide +kernel
theorem dX0_comes_13 : decode cX0_comes 13 = .ok (.aload_n 0, 1) := by decide +kernel
theorem dX0_comes_14 : decode cX0_comes 14 = .ok (.getfield 27, 3) := by decide +kernel
theorem dX0_comes_17 : decode cX0_comes 17 = .ok (.iload_n 1, 1) := by decide +kernel
theorem dX0_comes_18 : decode cX0_comes 18 = .ok (.iastore, 1) := by decide +kernel
theorem dX0_comes_19 : decode cX0_comes 19 = .ok (.aload_n 0, 1) := by decide +kernel
theorem dX0_comes_20 : decode cX0_comes 20 = .ok (.getfield 15, 3) := by decide +kernel
theorem dX0_comes_23 : decode cX0_comes 23 = .ok (.aload_n 0, 1) := by decide +kernel
theorem dX0_comes_24 : decode cX0_comes 24 = .ok (.getfield 27, 3) := by decide +kernel
theorem dX0_comes_27 : decode cX0_comes 27 = .ok (.iload_n 2, 1) := by decide +kernel
theorem dX0_comes_28 : decode cX0_comes 28 = .ok (.iastore, 1) := by decide +kernel
theorem dX0_comes_29 : decode cX0_comes 29 = .ok (.aload_n 0, 1) := by decide +kernel
theorem dX0_comes_30 : decode cX0_comes 30 = .ok (.getfield 18, 3) := by decide +kernel
theorem dX0_comes_33 : decode cX0_comes 33 = .ok (.aload_n 0, 1) := by decide +kernel
theorem dX0_comes_34 : decode cX0_comes 34 = .ok (.getfield 27, 3) := by decide +kernel
theorem dX0_comes_37 : decode cX0_comes 37 = .ok (.iconst 0, 1) := by decide +kernel
theorem dX0_comes_38 : decode cX0_comes 38 = .ok (.iastore, 1) := by decide +kernel
theorem dX0_comes_39 : decode cX0_comes 39 = .ok (.aload_n 0, 1) := by decide +kernel
theorem dX0_comes_40 : decode cX0_comes 40 = .ok (.getfield 21, 3) := by decide +kernel
theorem dX0_comes_43 : decode cX0_comes 43 = .ok (.aload_n 0, 1) := by decide +kernel
theorem dX0_comes_44 : decode cX0_comes 44 = .ok (.getfield 27, 3) := by decide +kernel
theorem dX0_comes_47 : decode cX0_comes 47 = .ok (.iconst 0, 1) := by decide +kernel
theorem dX0_comes_48 : decode cX0_comes 48 = .ok (.iastore, 1) := by decide +kernel
theorem dX0_comes_49 : decode cX0_comes 49 = .ok (.aload_n 0, 1) := by decide +kernel
theorem dX0_comes_50 : decode cX0_comes 50 = .ok (.getfield 24, 3) := by decide +kernel
theorem dX0_comes_53 : decode cX0_comes 53 = .ok (.aload_n 0, 1) := by decide +kernel
theorem dX0_comes_54 : decode cX0_comes 54 = .ok (.getfield 27, 3) := by decide +kernel
theorem dX0_comes_57 : decode cX0_comes 57 = .ok (.iconst 0, 1) := by decide +kernel
theorem dX0_comes_58 : decode cX0_comes 58 = .ok (.iastore, 1) := by decide +kernel
theorem dX0_comes_59 : decode cX0_comes 59 = .ok (.aload_n 0, 1) := by decide +kernel
theorem dX0_comes_60 : decode cX0_comes 60 = .ok (.dup, 1) := by decide +kernel
theorem dX0_comes_61 : decode cX0_comes 61 = .ok (.getfield 27, 3) := by decide +kernel
theorem dX0_comes_64 : decode cX0_comes 64 = .ok (.iconst 1, 1) := by decide +kernel
theorem dX0_comes_65 : decode cX0_comes 65 = .ok (.iadd, 1) := by decide +kernel
theorem dX0_comes_66 : decode cX0_comes 66 = .ok (.putfield 27, 3) := by decide +kernel
theorem dX0_comes_69 : decode cX0_comes 69 = .ok (.return_, 1) := by decide +kernel
theorem dX0_wantsNobody_0 : decode cX0_wantsNobody 0 = .ok (.aload_n 0, 1) := by decide +kernel
theorem dX0_wantsNobody_1 : decode cX0_wantsNobody 1 = .ok (.iload_n 1, 1) := by decide +kernel
theorem dX0_wantsNobody_2 : decode cX0_wantsNobody 2 = .ok (.invokevirtual 37, 3) := by decide +kernel
theorem dX0_wantsNobody_5 : decode cX0_wantsNobody 5 = .ok (.ifCond .eq 10, 3) := by decide +kernel
theorem dX0_wantsNobody_8 : decode cX0_wantsNobody 8 = .ok (.aload_n 0, 1) := by decide +kernel
theorem dX0_wantsNobody_9 : decode cX0_wantsNobody 9 = .ok (.getfield 24, 3) := by decide +kernel
theorem dX0_wantsNobody_12 : decode cX0_wantsNobody 12 = .ok (.iload_n 1, 1) := by decide +kernel
theorem dX0_wantsNobody_13 : decode cX0_wantsNobody 13 = .ok (.iconst 0, 1) := by decide +kernel
theorem dX0_wantsNobody_14 : decode cX0_wantsNobody 14 = .ok (.iastore, 1) := by decide +kernel
theorem dX0_wantsNobody_15 : decode cX0_wantsNobody 15 = .ok (.return_, 1) := by decide +kernel
theorem dX0_wantsToo_0 : decode cX0_wantsToo 0 = .ok (.aload_n 0, 1) := by decide +kernel
theorem dX0_wantsToo_1 : decode cX0_wantsToo 1 = .ok (.iload_n 1, 1) := by decide +kernel
theorem dX0_wantsToo_2 : decode cX0_wantsToo 2 = .ok (.invokevirtual 37, 3) := by decide +kernel
theorem dX0_wantsToo_5 : decode cX0_wantsToo 5 = .ok (.ifCond .eq 23, 3) := by decide +kernel
theorem dX0_wantsToo_8 : decode cX0_wantsToo 8 = .ok (.aload_n 0, 1) := by decide +kernel
theorem dX0_wantsToo_9 : decode cX0_wantsToo 9 = .ok (.iload_n 2, 1) := by decide +kernel
theorem dX0_wantsToo_10 : decode cX0_wantsToo 10 = .ok (.invokevirtual 37, 3) := by decide +kernel
theorem dX0_wantsToo_13 : decode cX0_wantsToo 13 = .ok (.ifCond .eq 15, 3) := by decide +kernel
theorem dX0_wantsToo_16 : decode cX0_wantsToo 16 = .ok (.aload_n 0, 1) := by decide +kernel
theorem dX0_wantsToo_17 : decode cX0_wantsToo 17 = .ok (.getfield 24, 3) := by decide +kernel
theorem dX0_wantsToo_20 : decode cX0_wantsToo 20 = .ok (.iload_n 1, 1) := by decide +kernel
theorem dX0_wantsToo_21 : decode cX0_wantsToo 21 = .ok (.dup2, 1) := by decide +kernel
theorem dX0_wantsToo_22 : decode cX0_wantsToo 22 = .ok (.iaload, 1) := by decide +kernel
theorem dX0_wantsToo_23 : decode cX0_wantsToo 23 = .ok (.iconst 1, 1) := by decide +kernel
theorem dX0_wantsToo_24 : decode cX0_wantsToo 24 = .ok (.iload_n 2, 1) := by decide +kernel
theorem dX0_wantsToo_25 : decode cX0_wantsToo 25 = .ok (.ishl, 1) := by decide +kernel
theorem dX0_wantsToo_26 : decode cX0_wantsToo 26 = .ok (.ior, 1) := by decide +kernel
theorem dX0_wantsToo_27 : decode cX0_wantsToo 27 = .ok (.iastore, 1) := by decide +kernel
theorem dX0_wantsToo_28 : decode cX0_wantsToo 28 = .ok (.return_, 1) := by decide +kernel
theorem dX0_skillsFrom_0 : decode cX0_skillsFrom 0 = .ok (.iload_n 3, 1) := by decide +kernel
theorem dX0_skillsFrom_1 : decode cX0_skillsFrom 1 = .ok (.istore 5, 2) := by decide +kernel
theorem dX0_skillsFrom_3 : decode cX0_skillsFrom 3 = .ok (.iconst 0, 1) := by decide +kernel
theorem dX0_skillsFrom_4 : decode cX0_skillsFrom 4 = .ok (.istore 6, 2) := by decide +kernel
theorem dX0_skillsFrom_6 : decode cX0_skillsFrom 6 = .ok (.iload 6, 2) := by decide +kernel
theorem dX0_skillsFrom_8 : decode cX0_skillsFrom 8 = .ok (.aload_n 0, 1) := by decide +kernel
theorem dX0_skillsFrom_9 : decode cX0_skillsFrom 9 = .ok (.getfield 27, 3) := by decide +kernel
theorem dX0_skillsFrom_12 : decode cX0_skillsFrom 12 = .ok (.if_icmp .ge 69, 3) := by decide +kernel
theorem dX0_skillsFrom_15 : decode cX0_skillsFrom 15 = .ok (.iload_n 1, 1) := by decide +kernel
theorem dX0_skillsFrom_16 : decode cX0_skillsFrom 16 = .ok (.ifCond .ne 9, 3) := by decide +kernel
theorem dX0_skillsFrom_19 : decode cX0_skillsFrom 19 = .ok (.iload 5, 2) := by decide +kernel
theorem dX0_skillsFrom_21 : decode cX0_skillsFrom 21 = .ok (.i2b, 1) := by decide +kernel
theorem dX0_skillsFrom_22 : decode cX0_skillsFrom 22 = .ok (.goto 16, 3) := by decide +kernel
theorem dX0_skillsFrom_25 : decode cX0_skillsFrom 25 = .ok (.iload_n 1, 1) := by decide +kernel
theorem dX0_skillsFrom_26 : decode cX0_skillsFrom 26 = .ok (.iconst 1, 1) := by decide +kernel
theorem dX0_skillsFrom_27 : decode cX0_skillsFrom 27 = .ok (.if_icmp .ne 9, 3) := by decide +kernel
theorem dX0_skillsFrom_30 : decode cX0_skillsFrom 30 = .ok (.iload 5, 2) := by decide +kernel
theorem dX0_skillsFrom_32 : decode cX0_skillsFrom 32 = .ok (.i2s, 1) := by decide +kernel
theorem dX0_skillsFrom_33 : decode cX0_skillsFrom 33 = .ok (.goto 5, 3) := by decide +kernel
theorem dX0_skillsFrom_36 : decode cX0_skillsFrom 36 = .ok (.iload 5, 2) := by decide +kernel
theorem dX0_skillsFrom_38 : decode cX0_skillsFrom 38 = .ok (.istore 7, 2) := by decide +kernel
theorem dX0_skillsFrom_40 : decode cX0_skillsFrom 40 = .ok (.aload_n 0, 1) := by decide +kernel
theorem dX0_skillsFrom_41 : decode cX0_skillsFrom 41 = .ok (.getfield 9, 3) := by decide +kernel
theorem dX0_skillsFrom_44 : decode cX0_skillsFrom 44 = .ok (.iload 6, 2) := by decide +kernel
theorem dX0_skillsFrom_46 : decode cX0_skillsFrom 46 = .ok (.iload 6, 2) := by decide +kernel
theorem dX0_skillsFrom_48 : decode cX0_skillsFrom 48 = .ok (.iload_n 2, 1) := by decide +kernel
theorem dX0_skillsFrom_49 : decode cX0_skillsFrom 49 = .ok (.if_icmp .ge 17, 3) := by decide +kernel
theorem dX0_skillsFrom_52 : decode cX0_skillsFrom 52 = .ok (.iconst 0, 1) := by decide +kernel
theorem dX0_skillsFrom_53 : decode cX0_skillsFrom 53 = .ok (.bipush 9, 2) := by decide +kernel
theorem dX0_skillsFrom_55 : decode cX0_skillsFrom 55 = .ok (.iload 7, 2) := by decide +kernel
theorem dX0_skillsFrom_57 : decode cX0_skillsFrom 57 = .ok (.invokestatic 41, 3) := by decide +kernel
theorem dX0_skillsFrom_60 : decode cX0_skillsFrom 60 = .ok (.invokestatic 47, 3) := by decide +kernel
theorem dX0_skillsFrom_63 : decode cX0_skillsFrom 63 = .ok (.goto 4, 3) := by decide +kernel
theorem dX0_skillsFrom_66 : decode cX0_skillsFrom 66 = .ok (.iconst 0, 1) := by decide +kernel
theorem dX0_skillsFrom_67 : decode cX0_skillsFrom 67 = .ok (.iastore, 1) := by decide +kernel
theorem dX0_skillsFrom_68 : decode cX0_skillsFrom 68 = .ok (.iload 5, 2) := by decide +kernel
theorem dX0_skillsFrom_70 : decode cX0_skillsFrom 70 = .ok (.iload 4, 2) := by decide +kernel
theorem dX0_skillsFrom_72 : decode cX0_skillsFrom 72 = .ok (.iadd, 1) := by decide +kernel
theorem dX0_skillsFrom_73 : decode cX0_skillsFrom 73 = .ok (.istore 5, 2) := by decide +kernel
theorem dX0_skillsFrom_75 : decode cX0_skillsFrom 75 = .ok (.iinc 6 1, 3) := by decide +kernel
theorem dX0_skillsFrom_78 : decode cX0_skillsFrom 78 = .ok (.goto (-72), 3) := by decide +kernel
theorem dX0_skillsFrom_81 : decode cX0_skillsFrom 81 = .ok (.return_, 1) := by decide +kernel
theorem dX0_turns_0 : decode cX0_turns 0 = .ok (.aload_n 0, 1) := by decide +kernel
theorem dX0_turns_1 : decode cX0_turns 1 = .ok (.iload_n 1, 1) := by decide +kernel
theorem dX0_turns_2 : decode cX0_turns 2 = .ok (.invokevirtual 37, 3) := by decide +kernel
theorem dX0_turns_5 : decode cX0_turns 5 = .ok (.ifCond .eq 16, 3) := by decide +kernel
theorem dX0_turns_8 : decode cX0_turns 8 = .ok (.aload_n 0, 1) := by decide +kernel
theorem dX0_turns_9 : decode cX0_turns 9 = .ok (.iload_n 2, 1) := by decide +kernel
theorem dX0_turns_10 : decode cX0_turns 10 = .ok (.invokevirtual 37, 3) := by decide +kernel
theorem dX0_turns_13 : decode cX0_turns 13 = .ok (.ifCond .eq 8, 3) := by decide +kernel
theorem dX0_turns_16 : decode cX0_turns 16 = .ok (.iload_n 1, 1) := by decide +kernel
theorem dX0_turns_17 : decode cX0_turns 17 = .ok (.iload_n 2, 1) := by decide +kernel
theorem dX0_turns_18 : decode cX0_turns 18 = .ok (.if_icmp .ne 5, 3) := by decide +kernel
theorem dX0_turns_21 : decode cX0_turns 21 = .ok (.iconst (-1), 1) := by decide +kernel
theorem dX0_turns_22 : decode cX0_turns 22 = .ok (.ireturn, 1) := by decide +kernel
theorem dX0_turns_23 : decode cX0_turns 23 = .ok (.aload_n 0, 1) := by decide +kernel
theorem dX0_turns_24 : decode cX0_turns 24 = .ok (.getfield 24, 3) := by decide +kernel
theorem dX0_turns_27 : decode cX0_turns 27 = .ok (.iload_n 1, 1) := by decide +kernel
theorem dX0_turns_28 : decode cX0_turns 28 = .ok (.dup2, 1) := by decide +kernel
theorem dX0_turns_29 : decode cX0_turns 29 = .ok (.iaload, 1) := by decide +kernel
theorem dX0_turns_30 : decode cX0_turns 30 = .ok (.iconst 1, 1) := by decide +kernel
theorem dX0_turns_31 : decode cX0_turns 31 = .ok (.iload_n 2, 1) := by decide +kernel
theorem dX0_turns_32 : decode cX0_turns 32 = .ok (.ishl, 1) := by decide +kernel
theorem dX0_turns_33 : decode cX0_turns 33 = .ok (.ixor, 1) := by decide +kernel
theorem dX0_turns_34 : decode cX0_turns 34 = .ok (.iastore, 1) := by decide +kernel
theorem dX0_turns_35 : decode cX0_turns 35 = .ok (.aload_n 0, 1) := by decide +kernel
theorem dX0_turns_36 : decode cX0_turns 36 = .ok (.getfield 24, 3) := by decide +kernel
theorem dX0_turns_39 : decode cX0_turns 39 = .ok (.iload_n 1, 1) := by decide +kernel
theorem dX0_turns_40 : decode cX0_turns 40 = .ok (.iaload, 1) := by decide +kernel
theorem dX0_turns_41 : decode cX0_turns 41 = .ok (.ireturn, 1) := by decide +kernel
theorem dX0_takesPills_0 : decode cX0_takesPills 0 = .ok (.aload_n 0, 1) := by decide +kernel
theorem dX0_takesPills_1 : decode cX0_takesPills 1 = .ok (.iload_n 1, 1) := by decide +kernel
theorem dX0_takesPills_2 : decode cX0_takesPills 2 = .ok (.invokevirtual 37, 3) := by decide +kernel
theorem dX0_takesPills_5 : decode cX0_takesPills 5 = .ok (.ifCond .eq 14, 3) := by decide +kernel
theorem dX0_takesPills_8 : decode cX0_takesPills 8 = .ok (.iload_n 2, 1) := by decide +kernel
theorem dX0_takesPills_9 : decode cX0_takesPills 9 = .ok (.iconst 1, 1) := by decide +kernel
theorem dX0_takesPills_10 : decode cX0_takesPills 10 = .ok (.if_icmp .lt 9, 3) := by decide +kernel
theorem dX0_takesPills_13 : decode cX0_takesPills 13 = .ok (.iload_n 2, 1) := by decide +kernel
theorem dX0_takesPills_14 : decode cX0_takesPills 14 = .ok (.bipush 9, 2) := by decide +kernel
theorem dX0_takesPills_16 : decode cX0_takesPills 16 = .ok (.if_icmp .le 5, 3) := by decide +kernel
theorem dX0_takesPills_19 : decode cX0_takesPills 19 = .ok (.iconst (-1), 1) := by decide +kernel
theorem dX0_takesPills_20 : decode cX0_takesPills 20 = .ok (.ireturn, 1) := by decide +kernel
theorem dX0_takesPills_21 : decode cX0_takesPills 21 = .ok (.aload_n 0, 1) := by decide +kernel
theorem dX0_takesPills_22 : decode cX0_takesPills 22 = .ok (.getfield 15, 3) := by decide +kernel
theorem dX0_takesPills_25 : decode cX0_takesPills 25 = .ok (.iload_n 1, 1) := by decide +kernel
theorem dX0_takesPills_26 : decode cX0_takesPills 26 = .ok (.iaload, 1) := by decide +kernel
theorem dX0_takesPills_27 : decode cX0_takesPills 27 = .ok (.iload_n 2, 1) := by decide +kernel
theorem dX0_takesPills_28 : decode cX0_takesPills 28 = .ok (.iadd, 1) := by decide +kernel
theorem dX0_takesPills_29 : decode cX0_takesPills 29 = .ok (.bipush 9, 2) := by decide +kernel
theorem dX0_takesPills_31 : decode cX0_takesPills 31 = .ok (.if_icmp .le 6, 3) := by decide +kernel
theorem dX0_takesPills_34 : decode cX0_takesPills 34 = .ok (.bipush (-2), 2) := by decide +kernel
theorem dX0_takesPills_36 : decode cX0_takesPills 36 = .ok (.ireturn, 1) := by decide +kernel
theorem dX0_takesPills_37 : decode cX0_takesPills 37 = .ok (.aload_n 0, 1) := by decide +kernel
theorem dX0_takesPills_38 : decode cX0_takesPills 38 = .ok (.getfield 15, 3) := by decide +kernel
theorem dX0_takesPills_41 : decode cX0_takesPills 41 = .ok (.iload_n 1, 1) := by decide +kernel
theorem dX0_takesPills_42 : decode cX0_takesPills 42 = .ok (.dup2, 1) := by decide +kernel
theorem dX0_takesPills_43 : decode cX0_takesPills 43 = .ok (.iaload, 1) := by decide +kernel
theorem dX0_takesPills_44 : decode cX0_takesPills 44 = .ok (.iload_n 2, 1) := by decide +kernel
theorem dX0_takesPills_45 : decode cX0_takesPills 45 = .ok (.iadd, 1) := by decide +kernel
theorem dX0_takesPills_46 : decode cX0_takesPills 46 = .ok (.iastore, 1) := by decide +kernel
theorem dX0_takesPills_47 : decode cX0_takesPills 47 = .ok (.aload_n 0, 1) := by decide +kernel
theorem dX0_takesPills_48 : decode cX0_takesPills 48 = .ok (.getfield 15, 3) := by decide +kernel
theorem dX0_takesPills_51 : decode cX0_takesPills 51 = .ok (.iload_n 1, 1) := by decide +kernel
theorem dX0_takesPills_52 : decode cX0_takesPills 52 = .ok (.iaload, 1) := by decide +kernel
theorem dX0_takesPills_53 : decode cX0_takesPills 53 = .ok (.ireturn, 1) := by decide +kernel
theorem dX0_becomesSkilled_0 : decode cX0_becomesSkilled 0 = .ok (.aload_n 0, 1) := by decide +kernel
theorem dX0_becomesSkilled_1 : decode cX0_becomesSkilled 1 = .ok (.iload_n 1, 1) := by decide +kernel
theorem dX0_becomesSkilled_2 : decode cX0_becomesSkilled 2 = .ok (.invokevirtual 37, 3) := by decide +kernel
theorem dX0_becomesSkilled_5 : decode cX0_becomesSkilled 5 = .ok (.ifCond .eq 13, 3) := by decide +kernel
theorem dX0_becomesSkilled_8 : decode cX0_becomesSkilled 8 = .ok (.iload_n 2, 1) := by decide +kernel
theorem dX0_becomesSkilled_9 : decode cX0_becomesSkilled 9 = .ok (.ifCond .lt 9, 3) := by decide +kernel
theorem dX0_becomesSkilled_12 : decode cX0_becomesSkilled 12 = .ok (.iload_n 2, 1) := by decide +kernel
theorem dX0_becomesSkilled_13 : decode cX0_becomesSkilled 13 = .ok (.bipush 9, 2) := by decide +kernel
theorem dX0_becomesSkilled_15 : decode cX0_becomesSkilled 15 = .ok (.if_icmp .le 5, 3) := by decide +kernel
theorem dX0_becomesSkilled_18 : decode cX0_becomesSkilled 18 = .ok (.iconst (-1), 1) := by decide +kernel
theorem dX0_becomesSkilled_19 : decode cX0_becomesSkilled 19 = .ok (.ireturn, 1) := by decide +kernel
theorem dX0_becomesSkilled_20 : decode cX0_becomesSkilled 20 = .ok (.aload_n 0, 1) := by decide +kernel
theorem dX0_becomesSkilled_21 : decode cX0_becomesSkilled 21 = .ok (.getfield 9, 3) := by decide +kernel
theorem dX0_becomesSkilled_24 : decode cX0_becomesSkilled 24 = .ok (.iload_n 1, 1) := by decide +kernel
theorem dX0_becomesSkilled_25 : decode cX0_becomesSkilled 25 = .ok (.iaload, 1) := by decide +kernel
theorem dX0_becomesSkilled_26 : decode cX0_becomesSkilled 26 = .ok (.istore_n 3, 1) := by decide +kernel
theorem dX0_becomesSkilled_27 : decode cX0_becomesSkilled 27 = .ok (.aload_n 0, 1) := by decide +kernel
theorem dX0_becomesSkilled_28 : decode cX0_becomesSkilled 28 = .ok (.getfield 9, 3) := by decide +kernel
theorem dX0_becomesSkilled_31 : decode cX0_becomesSkilled 31 = .ok (.iload_n 1, 1) := by decide +kernel
theorem dX0_becomesSkilled_32 : decode cX0_becomesSkilled 32 = .ok (.iload_n 2, 1) := by decide +kernel
theorem dX0_becomesSkilled_33 : decode cX0_becomesSkilled 33 = .ok (.iastore, 1) := by decide +kernel
theorem dX0_becomesSkilled_34 : decode cX0_becomesSkilled 34 = .ok (.iload_n 3, 1) := by decide +kernel
theorem dX0_becomesSkilled_35 : decode cX0_becomesSkilled 35 = .ok (.iload_n 2, 1) := by decide +kernel
theorem dX0_becomesSkilled_36 : decode cX0_becomesSkilled 36 = .ok (.if_icmp .ne 8, 3) := by decide +kernel
theorem dX0_becomesSkilled_39 : decode cX0_becomesSkilled 39 = .ok (.bipush (-2), 2) := by decide +kernel
theorem dX0_becomesSkilled_41 : decode cX0_becomesSkilled 41 = .ok (.goto 7, 3) := by decide +kernel
theorem dX0_becomesSkilled_44 : decode cX0_becomesSkilled 44 = .ok (.bipush 10, 2) := by decide +kernel
theorem dX0_becomesSkilled_46 : decode cX0_becomesSkilled 46 = .ok (.iload_n 3, 1) := by decide +kernel
theorem dX0_becomesSkilled_47 : decode cX0_becomesSkilled 47 = .ok (.iadd, 1) := by decide +kernel
theorem dX0_becomesSkilled_48 : decode cX0_becomesSkilled 48 = .ok (.ireturn, 1) := by decide +kernel
theorem dX0_isRidOf_0 : decode cX0_isRidOf 0 = .ok (.aload_n 0, 1) := by decide +kernel
theorem dX0_isRidOf_1 : decode cX0_isRidOf 1 = .ok (.iload_n 1, 1) := by decide +kernel
theorem dX0_isRidOf_2 : decode cX0_isRidOf 2 = .ok (.invokevirtual 37, 3) := by decide +kernel
theorem dX0_isRidOf_5 : decode cX0_isRidOf 5 = .ok (.ifCond .ne 5, 3) := by decide +kernel
theorem dX0_isRidOf_8 : decode cX0_isRidOf 8 = .ok (.iconst (-1), 1) := by decide +kernel
theorem dX0_isRidOf_9 : decode cX0_isRidOf 9 = .ok (.ireturn, 1) := by decide +kernel
theorem dX0_isRidOf_10 : decode cX0_isRidOf 10 = .ok (.aload_n 0, 1) := by decide +kernel
theorem dX0_isRidOf_11 : decode cX0_isRidOf 11 = .ok (.invokevirtual 50, 3) := by decide +kernel
theorem dX0_isRidOf_14 : decode cX0_isRidOf 14 = .ok (.istore_n 2, 1) := by decide +kernel
theorem dX0_isRidOf_15 : decode cX0_isRidOf 15 = .ok (.aload_n 0, 1) := by decide +kernel
theorem dX0_isRidOf_16 : decode cX0_isRidOf 16 = .ok (.getfield 24, 3) := by decide +kernel
theorem dX0_isRidOf_19 : decode cX0_isRidOf 19 = .ok (.iload_n 1, 1) := by decide +kernel
theorem dX0_isRidOf_20 : decode cX0_isRidOf 20 = .ok (.iconst 0, 1) := by decide +kernel
theorem dX0_isRidOf_21 : decode cX0_isRidOf 21 = .ok (.iastore, 1) := by decide +kernel
theorem dX0_isRidOf_22 : decode cX0_isRidOf 22 = .ok (.iconst 0, 1) := by decide +kernel
theorem dX0_isRidOf_23 : decode cX0_isRidOf 23 = .ok (.istore_n 3, 1) := by decide +kernel
theorem dX0_isRidOf_24 : decode cX0_isRidOf 24 = .ok (.iload_n 3, 1) := by decide +kernel
theorem dX0_isRidOf_25 : decode cX0_isRidOf 25 = .ok (.aload_n 0, 1) := by decide +kernel
theorem dX0_isRidOf_26 : decode cX0_isRidOf 26 = .ok (.getfield 27, 3) := by decide +kernel
theorem dX0_isRidOf_29 : decode cX0_isRidOf 29 = .ok (.if_icmp .ge 23, 3) := by decide +kernel
theorem dX0_isRidOf_32 : decode cX0_isRidOf 32 = .ok (.aload_n 0, 1) := by decide +kernel
theorem dX0_isRidOf_33 : decode cX0_isRidOf 33 = .ok (.getfield 24, 3) := by decide +kernel
theorem dX0_isRidOf_36 : decode cX0_isRidOf 36 = .ok (.iload_n 3, 1) := by decide +kernel
theorem dX0_isRidOf_37 : decode cX0_isRidOf 37 = .ok (.dup2, 1) := by decide +kernel
theorem dX0_isRidOf_38 : decode cX0_isRidOf 38 = .ok (.iaload, 1) := by decide +kernel
theorem dX0_isRidOf_39 : decode cX0_isRidOf 39 = .ok (.iconst 1, 1) := by decide +kernel
theorem dX0_isRidOf_40 : decode cX0_isRidOf 40 = .ok (.iload_n 1, 1) := by decide +kernel
theorem dX0_isRidOf_41 : decode cX0_isRidOf 41 = .ok (.ishl, 1) := by decide +kernel
theorem dX0_isRidOf_42 : decode cX0_isRidOf 42 = .ok (.iconst (-1), 1) := by decide +kernel
theorem dX0_isRidOf_43 : decode cX0_isRidOf 43 = .ok (.ixor, 1) := by decide +kernel
theorem dX0_isRidOf_44 : decode cX0_isRidOf 44 = .ok (.iand, 1) := by decide +kernel
theorem dX0_isRidOf_45 : decode cX0_isRidOf 45 = .ok (.iastore, 1) := by decide +kernel
theorem dX0_isRidOf_46 : decode cX0_isRidOf 46 = .ok (.iinc 3 1, 3) := by decide +kernel
theorem dX0_isRidOf_49 : decode cX0_isRidOf 49 = .ok (.goto (-25), 3) := by decide +kernel
theorem dX0_isRidOf_52 : decode cX0_isRidOf 52 = .ok (.iload_n 2, 1) := by decide +kernel
theorem dX0_isRidOf_53 : decode cX0_isRidOf 53 = .ok (.aload_n 0, 1) := by decide +kernel
theorem dX0_isRidOf_54 : decode cX0_isRidOf 54 = .ok (.invokevirtual 50, 3) := by decide +kernel
theorem dX0_isRidOf_57 : decode cX0_isRidOf 57 = .ok (.isub, 1) := by decide +kernel
theorem dX0_isRidOf_58 : decode cX0_isRidOf 58 = .ok (.istore_n 3, 1) := by decide +kernel
theorem dX0_isRidOf_59 : decode cX0_isRidOf 59 = .ok (.iload_n 3, 1) := by decide +kernel
theorem dX0_isRidOf_60 : decode cX0_isRidOf 60 = .ok (.ifCond .ne 8, 3) := by decide +kernel
theorem dX0_isRidOf_63 : decode cX0_isRidOf 63 = .ok (.bipush (-2), 2) := by decide +kernel
theorem dX0_isRidOf_65 : decode cX0_isRidOf 65 = .ok (.goto 4, 3) := by decide +kernel
theorem dX0_isRidOf_68 : decode cX0_isRidOf 68 = .ok (.iload_n 3, 1) := by decide +kernel
theorem dX0_isRidOf_69 : decode cX0_isRidOf 69 = .ok (.ireturn, 1) := by decide +kernel
theorem dX0_wanting_0 : decode cX0_wanting 0 = .ok (.iconst 0, 1) := by decide +kernel
theorem dX0_wanting_1 : decode cX0_wanting 1 = .ok (.istore_n 2, 1) := by decide +kernel
theorem dX0_wanting_2 : decode cX0_wanting 2 = .ok (.iconst 0, 1) := by decide +kernel
theorem dX0_wanting_3 : decode cX0_wanting 3 = .ok (.istore_n 3, 1) := by decide +kernel
theorem dX0_wanting_4 : decode cX0_wanting 4 = .ok (.iload_n 3, 1) := by decide +kernel
theorem dX0_wanting_5 : decode cX0_wanting 5 = .ok (.aload_n 0, 1) := by decide +kernel
theorem dX0_wanting_6 : decode cX0_wanting 6 = .ok (.getfield 27, 3) := by decide +kernel
theorem dX0_wanting_9 : decode cX0_wanting 9 = .ok (.if_icmp .ge 24, 3) := by decide +kernel
theorem dX0_wanting_12 : decode cX0_wanting 12 = .ok (.iload_n 2, 1) := by decide +kernel
theorem dX0_wanting_13 : decode cX0_wanting 13 = .ok (.aload_n 0, 1) := by decide +kernel
theorem dX0_wanting_14 : decode cX0_wanting 14 = .ok (.getfield 24, 3) := by decide +kernel
theorem dX0_wanting_17 : decode cX0_wanting 17 = .ok (.iload_n 3, 1) := by decide +kernel
theorem dX0_wanting_18 : decode cX0_wanting 18 = .ok (.iaload, 1) := by decide +kernel
theorem dX0_wanting_19 : decode cX0_wanting 19 = .ok (.iload_n 1, 1) := by decide +kernel
theorem dX0_wanting_20 : decode cX0_wanting 20 = .ok (.ishr, 1) := by decide +kernel
theorem dX0_wanting_21 : decode cX0_wanting 21 = .ok (.iconst 1, 1) := by decide +kernel
theorem dX0_wanting_22 : decode cX0_wanting 22 = .ok (.iand, 1) := by decide +kernel
theorem dX0_wanting_23 : decode cX0_wanting 23 = .ok (.iload_n 3, 1) := by decide +kernel
theorem dX0_wanting_24 : decode cX0_wanting 24 = .ok (.ishl, 1) := by decide +kernel
theorem dX0_wanting_25 : decode cX0_wanting 25 = .ok (.ior, 1) := by decide +kernel
theorem dX0_wanting_26 : decode cX0_wanting 26 = .ok (.istore_n 2, 1) := by decide +kernel
theorem dX0_wanting_27 : decode cX0_wanting 27 = .ok (.iinc 3 1, 3) := by decide +kernel
theorem dX0_wanting_30 : decode cX0_wanting 30 = .ok (.goto (-26), 3) := by decide +kernel
theorem dX0_wanting_33 : decode cX0_wanting 33 = .ok (.iload_n 2, 1) := by decide +kernel
theorem dX0_wanting_34 : decode cX0_wanting 34 = .ok (.ireturn, 1) := by decide +kernel
theorem dX0_wantedBy_0 : decode cX0_wantedBy 0 = .ok (.iconst 0, 1) := by decide +kernel
theorem dX0_wantedBy_1 : decode cX0_wantedBy 1 = .ok (.istore_n 2, 1) := by decide +kernel
theorem dX0_wantedBy_2 : decode cX0_wantedBy 2 = .ok (.iconst 0, 1) := by decide +kernel
theorem dX0_wantedBy_3 : decode cX0_wantedBy 3 = .ok (.istore_n 3, 1) := by decide +kernel
theorem dX0_wantedBy_4 : decode cX0_wantedBy 4 = .ok (.iload_n 3, 1) := by decide +kernel
theorem dX0_wantedBy_5 : decode cX0_wantedBy 5 = .ok (.aload_n 0, 1) := by decide +kernel
theorem dX0_wantedBy_6 : decode cX0_wantedBy 6 = .ok (.getfield 27, 3) := by decide +kernel
theorem dX0_wantedBy_9 : decode cX0_wantedBy 9 = .ok (.if_icmp .ge 30, 3) := by decide +kernel
theorem dX0_wantedBy_12 : decode cX0_wantedBy 12 = .ok (.iload_n 2, 1) := by decide +kernel
theorem dX0_wantedBy_13 : decode cX0_wantedBy 13 = .ok (.iload_n 1, 1) := by decide +kernel
theorem dX0_wantedBy_14 : decode cX0_wantedBy 14 = .ok (.iload_n 3, 1) := by decide +kernel
theorem dX0_wantedBy_15 : decode cX0_wantedBy 15 = .ok (.ishr, 1) := by decide +kernel
theorem dX0_wantedBy_16 : decode cX0_wantedBy 16 = .ok (.iconst 1, 1) := by decide +kernel
theorem dX0_wantedBy_17 : decode cX0_wantedBy 17 = .ok (.iand, 1) := by decide +kernel
theorem dX0_wantedBy_18 : decode cX0_wantedBy 18 = .ok (.ifCond .eq 12, 3) := by decide +kernel
theorem dX0_wantedBy_21 : decode cX0_wantedBy 21 = .ok (.aload_n 0, 1) := by decide +kernel
theorem dX0_wantedBy_22 : decode cX0_wantedBy 22 = .ok (.getfield 24, 3) := by decide +kernel
theorem dX0_wantedBy_25 : decode cX0_wantedBy 25 = .ok (.iload_n 3, 1) := by decide +kernel
theorem dX0_wantedBy_26 : decode cX0_wantedBy 26 = .ok (.iaload, 1) := by decide +kernel
theorem dX0_wantedBy_27 : decode cX0_wantedBy 27 = .ok (.goto 4, 3) := by decide +kernel
theorem dX0_wantedBy_30 : decode cX0_wantedBy 30 = .ok (.iconst 0, 1) := by decide +kernel
theorem dX0_wantedBy_31 : decode cX0_wantedBy 31 = .ok (.ior, 1) := by decide +kernel
theorem dX0_wantedBy_32 : decode cX0_wantedBy 32 = .ok (.istore_n 2, 1) := by decide +kernel
theorem dX0_wantedBy_33 : decode cX0_wantedBy 33 = .ok (.iinc 3 1, 3) := by decide +kernel
theorem dX0_wantedBy_36 : decode cX0_wantedBy 36 = .ok (.goto (-32), 3) := by decide +kernel
theorem dX0_wantedBy_39 : decode cX0_wantedBy 39 = .ok (.iload_n 2, 1) := by decide +kernel
theorem dX0_wantedBy_40 : decode cX0_wantedBy 40 = .ok (.ireturn, 1) := by decide +kernel
theorem dX0_wantingSome_0 : decode cX0_wantingSome 0 = .ok (.iconst 0, 1) := by decide +kernel
theorem dX0_wantingSome_1 : decode cX0_wantingSome 1 = .ok (.istore_n 2, 1) := by decide +kernel
theorem dX0_wantingSome_2 : decode cX0_wantingSome 2 = .ok (.iconst 0, 1) := by decide +kernel
theorem dX0_wantingSome_3 : decode cX0_wantingSome 3 = .ok (.istore_n 3, 1) := by decide +kernel
theorem dX0_wantingSome_4 : decode cX0_wantingSome 4 = .ok (.iload_n 3, 1) := by decide +kernel
theorem dX0_wantingSome_5 : decode cX0_wantingSome 5 = .ok (.aload_n 0, 1) := by decide +kernel
theorem dX0_wantingSome_6 : decode cX0_wantingSome 6 = .ok (.getfield 27, 3) := by decide +kernel
theorem dX0_wantingSome_9 : decode cX0_wantingSome 9 = .ok (.if_icmp .ge 30, 3) := by decide +kernel
theorem dX0_wantingSome_12 : decode cX0_wantingSome 12 = .ok (.iload_n 2, 1) := by decide +kernel
theorem dX0_wantingSome_13 : decode cX0_wantingSome 13 = .ok (.aload_n 0, 1) := by decide +kernel
theorem dX0_wantingSome_14 : decode cX0_wantingSome 14 = .ok (.getfield 24, 3) := by decide +kernel
theorem dX0_wantingSome_17 : decode cX0_wantingSome 17 = .ok (.iload_n 3, 1) := by decide +kernel
theorem dX0_wantingSome_18 : decode cX0_wantingSome 18 = .ok (.iaload, 1) := by decide +kernel
theorem dX0_wantingSome_19 : decode cX0_wantingSome 19 = .ok (.iload_n 1, 1) := by decide +kernel
theorem dX0_wantingSome_20 : decode cX0_wantingSome 20 = .ok (.iand, 1) := by decide +kernel
theorem dX0_wantingSome_21 : decode cX0_wantingSome 21 = .ok (.ifCond .eq 9, 3) := by decide +kernel
theorem dX0_wantingSome_24 : decode cX0_wantingSome 24 = .ok (.iconst 1, 1) := by decide +kernel
theorem dX0_wantingSome_25 : decode cX0_wantingSome 25 = .ok (.iload_n 3, 1) := by decide +kernel
theorem dX0_wantingSome_26 : decode cX0_wantingSome 26 = .ok (.ishl, 1) := by decide +kernel
theorem dX0_wantingSome_27 : decode cX0_wantingSome 27 = .ok (.goto 4, 3) := by decide +kernel
theorem dX0_wantingSome_30 : decode cX0_wantingSome 30 = .ok (.iconst 0, 1) := by decide +kernel
theorem dX0_wantingSome_31 : decode cX0_wantingSome 31 = .ok (.ior, 1) := by decide +kernel
theorem dX0_wantingSome_32 : decode cX0_wantingSome 32 = .ok (.istore_n 2, 1) := by decide +kernel
theorem dX0_wantingSome_33 : decode cX0_wantingSome 33 = .ok (.iinc 3 1, 3) := by decide +kernel
theorem dX0_wantingSome_36 : decode cX0_wantingSome 36 = .ok (.goto (-32), 3) := by decide +kernel
theorem dX0_wantingSome_39 : decode cX0_wantingSome 39 = .ok (.iload_n 2, 1) := by decide +kernel
theorem dX0_wantingSome_40 : decode cX0_wantingSome 40 = .ok (.ireturn, 1) := by decide +kernel
theorem dX0_unserved_0 : decode cX0_unserved 0 = .ok (.aload_n 0, 1) := by decide +kernel
theorem dX0_unserved_1 : decode cX0_unserved 1 = .ok (.aload_n 0, 1) := by decide +kernel
theorem dX0_unserved_2 : decode cX0_unserved 2 = .ok (.invokevirtual 54, 3) := by decide +kernel
theorem dX0_unserved_5 : decode cX0_unserved 5 = .ok (.invokevirtual 57, 3) := by decide +kernel
theorem dX0_unserved_8 : decode cX0_unserved 8 = .ok (.aload_n 0, 1) := by decide +kernel
theorem dX0_unserved_9 : decode cX0_unserved 9 = .ok (.iload_n 1, 1) := by decide +kernel
theorem dX0_unserved_10 : decode cX0_unserved 10 = .ok (.invokevirtual 57, 3) := by decide +kernel
theorem dX0_unserved_13 : decode cX0_unserved 13 = .ok (.iconst (-1), 1) := by decide +kernel
theorem dX0_unserved_14 : decode cX0_unserved 14 = .ok (.ixor, 1) := by decide +kernel
theorem dX0_unserved_15 : decode cX0_unserved 15 = .ok (.iand, 1) := by decide +kernel
theorem dX0_unserved_16 : decode cX0_unserved 16 = .ok (.invokestatic 61, 3) := by decide +kernel
theorem dX0_unserved_19 : decode cX0_unserved 19 = .ok (.ireturn, 1) := by decide +kernel
theorem dX0_areFriends_0 : decode cX0_areFriends 0 = .ok (.iconst 0, 1) := by decide +kernel
theorem dX0_areFriends_1 : decode cX0_areFriends 1 = .ok (.istore_n 2, 1) := by decide +kernel
theorem dX0_areFriends_2 : decode cX0_areFriends 2 = .ok (.iload_n 2, 1) := by decide +kernel
theorem dX0_areFriends_3 : decode cX0_areFriends 3 = .ok (.aload_n 0, 1) := by decide +kernel
theorem dX0_areFriends_4 : decode cX0_areFriends 4 = .ok (.getfield 27, 3) := by decide +kernel
theorem dX0_areFriends_7 : decode cX0_areFriends 7 = .ok (.if_icmp .ge 38, 3) := by decide +kernel
theorem dX0_areFriends_10 : decode cX0_areFriends 10 = .ok (.iload_n 1, 1) := by decide +kernel
theorem dX0_areFriends_11 : decode cX0_areFriends 11 = .ok (.iload_n 2, 1) := by decide +kernel
theorem dX0_areFriends_12 : decode cX0_areFriends 12 = .ok (.ishr, 1) := by decide +kernel
theorem dX0_areFriends_13 : decode cX0_areFriends 13 = .ok (.iconst 1, 1) := by decide +kernel
theorem dX0_areFriends_14 : decode cX0_areFriends 14 = .ok (.iand, 1) := by decide +kernel
theorem dX0_areFriends_15 : decode cX0_areFriends 15 = .ok (.ifCond .eq 24, 3) := by decide +kernel
theorem dX0_areFriends_18 : decode cX0_areFriends 18 = .ok (.iload_n 1, 1) := by decide +kernel
theorem dX0_areFriends_19 : decode cX0_areFriends 19 = .ok (.aload_n 0, 1) := by decide +kernel
theorem dX0_areFriends_20 : decode cX0_areFriends 20 = .ok (.getfield 24, 3) := by decide +kernel
theorem dX0_areFriends_23 : decode cX0_areFriends 23 = .ok (.iload_n 2, 1) := by decide +kernel
theorem dX0_areFriends_24 : decode cX0_areFriends 24 = .ok (.iaload, 1) := by decide +kernel
theorem dX0_areFriends_25 : decode cX0_areFriends 25 = .ok (.iconst (-1), 1) := by decide +kernel
theorem dX0_areFriends_26 : decode cX0_areFriends 26 = .ok (.ixor, 1) := by decide +kernel
theorem dX0_areFriends_27 : decode cX0_areFriends 27 = .ok (.iand, 1) := by decide +kernel
theorem dX0_areFriends_28 : decode cX0_areFriends 28 = .ok (.iconst 1, 1) := by decide +kernel
theorem dX0_areFriends_29 : decode cX0_areFriends 29 = .ok (.iload_n 2, 1) := by decide +kernel
theorem dX0_areFriends_30 : decode cX0_areFriends 30 = .ok (.ishl, 1) := by decide +kernel
theorem dX0_areFriends_31 : decode cX0_areFriends 31 = .ok (.iconst (-1), 1) := by decide +kernel
theorem dX0_areFriends_32 : decode cX0_areFriends 32 = .ok (.ixor, 1) := by decide +kernel
theorem dX0_areFriends_33 : decode cX0_areFriends 33 = .ok (.iand, 1) := by decide +kernel
theorem dX0_areFriends_34 : decode cX0_areFriends 34 = .ok (.ifCond .eq 5, 3) := by decide +kernel
theorem dX0_areFriends_37 : decode cX0_areFriends 37 = .ok (.iconst 0, 1) := by decide +kernel
theorem dX0_areFriends_38 : decode cX0_areFriends 38 = .ok (.ireturn, 1) := by decide +kernel
theorem dX0_areFriends_39 : decode cX0_areFriends 39 = .ok (.iinc 2 1, 3) := by decide +kernel
theorem dX0_areFriends_42 : decode cX0_areFriends 42 = .ok (.goto (-40), 3) := by decide +kernel
theorem dX0_areFriends_45 : decode cX0_areFriends 45 = .ok (.iconst 1, 1) := by decide +kernel
theorem dX0_areFriends_46 : decode cX0_areFriends 46 = .ok (.ireturn, 1) := by decide +kernel
theorem dX0_passMorning_0 : decode cX0_passMorning 0 = .ok (.aload_n 0, 1) := by decide +kernel
theorem dX0_passMorning_1 : decode cX0_passMorning 1 = .ok (.sipush 9999, 3) := by decide +kernel
theorem dX0_passMorning_4 : decode cX0_passMorning 4 = .ok (.aload_n 0, 1) := by decide +kernel
theorem dX0_passMorning_5 : decode cX0_passMorning 5 = .ok (.getfield 34, 3) := by decide +kernel
theorem dX0_passMorning_8 : decode cX0_passMorning 8 = .ok (.aload_n 0, 1) := by decide +kernel
theorem dX0_passMorning_9 : decode cX0_passMorning 9 = .ok (.iload_n 1, 1) := by decide +kernel
theorem dX0_passMorning_10 : decode cX0_passMorning 10 = .ok (.invokevirtual 66, 3) := by decide +kernel
theorem dX0_passMorning_13 : decode cX0_passMorning 13 = .ok (.iadd, 1) := by decide +kernel
theorem dX0_passMorning_14 : decode cX0_passMorning 14 = .ok (.invokestatic 41, 3) := by decide +kernel
theorem dX0_passMorning_17 : decode cX0_passMorning 17 = .ok (.putfield 34, 3) := by decide +kernel
theorem dX0_passMorning_20 : decode cX0_passMorning 20 = .ok (.aload_n 0, 1) := by decide +kernel
theorem dX0_passMorning_21 : decode cX0_passMorning 21 = .ok (.dup, 1) := by decide +kernel
theorem dX0_passMorning_22 : decode cX0_passMorning 22 = .ok (.getfield 31, 3) := by decide +kernel
theorem dX0_passMorning_25 : decode cX0_passMorning 25 = .ok (.iconst 1, 1) := by decide +kernel
theorem dX0_passMorning_26 : decode cX0_passMorning 26 = .ok (.iadd, 1) := by decide +kernel
theorem dX0_passMorning_27 : decode cX0_passMorning 27 = .ok (.putfield 31, 3) := by decide +kernel
theorem dX0_passMorning_30 : decode cX0_passMorning 30 = .ok (.iconst 0, 1) := by decide +kernel
theorem dX0_passMorning_31 : decode cX0_passMorning 31 = .ok (.istore_n 2, 1) := by decide +kernel
theorem dX0_passMorning_32 : decode cX0_passMorning 32 = .ok (.iload_n 2, 1) := by decide +kernel
theorem dX0_passMorning_33 : decode cX0_passMorning 33 = .ok (.aload_n 0, 1) := by decide +kernel
theorem dX0_passMorning_34 : decode cX0_passMorning 34 = .ok (.getfield 27, 3) := by decide +kernel
theorem dX0_passMorning_37 : decode cX0_passMorning 37 = .ok (.if_icmp .ge 84, 3) := by decide +kernel
theorem dX0_passMorning_40 : decode cX0_passMorning 40 = .ok (.iload_n 1, 1) := by decide +kernel
theorem dX0_passMorning_41 : decode cX0_passMorning 41 = .ok (.iload_n 2, 1) := by decide +kernel
theorem dX0_passMorning_42 : decode cX0_passMorning 42 = .ok (.ishr, 1) := by decide +kernel
theorem dX0_passMorning_43 : decode cX0_passMorning 43 = .ok (.iconst 1, 1) := by decide +kernel
theorem dX0_passMorning_44 : decode cX0_passMorning 44 = .ok (.iand, 1) := by decide +kernel
theorem dX0_passMorning_45 : decode cX0_passMorning 45 = .ok (.ifCond .eq 33, 3) := by decide +kernel
theorem dX0_passMorning_48 : decode cX0_passMorning 48 = .ok (.aload_n 0, 1) := by decide +kernel
theorem dX0_passMorning_49 : decode cX0_passMorning 49 = .ok (.getfield 21, 3) := by decide +kernel
theorem dX0_passMorning_52 : decode cX0_passMorning 52 = .ok (.iload_n 2, 1) := by decide +kernel
theorem dX0_passMorning_53 : decode cX0_passMorning 53 = .ok (.sipush 999, 3) := by decide +kernel
theorem dX0_passMorning_56 : decode cX0_passMorning 56 = .ok (.aload_n 0, 1) := by decide +kernel
theorem dX0_passMorning_57 : decode cX0_passMorning 57 = .ok (.getfield 21, 3) := by decide +kernel
theorem dX0_passMorning_60 : decode cX0_passMorning 60 = .ok (.iload_n 2, 1) := by decide +kernel
theorem dX0_passMorning_61 : decode cX0_passMorning 61 = .ok (.iaload, 1) := by decide +kernel
theorem dX0_passMorning_62 : decode cX0_passMorning 62 = .ok (.iconst 1, 1) := by decide +kernel
theorem dX0_passMorning_63 : decode cX0_passMorning 63 = .ok (.iadd, 1) := by decide +kernel
theorem dX0_passMorning_64 : decode cX0_passMorning 64 = .ok (.invokestatic 41, 3) := by decide +kernel
theorem dX0_passMorning_67 : decode cX0_passMorning 67 = .ok (.iastore, 1) := by decide +kernel
theorem dX0_passMorning_68 : decode cX0_passMorning 68 = .ok (.aload_n 0, 1) := by decide +kernel
theorem dX0_passMorning_69 : decode cX0_passMorning 69 = .ok (.getfield 18, 3) := by decide +kernel
theorem dX0_passMorning_72 : decode cX0_passMorning 72 = .ok (.iload_n 2, 1) := by decide +kernel
theorem dX0_passMorning_73 : decode cX0_passMorning 73 = .ok (.iconst 0, 1) := by decide +kernel
theorem dX0_passMorning_74 : decode cX0_passMorning 74 = .ok (.iastore, 1) := by decide +kernel
theorem dX0_passMorning_75 : decode cX0_passMorning 75 = .ok (.goto 22, 3) := by decide +kernel
theorem dX0_passMorning_78 : decode cX0_passMorning 78 = .ok (.aload_n 0, 1) := by decide +kernel
theorem dX0_passMorning_79 : decode cX0_passMorning 79 = .ok (.getfield 18, 3) := by decide +kernel
theorem dX0_passMorning_82 : decode cX0_passMorning 82 = .ok (.iload_n 2, 1) := by decide +kernel
theorem dX0_passMorning_83 : decode cX0_passMorning 83 = .ok (.bipush 99, 2) := by decide +kernel
theorem dX0_passMorning_85 : decode cX0_passMorning 85 = .ok (.aload_n 0, 1) := by decide +kernel
theorem dX0_passMorning_86 : decode cX0_passMorning 86 = .ok (.getfield 18, 3) := by decide +kernel
theorem dX0_passMorning_89 : decode cX0_passMorning 89 = .ok (.iload_n 2, 1) := by decide +kernel
theorem dX0_passMorning_90 : decode cX0_passMorning 90 = .ok (.iaload, 1) := by decide +kernel
theorem dX0_passMorning_91 : decode cX0_passMorning 91 = .ok (.iconst 1, 1) := by decide +kernel
theorem dX0_passMorning_92 : decode cX0_passMorning 92 = .ok (.iadd, 1) := by decide +kernel
theorem dX0_passMorning_93 : decode cX0_passMorning 93 = .ok (.invokestatic 41, 3) := by decide +kernel
theorem dX0_passMorning_96 : decode cX0_passMorning 96 = .ok (.iastore, 1) := by decide +kernel
theorem dX0_passMorning_97 : decode cX0_passMorning 97 = .ok (.aload_n 0, 1) := by decide +kernel
theorem dX0_passMorning_98 : decode cX0_passMorning 98 = .ok (.getfield 15, 3) := by decide +kernel
theorem dX0_passMorning_101 : decode cX0_passMorning 101 = .ok (.iload_n 2, 1) := by decide +kernel
theorem dX0_passMorning_102 : decode cX0_passMorning 102 = .ok (.iconst 0, 1) := by decide +kernel
theorem dX0_passMorning_103 : decode cX0_passMorning 103 = .ok (.aload_n 0, 1) := by decide +kernel
theorem dX0_passMorning_104 : decode cX0_passMorning 104 = .ok (.getfield 15, 3) := by decide +kernel
theorem dX0_passMorning_107 : decode cX0_passMorning 107 = .ok (.iload_n 2, 1) := by decide +kernel
theorem dX0_passMorning_108 : decode cX0_passMorning 108 = .ok (.iaload, 1) := by decide +kernel
theorem dX0_passMorning_109 : decode cX0_passMorning 109 = .ok (.iconst 1, 1) := by decide +kernel
theorem dX0_passMorning_110 : decode cX0_passMorning 110 = .ok (.isub, 1) := by decide +kernel
theorem dX0_passMorning_111 : decode cX0_passMorning 111 = .ok (.invokestatic 47, 3) := by decide +kernel
theorem dX0_passMorning_114 : decode cX0_passMorning 114 = .ok (.iastore, 1) := by decide +kernel
theorem dX0_passMorning_115 : decode cX0_passMorning 115 = .ok (.iinc 2 1, 3) := by decide +kernel
theorem dX0_passMorning_118 : decode cX0_passMorning 118 = .ok (.goto (-86), 3) := by decide +kernel
theorem dX0_passMorning_121 : decode cX0_passMorning 121 = .ok (.return_, 1) := by decide +kernel
theorem dX0_restsWoken_0 : decode cX0_restsWoken 0 = .ok (.iconst 0, 1) := by decide +kernel
theorem dX0_restsWoken_1 : decode cX0_restsWoken 1 = .ok (.istore_n 1, 1) := by decide +kernel
theorem dX0_restsWoken_2 : decode cX0_restsWoken 2 = .ok (.iload_n 1, 1) := by decide +kernel
theorem dX0_restsWoken_3 : decode cX0_restsWoken 3 = .ok (.bipush 7, 2) := by decide +kernel
theorem dX0_restsWoken_5 : decode cX0_restsWoken 5 = .ok (.if_icmp .ge 16, 3) := by decide +kernel
theorem dX0_restsWoken_8 : decode cX0_restsWoken 8 = .ok (.aload_n 0, 1) := by decide +kernel
theorem dX0_restsWoken_9 : decode cX0_restsWoken 9 = .ok (.getfield 21, 3) := by decide +kernel
theorem dX0_restsWoken_12 : decode cX0_restsWoken 12 = .ok (.iload_n 1, 1) := by decide +kernel
theorem dX0_restsWoken_13 : decode cX0_restsWoken 13 = .ok (.iconst 0, 1) := by decide +kernel
theorem dX0_restsWoken_14 : decode cX0_restsWoken 14 = .ok (.iastore, 1) := by decide +kernel
theorem dX0_restsWoken_15 : decode cX0_restsWoken 15 = .ok (.iinc 1 1, 3) := by decide +kernel
theorem dX0_restsWoken_18 : decode cX0_restsWoken 18 = .ok (.goto (-16), 3) := by decide +kernel
theorem dX0_restsWoken_21 : decode cX0_restsWoken 21 = .ok (.return_, 1) := by decide +kernel
theorem dX0_mostWoken_0 : decode cX0_mostWoken 0 = .ok (.iconst 0, 1) := by decide +kernel
theorem dX0_mostWoken_1 : decode cX0_mostWoken 1 = .ok (.istore_n 1, 1) := by decide +kernel
theorem dX0_mostWoken_2 : decode cX0_mostWoken 2 = .ok (.iconst 1, 1) := by decide +kernel
theorem dX0_mostWoken_3 : decode cX0_mostWoken 3 = .ok (.istore_n 2, 1) := by decide +kernel
theorem dX0_mostWoken_4 : decode cX0_mostWoken 4 = .ok (.iload_n 2, 1) := by decide +kernel
theorem dX0_mostWoken_5 : decode cX0_mostWoken 5 = .ok (.aload_n 0, 1) := by decide +kernel
theorem dX0_mostWoken_6 : decode cX0_mostWoken 6 = .ok (.getfield 27, 3) := by decide +kernel
theorem dX0_mostWoken_9 : decode cX0_mostWoken 9 = .ok (.if_icmp .ge 30, 3) := by decide +kernel
theorem dX0_mostWoken_12 : decode cX0_mostWoken 12 = .ok (.aload_n 0, 1) := by decide +kernel
theorem dX0_mostWoken_13 : decode cX0_mostWoken 13 = .ok (.getfield 21, 3) := by decide +kernel
theorem dX0_mostWoken_16 : decode cX0_mostWoken 16 = .ok (.iload_n 2, 1) := by decide +kernel
theorem dX0_mostWoken_17 : decode cX0_mostWoken 17 = .ok (.iaload, 1) := by decide +kernel
theorem dX0_mostWoken_18 : decode cX0_mostWoken 18 = .ok (.aload_n 0, 1) := by decide +kernel
theorem dX0_mostWoken_19 : decode cX0_mostWoken 19 = .ok (.getfield 21, 3) := by decide +kernel
theorem dX0_mostWoken_22 : decode cX0_mostWoken 22 = .ok (.iload_n 1, 1) := by decide +kernel
theorem dX0_mostWoken_23 : decode cX0_mostWoken 23 = .ok (.iaload, 1) := by decide +kernel
theorem dX0_mostWoken_24 : decode cX0_mostWoken 24 = .ok (.if_icmp .le 7, 3) := by decide +kernel
theorem dX0_mostWoken_27 : decode cX0_mostWoken 27 = .ok (.iload_n 2, 1) := by decide +kernel
theorem dX0_mostWoken_28 : decode cX0_mostWoken 28 = .ok (.goto 4, 3) := by decide +kernel
theorem dX0_mostWoken_31 : decode cX0_mostWoken 31 = .ok (.iload_n 1, 1) := by decide +kernel
theorem dX0_mostWoken_32 : decode cX0_mostWoken 32 = .ok (.istore_n 1, 1) := by decide +kernel
theorem dX0_mostWoken_33 : decode cX0_mostWoken 33 = .ok (.iinc 2 1, 3) := by decide +kernel
theorem dX0_mostWoken_36 : decode cX0_mostWoken 36 = .ok (.goto (-32), 3) := by decide +kernel
theorem dX0_mostWoken_39 : decode cX0_mostWoken 39 = .ok (.iload_n 1, 1) := by decide +kernel
theorem dX0_mostWoken_40 : decode cX0_mostWoken 40 = .ok (.ireturn, 1) := by decide +kernel
theorem dX0_wantsOfAll_0 : decode cX0_wantsOfAll 0 = .ok (.iconst 0, 1) := by decide +kernel
theorem dX0_wantsOfAll_1 : decode cX0_wantsOfAll 1 = .ok (.istore_n 1, 1) := by decide +kernel
theorem dX0_wantsOfAll_2 : decode cX0_wantsOfAll 2 = .ok (.iconst 0, 1) := by decide +kernel
theorem dX0_wantsOfAll_3 : decode cX0_wantsOfAll 3 = .ok (.istore_n 2, 1) := by decide +kernel
theorem dX0_wantsOfAll_4 : decode cX0_wantsOfAll 4 = .ok (.iload_n 2, 1) := by decide +kernel
theorem dX0_wantsOfAll_5 : decode cX0_wantsOfAll 5 = .ok (.aload_n 0, 1) := by decide +kernel
theorem dX0_wantsOfAll_6 : decode cX0_wantsOfAll 6 = .ok (.getfield 27, 3) := by decide +kernel
theorem dX0_wantsOfAll_9 : decode cX0_wantsOfAll 9 = .ok (.if_icmp .ge 21, 3) := by decide +kernel
theorem dX0_wantsOfAll_12 : decode cX0_wantsOfAll 12 = .ok (.iload_n 1, 1) := by decide +kernel
theorem dX0_wantsOfAll_13 : decode cX0_wantsOfAll 13 = .ok (.aload_n 0, 1) := by decide +kernel
theorem dX0_wantsOfAll_14 : decode cX0_wantsOfAll 14 = .ok (.getfield 24, 3) := by decide +kernel
theorem dX0_wantsOfAll_17 : decode cX0_wantsOfAll 17 = .ok (.iload_n 2, 1) := by decide +kernel
theorem dX0_wantsOfAll_18 : decode cX0_wantsOfAll 18 = .ok (.iaload, 1) := by decide +kernel
theorem dX0_wantsOfAll_19 : decode cX0_wantsOfAll 19 = .ok (.invokestatic 61, 3) := by decide +kernel
theorem dX0_wantsOfAll_22 : decode cX0_wantsOfAll 22 = .ok (.iadd, 1) := by decide +kernel
theorem dX0_wantsOfAll_23 : decode cX0_wantsOfAll 23 = .ok (.istore_n 1, 1) := by decide +kernel
theorem dX0_wantsOfAll_24 : decode cX0_wantsOfAll 24 = .ok (.iinc 2 1, 3) := by decide +kernel
theorem dX0_wantsOfAll_27 : decode cX0_wantsOfAll 27 = .ok (.goto (-23), 3) := by decide +kernel
theorem dX0_wantsOfAll_30 : decode cX0_wantsOfAll 30 = .ok (.iload_n 1, 1) := by decide +kernel
theorem dX0_wantsOfAll_31 : decode cX0_wantsOfAll 31 = .ok (.ireturn, 1) := by decide +kernel
theorem dX0_sum_0 : decode cX0_sum 0 = .ok (.iconst 0, 1) := by decide +kernel
theorem dX0_sum_1 : decode cX0_sum 1 = .ok (.istore_n 2, 1) := by decide +kernel
theorem dX0_sum_2 : decode cX0_sum 2 = .ok (.iconst 0, 1) := by decide +kernel
theorem dX0_sum_3 : decode cX0_sum 3 = .ok (.istore_n 3, 1) := by decide +kernel
theorem dX0_sum_4 : decode cX0_sum 4 = .ok (.iload_n 3, 1) := by decide +kernel
theorem dX0_sum_5 : decode cX0_sum 5 = .ok (.aload_n 0, 1) := by decide +kernel
theorem dX0_sum_6 : decode cX0_sum 6 = .ok (.getfield 27, 3) := by decide +kernel
theorem dX0_sum_9 : decode cX0_sum 9 = .ok (.if_icmp .ge 21, 3) := by decide +kernel
theorem dX0_sum_12 : decode cX0_sum 12 = .ok (.iload_n 3, 1) := by decide +kernel
theorem dX0_sum_13 : decode cX0_sum 13 = .ok (.aload_n 1, 1) := by decide +kernel
theorem dX0_sum_14 : decode cX0_sum 14 = .ok (.arraylength, 1) := by decide +kernel
theorem dX0_sum_15 : decode cX0_sum 15 = .ok (.if_icmp .ge 15, 3) := by decide +kernel
theorem dX0_sum_18 : decode cX0_sum 18 = .ok (.iload_n 2, 1) := by decide +kernel
theorem dX0_sum_19 : decode cX0_sum 19 = .ok (.aload_n 1, 1) := by decide +kernel
theorem dX0_sum_20 : decode cX0_sum 20 = .ok (.iload_n 3, 1) := by decide +kernel
theorem dX0_sum_21 : decode cX0_sum 21 = .ok (.iaload, 1) := by decide +kernel
theorem dX0_sum_22 : decode cX0_sum 22 = .ok (.iadd, 1) := by decide +kernel
theorem dX0_sum_23 : decode cX0_sum 23 = .ok (.istore_n 2, 1) := by decide +kernel
theorem dX0_sum_24 : decode cX0_sum 24 = .ok (.iinc 3 1, 3) := by decide +kernel
theorem dX0_sum_27 : decode cX0_sum 27 = .ok (.goto (-23), 3) := by decide +kernel
theorem dX0_sum_30 : decode cX0_sum 30 = .ok (.iload_n 2, 1) := by decide +kernel
theorem dX0_sum_31 : decode cX0_sum 31 = .ok (.ireturn, 1) := by decide +kernel
theorem dX1_init_0 : decode cX1_init 0 = .ok (.aload_n 0, 1) := by decide +kernel
theorem dX1_init_1 : decode cX1_init 1 = .ok (.invokespecial 3, 3) := by decide +kernel
theorem dX1_init_4 : decode cX1_init 4 = .ok (.aload_n 0, 1) := by decide +kernel
theorem dX1_init_5 : decode cX1_init 5 = .ok (.bipush 12, 2) := by decide +kernel
theorem dX1_init_7 : decode cX1_init 7 = .ok (.newarray .int, 2) := by decide +kernel
theorem dX1_init_9 : decode cX1_init 9 = .ok (.putfield 11, 3) := by decide +kernel
theorem dX1_init_12 : decode cX1_init 12 = .ok (.aload_n 0, 1) := by decide +kernel
theorem dX1_init_13 : decode cX1_init 13 = .ok (.bipush 12, 2) := by decide +kernel
theorem dX1_init_15 : decode cX1_init 15 = .ok (.newarray .int, 2) := by decide +kernel
theorem dX1_init_17 : decode cX1_init 17 = .ok (.putfield 15, 3) := by decide +kernel
theorem dX1_init_20 : decode cX1_init 20 = .ok (.aload_n 0, 1) := by decide +kernel
theorem dX1_init_21 : decode cX1_init 21 = .ok (.iconst 0, 1) := by decide +kernel
theorem dX1_init_22 : decode cX1_init 22 = .ok (.putfield 18, 3) := by decide +kernel
theorem dX1_init_25 : decode cX1_init 25 = .ok (.return_, 1) := by decide +kernel
theorem dX1_takes_0 : decode cX1_takes 0 = .ok (.aload_n 0, 1) := by decide +kernel
theorem dX1_takes_1 : decode cX1_takes 1 = .ok (.getfield 18, 3) := by decide +kernel
theorem dX1_takes_4 : decode cX1_takes 4 = .ok (.bipush 12, 2) := by decide +kernel
theorem dX1_takes_6 : decode cX1_takes 6 = .ok (.if_icmp .ge 11, 3) := by decide +kernel
theorem dX1_takes_9 : decode cX1_takes 9 = .ok (.iload_n 1, 1) := by decide +kernel
theorem dX1_takes_10 : decode cX1_takes 10 = .ok (.iload_n 2, 1) := by decide +kernel
theorem dX1_takes_11 : decode cX1_takes 11 = .ok (.invokestatic 22, 3) := by decide +kernel
theorem dX1_takes_14 : decode cX1_takes 14 = .ok (.ifCond .ne 5, 3) := by decide +kernel
theorem dX1_takes_17 : decode cX1_takes 17 = .ok (.iconst 0, 1) := by decide +kernel
theorem dX1_takes_18 : decode cX1_takes 18 = .ok (.ireturn, 1) := by decide +kernel
theorem dX1_takes_19 : decode cX1_takes 19 = .ok (.aload_n 0, 1) := by decide +kernel
theorem dX1_takes_20 : decode cX1_takes 20 = .ok (.getfield 11, 3) := by decide +kernel
theorem dX1_takes_23 : decode cX1_takes 23 = .ok (.aload_n 0, 1) := by decide +kernel
theorem dX1_takes_24 : decode cX1_takes 24 = .ok (.getfield 18, 3) := by decide +kernel
theorem dX1_takes_27 : decode cX1_takes 27 = .ok (.iload_n 1, 1) := by decide +kernel
theorem dX1_takes_28 : decode cX1_takes 28 = .ok (.iastore, 1) := by decide +kernel
theorem dX1_takes_29 : decode cX1_takes 29 = .ok (.aload_n 0, 1) := by decide +kernel
theorem dX1_takes_30 : decode cX1_takes 30 = .ok (.getfield 15, 3) := by decide +kernel
theorem dX1_takes_33 : decode cX1_takes 33 = .ok (.aload_n 0, 1) := by decide +kernel
theorem dX1_takes_34 : decode cX1_takes 34 = .ok (.getfield 18, 3) := by decide +kernel
theorem dX1_takes_37 : decode cX1_takes 37 = .ok (.iload_n 2, 1) := by decide +kernel
theorem dX1_takes_38 : decode cX1_takes 38 = .ok (.iastore, 1) := by decide +kernel
theorem dX1_takes_39 : decode cX1_takes 39 = .ok (.aload_n 0, 1) := by decide +kernel
theorem dX1_takes_40 : decode cX1_takes 40 = .ok (.dup, 1) := by decide +kernel
theorem dX1_takes_41 : decode cX1_takes 41 = .ok (.getfield 18, 3) := by decide +kernel
theorem dX1_takes_44 : decode cX1_takes 44 = .ok (.iconst 1, 1) := by decide +kernel
theorem dX1_takes_45 : decode cX1_takes 45 = .ok (.iadd, 1) := by decide +kernel
theorem dX1_takes_46 : decode cX1_takes 46 = .ok (.putfield 18, 3) := by decide +kernel
theorem dX1_takes_49 : decode cX1_takes 49 = .ok (.iconst 1, 1) := by decide +kernel
theorem dX1_takes_50 : decode cX1_takes 50 = .ok (.ireturn, 1) := by decide +kernel
theorem dX1_empties_0 : decode cX1_empties 0 = .ok (.aload_n 0, 1) := by decide +kernel
theorem dX1_empties_1 : decode cX1_empties 1 = .ok (.getfield 18, 3) := by decide +kernel
theorem dX1_empties_4 : decode cX1_empties 4 = .ok (.istore_n 1, 1) := by decide +kernel
theorem dX1_empties_5 : decode cX1_empties 5 = .ok (.aload_n 0, 1) := by decide +kernel
theorem dX1_empties_6 : decode cX1_empties 6 = .ok (.iconst 0, 1) := by decide +kernel
theorem dX1_empties_7 : decode cX1_empties 7 = .ok (.putfield 18, 3) := by decide +kernel
theorem dX1_empties_10 : decode cX1_empties 10 = .ok (.iload_n 1, 1) := by decide +kernel
theorem dX1_empties_11 : decode cX1_empties 11 = .ok (.ireturn, 1) := by decide +kernel
theorem dX1_mayBe_0 : decode cX1_mayBe 0 = .ok (.iload_n 1, 1) := by decide +kernel
theorem dX1_mayBe_1 : decode cX1_mayBe 1 = .ok (.ifCond .lt 15, 3) := by decide +kernel
theorem dX1_mayBe_4 : decode cX1_mayBe 4 = .ok (.iload_n 1, 1) := by decide +kernel
theorem dX1_mayBe_5 : decode cX1_mayBe 5 = .ok (.iload_n 0, 1) := by decide +kernel
theorem dX1_mayBe_6 : decode cX1_mayBe 6 = .ok (.invokestatic 26, 3) := by decide +kernel
theorem dX1_mayBe_9 : decode cX1_mayBe 9 = .ok (.if_icmp .gt 7, 3) := by decide +kernel
theorem dX1_mayBe_12 : decode cX1_mayBe 12 = .ok (.iconst 1, 1) := by decide +kernel
theorem dX1_mayBe_13 : decode cX1_mayBe 13 = .ok (.goto 4, 3) := by decide +kernel
theorem dX1_mayBe_16 : decode cX1_mayBe 16 = .ok (.iconst 0, 1) := by decide +kernel
theorem dX1_mayBe_17 : decode cX1_mayBe 17 = .ok (.ireturn, 1) := by decide +kernel
theorem dX1_highest_0 : decode cX1_highest 0 = .ok (.iload_n 0, 1) := by decide +kernel
theorem dX1_highest_1 : decode cX1_highest 1 = .ok (.tableswitch 46 0 4 #[35, 38, 41, 43, 43], 35) := by decide +kernel
theorem dX1_highest_36 : decode cX1_highest 36 = .ok (.bipush 9, 2) := by decide +kernel
theorem dX1_highest_38 : decode cX1_highest 38 = .ok (.ireturn, 1) := by decide +kernel
theorem dX1_highest_39 : decode cX1_highest 39 = .ok (.bipush 99, 2) := by decide +kernel
theorem dX1_highest_41 : decode cX1_highest 41 = .ok (.ireturn, 1) := by decide +kernel
theorem dX1_highest_42 : decode cX1_highest 42 = .ok (.iconst 1, 1) := by decide +kernel
theorem dX1_highest_43 : decode cX1_highest 43 = .ok (.ireturn, 1) := by decide +kernel
theorem dX1_highest_44 : decode cX1_highest 44 = .ok (.bipush 6, 2) := by decide +kernel
theorem dX1_highest_46 : decode cX1_highest 46 = .ok (.ireturn, 1) := by decide +kernel
theorem dX1_highest_47 : decode cX1_highest 47 = .ok (.iconst (-1), 1) := by decide +kernel
theorem dX1_highest_48 : decode cX1_highest 48 = .ok (.ireturn, 1) := by decide +kernel
theorem dX1_fitting_0 : decode cX1_fitting 0 = .ok (.aload_n 1, 1) := by decide +kernel
theorem dX1_fitting_1 : decode cX1_fitting 1 = .ok (.invokevirtual 30, 3) := by decide +kernel
theorem dX1_fitting_4 : decode cX1_fitting 4 = .ok (.istore_n 3, 1) := by decide +kernel
theorem dX1_fitting_5 : decode cX1_fitting 5 = .ok (.iconst 0, 1) := by decide +kernel
theorem dX1_fitting_6 : decode cX1_fitting 6 = .ok (.istore 4, 2) := by decide +kernel
theorem dX1_fitting_8 : decode cX1_fitting 8 = .ok (.iload 4, 2) := by decide +kernel
theorem dX1_fitting_10 : decode cX1_fitting 10 = .ok (.aload_n 0, 1) := by decide +kernel
theorem dX1_fitting_11 : decode cX1_fitting 11 = .ok (.getfield 18, 3) := by decide +kernel
theorem dX1_fitting_14 : decode cX1_fitting 14 = .ok (.if_icmp .ge 38, 3) := by decide +kernel
theorem dX1_fitting_17 : decode cX1_fitting 17 = .ok (.iload 4, 2) := by decide +kernel
theorem dX1_fitting_19 : decode cX1_fitting 19 = .ok (.bipush 12, 2) := by decide +kernel
theorem dX1_fitting_21 : decode cX1_fitting 21 = .ok (.if_icmp .ge 31, 3) := by decide +kernel
theorem dX1_fitting_24 : decode cX1_fitting 24 = .ok (.iload_n 3, 1) := by decide +kernel
theorem dX1_fitting_25 : decode cX1_fitting 25 = .ok (.aload_n 1, 1) := by decide +kernel
theorem dX1_fitting_26 : decode cX1_fitting 26 = .ok (.iload_n 2, 1) := by decide +kernel
theorem dX1_fitting_27 : decode cX1_fitting 27 = .ok (.aload_n 0, 1) := by decide +kernel
theorem dX1_fitting_28 : decode cX1_fitting 28 = .ok (.getfield 11, 3) := by decide +kernel
theorem dX1_fitting_31 : decode cX1_fitting 31 = .ok (.iload 4, 2) := by decide +kernel
theorem dX1_fitting_33 : decode cX1_fitting 33 = .ok (.iaload, 1) := by decide +kernel
theorem dX1_fitting_34 : decode cX1_fitting 34 = .ok (.aload_n 0, 1) := by decide +kernel
theorem dX1_fitting_35 : decode cX1_fitting 35 = .ok (.getfield 15, 3) := by decide +kernel
theorem dX1_fitting_38 : decode cX1_fitting 38 = .ok (.iload 4, 2) := by decide +kernel
theorem dX1_fitting_40 : decode cX1_fitting 40 = .ok (.iaload, 1) := by decide +kernel
theorem dX1_fitting_41 : decode cX1_fitting 41 = .ok (.invokestatic 36, 3) := by decide +kernel
theorem dX1_fitting_44 : decode cX1_fitting 44 = .ok (.iand, 1) := by decide +kernel
theorem dX1_fitting_45 : decode cX1_fitting 45 = .ok (.istore_n 3, 1) := by decide +kernel
theorem dX1_fitting_46 : decode cX1_fitting 46 = .ok (.iinc 4 1, 3) := by decide +kernel
theorem dX1_fitting_49 : decode cX1_fitting 49 = .ok (.goto (-41), 3) := by decide +kernel
theorem dX1_fitting_52 : decode cX1_fitting 52 = .ok (.iload_n 3, 1) := by decide +kernel
theorem dX1_fitting_53 : decode cX1_fitting 53 = .ok (.ireturn, 1) := by decide +kernel
theorem dX1_such_0 : decode cX1_such 0 = .ok (.iconst 0, 1) := by decide +kernel
theorem dX1_such_1 : decode cX1_such 1 = .ok (.istore 4, 2) := by decide +kernel
theorem dX1_such_3 : decode cX1_such 3 = .ok (.iconst 0, 1) := by decide +kernel
theorem dX1_such_4 : decode cX1_such 4 = .ok (.istore 5, 2) := by decide +kernel
theorem dX1_such_6 : decode cX1_such 6 = .ok (.iload 5, 2) := by decide +kernel
theorem dX1_such_8 : decode cX1_such 8 = .ok (.aload_n 0, 1) := by decide +kernel
theorem dX1_such_9 : decode cX1_such 9 = .ok (.getfield 40, 3) := by decide +kernel
theorem dX1_such_12 : decode cX1_such 12 = .ok (.if_icmp .ge 34, 3) := by decide +kernel
theorem dX1_such_15 : decode cX1_such 15 = .ok (.iload 4, 2) := by decide +kernel
theorem dX1_such_17 : decode cX1_such 17 = .ok (.aload_n 0, 1) := by decide +kernel
theorem dX1_such_18 : decode cX1_such 18 = .ok (.iload_n 1, 1) := by decide +kernel
theorem dX1_such_19 : decode cX1_such 19 = .ok (.iload 5, 2) := by decide +kernel
theorem dX1_such_21 : decode cX1_such 21 = .ok (.iload_n 2, 1) := by decide +kernel
theorem dX1_such_22 : decode cX1_such 22 = .ok (.iload_n 3, 1) := by decide +kernel
theorem dX1_such_23 : decode cX1_such 23 = .ok (.invokestatic 43, 3) := by decide +kernel
theorem dX1_such_26 : decode cX1_such 26 = .ok (.ifCond .eq 10, 3) := by decide +kernel
theorem dX1_such_29 : decode cX1_such 29 = .ok (.iconst 1, 1) := by decide +kernel
theorem dX1_such_30 : decode cX1_such 30 = .ok (.iload 5, 2) := by decide +kernel
theorem dX1_such_32 : decode cX1_such 32 = .ok (.ishl, 1) := by decide +kernel
theorem dX1_such_33 : decode cX1_such 33 = .ok (.goto 4, 3) := by decide +kernel
theorem dX1_such_36 : decode cX1_such 36 = .ok (.iconst 0, 1) := by decide +kernel
theorem dX1_such_37 : decode cX1_such 37 = .ok (.ior, 1) := by decide +kernel
theorem dX1_such_38 : decode cX1_such 38 = .ok (.istore 4, 2) := by decide +kernel
theorem dX1_such_40 : decode cX1_such 40 = .ok (.iinc 5 1, 3) := by decide +kernel
theorem dX1_such_43 : decode cX1_such 43 = .ok (.goto (-37), 3) := by decide +kernel
theorem dX1_such_46 : decode cX1_such 46 = .ok (.iload 4, 2) := by decide +kernel
theorem dX1_such_48 : decode cX1_such 48 = .ok (.ireturn, 1) := by decide +kernel
theorem dX1_isSo_0 : decode cX1_isSo 0 = .ok (.aload_n 0, 1) := by decide +kernel
theorem dX1_isSo_1 : decode cX1_isSo 1 = .ok (.iload_n 2, 1) := by decide +kernel
theorem dX1_isSo_2 : decode cX1_isSo 2 = .ok (.invokevirtual 47, 3) := by decide +kernel
theorem dX1_isSo_5 : decode cX1_isSo 5 = .ok (.ifCond .ne 5, 3) := by decide +kernel
theorem dX1_isSo_8 : decode cX1_isSo 8 = .ok (.iconst 0, 1) := by decide +kernel
theorem dX1_isSo_9 : decode cX1_isSo 9 = .ok (.ireturn, 1) := by decide +kernel
theorem dX1_isSo_10 : decode cX1_isSo 10 = .ok (.iload_n 3, 1) := by decide +kernel
theorem dX1_isSo_11 : decode cX1_isSo 11 = .ok (.tableswitch 99 0 3 #[29, 46, 63, 79], 29) := by decide +kernel
theorem dX1_isSo_40 : decode cX1_isSo 40 = .ok (.aload_n 0, 1) := by decide +kernel
theorem dX1_isSo_41 : decode cX1_isSo 41 = .ok (.getfield 51, 3) := by decide +kernel
theorem dX1_isSo_44 : decode cX1_isSo 44 = .ok (.iload_n 2, 1) := by decide +kernel
theorem dX1_isSo_45 : decode cX1_isSo 45 = .ok (.iaload, 1) := by decide +kernel
theorem dX1_isSo_46 : decode cX1_isSo 46 = .ok (.iload 4, 2) := by decide +kernel
theorem dX1_isSo_48 : decode cX1_isSo 48 = .ok (.if_icmp .lt 7, 3) := by decide +kernel
theorem dX1_isSo_51 : decode cX1_isSo 51 = .ok (.iconst 1, 1) := by decide +kernel
theorem dX1_isSo_52 : decode cX1_isSo 52 = .ok (.goto 4, 3) := by decide +kernel
theorem dX1_isSo_55 : decode cX1_isSo 55 = .ok (.iconst 0, 1) := by decide +kernel
theorem dX1_isSo_56 : decode cX1_isSo 56 = .ok (.ireturn, 1) := by decide +kernel
theorem dX1_isSo_57 : decode cX1_isSo 57 = .ok (.aload_n 0, 1) := by decide +kernel
theorem dX1_isSo_58 : decode cX1_isSo 58 = .ok (.getfield 54, 3) := by decide +kernel
theorem dX1_isSo_61 : decode cX1_isSo 61 = .ok (.iload_n 2, 1) := by decide +kernel
theorem dX1_isSo_62 : decode cX1_isSo 62 = .ok (.iaload, 1) := by decide +kernel
theorem dX1_isSo_63 : decode cX1_isSo 63 = .ok (.iload 4, 2) := by decide +kernel
theorem dX1_isSo_65 : decode cX1_isSo 65 = .ok (.if_icmp .gt 7, 3) := by decide +kernel
theorem dX1_isSo_68 : decode cX1_isSo 68 = .ok (.iconst 1, 1) := by decide +kernel
theorem dX1_isSo_69 : decode cX1_isSo 69 = .ok (.goto 4, 3) := by decide +kernel
theorem dX1_isSo_72 : decode cX1_isSo 72 = .ok (.iconst 0, 1) := by decide +kernel
theorem dX1_isSo_73 : decode cX1_isSo 73 = .ok (.ireturn, 1) := by decide +kernel
theorem dX1_isSo_74 : decode cX1_isSo 74 = .ok (.iload_n 1, 1) := by decide +kernel
theorem dX1_isSo_75 : decode cX1_isSo 75 = .ok (.iload_n 2, 1) := by decide +kernel
theorem dX1_isSo_76 : decode cX1_isSo 76 = .ok (.ishr, 1) := by decide +kernel
theorem dX1_isSo_77 : decode cX1_isSo 77 = .ok (.iconst 1, 1) := by decide +kernel
theorem dX1_isSo_78 : decode cX1_isSo 78 = .ok (.iand, 1) := by decide +kernel
theorem dX1_isSo_79 : decode cX1_isSo 79 = .ok (.iload 4, 2) := by decide +kernel
theorem dX1_isSo_81 : decode cX1_isSo 81 = .ok (.if_icmp .ne 7, 3) := by decide +kernel
theorem dX1_isSo_84 : decode cX1_isSo 84 = .ok (.iconst 1, 1) := by decide +kernel
theorem dX1_isSo_85 : decode cX1_isSo 85 = .ok (.goto 4, 3) := by decide +kernel
theorem dX1_isSo_88 : decode cX1_isSo 88 = .ok (.iconst 0, 1) := by decide +kernel
theorem dX1_isSo_89 : decode cX1_isSo 89 = .ok (.ireturn, 1) := by decide +kernel
theorem dX1_isSo_90 : decode cX1_isSo 90 = .ok (.aload_n 0, 1) := by decide +kernel
theorem dX1_isSo_91 : decode cX1_isSo 91 = .ok (.getfield 57, 3) := by decide +kernel
theorem dX1_isSo_94 : decode cX1_isSo 94 = .ok (.iload_n 2, 1) := by decide +kernel
theorem dX1_isSo_95 : decode cX1_isSo 95 = .ok (.iaload, 1) := by decide +kernel
theorem dX1_isSo_96 : decode cX1_isSo 96 = .ok (.iload 4, 2) := by decide +kernel
theorem dX1_isSo_98 : decode cX1_isSo 98 = .ok (.ishr, 1) := by decide +kernel
theorem dX1_isSo_99 : decode cX1_isSo 99 = .ok (.iconst 1, 1) := by decide +kernel
theorem dX1_isSo_100 : decode cX1_isSo 100 = .ok (.iand, 1) := by decide +kernel
theorem dX1_isSo_101 : decode cX1_isSo 101 = .ok (.ifCond .eq 7, 3) := by decide +kernel
theorem dX1_isSo_104 : decode cX1_isSo 104 = .ok (.iconst 1, 1) := by decide +kernel
theorem dX1_isSo_105 : decode cX1_isSo 105 = .ok (.goto 4, 3) := by decide +kernel
theorem dX1_isSo_108 : decode cX1_isSo 108 = .ok (.iconst 0, 1) := by decide +kernel
theorem dX1_isSo_109 : decode cX1_isSo 109 = .ok (.ireturn, 1) := by decide +kernel
theorem dX1_isSo_110 : decode cX1_isSo 110 = .ok (.aload_n 0, 1) := by decide +kernel
theorem dX1_isSo_111 : decode cX1_isSo 111 = .ok (.iload 4, 2) := by decide +kernel
theorem dX1_isSo_113 : decode cX1_isSo 113 = .ok (.invokevirtual 47, 3) := by decide +kernel
theorem dX1_isSo_116 : decode cX1_isSo 116 = .ok (.ifCond .eq 21, 3) := by decide +kernel
theorem dX1_isSo_119 : decode cX1_isSo 119 = .ok (.aload_n 0, 1) := by decide +kernel
theorem dX1_isSo_120 : decode cX1_isSo 120 = .ok (.getfield 57, 3) := by decide +kernel
theorem dX1_isSo_123 : decode cX1_isSo 123 = .ok (.iload 4, 2) := by decide +kernel
theorem dX1_isSo_125 : decode cX1_isSo 125 = .ok (.iaload, 1) := by decide +kernel
theorem dX1_isSo_126 : decode cX1_isSo 126 = .ok (.iload_n 2, 1) := by decide +kernel
theorem dX1_isSo_127 : decode cX1_isSo 127 = .ok (.ishr, 1) := by decide +kernel
theorem dX1_isSo_128 : decode cX1_isSo 128 = .ok (.iconst 1, 1) := by decide +kernel
theorem dX1_isSo_129 : decode cX1_isSo 129 = .ok (.iand, 1) := by decide +kernel
theorem dX1_isSo_130 : decode cX1_isSo 130 = .ok (.ifCond .eq 7, 3) := by decide +kernel
theorem dX1_isSo_133 : decode cX1_isSo 133 = .ok (.iconst 1, 1) := by decide +kernel
theorem dX1_isSo_134 : decode cX1_isSo 134 = .ok (.goto 4, 3) := by decide +kernel
theorem dX1_isSo_137 : decode cX1_isSo 137 = .ok (.iconst 0, 1) := by decide +kernel
theorem dX1_isSo_138 : decode cX1_isSo 138 = .ok (.ireturn, 1) := by decide +kernel
theorem dX2_init_0 : decode cX2_init 0 = .ok (.aload_n 0, 1) := by decide +kernel
theorem dX2_init_1 : decode cX2_init 1 = .ok (.invokespecial 1, 3) := by decide +kernel
theorem dX2_init_4 : decode cX2_init 4 = .ok (.aload_n 0, 1) := by decide +kernel
theorem dX2_init_5 : decode cX2_init 5 = .ok (.bipush 16, 2) := by decide +kernel
theorem dX2_init_7 : decode cX2_init 7 = .ok (.newarray .long, 2) := by decide +kernel
theorem dX2_init_9 : decode cX2_init 9 = .ok (.putfield 7, 3) := by decide +kernel
theorem dX2_init_12 : decode cX2_init 12 = .ok (.aload_n 0, 1) := by decide +kernel
theorem dX2_init_13 : decode cX2_init 13 = .ok (.iconst 0, 1) := by decide +kernel
theorem dX2_init_14 : decode cX2_init 14 = .ok (.putfield 13, 3) := by decide +kernel
theorem dX2_init_17 : decode cX2_init 17 = .ok (.return_, 1) := by decide +kernel
theorem dX2_clears_0 : decode cX2_clears 0 = .ok (.aload_n 0, 1) := by decide +kernel
theorem dX2_clears_1 : decode cX2_clears 1 = .ok (.iconst 0, 1) := by decide +kernel
theorem dX2_clears_2 : decode cX2_clears 2 = .ok (.putfield 13, 3) := by decide +kernel
theorem dX2_clears_5 : decode cX2_clears 5 = .ok (.return_, 1) := by decide +kernel
theorem dX2_adds_0 : decode cX2_adds 0 = .ok (.aload_n 0, 1) := by decide +kernel
theorem dX2_adds_1 : decode cX2_adds 1 = .ok (.getfield 13, 3) := by decide +kernel
theorem dX2_adds_4 : decode cX2_adds 4 = .ok (.aload_n 0, 1) := by decide +kernel
theorem dX2_adds_5 : decode cX2_adds 5 = .ok (.getfield 7, 3) := by decide +kernel
theorem dX2_adds_8 : decode cX2_adds 8 = .ok (.arraylength, 1) := by decide +kernel
theorem dX2_adds_9 : decode cX2_adds 9 = .ok (.if_icmp .ge 23, 3) := by decide +kernel
theorem dX2_adds_12 : decode cX2_adds 12 = .ok (.aload_n 0, 1) := by decide +kernel
theorem dX2_adds_13 : decode cX2_adds 13 = .ok (.getfield 7, 3) := by decide +kernel
theorem dX2_adds_16 : decode cX2_adds 16 = .ok (.aload_n 0, 1) := by decide +kernel
theorem dX2_adds_17 : decode cX2_adds 17 = .ok (.getfield 13, 3) := by decide +kernel
theorem dX2_adds_20 : decode cX2_adds 20 = .ok (.lload_n 1, 1) := by decide +kernel
theorem dX2_adds_21 : decode cX2_adds 21 = .ok (.lastore, 1) := by decide +kernel
theorem dX2_adds_22 : decode cX2_adds 22 = .ok (.aload_n 0, 1) := by decide +kernel
theorem dX2_adds_23 : decode cX2_adds 23 = .ok (.dup, 1) := by decide +kernel
theorem dX2_adds_24 : decode cX2_adds 24 = .ok (.getfield 13, 3) := by decide +kernel
theorem dX2_adds_27 : decode cX2_adds 27 = .ok (.iconst 1, 1) := by decide +kernel
theorem dX2_adds_28 : decode cX2_adds 28 = .ok (.iadd, 1) := by decide +kernel
theorem dX2_adds_29 : decode cX2_adds 29 = .ok (.putfield 13, 3) := by decide +kernel
theorem dX2_adds_32 : decode cX2_adds 32 = .ok (.return_, 1) := by decide +kernel
theorem dX2_tellsOne_0 : decode cX2_tellsOne 0 = .ok (.aload_n 0, 1) := by decide +kernel
theorem dX2_tellsOne_1 : decode cX2_tellsOne 1 = .ok (.invokevirtual 17, 3) := by decide +kernel
theorem dX2_tellsOne_4 : decode cX2_tellsOne 4 = .ok (.aload_n 0, 1) := by decide +kernel
theorem dX2_tellsOne_5 : decode cX2_tellsOne 5 = .ok (.lload_n 1, 1) := by decide +kernel
theorem dX2_tellsOne_6 : decode cX2_tellsOne 6 = .ok (.invokevirtual 20, 3) := by decide +kernel
theorem dX2_tellsOne_9 : decode cX2_tellsOne 9 = .ok (.return_, 1) := by decide +kernel
theorem dX2_tellsBoth_0 : decode cX2_tellsBoth 0 = .ok (.aload_n 0, 1) := by decide +kernel
theorem dX2_tellsBoth_1 : decode cX2_tellsBoth 1 = .ok (.invokevirtual 17, 3) := by decide +kernel
theorem dX2_tellsBoth_4 : decode cX2_tellsBoth 4 = .ok (.aload_n 0, 1) := by decide +kernel
theorem dX2_tellsBoth_5 : decode cX2_tellsBoth 5 = .ok (.lload_n 1, 1) := by decide +kernel
theorem dX2_tellsBoth_6 : decode cX2_tellsBoth 6 = .ok (.invokevirtual 20, 3) := by decide +kernel
theorem dX2_tellsBoth_9 : decode cX2_tellsBoth 9 = .ok (.aload_n 0, 1) := by decide +kernel
theorem dX2_tellsBoth_10 : decode cX2_tellsBoth 10 = .ok (.lload_n 3, 1) := by decide +kernel
theorem dX2_tellsBoth_11 : decode cX2_tellsBoth 11 = .ok (.invokevirtual 20, 3) := by decide +kernel
theorem dX2_tellsBoth_14 : decode cX2_tellsBoth 14 = .ok (.return_, 1) := by decide +kernel
theorem dX3_init_0 : decode cX3_init 0 = .ok (.aload_n 0, 1) := by decide +kernel
theorem dX3_init_1 : decode cX3_init 1 = .ok (.invokespecial 3, 3) := by decide +kernel
theorem dX3_init_4 : decode cX3_init 4 = .ok (.aload_n 0, 1) := by decide +kernel
theorem dX3_init_5 : decode cX3_init 5 = .ok (.bipush 13, 2) := by decide +kernel
theorem dX3_init_7 : decode cX3_init 7 = .ok (.anewarray 9, 3) := by decide +kernel
theorem dX3_init_10 : decode cX3_init 10 = .ok (.putfield 11, 3) := by decide +kernel
theorem dX3_init_13 : decode cX3_init 13 = .ok (.aload_n 0, 1) := by decide +kernel
theorem dX3_init_14 : decode cX3_init 14 = .ok (.iconst 2, 1) := by decide +kernel
theorem dX3_init_15 : decode cX3_init 15 = .ok (.anewarray 9, 3) := by decide +kernel
theorem dX3_init_18 : decode cX3_init 18 = .ok (.putfield 15, 3) := by decide +kernel
theorem dX3_init_21 : decode cX3_init 21 = .ok (.aload_n 0, 1) := by decide +kernel
theorem dX3_init_22 : decode cX3_init 22 = .ok (.iconst 2, 1) := by decide +kernel
theorem dX3_init_23 : decode cX3_init 23 = .ok (.newarray .boolean, 2) := by decide +kernel
theorem dX3_init_25 : decode cX3_init 25 = .ok (.putfield 18, 3) := by decide +kernel
theorem dX3_init_28 : decode cX3_init 28 = .ok (.aload_n 0, 1) := by decide +kernel
theorem dX3_init_29 : decode cX3_init 29 = .ok (.iconst 0, 1) := by decide +kernel
theorem dX3_init_30 : decode cX3_init 30 = .ok (.putfield 22, 3) := by decide +kernel
theorem dX3_init_33 : decode cX3_init 33 = .ok (.aload_n 0, 1) := by decide +kernel
theorem dX3_init_34 : decode cX3_init 34 = .ok (.iconst 0, 1) := by decide +kernel
theorem dX3_init_35 : decode cX3_init 35 = .ok (.putfield 26, 3) := by decide +kernel
theorem dX3_init_38 : decode cX3_init 38 = .ok (.iconst 0, 1) := by decide +kernel
theorem dX3_init_39 : decode cX3_init 39 = .ok (.istore_n 1, 1) := by decide +kernel
theorem dX3_init_40 : decode cX3_init 40 = .ok (.iload_n 1, 1) := by decide +kernel
theorem dX3_init_41 : decode cX3_init 41 = .ok (.bipush 13, 2) := by decide +kernel
theorem dX3_init_43 : decode cX3_init 43 = .ok (.if_icmp .ge 22, 3) := by decide +kernel
theorem dX3_init_46 : decode cX3_init 46 = .ok (.aload_n 0, 1) := by decide +kernel
theorem dX3_init_47 : decode cX3_init 47 = .ok (.getfield 11, 3) := by decide +kernel
theorem dX3_init_50 : decode cX3_init 50 = .ok (.iload_n 1, 1) := by decide +kernel
theorem dX3_init_51 : decode cX3_init 51 = .ok (.new 9, 3) := by decide +kernel
theorem dX3_init_54 : decode cX3_init 54 = .ok (.dup, 1) := by decide +kernel
theorem dX3_init_55 : decode cX3_init 55 = .ok (.invokespecial 29, 3) := by decide +kernel
theorem dX3_init_58 : decode cX3_init 58 = .ok (.aastore, 1) := by decide +kernel
theorem dX3_init_59 : decode cX3_init 59 = .ok (.iinc 1 1, 3) := by decide +kernel
theorem dX3_init_62 : decode cX3_init 62 = .ok (.goto (-22), 3) := by decide +kernel
theorem dX3_init_65 : decode cX3_init 65 = .ok (.iconst 0, 1) := by decide +kernel
theorem dX3_init_66 : decode cX3_init 66 = .ok (.istore_n 1, 1) := by decide +kernel
theorem dX3_init_67 : decode cX3_init 67 = .ok (.iload_n 1, 1) := by decide +kernel
theorem dX3_init_68 : decode cX3_init 68 = .ok (.iconst 2, 1) := by decide +kernel
theorem dX3_init_69 : decode cX3_init 69 = .ok (.if_icmp .ge 22, 3) := by decide +kernel
theorem dX3_init_72 : decode cX3_init 72 = .ok (.aload_n 0, 1) := by decide +kernel
theorem dX3_init_73 : decode cX3_init 73 = .ok (.getfield 15, 3) := by decide +kernel
theorem dX3_init_76 : decode cX3_init 76 = .ok (.iload_n 1, 1) := by decide +kernel
theorem dX3_init_77 : decode cX3_init 77 = .ok (.new 9, 3) := by decide +kernel
theorem dX3_init_80 : decode cX3_init 80 = .ok (.dup, 1) := by decide +kernel
theorem dX3_init_81 : decode cX3_init 81 = .ok (.invokespecial 29, 3) := by decide +kernel
theorem dX3_init_84 : decode cX3_init 84 = .ok (.aastore, 1) := by decide +kernel
theorem dX3_init_85 : decode cX3_init 85 = .ok (.iinc 1 1, 3) := by decide +kernel
theorem dX3_init_88 : decode cX3_init 88 = .ok (.goto (-21), 3) := by decide +kernel
theorem dX3_init_91 : decode cX3_init 91 = .ok (.return_, 1) := by decide +kernel
theorem dX3_marks_0 : decode cX3_marks 0 = .ok (.aload_n 0, 1) := by decide +kernel
theorem dX3_marks_1 : decode cX3_marks 1 = .ok (.getfield 22, 3) := by decide +kernel
theorem dX3_marks_4 : decode cX3_marks 4 = .ok (.ifCond .lt 25, 3) := by decide +kernel
theorem dX3_marks_7 : decode cX3_marks 7 = .ok (.aload_n 0, 1) := by decide +kernel
theorem dX3_marks_8 : decode cX3_marks 8 = .ok (.getfield 22, 3) := by decide +kernel
theorem dX3_marks_11 : decode cX3_marks 11 = .ok (.bipush 13, 2) := by decide +kernel
theorem dX3_marks_13 : decode cX3_marks 13 = .ok (.if_icmp .ge 16, 3) := by decide +kernel
theorem dX3_marks_16 : decode cX3_marks 16 = .ok (.aload_n 0, 1) := by decide +kernel
theorem dX3_marks_17 : decode cX3_marks 17 = .ok (.getfield 11, 3) := by decide +kernel
theorem dX3_marks_20 : decode cX3_marks 20 = .ok (.aload_n 0, 1) := by decide +kernel
theorem dX3_marks_21 : decode cX3_marks 21 = .ok (.getfield 22, 3) := by decide +kernel
theorem dX3_marks_24 : decode cX3_marks 24 = .ok (.aaload, 1) := by decide +kernel
theorem dX3_marks_25 : decode cX3_marks 25 = .ok (.aload_n 1, 1) := by decide +kernel
theorem dX3_marks_26 : decode cX3_marks 26 = .ok (.invokevirtual 30, 3) := by decide +kernel
theorem dX3_marks_29 : decode cX3_marks 29 = .ok (.return_, 1) := by decide +kernel
theorem dX3_keepsMark_0 : decode cX3_keepsMark 0 = .ok (.aload_n 0, 1) := by decide +kernel
theorem dX3_keepsMark_1 : decode cX3_keepsMark 1 = .ok (.aload_n 0, 1) := by decide +kernel
theorem dX3_keepsMark_2 : decode cX3_keepsMark 2 = .ok (.getfield 22, 3) := by decide +kernel
theorem dX3_keepsMark_5 : decode cX3_keepsMark 5 = .ok (.iconst 1, 1) := by decide +kernel
theorem dX3_keepsMark_6 : decode cX3_keepsMark 6 = .ok (.iadd, 1) := by decide +kernel
theorem dX3_keepsMark_7 : decode cX3_keepsMark 7 = .ok (.bipush 13, 2) := by decide +kernel
theorem dX3_keepsMark_9 : decode cX3_keepsMark 9 = .ok (.irem, 1) := by decide +kernel
theorem dX3_keepsMark_10 : decode cX3_keepsMark 10 = .ok (.putfield 22, 3) := by decide +kernel
theorem dX3_keepsMark_13 : decode cX3_keepsMark 13 = .ok (.aload_n 0, 1) := by decide +kernel
theorem dX3_keepsMark_14 : decode cX3_keepsMark 14 = .ok (.bipush 12, 2) := by decide +kernel
theorem dX3_keepsMark_16 : decode cX3_keepsMark 16 = .ok (.aload_n 0, 1) := by decide +kernel
theorem dX3_keepsMark_17 : decode cX3_keepsMark 17 = .ok (.getfield 26, 3) := by decide +kernel
theorem dX3_keepsMark_20 : decode cX3_keepsMark 20 = .ok (.iconst 1, 1) := by decide +kernel
theorem dX3_keepsMark_21 : decode cX3_keepsMark 21 = .ok (.iadd, 1) := by decide +kernel
theorem dX3_keepsMark_22 : decode cX3_keepsMark 22 = .ok (.invokestatic 34, 3) := by decide +kernel
theorem dX3_keepsMark_25 : decode cX3_keepsMark 25 = .ok (.putfield 26, 3) := by decide +kernel
theorem dX3_keepsMark_28 : decode cX3_keepsMark 28 = .ok (.return_, 1) := by decide +kernel
theorem dX3_comesBack_0 : decode cX3_comesBack 0 = .ok (.aload_n 0, 1) := by decide +kernel
theorem dX3_comesBack_1 : decode cX3_comesBack 1 = .ok (.getfield 26, 3) := by decide +kernel
theorem dX3_comesBack_4 : decode cX3_comesBack 4 = .ok (.ifCond .ne 5, 3) := by decide +kernel
theorem dX3_comesBack_7 : decode cX3_comesBack 7 = .ok (.iconst 0, 1) := by decide +kernel
theorem dX3_comesBack_8 : decode cX3_comesBack 8 = .ok (.ireturn, 1) := by decide +kernel
theorem dX3_comesBack_9 : decode cX3_comesBack 9 = .ok (.aload_n 0, 1) := by decide +kernel
theorem dX3_comesBack_10 : decode cX3_comesBack 10 = .ok (.aload_n 0, 1) := by decide +kernel
theorem dX3_comesBack_11 : decode cX3_comesBack 11 = .ok (.getfield 22, 3) := by decide +kernel
theorem dX3_comesBack_14 : decode cX3_comesBack 14 = .ok (.bipush 13, 2) := by decide +kernel
theorem dX3_comesBack_16 : decode cX3_comesBack 16 = .ok (.iadd, 1) := by decide +kernel
theorem dX3_comesBack_17 : decode cX3_comesBack 17 = .ok (.iconst 1, 1) := by decide +kernel
theorem dX3_comesBack_18 : decode cX3_comesBack 18 = .ok (.isub, 1) := by decide +kernel
theorem dX3_comesBack_19 : decode cX3_comesBack 19 = .ok (.bipush 13, 2) := by decide +kernel
theorem dX3_comesBack_21 : decode cX3_comesBack 21 = .ok (.irem, 1) := by decide +kernel
theorem dX3_comesBack_22 : decode cX3_comesBack 22 = .ok (.putfield 22, 3) := by decide +kernel
theorem dX3_comesBack_25 : decode cX3_comesBack 25 = .ok (.aload_n 0, 1) := by decide +kernel
theorem dX3_comesBack_26 : decode cX3_comesBack 26 = .ok (.dup, 1) := by decide +kernel
theorem dX3_comesBack_27 : decode cX3_comesBack 27 = .ok (.getfield 26, 3) := by decide +kernel
theorem dX3_comesBack_30 : decode cX3_comesBack 30 = .ok (.iconst 1, 1) := by decide +kernel
theorem dX3_comesBack_31 : decode cX3_comesBack 31 = .ok (.isub, 1) := by decide +kernel
theorem dX3_comesBack_32 : decode cX3_comesBack 32 = .ok (.putfield 26, 3) := by decide +kernel
theorem dX3_comesBack_35 : decode cX3_comesBack 35 = .ok (.aload_n 0, 1) := by decide +kernel
theorem dX3_comesBack_36 : decode cX3_comesBack 36 = .ok (.getfield 22, 3) := by decide +kernel
theorem dX3_comesBack_39 : decode cX3_comesBack 39 = .ok (.ifCond .lt 16, 3) := by decide +kernel
theorem dX3_comesBack_42 : decode cX3_comesBack 42 = .ok (.aload_n 1, 1) := by decide +kernel
theorem dX3_comesBack_43 : decode cX3_comesBack 43 = .ok (.aload_n 0, 1) := by decide +kernel
theorem dX3_comesBack_44 : decode cX3_comesBack 44 = .ok (.getfield 11, 3) := by decide +kernel
theorem dX3_comesBack_47 : decode cX3_comesBack 47 = .ok (.aload_n 0, 1) := by decide +kernel
theorem dX3_comesBack_48 : decode cX3_comesBack 48 = .ok (.getfield 22, 3) := by decide +kernel
theorem dX3_comesBack_51 : decode cX3_comesBack 51 = .ok (.aaload, 1) := by decide +kernel
theorem dX3_comesBack_52 : decode cX3_comesBack 52 = .ok (.invokevirtual 30, 3) := by decide +kernel
theorem dX3_comesBack_55 : decode cX3_comesBack 55 = .ok (.iconst 1, 1) := by decide +kernel
theorem dX3_comesBack_56 : decode cX3_comesBack 56 = .ok (.ireturn, 1) := by decide +kernel
theorem dX3_forgetsAll_0 : decode cX3_forgetsAll 0 = .ok (.aload_n 0, 1) := by decide +kernel
theorem dX3_forgetsAll_1 : decode cX3_forgetsAll 1 = .ok (.iconst 0, 1) := by decide +kernel
theorem dX3_forgetsAll_2 : decode cX3_forgetsAll 2 = .ok (.putfield 26, 3) := by decide +kernel
theorem dX3_forgetsAll_5 : decode cX3_forgetsAll 5 = .ok (.iconst 0, 1) := by decide +kernel
theorem dX3_forgetsAll_6 : decode cX3_forgetsAll 6 = .ok (.istore_n 1, 1) := by decide +kernel
theorem dX3_forgetsAll_7 : decode cX3_forgetsAll 7 = .ok (.iload_n 1, 1) := by decide +kernel
theorem dX3_forgetsAll_8 : decode cX3_forgetsAll 8 = .ok (.iconst 2, 1) := by decide +kernel
theorem dX3_forgetsAll_9 : decode cX3_forgetsAll 9 = .ok (.if_icmp .ge 16, 3) := by decide +kernel
theorem dX3_forgetsAll_12 : decode cX3_forgetsAll 12 = .ok (.aload_n 0, 1) := by decide +kernel
theorem dX3_forgetsAll_13 : decode cX3_forgetsAll 13 = .ok (.getfield 18, 3) := by decide +kernel
theorem dX3_forgetsAll_16 : decode cX3_forgetsAll 16 = .ok (.iload_n 1, 1) := by decide +kernel
theorem dX3_forgetsAll_17 : decode cX3_forgetsAll 17 = .ok (.iconst 0, 1) := by decide +kernel
theorem dX3_forgetsAll_18 : decode cX3_forgetsAll 18 = .ok (.bastore, 1) := by decide +kernel
theorem dX3_forgetsAll_19 : decode cX3_forgetsAll 19 = .ok (.iinc 1 1, 3) := by decide +kernel
theorem dX3_forgetsAll_22 : decode cX3_forgetsAll 22 = .ok (.goto (-15), 3) := by decide +kernel
theorem dX3_forgetsAll_25 : decode cX3_forgetsAll 25 = .ok (.return_, 1) := by decide +kernel
theorem dX3_keeps_0 : decode cX3_keeps 0 = .ok (.iload_n 1, 1) := by decide +kernel
theorem dX3_keeps_1 : decode cX3_keeps 1 = .ok (.ifCond .lt 8, 3) := by decide +kernel
theorem dX3_keeps_4 : decode cX3_keeps 4 = .ok (.iload_n 1, 1) := by decide +kernel
theorem dX3_keeps_5 : decode cX3_keeps 5 = .ok (.iconst 2, 1) := by decide +kernel
theorem dX3_keeps_6 : decode cX3_keeps 6 = .ok (.if_icmp .lt 5, 3) := by decide +kernel
theorem dX3_keeps_9 : decode cX3_keeps 9 = .ok (.iconst 0, 1) := by decide +kernel
theorem dX3_keeps_10 : decode cX3_keeps 10 = .ok (.ireturn, 1) := by decide +kernel
theorem dX3_keeps_11 : decode cX3_keeps 11 = .ok (.aload_n 0, 1) := by decide +kernel
theorem dX3_keeps_12 : decode cX3_keeps 12 = .ok (.getfield 15, 3) := by decide +kernel
theorem dX3_keeps_15 : decode cX3_keeps 15 = .ok (.iload_n 1, 1) := by decide +kernel
theorem dX3_keeps_16 : decode cX3_keeps 16 = .ok (.aaload, 1) := by decide +kernel
theorem dX3_keeps_17 : decode cX3_keeps 17 = .ok (.aload_n 2, 1) := by decide +kernel
theorem dX3_keeps_18 : decode cX3_keeps 18 = .ok (.invokevirtual 30, 3) := by decide +kernel
theorem dX3_keeps_21 : decode cX3_keeps 21 = .ok (.aload_n 0, 1) := by decide +kernel
theorem dX3_keeps_22 : decode cX3_keeps 22 = .ok (.getfield 18, 3) := by decide +kernel
theorem dX3_keeps_25 : decode cX3_keeps 25 = .ok (.iload_n 1, 1) := by decide +kernel
theorem dX3_keeps_26 : decode cX3_keeps 26 = .ok (.iconst 1, 1) := by decide +kernel
theorem dX3_keeps_27 : decode cX3_keeps 27 = .ok (.bastore, 1) := by decide +kernel
theorem dX3_keeps_28 : decode cX3_keeps 28 = .ok (.iconst 1, 1) := by decide +kernel
theorem dX3_keeps_29 : decode cX3_keeps 29 = .ok (.ireturn, 1) := by decide +kernel
theorem dX3_bringsKept_0 : decode cX3_bringsKept 0 = .ok (.iload_n 1, 1) := by decide +kernel
theorem dX3_bringsKept_1 : decode cX3_bringsKept 1 = .ok (.ifCond .lt 17, 3) := by decide +kernel
theorem dX3_bringsKept_4 : decode cX3_bringsKept 4 = .ok (.iload_n 1, 1) := by decide +kernel
theorem dX3_bringsKept_5 : decode cX3_bringsKept 5 = .ok (.iconst 2, 1) := by decide +kernel
theorem dX3_bringsKept_6 : decode cX3_bringsKept 6 = .ok (.if_icmp .ge 12, 3) := by decide +kernel
theorem dX3_bringsKept_9 : decode cX3_bringsKept 9 = .ok (.aload_n 0, 1) := by decide +kernel
theorem dX3_bringsKept_10 : decode cX3_bringsKept 10 = .ok (.getfield 18, 3) := by decide +kernel
theorem dX3_bringsKept_13 : decode cX3_bringsKept 13 = .ok (.iload_n 1, 1) := by decide +kernel
theorem dX3_bringsKept_14 : decode cX3_bringsKept 14 = .ok (.baload, 1) := by decide +kernel
theorem dX3_bringsKept_15 : decode cX3_bringsKept 15 = .ok (.ifCond .ne 5, 3) := by decide +kernel
theorem dX3_bringsKept_18 : decode cX3_bringsKept 18 = .ok (.iconst 0, 1) := by decide +kernel
theorem dX3_bringsKept_19 : decode cX3_bringsKept 19 = .ok (.ireturn, 1) := by decide +kernel
theorem dX3_bringsKept_20 : decode cX3_bringsKept 20 = .ok (.aload_n 2, 1) := by decide +kernel
theorem dX3_bringsKept_21 : decode cX3_bringsKept 21 = .ok (.aload_n 0, 1) := by decide +kernel
theorem dX3_bringsKept_22 : decode cX3_bringsKept 22 = .ok (.getfield 15, 3) := by decide +kernel
theorem dX3_bringsKept_25 : decode cX3_bringsKept 25 = .ok (.iload_n 1, 1) := by decide +kernel
theorem dX3_bringsKept_26 : decode cX3_bringsKept 26 = .ok (.aaload, 1) := by decide +kernel
theorem dX3_bringsKept_27 : decode cX3_bringsKept 27 = .ok (.invokevirtual 30, 3) := by decide +kernel
theorem dX3_bringsKept_30 : decode cX3_bringsKept 30 = .ok (.aload_n 0, 1) := by decide +kernel
theorem dX3_bringsKept_31 : decode cX3_bringsKept 31 = .ok (.iconst 0, 1) := by decide +kernel
theorem dX3_bringsKept_32 : decode cX3_bringsKept 32 = .ok (.putfield 26, 3) := by decide +kernel
theorem dX3_bringsKept_35 : decode cX3_bringsKept 35 = .ok (.iconst 1, 1) := by decide +kernel
theorem dX3_bringsKept_36 : decode cX3_bringsKept 36 = .ok (.ireturn, 1) := by decide +kernel
theorem dX4_init_0 : decode cX4_init 0 = .ok (.aload_n 0, 1) := by decide +kernel
theorem dX4_init_1 : decode cX4_init 1 = .ok (.invokespecial 3, 3) := by decide +kernel
theorem dX4_init_4 : decode cX4_init 4 = .ok (.aload_n 0, 1) := by decide +kernel
theorem dX4_init_5 : decode cX4_init 5 = .ok (.bipush 7, 2) := by decide +kernel
theorem dX4_init_7 : decode cX4_init 7 = .ok (.newarray .int, 2) := by decide +kernel
theorem dX4_init_9 : decode cX4_init 9 = .ok (.putfield 9, 3) := by decide +kernel
theorem dX4_init_12 : decode cX4_init 12 = .ok (.aload_n 0, 1) := by decide +kernel
theorem dX4_init_13 : decode cX4_init 13 = .ok (.bipush 7, 2) := by decide +kernel
theorem dX4_init_15 : decode cX4_init 15 = .ok (.newarray .int, 2) := by decide +kernel
theorem dX4_init_17 : decode cX4_init 17 = .ok (.putfield 15, 3) := by decide +kernel
theorem dX4_init_20 : decode cX4_init 20 = .ok (.aload_n 0, 1) := by decide +kernel
theorem dX4_init_21 : decode cX4_init 21 = .ok (.bipush 7, 2) := by decide +kernel
theorem dX4_init_23 : decode cX4_init 23 = .ok (.newarray .int, 2) := by decide +kernel
theorem dX4_init_25 : decode cX4_init 25 = .ok (.putfield 18, 3) := by decide +kernel
theorem dX4_init_28 : decode cX4_init 28 = .ok (.aload_n 0, 1) := by decide +kernel
theorem dX4_init_29 : decode cX4_init 29 = .ok (.iconst 0, 1) := by decide +kernel
theorem dX4_init_30 : decode cX4_init 30 = .ok (.putfield 21, 3) := by decide +kernel
theorem dX4_init_33 : decode cX4_init 33 = .ok (.return_, 1) := by decide +kernel
theorem dX4_tellsLongest_0 : decode cX4_tellsLongest 0 = .ok (.aload_n 0, 1) := by decide +kernel
theorem dX4_tellsLongest_1 : decode cX4_tellsLongest 1 = .ok (.iconst 0, 1) := by decide +kernel
theorem dX4_tellsLongest_2 : decode cX4_tellsLongest 2 = .ok (.putfield 21, 3) := by decide +kernel
theorem dX4_tellsLongest_5 : decode cX4_tellsLongest 5 = .ok (.aload_n 0, 1) := by decide +kernel
theorem dX4_tellsLongest_6 : decode cX4_tellsLongest 6 = .ok (.aload_n 1, 1) := by decide +kernel
theorem dX4_tellsLongest_7 : decode cX4_tellsLongest 7 = .ok (.iload_n 2, 1) := by decide +kernel
theorem dX4_tellsLongest_8 : decode cX4_tellsLongest 8 = .ok (.iconst 0, 1) := by decide +kernel
theorem dX4_tellsLongest_9 : decode cX4_tellsLongest 9 = .ok (.iconst 0, 1) := by decide +kernel
theorem dX4_tellsLongest_10 : decode cX4_tellsLongest 10 = .ok (.invokevirtual 25, 3) := by decide +kernel
theorem dX4_tellsLongest_13 : decode cX4_tellsLongest 13 = .ok (.aload_n 3, 1) := by decide +kernel
theorem dX4_tellsLongest_14 : decode cX4_tellsLongest 14 = .ok (.invokevirtual 29, 3) := by decide +kernel
theorem dX4_tellsLongest_17 : decode cX4_tellsLongest 17 = .ok (.iconst 0, 1) := by decide +kernel
theorem dX4_tellsLongest_18 : decode cX4_tellsLongest 18 = .ok (.istore 4, 2) := by decide +kernel
theorem dX4_tellsLongest_20 : decode cX4_tellsLongest 20 = .ok (.iload 4, 2) := by decide +kernel
theorem dX4_tellsLongest_22 : decode cX4_tellsLongest 22 = .ok (.aload_n 0, 1) := by decide +kernel
theorem dX4_tellsLongest_23 : decode cX4_tellsLongest 23 = .ok (.getfield 21, 3) := by decide +kernel
theorem dX4_tellsLongest_26 : decode cX4_tellsLongest 26 = .ok (.if_icmp .ge 28, 3) := by decide +kernel
theorem dX4_tellsLongest_29 : decode cX4_tellsLongest 29 = .ok (.iload 4, 2) := by decide +kernel
theorem dX4_tellsLongest_31 : decode cX4_tellsLongest 31 = .ok (.bipush 7, 2) := by decide +kernel
theorem dX4_tellsLongest_33 : decode cX4_tellsLongest 33 = .ok (.if_icmp .ge 21, 3) := by decide +kernel
theorem dX4_tellsLongest_36 : decode cX4_tellsLongest 36 = .ok (.aload_n 3, 1) := by decide +kernel
theorem dX4_tellsLongest_37 : decode cX4_tellsLongest 37 = .ok (.aload_n 0, 1) := by decide +kernel
theorem dX4_tellsLongest_38 : decode cX4_tellsLongest 38 = .ok (.getfield 15, 3) := by decide +kernel
theorem dX4_tellsLongest_41 : decode cX4_tellsLongest 41 = .ok (.iload 4, 2) := by decide +kernel
theorem dX4_tellsLongest_43 : decode cX4_tellsLongest 43 = .ok (.iaload, 1) := by decide +kernel
theorem dX4_tellsLongest_44 : decode cX4_tellsLongest 44 = .ok (.i2l, 1) := by decide +kernel
theorem dX4_tellsLongest_45 : decode cX4_tellsLongest 45 = .ok (.invokevirtual 34, 3) := by decide +kernel
theorem dX4_tellsLongest_48 : decode cX4_tellsLongest 48 = .ok (.iinc 4 1, 3) := by decide +kernel
theorem dX4_tellsLongest_51 : decode cX4_tellsLongest 51 = .ok (.goto (-31), 3) := by decide +kernel
theorem dX4_tellsLongest_54 : decode cX4_tellsLongest 54 = .ok (.aload_n 0, 1) := by decide +kernel
theorem dX4_tellsLongest_55 : decode cX4_tellsLongest 55 = .ok (.getfield 21, 3) := by decide +kernel
theorem dX4_tellsLongest_58 : decode cX4_tellsLongest 58 = .ok (.ireturn, 1) := by decide +kernel
theorem dX4_goesOn_0 : decode cX4_goesOn 0 = .ok (.iload 4, 2) := by decide +kernel
theorem dX4_goesOn_2 : decode cX4_goesOn 2 = .ok (.ifCond .lt 29, 3) := by decide +kernel
theorem dX4_goesOn_5 : decode cX4_goesOn 5 = .ok (.iload 4, 2) := by decide +kernel
theorem dX4_goesOn_7 : decode cX4_goesOn 7 = .ok (.bipush 7, 2) := by decide +kernel
theorem dX4_goesOn_9 : decode cX4_goesOn 9 = .ok (.if_icmp .ge 22, 3) := by decide +kernel
theorem dX4_goesOn_12 : decode cX4_goesOn 12 = .ok (.aload_n 0, 1) := by decide +kernel
theorem dX4_goesOn_13 : decode cX4_goesOn 13 = .ok (.getfield 21, 3) := by decide +kernel
theorem dX4_goesOn_16 : decode cX4_goesOn 16 = .ok (.aload_n 1, 1) := by decide +kernel
theorem dX4_goesOn_17 : decode cX4_goesOn 17 = .ok (.getfield 38, 3) := by decide +kernel
theorem dX4_goesOn_20 : decode cX4_goesOn 20 = .ok (.if_icmp .ge 11, 3) := by decide +kernel
theorem dX4_goesOn_23 : decode cX4_goesOn 23 = .ok (.aload_n 1, 1) := by decide +kernel
theorem dX4_goesOn_24 : decode cX4_goesOn 24 = .ok (.iload_n 2, 1) := by decide +kernel
theorem dX4_goesOn_25 : decode cX4_goesOn 25 = .ok (.invokevirtual 43, 3) := by decide +kernel
theorem dX4_goesOn_28 : decode cX4_goesOn 28 = .ok (.ifCond .ne 4, 3) := by decide +kernel
theorem dX4_goesOn_31 : decode cX4_goesOn 31 = .ok (.return_, 1) := by decide +kernel
theorem dX4_goesOn_32 : decode cX4_goesOn 32 = .ok (.aload_n 0, 1) := by decide +kernel
theorem dX4_goesOn_33 : decode cX4_goesOn 33 = .ok (.getfield 9, 3) := by decide +kernel
theorem dX4_goesOn_36 : decode cX4_goesOn 36 = .ok (.iload 4, 2) := by decide +kernel
theorem dX4_goesOn_38 : decode cX4_goesOn 38 = .ok (.iload_n 2, 1) := by decide +kernel
theorem dX4_goesOn_39 : decode cX4_goesOn 39 = .ok (.iastore, 1) := by decide +kernel
theorem dX4_goesOn_40 : decode cX4_goesOn 40 = .ok (.iload 4, 2) := by decide +kernel
theorem dX4_goesOn_42 : decode cX4_goesOn 42 = .ok (.aload_n 0, 1) := by decide +kernel
theorem dX4_goesOn_43 : decode cX4_goesOn 43 = .ok (.getfield 21, 3) := by decide +kernel
theorem dX4_goesOn_46 : decode cX4_goesOn 46 = .ok (.if_icmp .lt 41, 3) := by decide +kernel
theorem dX4_goesOn_49 : decode cX4_goesOn 49 = .ok (.aload_n 0, 1) := by decide +kernel
theorem dX4_goesOn_50 : decode cX4_goesOn 50 = .ok (.iload 4, 2) := by decide +kernel
theorem dX4_goesOn_52 : decode cX4_goesOn 52 = .ok (.iconst 1, 1) := by decide +kernel
theorem dX4_goesOn_53 : decode cX4_goesOn 53 = .ok (.iadd, 1) := by decide +kernel
theorem dX4_goesOn_54 : decode cX4_goesOn 54 = .ok (.putfield 21, 3) := by decide +kernel
theorem dX4_goesOn_57 : decode cX4_goesOn 57 = .ok (.iconst 0, 1) := by decide +kernel
theorem dX4_goesOn_58 : decode cX4_goesOn 58 = .ok (.istore 5, 2) := by decide +kernel
theorem dX4_goesOn_60 : decode cX4_goesOn 60 = .ok (.iload 5, 2) := by decide +kernel
theorem dX4_goesOn_62 : decode cX4_goesOn 62 = .ok (.iload 4, 2) := by decide +kernel
theorem dX4_goesOn_64 : decode cX4_goesOn 64 = .ok (.if_icmp .gt 23, 3) := by decide +kernel
theorem dX4_goesOn_67 : decode cX4_goesOn 67 = .ok (.aload_n 0, 1) := by decide +kernel
theorem dX4_goesOn_68 : decode cX4_goesOn 68 = .ok (.getfield 15, 3) := by decide +kernel
theorem dX4_goesOn_71 : decode cX4_goesOn 71 = .ok (.iload 5, 2) := by decide +kernel
theorem dX4_goesOn_73 : decode cX4_goesOn 73 = .ok (.aload_n 0, 1) := by decide +kernel
theorem dX4_goesOn_74 : decode cX4_goesOn 74 = .ok (.getfield 9, 3) := by decide +kernel
theorem dX4_goesOn_77 : decode cX4_goesOn 77 = .ok (.iload 5, 2) := by decide +kernel
theorem dX4_goesOn_79 : decode cX4_goesOn 79 = .ok (.iaload, 1) := by decide +kernel
theorem dX4_goesOn_80 : decode cX4_goesOn 80 = .ok (.iastore, 1) := by decide +kernel
theorem dX4_goesOn_81 : decode cX4_goesOn 81 = .ok (.iinc 5 1, 3) := by decide +kernel
theorem dX4_goesOn_84 : decode cX4_goesOn 84 = .ok (.goto (-24), 3) := by decide +kernel
theorem dX4_goesOn_87 : decode cX4_goesOn 87 = .ok (.iload_n 3, 1) := by decide +kernel
theorem dX4_goesOn_88 : decode cX4_goesOn 88 = .ok (.iconst 1, 1) := by decide +kernel
theorem dX4_goesOn_89 : decode cX4_goesOn 89 = .ok (.iload_n 2, 1) := by decide +kernel
theorem dX4_goesOn_90 : decode cX4_goesOn 90 = .ok (.ishl, 1) := by decide +kernel
theorem dX4_goesOn_91 : decode cX4_goesOn 91 = .ok (.ior, 1) := by decide +kernel
theorem dX4_goesOn_92 : decode cX4_goesOn 92 = .ok (.istore 5, 2) := by decide +kernel
theorem dX4_goesOn_94 : decode cX4_goesOn 94 = .ok (.aload_n 1, 1) := by decide +kernel
theorem dX4_goesOn_95 : decode cX4_goesOn 95 = .ok (.getfield 47, 3) := by decide +kernel
theorem dX4_goesOn_98 : decode cX4_goesOn 98 = .ok (.iload_n 2, 1) := by decide +kernel
theorem dX4_goesOn_99 : decode cX4_goesOn 99 = .ok (.iaload, 1) := by decide +kernel
theorem dX4_goesOn_100 : decode cX4_goesOn 100 = .ok (.iload 5, 2) := by decide +kernel
theorem dX4_goesOn_102 : decode cX4_goesOn 102 = .ok (.iconst (-1), 1) := by decide +kernel
theorem dX4_goesOn_103 : decode cX4_goesOn 103 = .ok (.ixor, 1) := by decide +kernel
theorem dX4_goesOn_104 : decode cX4_goesOn 104 = .ok (.iand, 1) := by decide +kernel
theorem dX4_goesOn_105 : decode cX4_goesOn 105 = .ok (.istore 6, 2) := by decide +kernel
theorem dX4_goesOn_107 : decode cX4_goesOn 107 = .ok (.iconst 0, 1) := by decide +kernel
theorem dX4_goesOn_108 : decode cX4_goesOn 108 = .ok (.istore 7, 2) := by decide +kernel
theorem dX4_goesOn_110 : decode cX4_goesOn 110 = .ok (.iload 7, 2) := by decide +kernel
theorem dX4_goesOn_112 : decode cX4_goesOn 112 = .ok (.aload_n 1, 1) := by decide +kernel
theorem dX4_goesOn_113 : decode cX4_goesOn 113 = .ok (.getfield 38, 3) := by decide +kernel
theorem dX4_goesOn_116 : decode cX4_goesOn 116 = .ok (.if_icmp .ge 32, 3) := by decide +kernel
theorem dX4_goesOn_119 : decode cX4_goesOn 119 = .ok (.iload 6, 2) := by decide +kernel
theorem dX4_goesOn_121 : decode cX4_goesOn 121 = .ok (.iload 7, 2) := by decide +kernel
theorem dX4_goesOn_123 : decode cX4_goesOn 123 = .ok (.ishr, 1) := by decide +kernel
theorem dX4_goesOn_124 : decode cX4_goesOn 124 = .ok (.iconst 1, 1) := by decide +kernel
theorem dX4_goesOn_125 : decode cX4_goesOn 125 = .ok (.iand, 1) := by decide +kernel
theorem dX4_goesOn_126 : decode cX4_goesOn 126 = .ok (.ifCond .eq 16, 3) := by decide +kernel
theorem dX4_goesOn_129 : decode cX4_goesOn 129 = .ok (.aload_n 0, 1) := by decide +kernel
theorem dX4_goesOn_130 : decode cX4_goesOn 130 = .ok (.aload_n 1, 1) := by decide +kernel
theorem dX4_goesOn_131 : decode cX4_goesOn 131 = .ok (.iload 7, 2) := by decide +kernel
theorem dX4_goesOn_133 : decode cX4_goesOn 133 = .ok (.iload 5, 2) := by decide +kernel
theorem dX4_goesOn_135 : decode cX4_goesOn 135 = .ok (.iload 4, 2) := by decide +kernel
theorem dX4_goesOn_137 : decode cX4_goesOn 137 = .ok (.iconst 1, 1) := by decide +kernel
theorem dX4_goesOn_138 : decode cX4_goesOn 138 = .ok (.iadd, 1) := by decide +kernel
theorem dX4_goesOn_139 : decode cX4_goesOn 139 = .ok (.invokevirtual 25, 3) := by decide +kernel
theorem dX4_goesOn_142 : decode cX4_goesOn 142 = .ok (.iinc 7 1, 3) := by decide +kernel
theorem dX4_goesOn_145 : decode cX4_goesOn 145 = .ok (.goto (-35), 3) := by decide +kernel
theorem dX4_goesOn_148 : decode cX4_goesOn 148 = .ok (.return_, 1) := by decide +kernel
theorem dX4_tellsWay_0 : decode cX4_tellsWay 0 = .ok (.aload_n 0, 1) := by decide +kernel
theorem dX4_tellsWay_1 : decode cX4_tellsWay 1 = .ok (.aload_n 1, 1) := by decide +kernel
theorem dX4_tellsWay_2 : decode cX4_tellsWay 2 = .ok (.iload_n 3, 1) := by decide +kernel
theorem dX4_tellsWay_3 : decode cX4_tellsWay 3 = .ok (.aload_n 1, 1) := by decide +kernel
theorem dX4_tellsWay_4 : decode cX4_tellsWay 4 = .ok (.invokevirtual 50, 3) := by decide +kernel
theorem dX4_tellsWay_7 : decode cX4_tellsWay 7 = .ok (.invokevirtual 54, 3) := by decide +kernel
theorem dX4_tellsWay_10 : decode cX4_tellsWay 10 = .ok (.aload_n 0, 1) := by decide +kernel
theorem dX4_tellsWay_11 : decode cX4_tellsWay 11 = .ok (.iload_n 2, 1) := by decide +kernel
theorem dX4_tellsWay_12 : decode cX4_tellsWay 12 = .ok (.invokevirtual 58, 3) := by decide +kernel
theorem dX4_tellsWay_15 : decode cX4_tellsWay 15 = .ok (.istore 5, 2) := by decide +kernel
theorem dX4_tellsWay_17 : decode cX4_tellsWay 17 = .ok (.iload 5, 2) := by decide +kernel
theorem dX4_tellsWay_19 : decode cX4_tellsWay 19 = .ok (.ifCond .ge 6, 3) := by decide +kernel
theorem dX4_tellsWay_22 : decode cX4_tellsWay 22 = .ok (.bipush (-2), 2) := by decide +kernel
theorem dX4_tellsWay_24 : decode cX4_tellsWay 24 = .ok (.ireturn, 1) := by decide +kernel
theorem dX4_tellsWay_25 : decode cX4_tellsWay 25 = .ok (.aload 4, 2) := by decide +kernel
theorem dX4_tellsWay_27 : decode cX4_tellsWay 27 = .ok (.iload_n 2, 1) := by decide +kernel
theorem dX4_tellsWay_28 : decode cX4_tellsWay 28 = .ok (.i2l, 1) := by decide +kernel
theorem dX4_tellsWay_29 : decode cX4_tellsWay 29 = .ok (.invokevirtual 62, 3) := by decide +kernel
theorem dX4_tellsWay_32 : decode cX4_tellsWay 32 = .ok (.iload_n 2, 1) := by decide +kernel
theorem dX4_tellsWay_33 : decode cX4_tellsWay 33 = .ok (.istore 6, 2) := by decide +kernel
theorem dX4_tellsWay_35 : decode cX4_tellsWay 35 = .ok (.iload 5, 2) := by decide +kernel
theorem dX4_tellsWay_37 : decode cX4_tellsWay 37 = .ok (.iconst 1, 1) := by decide +kernel
theorem dX4_tellsWay_38 : decode cX4_tellsWay 38 = .ok (.isub, 1) := by decide +kernel
theorem dX4_tellsWay_39 : decode cX4_tellsWay 39 = .ok (.istore 7, 2) := by decide +kernel
theorem dX4_tellsWay_41 : decode cX4_tellsWay 41 = .ok (.iload 7, 2) := by decide +kernel
theorem dX4_tellsWay_43 : decode cX4_tellsWay 43 = .ok (.ifCond .lt 28, 3) := by decide +kernel
theorem dX4_tellsWay_46 : decode cX4_tellsWay 46 = .ok (.aload_n 0, 1) := by decide +kernel
theorem dX4_tellsWay_47 : decode cX4_tellsWay 47 = .ok (.aload_n 1, 1) := by decide +kernel
theorem dX4_tellsWay_48 : decode cX4_tellsWay 48 = .ok (.iload 6, 2) := by decide +kernel
theorem dX4_tellsWay_50 : decode cX4_tellsWay 50 = .ok (.iload 7, 2) := by decide +kernel
theorem dX4_tellsWay_52 : decode cX4_tellsWay 52 = .ok (.invokevirtual 65, 3) := by decide +kernel
theorem dX4_tellsWay_55 : decode cX4_tellsWay 55 = .ok (.istore 6, 2) := by decide +kernel
theorem dX4_tellsWay_57 : decode cX4_tellsWay 57 = .ok (.aload 4, 2) := by decide +kernel
theorem dX4_tellsWay_59 : decode cX4_tellsWay 59 = .ok (.iload 6, 2) := by decide +kernel
theorem dX4_tellsWay_61 : decode cX4_tellsWay 61 = .ok (.i2l, 1) := by decide +kernel
theorem dX4_tellsWay_62 : decode cX4_tellsWay 62 = .ok (.invokevirtual 34, 3) := by decide +kernel
theorem dX4_tellsWay_65 : decode cX4_tellsWay 65 = .ok (.iinc 7 (-1), 3) := by decide +kernel
theorem dX4_tellsWay_68 : decode cX4_tellsWay 68 = .ok (.goto (-27), 3) := by decide +kernel
theorem dX4_tellsWay_71 : decode cX4_tellsWay 71 = .ok (.iload 5, 2) := by decide +kernel
theorem dX4_tellsWay_73 : decode cX4_tellsWay 73 = .ok (.ireturn, 1) := by decide +kernel
theorem dX4_tellsRing_0 : decode cX4_tellsRing 0 = .ok (.bipush 8, 2) := by decide +kernel
theorem dX4_tellsRing_2 : decode cX4_tellsRing 2 = .ok (.istore_n 3, 1) := by decide +kernel
theorem dX4_tellsRing_3 : decode cX4_tellsRing 3 = .ok (.iconst (-1), 1) := by decide +kernel
theorem dX4_tellsRing_4 : decode cX4_tellsRing 4 = .ok (.istore 4, 2) := by decide +kernel
theorem dX4_tellsRing_6 : decode cX4_tellsRing 6 = .ok (.iconst 0, 1) := by decide +kernel
theorem dX4_tellsRing_7 : decode cX4_tellsRing 7 = .ok (.istore 5, 2) := by decide +kernel
theorem dX4_tellsRing_9 : decode cX4_tellsRing 9 = .ok (.iload 5, 2) := by decide +kernel
theorem dX4_tellsRing_11 : decode cX4_tellsRing 11 = .ok (.aload_n 1, 1) := by decide +kernel
theorem dX4_tellsRing_12 : decode cX4_tellsRing 12 = .ok (.getfield 38, 3) := by decide +kernel
theorem dX4_tellsRing_15 : decode cX4_tellsRing 15 = .ok (.if_icmp .ge 36, 3) := by decide +kernel
theorem dX4_tellsRing_18 : decode cX4_tellsRing 18 = .ok (.aload_n 0, 1) := by decide +kernel
theorem dX4_tellsRing_19 : decode cX4_tellsRing 19 = .ok (.aload_n 1, 1) := by decide +kernel
theorem dX4_tellsRing_20 : decode cX4_tellsRing 20 = .ok (.iload 5, 2) := by decide +kernel
theorem dX4_tellsRing_22 : decode cX4_tellsRing 22 = .ok (.invokevirtual 69, 3) := by decide +kernel
theorem dX4_tellsRing_25 : decode cX4_tellsRing 25 = .ok (.istore 6, 2) := by decide +kernel
theorem dX4_tellsRing_27 : decode cX4_tellsRing 27 = .ok (.iload 6, 2) := by decide +kernel
theorem dX4_tellsRing_29 : decode cX4_tellsRing 29 = .ok (.ifCond .le 16, 3) := by decide +kernel
theorem dX4_tellsRing_32 : decode cX4_tellsRing 32 = .ok (.iload 6, 2) := by decide +kernel
theorem dX4_tellsRing_34 : decode cX4_tellsRing 34 = .ok (.iload_n 3, 1) := by decide +kernel
theorem dX4_tellsRing_35 : decode cX4_tellsRing 35 = .ok (.if_icmp .ge 10, 3) := by decide +kernel
theorem dX4_tellsRing_38 : decode cX4_tellsRing 38 = .ok (.iload 6, 2) := by decide +kernel
theorem dX4_tellsRing_40 : decode cX4_tellsRing 40 = .ok (.istore_n 3, 1) := by decide +kernel
theorem dX4_tellsRing_41 : decode cX4_tellsRing 41 = .ok (.iload 5, 2) := by decide +kernel
theorem dX4_tellsRing_43 : decode cX4_tellsRing 43 = .ok (.istore 4, 2) := by decide +kernel
theorem dX4_tellsRing_45 : decode cX4_tellsRing 45 = .ok (.iinc 5 1, 3) := by decide +kernel
theorem dX4_tellsRing_48 : decode cX4_tellsRing 48 = .ok (.goto (-39), 3) := by decide +kernel
theorem dX4_tellsRing_51 : decode cX4_tellsRing 51 = .ok (.iload 4, 2) := by decide +kernel
theorem dX4_tellsRing_53 : decode cX4_tellsRing 53 = .ok (.ifCond .ge 6, 3) := by decide +kernel
theorem dX4_tellsRing_56 : decode cX4_tellsRing 56 = .ok (.bipush (-2), 2) := by decide +kernel
theorem dX4_tellsRing_58 : decode cX4_tellsRing 58 = .ok (.ireturn, 1) := by decide +kernel
theorem dX4_tellsRing_59 : decode cX4_tellsRing 59 = .ok (.aload_n 0, 1) := by decide +kernel
theorem dX4_tellsRing_60 : decode cX4_tellsRing 60 = .ok (.aload_n 1, 1) := by decide +kernel
theorem dX4_tellsRing_61 : decode cX4_tellsRing 61 = .ok (.iload 4, 2) := by decide +kernel
theorem dX4_tellsRing_63 : decode cX4_tellsRing 63 = .ok (.invokevirtual 69, 3) := by decide +kernel
theorem dX4_tellsRing_66 : decode cX4_tellsRing 66 = .ok (.pop, 1) := by decide +kernel
theorem dX4_tellsRing_67 : decode cX4_tellsRing 67 = .ok (.aload_n 2, 1) := by decide +kernel
theorem dX4_tellsRing_68 : decode cX4_tellsRing 68 = .ok (.iload 4, 2) := by decide +kernel
theorem dX4_tellsRing_70 : decode cX4_tellsRing 70 = .ok (.i2l, 1) := by decide +kernel
theorem dX4_tellsRing_71 : decode cX4_tellsRing 71 = .ok (.invokevirtual 62, 3) := by decide +kernel
theorem dX4_tellsRing_74 : decode cX4_tellsRing 74 = .ok (.iload 4, 2) := by decide +kernel
theorem dX4_tellsRing_76 : decode cX4_tellsRing 76 = .ok (.istore 5, 2) := by decide +kernel
theorem dX4_tellsRing_78 : decode cX4_tellsRing 78 = .ok (.iload_n 3, 1) := by decide +kernel
theorem dX4_tellsRing_79 : decode cX4_tellsRing 79 = .ok (.iconst 1, 1) := by decide +kernel
theorem dX4_tellsRing_80 : decode cX4_tellsRing 80 = .ok (.isub, 1) := by decide +kernel
theorem dX4_tellsRing_81 : decode cX4_tellsRing 81 = .ok (.istore 6, 2) := by decide +kernel
theorem dX4_tellsRing_83 : decode cX4_tellsRing 83 = .ok (.iload 6, 2) := by decide +kernel
theorem dX4_tellsRing_85 : decode cX4_tellsRing 85 = .ok (.ifCond .le 27, 3) := by decide +kernel
theorem dX4_tellsRing_88 : decode cX4_tellsRing 88 = .ok (.aload_n 0, 1) := by decide +kernel
theorem dX4_tellsRing_89 : decode cX4_tellsRing 89 = .ok (.aload_n 1, 1) := by decide +kernel
theorem dX4_tellsRing_90 : decode cX4_tellsRing 90 = .ok (.iload 5, 2) := by decide +kernel
theorem dX4_tellsRing_92 : decode cX4_tellsRing 92 = .ok (.iload 6, 2) := by decide +kernel
theorem dX4_tellsRing_94 : decode cX4_tellsRing 94 = .ok (.invokevirtual 65, 3) := by decide +kernel
theorem dX4_tellsRing_97 : decode cX4_tellsRing 97 = .ok (.istore 5, 2) := by decide +kernel
theorem dX4_tellsRing_99 : decode cX4_tellsRing 99 = .ok (.aload_n 2, 1) := by decide +kernel
theorem dX4_tellsRing_100 : decode cX4_tellsRing 100 = .ok (.iload 5, 2) := by decide +kernel
theorem dX4_tellsRing_102 : decode cX4_tellsRing 102 = .ok (.i2l, 1) := by decide +kernel
theorem dX4_tellsRing_103 : decode cX4_tellsRing 103 = .ok (.invokevirtual 34, 3) := by decide +kernel
theorem dX4_tellsRing_106 : decode cX4_tellsRing 106 = .ok (.iinc 6 (-1), 3) := by decide +kernel
theorem dX4_tellsRing_109 : decode cX4_tellsRing 109 = .ok (.goto (-26), 3) := by decide +kernel
theorem dX4_tellsRing_112 : decode cX4_tellsRing 112 = .ok (.iload_n 3, 1) := by decide +kernel
theorem dX4_tellsRing_113 : decode cX4_tellsRing 113 = .ok (.ireturn, 1) := by decide +kernel
theorem dX4_roundFrom_0 : decode cX4_roundFrom 0 = .ok (.aload_n 0, 1) := by decide +kernel
theorem dX4_roundFrom_1 : decode cX4_roundFrom 1 = .ok (.aload_n 1, 1) := by decide +kernel
theorem dX4_roundFrom_2 : decode cX4_roundFrom 2 = .ok (.iload_n 2, 1) := by decide +kernel
theorem dX4_roundFrom_3 : decode cX4_roundFrom 3 = .ok (.aload_n 1, 1) := by decide +kernel
theorem dX4_roundFrom_4 : decode cX4_roundFrom 4 = .ok (.invokevirtual 50, 3) := by decide +kernel
theorem dX4_roundFrom_7 : decode cX4_roundFrom 7 = .ok (.iconst 1, 1) := by decide +kernel
theorem dX4_roundFrom_8 : decode cX4_roundFrom 8 = .ok (.iload_n 2, 1) := by decide +kernel
theorem dX4_roundFrom_9 : decode cX4_roundFrom 9 = .ok (.ishl, 1) := by decide +kernel
theorem dX4_roundFrom_10 : decode cX4_roundFrom 10 = .ok (.ineg, 1) := by decide +kernel
theorem dX4_roundFrom_11 : decode cX4_roundFrom 11 = .ok (.iand, 1) := by decide +kernel
theorem dX4_roundFrom_12 : decode cX4_roundFrom 12 = .ok (.invokevirtual 54, 3) := by decide +kernel
theorem dX4_roundFrom_15 : decode cX4_roundFrom 15 = .ok (.iconst 1, 1) := by decide +kernel
theorem dX4_roundFrom_16 : decode cX4_roundFrom 16 = .ok (.istore_n 3, 1) := by decide +kernel
theorem dX4_roundFrom_17 : decode cX4_roundFrom 17 = .ok (.iload_n 3, 1) := by decide +kernel
theorem dX4_roundFrom_18 : decode cX4_roundFrom 18 = .ok (.aload_n 1, 1) := by decide +kernel
theorem dX4_roundFrom_19 : decode cX4_roundFrom 19 = .ok (.getfield 38, 3) := by decide +kernel
theorem dX4_roundFrom_22 : decode cX4_roundFrom 22 = .ok (.if_icmp .ge 23, 3) := by decide +kernel
theorem dX4_roundFrom_25 : decode cX4_roundFrom 25 = .ok (.aload_n 0, 1) := by decide +kernel
theorem dX4_roundFrom_26 : decode cX4_roundFrom 26 = .ok (.aload_n 1, 1) := by decide +kernel
theorem dX4_roundFrom_27 : decode cX4_roundFrom 27 = .ok (.iload_n 2, 1) := by decide +kernel
theorem dX4_roundFrom_28 : decode cX4_roundFrom 28 = .ok (.iload_n 3, 1) := by decide +kernel
theorem dX4_roundFrom_29 : decode cX4_roundFrom 29 = .ok (.invokevirtual 65, 3) := by decide +kernel
theorem dX4_roundFrom_32 : decode cX4_roundFrom 32 = .ok (.ifCond .lt 7, 3) := by decide +kernel
theorem dX4_roundFrom_35 : decode cX4_roundFrom 35 = .ok (.iload_n 3, 1) := by decide +kernel
theorem dX4_roundFrom_36 : decode cX4_roundFrom 36 = .ok (.iconst 1, 1) := by decide +kernel
theorem dX4_roundFrom_37 : decode cX4_roundFrom 37 = .ok (.iadd, 1) := by decide +kernel
theorem dX4_roundFrom_38 : decode cX4_roundFrom 38 = .ok (.ireturn, 1) := by decide +kernel
theorem dX4_roundFrom_39 : decode cX4_roundFrom 39 = .ok (.iinc 3 1, 3) := by decide +kernel
theorem dX4_roundFrom_42 : decode cX4_roundFrom 42 = .ok (.goto (-25), 3) := by decide +kernel
theorem dX4_roundFrom_45 : decode cX4_roundFrom 45 = .ok (.iconst 0, 1) := by decide +kernel
theorem dX4_roundFrom_46 : decode cX4_roundFrom 46 = .ok (.ireturn, 1) := by decide +kernel
theorem dX4_measures_0 : decode cX4_measures 0 = .ok (.iconst 0, 1) := by decide +kernel
theorem dX4_measures_1 : decode cX4_measures 1 = .ok (.istore 4, 2) := by decide +kernel
theorem dX4_measures_3 : decode cX4_measures 3 = .ok (.iload 4, 2) := by decide +kernel
theorem dX4_measures_5 : decode cX4_measures 5 = .ok (.bipush 7, 2) := by decide +kernel
theorem dX4_measures_7 : decode cX4_measures 7 = .ok (.if_icmp .ge 27, 3) := by decide +kernel
theorem dX4_measures_10 : decode cX4_measures 10 = .ok (.aload_n 0, 1) := by decide +kernel
theorem dX4_measures_11 : decode cX4_measures 11 = .ok (.getfield 18, 3) := by decide +kernel
theorem dX4_measures_14 : decode cX4_measures 14 = .ok (.iload 4, 2) := by decide +kernel
theorem dX4_measures_16 : decode cX4_measures 16 = .ok (.iload 4, 2) := by decide +kernel
theorem dX4_measures_18 : decode cX4_measures 18 = .ok (.iload_n 2, 1) := by decide +kernel
theorem dX4_measures_19 : decode cX4_measures 19 = .ok (.if_icmp .ne 7, 3) := by decide +kernel
theorem dX4_measures_22 : decode cX4_measures 22 = .ok (.iconst 0, 1) := by decide +kernel
theorem dX4_measures_23 : decode cX4_measures 23 = .ok (.goto 4, 3) := by decide +kernel
theorem dX4_measures_26 : decode cX4_measures 26 = .ok (.iconst (-1), 1) := by decide +kernel
theorem dX4_measures_27 : decode cX4_measures 27 = .ok (.iastore, 1) := by decide +kernel
theorem dX4_measures_28 : decode cX4_measures 28 = .ok (.iinc 4 1, 3) := by decide +kernel
theorem dX4_measures_31 : decode cX4_measures 31 = .ok (.goto (-28), 3) := by decide +kernel
theorem dX4_measures_34 : decode cX4_measures 34 = .ok (.iconst 1, 1) := by decide +kernel
theorem dX4_measures_35 : decode cX4_measures 35 = .ok (.iload_n 2, 1) := by decide +kernel
theorem dX4_measures_36 : decode cX4_measures 36 = .ok (.ishl, 1) := by decide +kernel
theorem dX4_measures_37 : decode cX4_measures 37 = .ok (.istore 4, 2) := by decide +kernel
theorem dX4_measures_39 : decode cX4_measures 39 = .ok (.iconst 1, 1) := by decide +kernel
theorem dX4_measures_40 : decode cX4_measures 40 = .ok (.istore 5, 2) := by decide +kernel
theorem dX4_measures_42 : decode cX4_measures 42 = .ok (.iload 5, 2) := by decide +kernel
theorem dX4_measures_44 : decode cX4_measures 44 = .ok (.aload_n 1, 1) := by decide +kernel
theorem dX4_measures_45 : decode cX4_measures 45 = .ok (.getfield 38, 3) := by decide +kernel
theorem dX4_measures_48 : decode cX4_measures 48 = .ok (.if_icmp .ge 84, 3) := by decide +kernel
theorem dX4_measures_51 : decode cX4_measures 51 = .ok (.iconst 0, 1) := by decide +kernel
theorem dX4_measures_52 : decode cX4_measures 52 = .ok (.istore 6, 2) := by decide +kernel
theorem dX4_measures_54 : decode cX4_measures 54 = .ok (.iconst 0, 1) := by decide +kernel
theorem dX4_measures_55 : decode cX4_measures 55 = .ok (.istore 7, 2) := by decide +kernel
theorem dX4_measures_57 : decode cX4_measures 57 = .ok (.iload 7, 2) := by decide +kernel
theorem dX4_measures_59 : decode cX4_measures 59 = .ok (.aload_n 1, 1) := by decide +kernel
theorem dX4_measures_60 : decode cX4_measures 60 = .ok (.getfield 38, 3) := by decide +kernel
theorem dX4_measures_63 : decode cX4_measures 63 = .ok (.if_icmp .ge 59, 3) := by decide +kernel
theorem dX4_measures_66 : decode cX4_measures 66 = .ok (.aload_n 0, 1) := by decide +kernel
theorem dX4_measures_67 : decode cX4_measures 67 = .ok (.getfield 18, 3) := by decide +kernel
theorem dX4_measures_70 : decode cX4_measures 70 = .ok (.iload 7, 2) := by decide +kernel
theorem dX4_measures_72 : decode cX4_measures 72 = .ok (.iaload, 1) := by decide +kernel
theorem dX4_measures_73 : decode cX4_measures 73 = .ok (.ifCond .ge 43, 3) := by decide +kernel
theorem dX4_measures_76 : decode cX4_measures 76 = .ok (.iload_n 3, 1) := by decide +kernel
theorem dX4_measures_77 : decode cX4_measures 77 = .ok (.iload 7, 2) := by decide +kernel
theorem dX4_measures_79 : decode cX4_measures 79 = .ok (.ishr, 1) := by decide +kernel
theorem dX4_measures_80 : decode cX4_measures 80 = .ok (.iconst 1, 1) := by decide +kernel
theorem dX4_measures_81 : decode cX4_measures 81 = .ok (.iand, 1) := by decide +kernel
theorem dX4_measures_82 : decode cX4_measures 82 = .ok (.ifCond .eq 34, 3) := by decide +kernel
theorem dX4_measures_85 : decode cX4_measures 85 = .ok (.aload_n 1, 1) := by decide +kernel
theorem dX4_measures_86 : decode cX4_measures 86 = .ok (.getfield 47, 3) := by decide +kernel
theorem dX4_measures_89 : decode cX4_measures 89 = .ok (.iload 7, 2) := by decide +kernel
theorem dX4_measures_91 : decode cX4_measures 91 = .ok (.iaload, 1) := by decide +kernel
theorem dX4_measures_92 : decode cX4_measures 92 = .ok (.iload 4, 2) := by decide +kernel
theorem dX4_measures_94 : decode cX4_measures 94 = .ok (.iand, 1) := by decide +kernel
theorem dX4_measures_95 : decode cX4_measures 95 = .ok (.ifCond .eq 21, 3) := by decide +kernel
theorem dX4_measures_98 : decode cX4_measures 98 = .ok (.aload_n 0, 1) := by decide +kernel
theorem dX4_measures_99 : decode cX4_measures 99 = .ok (.getfield 18, 3) := by decide +kernel
theorem dX4_measures_102 : decode cX4_measures 102 = .ok (.iload 7, 2) := by decide +kernel
theorem dX4_measures_104 : decode cX4_measures 104 = .ok (.iload 5, 2) := by decide +kernel
theorem dX4_measures_106 : decode cX4_measures 106 = .ok (.iastore, 1) := by decide +kernel
theorem dX4_measures_107 : decode cX4_measures 107 = .ok (.iload 6, 2) := by decide +kernel
theorem dX4_measures_109 : decode cX4_measures 109 = .ok (.iconst 1, 1) := by decide +kernel
theorem dX4_measures_110 : decode cX4_measures 110 = .ok (.iload 7, 2) := by decide +kernel
theorem dX4_measures_112 : decode cX4_measures 112 = .ok (.ishl, 1) := by decide +kernel
theorem dX4_measures_113 : decode cX4_measures 113 = .ok (.ior, 1) := by decide +kernel
theorem dX4_measures_114 : decode cX4_measures 114 = .ok (.istore 6, 2) := by decide +kernel
theorem dX4_measures_116 : decode cX4_measures 116 = .ok (.iinc 7 1, 3) := by decide +kernel
theorem dX4_measures_119 : decode cX4_measures 119 = .ok (.goto (-62), 3) := by decide +kernel
theorem dX4_measures_122 : decode cX4_measures 122 = .ok (.iload 6, 2) := by decide +kernel
theorem dX4_measures_124 : decode cX4_measures 124 = .ok (.istore 4, 2) := by decide +kernel
theorem dX4_measures_126 : decode cX4_measures 126 = .ok (.iinc 5 1, 3) := by decide +kernel
theorem dX4_measures_129 : decode cX4_measures 129 = .ok (.goto (-87), 3) := by decide +kernel
theorem dX4_measures_132 : decode cX4_measures 132 = .ok (.return_, 1) := by decide +kernel
theorem dX4_farOf_0 : decode cX4_farOf 0 = .ok (.iload_n 1, 1) := by decide +kernel
theorem dX4_farOf_1 : decode cX4_farOf 1 = .ok (.ifCond .lt 18, 3) := by decide +kernel
theorem dX4_farOf_4 : decode cX4_farOf 4 = .ok (.iload_n 1, 1) := by decide +kernel
theorem dX4_farOf_5 : decode cX4_farOf 5 = .ok (.bipush 7, 2) := by decide +kernel
theorem dX4_farOf_7 : decode cX4_farOf 7 = .ok (.if_icmp .ge 12, 3) := by decide +kernel
theorem dX4_farOf_10 : decode cX4_farOf 10 = .ok (.aload_n 0, 1) := by decide +kernel
theorem dX4_farOf_11 : decode cX4_farOf 11 = .ok (.getfield 18, 3) := by decide +kernel
theorem dX4_farOf_14 : decode cX4_farOf 14 = .ok (.iload_n 1, 1) := by decide +kernel
theorem dX4_farOf_15 : decode cX4_farOf 15 = .ok (.iaload, 1) := by decide +kernel
theorem dX4_farOf_16 : decode cX4_farOf 16 = .ok (.goto 4, 3) := by decide +kernel
theorem dX4_farOf_19 : decode cX4_farOf 19 = .ok (.iconst (-1), 1) := by decide +kernel
theorem dX4_farOf_20 : decode cX4_farOf 20 = .ok (.ireturn, 1) := by decide +kernel
theorem dX4_nearer_0 : decode cX4_nearer 0 = .ok (.aload_n 1, 1) := by decide +kernel
theorem dX4_nearer_1 : decode cX4_nearer 1 = .ok (.iload_n 2, 1) := by decide +kernel
theorem dX4_nearer_2 : decode cX4_nearer 2 = .ok (.invokevirtual 43, 3) := by decide +kernel
theorem dX4_nearer_5 : decode cX4_nearer 5 = .ok (.ifCond .ne 5, 3) := by decide +kernel
theorem dX4_nearer_8 : decode cX4_nearer 8 = .ok (.iconst (-1), 1) := by decide +kernel
theorem dX4_nearer_9 : decode cX4_nearer 9 = .ok (.ireturn, 1) := by decide +kernel
theorem dX4_nearer_10 : decode cX4_nearer 10 = .ok (.iconst 0, 1) := by decide +kernel
theorem dX4_nearer_11 : decode cX4_nearer 11 = .ok (.istore 4, 2) := by decide +kernel
theorem dX4_nearer_13 : decode cX4_nearer 13 = .ok (.iload 4, 2) := by decide +kernel
theorem dX4_nearer_15 : decode cX4_nearer 15 = .ok (.aload_n 1, 1) := by decide +kernel
theorem dX4_nearer_16 : decode cX4_nearer 16 = .ok (.getfield 38, 3) := by decide +kernel
theorem dX4_nearer_19 : decode cX4_nearer 19 = .ok (.if_icmp .ge 37, 3) := by decide +kernel
theorem dX4_nearer_22 : decode cX4_nearer 22 = .ok (.aload_n 1, 1) := by decide +kernel
theorem dX4_nearer_23 : decode cX4_nearer 23 = .ok (.getfield 47, 3) := by decide +kernel
theorem dX4_nearer_26 : decode cX4_nearer 26 = .ok (.iload_n 2, 1) := by decide +kernel
theorem dX4_nearer_27 : decode cX4_nearer 27 = .ok (.iaload, 1) := by decide +kernel
theorem dX4_nearer_28 : decode cX4_nearer 28 = .ok (.iload 4, 2) := by decide +kernel
theorem dX4_nearer_30 : decode cX4_nearer 30 = .ok (.ishr, 1) := by decide +kernel
theorem dX4_nearer_31 : decode cX4_nearer 31 = .ok (.iconst 1, 1) := by decide +kernel
theorem dX4_nearer_32 : decode cX4_nearer 32 = .ok (.iand, 1) := by decide +kernel
theorem dX4_nearer_33 : decode cX4_nearer 33 = .ok (.ifCond .eq 17, 3) := by decide +kernel
theorem dX4_nearer_36 : decode cX4_nearer 36 = .ok (.aload_n 0, 1) := by decide +kernel
theorem dX4_nearer_37 : decode cX4_nearer 37 = .ok (.getfield 18, 3) := by decide +kernel
theorem dX4_nearer_40 : decode cX4_nearer 40 = .ok (.iload 4, 2) := by decide +kernel
theorem dX4_nearer_42 : decode cX4_nearer 42 = .ok (.iaload, 1) := by decide +kernel
theorem dX4_nearer_43 : decode cX4_nearer 43 = .ok (.iload_n 3, 1) := by decide +kernel
theorem dX4_nearer_44 : decode cX4_nearer 44 = .ok (.if_icmp .ne 6, 3) := by decide +kernel
theorem dX4_nearer_47 : decode cX4_nearer 47 = .ok (.iload 4, 2) := by decide +kernel
theorem dX4_nearer_49 : decode cX4_nearer 49 = .ok (.ireturn, 1) := by decide +kernel
theorem dX4_nearer_50 : decode cX4_nearer 50 = .ok (.iinc 4 1, 3) := by decide +kernel
theorem dX4_nearer_53 : decode cX4_nearer 53 = .ok (.goto (-40), 3) := by decide +kernel
theorem dX4_nearer_56 : decode cX4_nearer 56 = .ok (.iconst (-1), 1) := by decide +kernel
theorem dX4_nearer_57 : decode cX4_nearer 57 = .ok (.ireturn, 1) := by decide +kernel
theorem dX5_init_0 : decode cX5_init 0 = .ok (.aload_n 0, 1) := by decide +kernel
theorem dX5_init_1 : decode cX5_init 1 = .ok (.invokespecial 5, 3) := by decide +kernel
theorem dX5_init_4 : decode cX5_init 4 = .ok (.aload_n 0, 1) := by decide +kernel
theorem dX5_init_5 : decode cX5_init 5 = .ok (.bipush 40, 2) := by decide +kernel
theorem dX5_init_7 : decode cX5_init 7 = .ok (.newarray .int, 2) := by decide +kernel
theorem dX5_init_9 : decode cX5_init 9 = .ok (.putfield 11, 3) := by decide +kernel
theorem dX5_init_12 : decode cX5_init 12 = .ok (.aload_n 0, 1) := by decide +kernel
theorem dX5_init_13 : decode cX5_init 13 = .ok (.bipush 40, 2) := by decide +kernel
theorem dX5_init_15 : decode cX5_init 15 = .ok (.newarray .int, 2) := by decide +kernel
theorem dX5_init_17 : decode cX5_init 17 = .ok (.putfield 15, 3) := by decide +kernel
theorem dX5_init_20 : decode cX5_init 20 = .ok (.aload_n 0, 1) := by decide +kernel
theorem dX5_init_21 : decode cX5_init 21 = .ok (.bipush 7, 2) := by decide +kernel
theorem dX5_init_23 : decode cX5_init 23 = .ok (.newarray .int, 2) := by decide +kernel
theorem dX5_init_25 : decode cX5_init 25 = .ok (.putfield 18, 3) := by decide +kernel
theorem dX5_init_28 : decode cX5_init 28 = .ok (.aload_n 0, 1) := by decide +kernel
theorem dX5_init_29 : decode cX5_init 29 = .ok (.iconst 0, 1) := by decide +kernel
theorem dX5_init_30 : decode cX5_init 30 = .ok (.putfield 21, 3) := by decide +kernel
theorem dX5_init_33 : decode cX5_init 33 = .ok (.return_, 1) := by decide +kernel
theorem dX5_clears_0 : decode cX5_clears 0 = .ok (.aload_n 0, 1) := by decide +kernel
theorem dX5_clears_1 : decode cX5_clears 1 = .ok (.iconst 0, 1) := by decide +kernel
theorem dX5_clears_2 : decode cX5_clears 2 = .ok (.putfield 21, 3) := by decide +kernel
theorem dX5_clears_5 : decode cX5_clears 5 = .ok (.return_, 1) := by decide +kernel
theorem dX5_adds_0 : decode cX5_adds 0 = .ok (.aload_n 0, 1) := by decide +kernel
theorem dX5_adds_1 : decode cX5_adds 1 = .ok (.getfield 21, 3) := by decide +kernel
theorem dX5_adds_4 : decode cX5_adds 4 = .ok (.bipush 40, 2) := by decide +kernel
theorem dX5_adds_6 : decode cX5_adds 6 = .ok (.if_icmp .ge 23, 3) := by decide +kernel
theorem dX5_adds_9 : decode cX5_adds 9 = .ok (.aload_n 0, 1) := by decide +kernel
theorem dX5_adds_10 : decode cX5_adds 10 = .ok (.getfield 11, 3) := by decide +kernel
theorem dX5_adds_13 : decode cX5_adds 13 = .ok (.aload_n 0, 1) := by decide +kernel
theorem dX5_adds_14 : decode cX5_adds 14 = .ok (.getfield 21, 3) := by decide +kernel
theorem dX5_adds_17 : decode cX5_adds 17 = .ok (.iload_n 1, 1) := by decide +kernel
theorem dX5_adds_18 : decode cX5_adds 18 = .ok (.iastore, 1) := by decide +kernel
theorem dX5_adds_19 : decode cX5_adds 19 = .ok (.aload_n 0, 1) := by decide +kernel
theorem dX5_adds_20 : decode cX5_adds 20 = .ok (.dup, 1) := by decide +kernel
theorem dX5_adds_21 : decode cX5_adds 21 = .ok (.getfield 21, 3) := by decide +kernel
theorem dX5_adds_24 : decode cX5_adds 24 = .ok (.iconst 1, 1) := by decide +kernel
theorem dX5_adds_25 : decode cX5_adds 25 = .ok (.iadd, 1) := by decide +kernel
theorem dX5_adds_26 : decode cX5_adds 26 = .ok (.putfield 21, 3) := by decide +kernel
theorem dX5_adds_29 : decode cX5_adds 29 = .ok (.return_, 1) := by decide +kernel
theorem dX5_widens_0 : decode cX5_widens 0 = .ok (.aload_n 0, 1) := by decide +kernel
theorem dX5_widens_1 : decode cX5_widens 1 = .ok (.getfield 21, 3) := by decide +kernel
theorem dX5_widens_4 : decode cX5_widens 4 = .ok (.ifCond .le 30, 3) := by decide +kernel
theorem dX5_widens_7 : decode cX5_widens 7 = .ok (.aload_n 0, 1) := by decide +kernel
theorem dX5_widens_8 : decode cX5_widens 8 = .ok (.getfield 11, 3) := by decide +kernel
theorem dX5_widens_11 : decode cX5_widens 11 = .ok (.aload_n 0, 1) := by decide +kernel
theorem dX5_widens_12 : decode cX5_widens 12 = .ok (.getfield 21, 3) := by decide +kernel
theorem dX5_widens_15 : decode cX5_widens 15 = .ok (.iconst 1, 1) := by decide +kernel
theorem dX5_widens_16 : decode cX5_widens 16 = .ok (.isub, 1) := by decide +kernel
theorem dX5_widens_17 : decode cX5_widens 17 = .ok (.aload_n 0, 1) := by decide +kernel
theorem dX5_widens_18 : decode cX5_widens 18 = .ok (.getfield 11, 3) := by decide +kernel
theorem dX5_widens_21 : decode cX5_widens 21 = .ok (.aload_n 0, 1) := by decide +kernel
theorem dX5_widens_22 : decode cX5_widens 22 = .ok (.getfield 21, 3) := by decide +kernel
theorem dX5_widens_25 : decode cX5_widens 25 = .ok (.iconst 1, 1) := by decide +kernel
theorem dX5_widens_26 : decode cX5_widens 26 = .ok (.isub, 1) := by decide +kernel
theorem dX5_widens_27 : decode cX5_widens 27 = .ok (.iaload, 1) := by decide +kernel
theorem dX5_widens_28 : decode cX5_widens 28 = .ok (.bipush 10, 2) := by decide +kernel
theorem dX5_widens_30 : decode cX5_widens 30 = .ok (.imul, 1) := by decide +kernel
theorem dX5_widens_31 : decode cX5_widens 31 = .ok (.iload_n 1, 1) := by decide +kernel
theorem dX5_widens_32 : decode cX5_widens 32 = .ok (.iadd, 1) := by decide +kernel
theorem dX5_widens_33 : decode cX5_widens 33 = .ok (.iastore, 1) := by decide +kernel
theorem dX5_widens_34 : decode cX5_widens 34 = .ok (.return_, 1) := by decide +kernel
theorem dX5_wakers_0 : decode cX5_wakers 0 = .ok (.iconst 0, 1) := by decide +kernel
theorem dX5_wakers_1 : decode cX5_wakers 1 = .ok (.istore_n 2, 1) := by decide +kernel
