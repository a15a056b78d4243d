theorem dX8_init_0 : decode cX8_init 0 = .ok (.aload_n 0, 1) := by decide +kernel
theorem dX8_init_1 : decode cX8_init 1 = .ok (.invokespecial 3, 3) := by decide +kernel
theorem dX8_init_4 : decode cX8_init 4 = .ok (.aload_n 0, 1) := by decide +kernel
theorem dX8_init_5 : decode cX8_init 5 = .ok (.sipush 2001, 3) := by decide +kernel
theorem dX8_init_8 : decode cX8_init 8 = .ok (.newarray .int, 2) := by decide +kernel
theorem dX8_init_10 : decode cX8_init 10 = .ok (.putfield 9, 3) := by decide +kernel
theorem dX8_init_13 : decode cX8_init 13 = .ok (.aload_n 0, 1) := by decide +kernel
theorem dX8_init_14 : decode cX8_init 14 = .ok (.sipush 2001, 3) := by decide +kernel
theorem dX8_init_17 : decode cX8_init 17 = .ok (.newarray .int, 2) := by decide +kernel
theorem dX8_init_19 : decode cX8_init 19 = .ok (.putfield 15, 3) := by decide +kernel
theorem dX8_init_22 : decode cX8_init 22 = .ok (.aload_n 0, 1) := by decide +kernel
theorem dX8_init_23 : decode cX8_init 23 = .ok (.sipush 2001, 3) := by decide +kernel
theorem dX8_init_26 : decode cX8_init 26 = .ok (.newarray .long, 2) := by decide +kernel
theorem dX8_init_28 : decode cX8_init 28 = .ok (.putfield 18, 3) := by decide +kernel
theorem dX8_init_31 : decode cX8_init 31 = .ok (.aload_n 0, 1) := by decide +kernel
theorem dX8_init_32 : decode cX8_init 32 = .ok (.aload_n 1, 1) := by decide +kernel
theorem dX8_init_33 : decode cX8_init 33 = .ok (.putfield 22, 3) := by decide +kernel
theorem dX8_init_36 : decode cX8_init 36 = .ok (.return_, 1) := by decide +kernel
theorem dX8_cut_0 : decode cX8_cut 0 = .ok (.aload_n 0, 1) := by decide +kernel
theorem dX8_cut_1 : decode cX8_cut 1 = .ok (.iload_n 1, 1) := by decide +kernel
theorem dX8_cut_2 : decode cX8_cut 2 = .ok (.putfield 26, 3) := by decide +kernel
theorem dX8_cut_5 : decode cX8_cut 5 = .ok (.aload_n 0, 1) := by decide +kernel
theorem dX8_cut_6 : decode cX8_cut 6 = .ok (.iconst 0, 1) := by decide +kernel
theorem dX8_cut_7 : decode cX8_cut 7 = .ok (.putfield 30, 3) := by decide +kernel
theorem dX8_cut_10 : decode cX8_cut 10 = .ok (.aload_n 0, 1) := by decide +kernel
theorem dX8_cut_11 : decode cX8_cut 11 = .ok (.iconst 0, 1) := by decide +kernel
theorem dX8_cut_12 : decode cX8_cut 12 = .ok (.putfield 33, 3) := by decide +kernel
theorem dX8_cut_15 : decode cX8_cut 15 = .ok (.iconst 2, 1) := by decide +kernel
theorem dX8_cut_16 : decode cX8_cut 16 = .ok (.istore_n 2, 1) := by decide +kernel
theorem dX8_cut_17 : decode cX8_cut 17 = .ok (.iload_n 2, 1) := by decide +kernel
theorem dX8_cut_18 : decode cX8_cut 18 = .ok (.ifCond .eq 71, 3) := by decide +kernel
theorem dX8_cut_21 : decode cX8_cut 21 = .ok (.iload_n 2, 1) := by decide +kernel
theorem dX8_cut_22 : decode cX8_cut 22 = .ok (.iconst 1, 1) := by decide +kernel
theorem dX8_cut_23 : decode cX8_cut 23 = .ok (.if_icmp .eq 66, 3) := by decide +kernel
theorem dX8_cut_26 : decode cX8_cut 26 = .ok (.aload_n 0, 1) := by decide +kernel
theorem dX8_cut_27 : decode cX8_cut 27 = .ok (.getfield 33, 3) := by decide +kernel
theorem dX8_cut_30 : decode cX8_cut 30 = .ok (.sipush 2001, 3) := by decide +kernel
theorem dX8_cut_33 : decode cX8_cut 33 = .ok (.if_icmp .ge 56, 3) := by decide +kernel
theorem dX8_cut_36 : decode cX8_cut 36 = .ok (.aload_n 0, 1) := by decide +kernel
theorem dX8_cut_37 : decode cX8_cut 37 = .ok (.invokevirtual 36, 3) := by decide +kernel
theorem dX8_cut_40 : decode cX8_cut 40 = .ok (.aload_n 0, 1) := by decide +kernel
theorem dX8_cut_41 : decode cX8_cut 41 = .ok (.getfield 15, 3) := by decide +kernel
theorem dX8_cut_44 : decode cX8_cut 44 = .ok (.aload_n 0, 1) := by decide +kernel
theorem dX8_cut_45 : decode cX8_cut 45 = .ok (.getfield 33, 3) := by decide +kernel
theorem dX8_cut_48 : decode cX8_cut 48 = .ok (.aload_n 0, 1) := by decide +kernel
theorem dX8_cut_49 : decode cX8_cut 49 = .ok (.getfield 30, 3) := by decide +kernel
theorem dX8_cut_52 : decode cX8_cut 52 = .ok (.iastore, 1) := by decide +kernel
theorem dX8_cut_53 : decode cX8_cut 53 = .ok (.aload_n 0, 1) := by decide +kernel
theorem dX8_cut_54 : decode cX8_cut 54 = .ok (.aload_n 0, 1) := by decide +kernel
theorem dX8_cut_55 : decode cX8_cut 55 = .ok (.aload_n 0, 1) := by decide +kernel
theorem dX8_cut_56 : decode cX8_cut 56 = .ok (.getfield 30, 3) := by decide +kernel
theorem dX8_cut_59 : decode cX8_cut 59 = .ok (.invokevirtual 39, 3) := by decide +kernel
theorem dX8_cut_62 : decode cX8_cut 62 = .ok (.invokevirtual 43, 3) := by decide +kernel
theorem dX8_cut_65 : decode cX8_cut 65 = .ok (.istore_n 2, 1) := by decide +kernel
theorem dX8_cut_66 : decode cX8_cut 66 = .ok (.aload_n 0, 1) := by decide +kernel
theorem dX8_cut_67 : decode cX8_cut 67 = .ok (.getfield 9, 3) := by decide +kernel
theorem dX8_cut_70 : decode cX8_cut 70 = .ok (.aload_n 0, 1) := by decide +kernel
theorem dX8_cut_71 : decode cX8_cut 71 = .ok (.getfield 33, 3) := by decide +kernel
theorem dX8_cut_74 : decode cX8_cut 74 = .ok (.iload_n 2, 1) := by decide +kernel
theorem dX8_cut_75 : decode cX8_cut 75 = .ok (.iastore, 1) := by decide +kernel
theorem dX8_cut_76 : decode cX8_cut 76 = .ok (.aload_n 0, 1) := by decide +kernel
theorem dX8_cut_77 : decode cX8_cut 77 = .ok (.dup, 1) := by decide +kernel
theorem dX8_cut_78 : decode cX8_cut 78 = .ok (.getfield 33, 3) := by decide +kernel
theorem dX8_cut_81 : decode cX8_cut 81 = .ok (.iconst 1, 1) := by decide +kernel
theorem dX8_cut_82 : decode cX8_cut 82 = .ok (.iadd, 1) := by decide +kernel
theorem dX8_cut_83 : decode cX8_cut 83 = .ok (.putfield 33, 3) := by decide +kernel
theorem dX8_cut_86 : decode cX8_cut 86 = .ok (.goto (-69), 3) := by decide +kernel
theorem dX8_cut_89 : decode cX8_cut 89 = .ok (.return_, 1) := by decide +kernel
theorem dX8_skipBlanks_0 : decode cX8_skipBlanks 0 = .ok (.aload_n 0, 1) := by decide +kernel
theorem dX8_skipBlanks_1 : decode cX8_skipBlanks 1 = .ok (.getfield 30, 3) := by decide +kernel
theorem dX8_skipBlanks_4 : decode cX8_skipBlanks 4 = .ok (.aload_n 0, 1) := by decide +kernel
theorem dX8_skipBlanks_5 : decode cX8_skipBlanks 5 = .ok (.getfield 26, 3) := by decide +kernel
theorem dX8_skipBlanks_8 : decode cX8_skipBlanks 8 = .ok (.if_icmp .ge 42, 3) := by decide +kernel
theorem dX8_skipBlanks_11 : decode cX8_skipBlanks 11 = .ok (.aload_n 0, 1) := by decide +kernel
theorem dX8_skipBlanks_12 : decode cX8_skipBlanks 12 = .ok (.aload_n 0, 1) := by decide +kernel
theorem dX8_skipBlanks_13 : decode cX8_skipBlanks 13 = .ok (.getfield 30, 3) := by decide +kernel
theorem dX8_skipBlanks_16 : decode cX8_skipBlanks 16 = .ok (.invokevirtual 39, 3) := by decide +kernel
theorem dX8_skipBlanks_19 : decode cX8_skipBlanks 19 = .ok (.bipush 32, 2) := by decide +kernel
theorem dX8_skipBlanks_21 : decode cX8_skipBlanks 21 = .ok (.if_icmp .eq 16, 3) := by decide +kernel
theorem dX8_skipBlanks_24 : decode cX8_skipBlanks 24 = .ok (.aload_n 0, 1) := by decide +kernel
theorem dX8_skipBlanks_25 : decode cX8_skipBlanks 25 = .ok (.aload_n 0, 1) := by decide +kernel
theorem dX8_skipBlanks_26 : decode cX8_skipBlanks 26 = .ok (.getfield 30, 3) := by decide +kernel
theorem dX8_skipBlanks_29 : decode cX8_skipBlanks 29 = .ok (.invokevirtual 39, 3) := by decide +kernel
theorem dX8_skipBlanks_32 : decode cX8_skipBlanks 32 = .ok (.bipush 10, 2) := by decide +kernel
theorem dX8_skipBlanks_34 : decode cX8_skipBlanks 34 = .ok (.if_icmp .ne 16, 3) := by decide +kernel
theorem dX8_skipBlanks_37 : decode cX8_skipBlanks 37 = .ok (.aload_n 0, 1) := by decide +kernel
theorem dX8_skipBlanks_38 : decode cX8_skipBlanks 38 = .ok (.dup, 1) := by decide +kernel
theorem dX8_skipBlanks_39 : decode cX8_skipBlanks 39 = .ok (.getfield 30, 3) := by decide +kernel
theorem dX8_skipBlanks_42 : decode cX8_skipBlanks 42 = .ok (.iconst 1, 1) := by decide +kernel
theorem dX8_skipBlanks_43 : decode cX8_skipBlanks 43 = .ok (.iadd, 1) := by decide +kernel
theorem dX8_skipBlanks_44 : decode cX8_skipBlanks 44 = .ok (.putfield 30, 3) := by decide +kernel
theorem dX8_skipBlanks_47 : decode cX8_skipBlanks 47 = .ok (.goto (-47), 3) := by decide +kernel
theorem dX8_skipBlanks_50 : decode cX8_skipBlanks 50 = .ok (.return_, 1) := by decide +kernel
theorem dX8_cutToken_0 : decode cX8_cutToken 0 = .ok (.iload_n 1, 1) := by decide +kernel
theorem dX8_cutToken_1 : decode cX8_cutToken 1 = .ok (.iconst (-1), 1) := by decide +kernel
theorem dX8_cutToken_2 : decode cX8_cutToken 2 = .ok (.if_icmp .ne 5, 3) := by decide +kernel
theorem dX8_cutToken_5 : decode cX8_cutToken 5 = .ok (.iconst 0, 1) := by decide +kernel
theorem dX8_cutToken_6 : decode cX8_cutToken 6 = .ok (.ireturn, 1) := by decide +kernel
theorem dX8_cutToken_7 : decode cX8_cutToken 7 = .ok (.iload_n 1, 1) := by decide +kernel
theorem dX8_cutToken_8 : decode cX8_cutToken 8 = .ok (.invokestatic 46, 3) := by decide +kernel
theorem dX8_cutToken_11 : decode cX8_cutToken 11 = .ok (.ifCond .eq 8, 3) := by decide +kernel
theorem dX8_cutToken_14 : decode cX8_cutToken 14 = .ok (.aload_n 0, 1) := by decide +kernel
theorem dX8_cutToken_15 : decode cX8_cutToken 15 = .ok (.invokevirtual 50, 3) := by decide +kernel
theorem dX8_cutToken_18 : decode cX8_cutToken 18 = .ok (.ireturn, 1) := by decide +kernel
theorem dX8_cutToken_19 : decode cX8_cutToken 19 = .ok (.iload_n 1, 1) := by decide +kernel
theorem dX8_cutToken_20 : decode cX8_cutToken 20 = .ok (.invokestatic 54, 3) := by decide +kernel
theorem dX8_cutToken_23 : decode cX8_cutToken 23 = .ok (.ifCond .eq 10, 3) := by decide +kernel
theorem dX8_cutToken_26 : decode cX8_cutToken 26 = .ok (.aload_n 0, 1) := by decide +kernel
theorem dX8_cutToken_27 : decode cX8_cutToken 27 = .ok (.invokevirtual 57, 3) := by decide +kernel
theorem dX8_cutToken_30 : decode cX8_cutToken 30 = .ok (.goto 8, 3) := by decide +kernel
theorem dX8_cutToken_33 : decode cX8_cutToken 33 = .ok (.aload_n 0, 1) := by decide +kernel
theorem dX8_cutToken_34 : decode cX8_cutToken 34 = .ok (.iload_n 1, 1) := by decide +kernel
theorem dX8_cutToken_35 : decode cX8_cutToken 35 = .ok (.invokevirtual 60, 3) := by decide +kernel
theorem dX8_cutToken_38 : decode cX8_cutToken 38 = .ok (.ireturn, 1) := by decide +kernel
theorem dX8_cutName_0 : decode cX8_cutName 0 = .ok (.aload_n 0, 1) := by decide +kernel
theorem dX8_cutName_1 : decode cX8_cutName 1 = .ok (.getfield 30, 3) := by decide +kernel
theorem dX8_cutName_4 : decode cX8_cutName 4 = .ok (.istore_n 1, 1) := by decide +kernel
theorem dX8_cutName_5 : decode cX8_cutName 5 = .ok (.lconst 0, 1) := by decide +kernel
theorem dX8_cutName_6 : decode cX8_cutName 6 = .ok (.lstore_n 2, 1) := by decide +kernel
theorem dX8_cutName_7 : decode cX8_cutName 7 = .ok (.aload_n 0, 1) := by decide +kernel
theorem dX8_cutName_8 : decode cX8_cutName 8 = .ok (.getfield 30, 3) := by decide +kernel
theorem dX8_cutName_11 : decode cX8_cutName 11 = .ok (.aload_n 0, 1) := by decide +kernel
theorem dX8_cutName_12 : decode cX8_cutName 12 = .ok (.getfield 26, 3) := by decide +kernel
theorem dX8_cutName_15 : decode cX8_cutName 15 = .ok (.if_icmp .ge 59, 3) := by decide +kernel
theorem dX8_cutName_18 : decode cX8_cutName 18 = .ok (.aload_n 0, 1) := by decide +kernel
theorem dX8_cutName_19 : decode cX8_cutName 19 = .ok (.aload_n 0, 1) := by decide +kernel
theorem dX8_cutName_20 : decode cX8_cutName 20 = .ok (.getfield 30, 3) := by decide +kernel
theorem dX8_cutName_23 : decode cX8_cutName 23 = .ok (.invokevirtual 39, 3) := by decide +kernel
theorem dX8_cutName_26 : decode cX8_cutName 26 = .ok (.invokestatic 46, 3) := by decide +kernel
theorem dX8_cutName_29 : decode cX8_cutName 29 = .ok (.ifCond .ne 17, 3) := by decide +kernel
theorem dX8_cutName_32 : decode cX8_cutName 32 = .ok (.aload_n 0, 1) := by decide +kernel
theorem dX8_cutName_33 : decode cX8_cutName 33 = .ok (.aload_n 0, 1) := by decide +kernel
theorem dX8_cutName_34 : decode cX8_cutName 34 = .ok (.getfield 30, 3) := by decide +kernel
theorem dX8_cutName_37 : decode cX8_cutName 37 = .ok (.invokevirtual 39, 3) := by decide +kernel
theorem dX8_cutName_40 : decode cX8_cutName 40 = .ok (.invokestatic 54, 3) := by decide +kernel
theorem dX8_cutName_43 : decode cX8_cutName 43 = .ok (.ifCond .eq 31, 3) := by decide +kernel
theorem dX8_cutName_46 : decode cX8_cutName 46 = .ok (.lload_n 2, 1) := by decide +kernel
theorem dX8_cutName_47 : decode cX8_cutName 47 = .ok (.bipush 8, 2) := by decide +kernel
theorem dX8_cutName_49 : decode cX8_cutName 49 = .ok (.lshl, 1) := by decide +kernel
theorem dX8_cutName_50 : decode cX8_cutName 50 = .ok (.aload_n 0, 1) := by decide +kernel
theorem dX8_cutName_51 : decode cX8_cutName 51 = .ok (.aload_n 0, 1) := by decide +kernel
theorem dX8_cutName_52 : decode cX8_cutName 52 = .ok (.getfield 30, 3) := by decide +kernel
theorem dX8_cutName_55 : decode cX8_cutName 55 = .ok (.invokevirtual 39, 3) := by decide +kernel
theorem dX8_cutName_58 : decode cX8_cutName 58 = .ok (.i2l, 1) := by decide +kernel
theorem dX8_cutName_59 : decode cX8_cutName 59 = .ok (.lor, 1) := by decide +kernel
theorem dX8_cutName_60 : decode cX8_cutName 60 = .ok (.lstore_n 2, 1) := by decide +kernel
theorem dX8_cutName_61 : decode cX8_cutName 61 = .ok (.aload_n 0, 1) := by decide +kernel
theorem dX8_cutName_62 : decode cX8_cutName 62 = .ok (.dup, 1) := by decide +kernel
theorem dX8_cutName_63 : decode cX8_cutName 63 = .ok (.getfield 30, 3) := by decide +kernel
theorem dX8_cutName_66 : decode cX8_cutName 66 = .ok (.iconst 1, 1) := by decide +kernel
theorem dX8_cutName_67 : decode cX8_cutName 67 = .ok (.iadd, 1) := by decide +kernel
theorem dX8_cutName_68 : decode cX8_cutName 68 = .ok (.putfield 30, 3) := by decide +kernel
theorem dX8_cutName_71 : decode cX8_cutName 71 = .ok (.goto (-64), 3) := by decide +kernel
theorem dX8_cutName_74 : decode cX8_cutName 74 = .ok (.aload_n 0, 1) := by decide +kernel
theorem dX8_cutName_75 : decode cX8_cutName 75 = .ok (.getfield 30, 3) := by decide +kernel
theorem dX8_cutName_78 : decode cX8_cutName 78 = .ok (.iload_n 1, 1) := by decide +kernel
theorem dX8_cutName_79 : decode cX8_cutName 79 = .ok (.isub, 1) := by decide +kernel
theorem dX8_cutName_80 : decode cX8_cutName 80 = .ok (.bipush 8, 2) := by decide +kernel
theorem dX8_cutName_82 : decode cX8_cutName 82 = .ok (.if_icmp .le 5, 3) := by decide +kernel
theorem dX8_cutName_85 : decode cX8_cutName 85 = .ok (.iconst 1, 1) := by decide +kernel
theorem dX8_cutName_86 : decode cX8_cutName 86 = .ok (.ireturn, 1) := by decide +kernel
theorem dX8_cutName_87 : decode cX8_cutName 87 = .ok (.aload_n 0, 1) := by decide +kernel
theorem dX8_cutName_88 : decode cX8_cutName 88 = .ok (.getfield 18, 3) := by decide +kernel
theorem dX8_cutName_91 : decode cX8_cutName 91 = .ok (.aload_n 0, 1) := by decide +kernel
theorem dX8_cutName_92 : decode cX8_cutName 92 = .ok (.getfield 33, 3) := by decide +kernel
theorem dX8_cutName_95 : decode cX8_cutName 95 = .ok (.lload_n 2, 1) := by decide +kernel
theorem dX8_cutName_96 : decode cX8_cutName 96 = .ok (.lastore, 1) := by decide +kernel
theorem dX8_cutName_97 : decode cX8_cutName 97 = .ok (.iconst 0, 1) := by decide +kernel
theorem dX8_cutName_98 : decode cX8_cutName 98 = .ok (.istore 4, 2) := by decide +kernel
theorem dX8_cutName_100 : decode cX8_cutName 100 = .ok (.iload 4, 2) := by decide +kernel
theorem dX8_cutName_102 : decode cX8_cutName 102 = .ok (.getstatic 63, 3) := by decide +kernel
theorem dX8_cutName_105 : decode cX8_cutName 105 = .ok (.arraylength, 1) := by decide +kernel
theorem dX8_cutName_106 : decode cX8_cutName 106 = .ok (.if_icmp .ge 25, 3) := by decide +kernel
theorem dX8_cutName_109 : decode cX8_cutName 109 = .ok (.getstatic 63, 3) := by decide +kernel
theorem dX8_cutName_112 : decode cX8_cutName 112 = .ok (.iload 4, 2) := by decide +kernel
theorem dX8_cutName_114 : decode cX8_cutName 114 = .ok (.laload, 1) := by decide +kernel
theorem dX8_cutName_115 : decode cX8_cutName 115 = .ok (.lload_n 2, 1) := by decide +kernel
theorem dX8_cutName_116 : decode cX8_cutName 116 = .ok (.lcmp, 1) := by decide +kernel
theorem dX8_cutName_117 : decode cX8_cutName 117 = .ok (.ifCond .ne 8, 3) := by decide +kernel
theorem dX8_cutName_120 : decode cX8_cutName 120 = .ok (.iconst 4, 1) := by decide +kernel
theorem dX8_cutName_121 : decode cX8_cutName 121 = .ok (.iload 4, 2) := by decide +kernel
theorem dX8_cutName_123 : decode cX8_cutName 123 = .ok (.iadd, 1) := by decide +kernel
theorem dX8_cutName_124 : decode cX8_cutName 124 = .ok (.ireturn, 1) := by decide +kernel
theorem dX8_cutName_125 : decode cX8_cutName 125 = .ok (.iinc 4 1, 3) := by decide +kernel
theorem dX8_cutName_128 : decode cX8_cutName 128 = .ok (.goto (-28), 3) := by decide +kernel
theorem dX8_cutName_131 : decode cX8_cutName 131 = .ok (.iconst 2, 1) := by decide +kernel
theorem dX8_cutName_132 : decode cX8_cutName 132 = .ok (.ireturn, 1) := by decide +kernel
theorem dX8_cutNumber_0 : decode cX8_cutNumber 0 = .ok (.lconst 0, 1) := by decide +kernel
theorem dX8_cutNumber_1 : decode cX8_cutNumber 1 = .ok (.lstore_n 1, 1) := by decide +kernel
theorem dX8_cutNumber_2 : decode cX8_cutNumber 2 = .ok (.aload_n 0, 1) := by decide +kernel
theorem dX8_cutNumber_3 : decode cX8_cutNumber 3 = .ok (.getfield 30, 3) := by decide +kernel
theorem dX8_cutNumber_6 : decode cX8_cutNumber 6 = .ok (.aload_n 0, 1) := by decide +kernel
theorem dX8_cutNumber_7 : decode cX8_cutNumber 7 = .ok (.getfield 26, 3) := by decide +kernel
theorem dX8_cutNumber_10 : decode cX8_cutNumber 10 = .ok (.if_icmp .ge 56, 3) := by decide +kernel
theorem dX8_cutNumber_13 : decode cX8_cutNumber 13 = .ok (.aload_n 0, 1) := by decide +kernel
theorem dX8_cutNumber_14 : decode cX8_cutNumber 14 = .ok (.aload_n 0, 1) := by decide +kernel
theorem dX8_cutNumber_15 : decode cX8_cutNumber 15 = .ok (.getfield 30, 3) := by decide +kernel
theorem dX8_cutNumber_18 : decode cX8_cutNumber 18 = .ok (.invokevirtual 39, 3) := by decide +kernel
theorem dX8_cutNumber_21 : decode cX8_cutNumber 21 = .ok (.invokestatic 54, 3) := by decide +kernel
theorem dX8_cutNumber_24 : decode cX8_cutNumber 24 = .ok (.ifCond .eq 42, 3) := by decide +kernel
theorem dX8_cutNumber_27 : decode cX8_cutNumber 27 = .ok (.ldc2_w 66, 3) := by decide +kernel
theorem dX8_cutNumber_30 : decode cX8_cutNumber 30 = .ok (.lload_n 1, 1) := by decide +kernel
theorem dX8_cutNumber_31 : decode cX8_cutNumber 31 = .ok (.lmul, 1) := by decide +kernel
theorem dX8_cutNumber_32 : decode cX8_cutNumber 32 = .ok (.aload_n 0, 1) := by decide +kernel
theorem dX8_cutNumber_33 : decode cX8_cutNumber 33 = .ok (.aload_n 0, 1) := by decide +kernel
theorem dX8_cutNumber_34 : decode cX8_cutNumber 34 = .ok (.getfield 30, 3) := by decide +kernel
theorem dX8_cutNumber_37 : decode cX8_cutNumber 37 = .ok (.invokevirtual 39, 3) := by decide +kernel
theorem dX8_cutNumber_40 : decode cX8_cutNumber 40 = .ok (.i2l, 1) := by decide +kernel
theorem dX8_cutNumber_41 : decode cX8_cutNumber 41 = .ok (.ladd, 1) := by decide +kernel
theorem dX8_cutNumber_42 : decode cX8_cutNumber 42 = .ok (.ldc2_w 68, 3) := by decide +kernel
theorem dX8_cutNumber_45 : decode cX8_cutNumber 45 = .ok (.lsub, 1) := by decide +kernel
theorem dX8_cutNumber_46 : decode cX8_cutNumber 46 = .ok (.ldc2_w 70, 3) := by decide +kernel
theorem dX8_cutNumber_49 : decode cX8_cutNumber 49 = .ok (.invokestatic 72, 3) := by decide +kernel
theorem dX8_cutNumber_52 : decode cX8_cutNumber 52 = .ok (.lstore_n 1, 1) := by decide +kernel
theorem dX8_cutNumber_53 : decode cX8_cutNumber 53 = .ok (.aload_n 0, 1) := by decide +kernel
theorem dX8_cutNumber_54 : decode cX8_cutNumber 54 = .ok (.dup, 1) := by decide +kernel
theorem dX8_cutNumber_55 : decode cX8_cutNumber 55 = .ok (.getfield 30, 3) := by decide +kernel
theorem dX8_cutNumber_58 : decode cX8_cutNumber 58 = .ok (.iconst 1, 1) := by decide +kernel
theorem dX8_cutNumber_59 : decode cX8_cutNumber 59 = .ok (.iadd, 1) := by decide +kernel
theorem dX8_cutNumber_60 : decode cX8_cutNumber 60 = .ok (.putfield 30, 3) := by decide +kernel
theorem dX8_cutNumber_63 : decode cX8_cutNumber 63 = .ok (.goto (-61), 3) := by decide +kernel
theorem dX8_cutNumber_66 : decode cX8_cutNumber 66 = .ok (.aload_n 0, 1) := by decide +kernel
theorem dX8_cutNumber_67 : decode cX8_cutNumber 67 = .ok (.getfield 18, 3) := by decide +kernel
theorem dX8_cutNumber_70 : decode cX8_cutNumber 70 = .ok (.aload_n 0, 1) := by decide +kernel
theorem dX8_cutNumber_71 : decode cX8_cutNumber 71 = .ok (.getfield 33, 3) := by decide +kernel
theorem dX8_cutNumber_74 : decode cX8_cutNumber 74 = .ok (.lload_n 1, 1) := by decide +kernel
theorem dX8_cutNumber_75 : decode cX8_cutNumber 75 = .ok (.lastore, 1) := by decide +kernel
theorem dX8_cutNumber_76 : decode cX8_cutNumber 76 = .ok (.lload_n 1, 1) := by decide +kernel
theorem dX8_cutNumber_77 : decode cX8_cutNumber 77 = .ok (.ldc2_w 78, 3) := by decide +kernel
theorem dX8_cutNumber_80 : decode cX8_cutNumber 80 = .ok (.lcmp, 1) := by decide +kernel
theorem dX8_cutNumber_81 : decode cX8_cutNumber 81 = .ok (.ifCond .gt 17, 3) := by decide +kernel
theorem dX8_cutNumber_84 : decode cX8_cutNumber 84 = .ok (.aload_n 0, 1) := by decide +kernel
theorem dX8_cutNumber_85 : decode cX8_cutNumber 85 = .ok (.aload_n 0, 1) := by decide +kernel
theorem dX8_cutNumber_86 : decode cX8_cutNumber 86 = .ok (.getfield 30, 3) := by decide +kernel
theorem dX8_cutNumber_89 : decode cX8_cutNumber 89 = .ok (.invokevirtual 39, 3) := by decide +kernel
theorem dX8_cutNumber_92 : decode cX8_cutNumber 92 = .ok (.invokestatic 46, 3) := by decide +kernel
theorem dX8_cutNumber_95 : decode cX8_cutNumber 95 = .ok (.ifCond .eq 7, 3) := by decide +kernel
theorem dX8_cutNumber_98 : decode cX8_cutNumber 98 = .ok (.iconst 1, 1) := by decide +kernel
theorem dX8_cutNumber_99 : decode cX8_cutNumber 99 = .ok (.goto 4, 3) := by decide +kernel
theorem dX8_cutNumber_102 : decode cX8_cutNumber 102 = .ok (.iconst 3, 1) := by decide +kernel
theorem dX8_cutNumber_103 : decode cX8_cutNumber 103 = .ok (.ireturn, 1) := by decide +kernel
theorem dX8_cutSign_0 : decode cX8_cutSign 0 = .ok (.ldc 80, 2) := by decide +kernel
theorem dX8_cutSign_2 : decode cX8_cutSign 2 = .ok (.iload_n 1, 1) := by decide +kernel
theorem dX8_cutSign_3 : decode cX8_cutSign 3 = .ok (.i2c, 1) := by decide +kernel
theorem dX8_cutSign_4 : decode cX8_cutSign 4 = .ok (.invokevirtual 82, 3) := by decide +kernel
theorem dX8_cutSign_7 : decode cX8_cutSign 7 = .ok (.ifCond .ge 5, 3) := by decide +kernel
theorem dX8_cutSign_10 : decode cX8_cutSign 10 = .ok (.iconst 1, 1) := by decide +kernel
theorem dX8_cutSign_11 : decode cX8_cutSign 11 = .ok (.ireturn, 1) := by decide +kernel
theorem dX8_cutSign_12 : decode cX8_cutSign 12 = .ok (.aload_n 0, 1) := by decide +kernel
theorem dX8_cutSign_13 : decode cX8_cutSign 13 = .ok (.aload_n 0, 1) := by decide +kernel
theorem dX8_cutSign_14 : decode cX8_cutSign 14 = .ok (.getfield 30, 3) := by decide +kernel
theorem dX8_cutSign_17 : decode cX8_cutSign 17 = .ok (.iconst 1, 1) := by decide +kernel
theorem dX8_cutSign_18 : decode cX8_cutSign 18 = .ok (.iadd, 1) := by decide +kernel
theorem dX8_cutSign_19 : decode cX8_cutSign 19 = .ok (.invokevirtual 39, 3) := by decide +kernel
theorem dX8_cutSign_22 : decode cX8_cutSign 22 = .ok (.istore_n 2, 1) := by decide +kernel
theorem dX8_cutSign_23 : decode cX8_cutSign 23 = .ok (.iload_n 2, 1) := by decide +kernel
theorem dX8_cutSign_24 : decode cX8_cutSign 24 = .ok (.bipush 61, 2) := by decide +kernel
theorem dX8_cutSign_26 : decode cX8_cutSign 26 = .ok (.if_icmp .ne 17, 3) := by decide +kernel
theorem dX8_cutSign_29 : decode cX8_cutSign 29 = .ok (.ldc 87, 2) := by decide +kernel
theorem dX8_cutSign_31 : decode cX8_cutSign 31 = .ok (.iload_n 1, 1) := by decide +kernel
theorem dX8_cutSign_32 : decode cX8_cutSign 32 = .ok (.i2c, 1) := by decide +kernel
theorem dX8_cutSign_33 : decode cX8_cutSign 33 = .ok (.invokevirtual 82, 3) := by decide +kernel
theorem dX8_cutSign_36 : decode cX8_cutSign 36 = .ok (.ifCond .lt 7, 3) := by decide +kernel
theorem dX8_cutSign_39 : decode cX8_cutSign 39 = .ok (.iconst 1, 1) := by decide +kernel
theorem dX8_cutSign_40 : decode cX8_cutSign 40 = .ok (.goto 4, 3) := by decide +kernel
theorem dX8_cutSign_43 : decode cX8_cutSign 43 = .ok (.iconst 0, 1) := by decide +kernel
theorem dX8_cutSign_44 : decode cX8_cutSign 44 = .ok (.istore_n 3, 1) := by decide +kernel
theorem dX8_cutSign_45 : decode cX8_cutSign 45 = .ok (.iload_n 2, 1) := by decide +kernel
theorem dX8_cutSign_46 : decode cX8_cutSign 46 = .ok (.iload_n 1, 1) := by decide +kernel
theorem dX8_cutSign_47 : decode cX8_cutSign 47 = .ok (.if_icmp .ne 17, 3) := by decide +kernel
theorem dX8_cutSign_50 : decode cX8_cutSign 50 = .ok (.ldc 89, 2) := by decide +kernel
theorem dX8_cutSign_52 : decode cX8_cutSign 52 = .ok (.iload_n 1, 1) := by decide +kernel
theorem dX8_cutSign_53 : decode cX8_cutSign 53 = .ok (.i2c, 1) := by decide +kernel
theorem dX8_cutSign_54 : decode cX8_cutSign 54 = .ok (.invokevirtual 82, 3) := by decide +kernel
theorem dX8_cutSign_57 : decode cX8_cutSign 57 = .ok (.ifCond .lt 7, 3) := by decide +kernel
theorem dX8_cutSign_60 : decode cX8_cutSign 60 = .ok (.iconst 1, 1) := by decide +kernel
theorem dX8_cutSign_61 : decode cX8_cutSign 61 = .ok (.goto 4, 3) := by decide +kernel
theorem dX8_cutSign_64 : decode cX8_cutSign 64 = .ok (.iconst 0, 1) := by decide +kernel
theorem dX8_cutSign_65 : decode cX8_cutSign 65 = .ok (.istore 4, 2) := by decide +kernel
theorem dX8_cutSign_67 : decode cX8_cutSign 67 = .ok (.aload_n 0, 1) := by decide +kernel
theorem dX8_cutSign_68 : decode cX8_cutSign 68 = .ok (.dup, 1) := by decide +kernel
theorem dX8_cutSign_69 : decode cX8_cutSign 69 = .ok (.getfield 30, 3) := by decide +kernel
theorem dX8_cutSign_72 : decode cX8_cutSign 72 = .ok (.iconst 1, 1) := by decide +kernel
theorem dX8_cutSign_73 : decode cX8_cutSign 73 = .ok (.iadd, 1) := by decide +kernel
theorem dX8_cutSign_74 : decode cX8_cutSign 74 = .ok (.putfield 30, 3) := by decide +kernel
theorem dX8_cutSign_77 : decode cX8_cutSign 77 = .ok (.iload_n 3, 1) := by decide +kernel
theorem dX8_cutSign_78 : decode cX8_cutSign 78 = .ok (.ifCond .ne 10, 3) := by decide +kernel
theorem dX8_cutSign_81 : decode cX8_cutSign 81 = .ok (.iload 4, 2) := by decide +kernel
theorem dX8_cutSign_83 : decode cX8_cutSign 83 = .ok (.ifCond .ne 5, 3) := by decide +kernel
theorem dX8_cutSign_86 : decode cX8_cutSign 86 = .ok (.iload_n 1, 1) := by decide +kernel
theorem dX8_cutSign_87 : decode cX8_cutSign 87 = .ok (.ireturn, 1) := by decide +kernel
theorem dX8_cutSign_88 : decode cX8_cutSign 88 = .ok (.aload_n 0, 1) := by decide +kernel
theorem dX8_cutSign_89 : decode cX8_cutSign 89 = .ok (.dup, 1) := by decide +kernel
theorem dX8_cutSign_90 : decode cX8_cutSign 90 = .ok (.getfield 30, 3) := by decide +kernel
theorem dX8_cutSign_93 : decode cX8_cutSign 93 = .ok (.iconst 1, 1) := by decide +kernel
theorem dX8_cutSign_94 : decode cX8_cutSign 94 = .ok (.iadd, 1) := by decide +kernel
theorem dX8_cutSign_95 : decode cX8_cutSign 95 = .ok (.putfield 30, 3) := by decide +kernel
theorem dX8_cutSign_98 : decode cX8_cutSign 98 = .ok (.iload_n 1, 1) := by decide +kernel
theorem dX8_cutSign_99 : decode cX8_cutSign 99 = .ok (.bipush 8, 2) := by decide +kernel
theorem dX8_cutSign_101 : decode cX8_cutSign 101 = .ok (.ishl, 1) := by decide +kernel
theorem dX8_cutSign_102 : decode cX8_cutSign 102 = .ok (.iload_n 2, 1) := by decide +kernel
theorem dX8_cutSign_103 : decode cX8_cutSign 103 = .ok (.ior, 1) := by decide +kernel
theorem dX8_cutSign_104 : decode cX8_cutSign 104 = .ok (.ireturn, 1) := by decide +kernel
theorem dX8_byteAt_0 : decode cX8_byteAt 0 = .ok (.iload_n 1, 1) := by decide +kernel
theorem dX8_byteAt_1 : decode cX8_byteAt 1 = .ok (.ifCond .lt 31, 3) := by decide +kernel
theorem dX8_byteAt_4 : decode cX8_byteAt 4 = .ok (.iload_n 1, 1) := by decide +kernel
theorem dX8_byteAt_5 : decode cX8_byteAt 5 = .ok (.aload_n 0, 1) := by decide +kernel
theorem dX8_byteAt_6 : decode cX8_byteAt 6 = .ok (.getfield 26, 3) := by decide +kernel
theorem dX8_byteAt_9 : decode cX8_byteAt 9 = .ok (.if_icmp .ge 23, 3) := by decide +kernel
theorem dX8_byteAt_12 : decode cX8_byteAt 12 = .ok (.iload_n 1, 1) := by decide +kernel
theorem dX8_byteAt_13 : decode cX8_byteAt 13 = .ok (.sipush 2000, 3) := by decide +kernel
theorem dX8_byteAt_16 : decode cX8_byteAt 16 = .ok (.if_icmp .ge 16, 3) := by decide +kernel
theorem dX8_byteAt_19 : decode cX8_byteAt 19 = .ok (.aload_n 0, 1) := by decide +kernel
theorem dX8_byteAt_20 : decode cX8_byteAt 20 = .ok (.getfield 22, 3) := by decide +kernel
theorem dX8_byteAt_23 : decode cX8_byteAt 23 = .ok (.iload_n 1, 1) := by decide +kernel
theorem dX8_byteAt_24 : decode cX8_byteAt 24 = .ok (.baload, 1) := by decide +kernel
theorem dX8_byteAt_25 : decode cX8_byteAt 25 = .ok (.sipush 255, 3) := by decide +kernel
theorem dX8_byteAt_28 : decode cX8_byteAt 28 = .ok (.iand, 1) := by decide +kernel
theorem dX8_byteAt_29 : decode cX8_byteAt 29 = .ok (.goto 4, 3) := by decide +kernel
theorem dX8_byteAt_32 : decode cX8_byteAt 32 = .ok (.iconst (-1), 1) := by decide +kernel
theorem dX8_byteAt_33 : decode cX8_byteAt 33 = .ok (.ireturn, 1) := by decide +kernel
theorem dX8_isLetter_0 : decode cX8_isLetter 0 = .ok (.iload_n 0, 1) := by decide +kernel
theorem dX8_isLetter_1 : decode cX8_isLetter 1 = .ok (.bipush 97, 2) := by decide +kernel
theorem dX8_isLetter_3 : decode cX8_isLetter 3 = .ok (.if_icmp .lt 13, 3) := by decide +kernel
theorem dX8_isLetter_6 : decode cX8_isLetter 6 = .ok (.iload_n 0, 1) := by decide +kernel
theorem dX8_isLetter_7 : decode cX8_isLetter 7 = .ok (.bipush 122, 2) := by decide +kernel
theorem dX8_isLetter_9 : decode cX8_isLetter 9 = .ok (.if_icmp .gt 7, 3) := by decide +kernel
theorem dX8_isLetter_12 : decode cX8_isLetter 12 = .ok (.iconst 1, 1) := by decide +kernel
theorem dX8_isLetter_13 : decode cX8_isLetter 13 = .ok (.goto 4, 3) := by decide +kernel
theorem dX8_isLetter_16 : decode cX8_isLetter 16 = .ok (.iconst 0, 1) := by decide +kernel
theorem dX8_isLetter_17 : decode cX8_isLetter 17 = .ok (.ireturn, 1) := by decide +kernel
theorem dX8_isDigit_0 : decode cX8_isDigit 0 = .ok (.iload_n 0, 1) := by decide +kernel
theorem dX8_isDigit_1 : decode cX8_isDigit 1 = .ok (.bipush 48, 2) := by decide +kernel
theorem dX8_isDigit_3 : decode cX8_isDigit 3 = .ok (.if_icmp .lt 13, 3) := by decide +kernel
theorem dX8_isDigit_6 : decode cX8_isDigit 6 = .ok (.iload_n 0, 1) := by decide +kernel
theorem dX8_isDigit_7 : decode cX8_isDigit 7 = .ok (.bipush 57, 2) := by decide +kernel
theorem dX8_isDigit_9 : decode cX8_isDigit 9 = .ok (.if_icmp .gt 7, 3) := by decide +kernel
theorem dX8_isDigit_12 : decode cX8_isDigit 12 = .ok (.iconst 1, 1) := by decide +kernel
theorem dX8_isDigit_13 : decode cX8_isDigit 13 = .ok (.goto 4, 3) := by decide +kernel
theorem dX8_isDigit_16 : decode cX8_isDigit 16 = .ok (.iconst 0, 1) := by decide +kernel
theorem dX8_isDigit_17 : decode cX8_isDigit 17 = .ok (.ireturn, 1) := by decide +kernel
theorem dX9_init_0 : decode cX9_init 0 = .ok (.aload_n 0, 1) := by decide +kernel
theorem dX9_init_1 : decode cX9_init 1 = .ok (.invokespecial 3, 3) := by decide +kernel
theorem dX9_init_4 : decode cX9_init 4 = .ok (.aload_n 0, 1) := by decide +kernel
theorem dX9_init_5 : decode cX9_init 5 = .ok (.sipush 1400, 3) := by decide +kernel
theorem dX9_init_8 : decode cX9_init 8 = .ok (.newarray .int, 2) := by decide +kernel
theorem dX9_init_10 : decode cX9_init 10 = .ok (.putfield 9, 3) := by decide +kernel
theorem dX9_init_13 : decode cX9_init 13 = .ok (.aload_n 0, 1) := by decide +kernel
theorem dX9_init_14 : decode cX9_init 14 = .ok (.sipush 1400, 3) := by decide +kernel
theorem dX9_init_17 : decode cX9_init 17 = .ok (.newarray .boolean, 2) := by decide +kernel
theorem dX9_init_19 : decode cX9_init 19 = .ok (.putfield 15, 3) := by decide +kernel
theorem dX9_init_22 : decode cX9_init 22 = .ok (.aload_n 0, 1) := by decide +kernel
theorem dX9_init_23 : decode cX9_init 23 = .ok (.bipush 16, 2) := by decide +kernel
theorem dX9_init_25 : decode cX9_init 25 = .ok (.newarray .int, 2) := by decide +kernel
theorem dX9_init_27 : decode cX9_init 27 = .ok (.putfield 19, 3) := by decide +kernel
theorem dX9_init_30 : decode cX9_init 30 = .ok (.aload_n 0, 1) := by decide +kernel
theorem dX9_init_31 : decode cX9_init 31 = .ok (.aload_n 1, 1) := by decide +kernel
theorem dX9_init_32 : decode cX9_init 32 = .ok (.putfield 22, 3) := by decide +kernel
theorem dX9_init_35 : decode cX9_init 35 = .ok (.aload_n 0, 1) := by decide +kernel
theorem dX9_init_36 : decode cX9_init 36 = .ok (.aload_n 2, 1) := by decide +kernel
theorem dX9_init_37 : decode cX9_init 37 = .ok (.putfield 26, 3) := by decide +kernel
theorem dX9_init_40 : decode cX9_init 40 = .ok (.aload_n 0, 1) := by decide +kernel
theorem dX9_init_41 : decode cX9_init 41 = .ok (.aload_n 3, 1) := by decide +kernel
theorem dX9_init_42 : decode cX9_init 42 = .ok (.putfield 30, 3) := by decide +kernel
theorem dX9_init_45 : decode cX9_init 45 = .ok (.aload_n 0, 1) := by decide +kernel
theorem dX9_init_46 : decode cX9_init 46 = .ok (.iconst (-1), 1) := by decide +kernel
theorem dX9_init_47 : decode cX9_init 47 = .ok (.putfield 34, 3) := by decide +kernel
theorem dX9_init_50 : decode cX9_init 50 = .ok (.return_, 1) := by decide +kernel
theorem dX9_forget_0 : decode cX9_forget 0 = .ok (.aload_n 0, 1) := by decide +kernel
theorem dX9_forget_1 : decode cX9_forget 1 = .ok (.getfield 22, 3) := by decide +kernel
theorem dX9_forget_4 : decode cX9_forget 4 = .ok (.invokevirtual 38, 3) := by decide +kernel
theorem dX9_forget_7 : decode cX9_forget 7 = .ok (.aload_n 0, 1) := by decide +kernel
theorem dX9_forget_8 : decode cX9_forget 8 = .ok (.getfield 26, 3) := by decide +kernel
theorem dX9_forget_11 : decode cX9_forget 11 = .ok (.iconst 0, 1) := by decide +kernel
theorem dX9_forget_12 : decode cX9_forget 12 = .ok (.putfield 43, 3) := by decide +kernel
theorem dX9_forget_15 : decode cX9_forget 15 = .ok (.aload_n 0, 1) := by decide +kernel
theorem dX9_forget_16 : decode cX9_forget 16 = .ok (.iconst (-1), 1) := by decide +kernel
theorem dX9_forget_17 : decode cX9_forget 17 = .ok (.putfield 34, 3) := by decide +kernel
theorem dX9_forget_20 : decode cX9_forget 20 = .ok (.aload_n 0, 1) := by decide +kernel
theorem dX9_forget_21 : decode cX9_forget 21 = .ok (.iconst 0, 1) := by decide +kernel
theorem dX9_forget_22 : decode cX9_forget 22 = .ok (.putfield 48, 3) := by decide +kernel
theorem dX9_forget_25 : decode cX9_forget 25 = .ok (.aload_n 0, 1) := by decide +kernel
theorem dX9_forget_26 : decode cX9_forget 26 = .ok (.iconst 0, 1) := by decide +kernel
theorem dX9_forget_27 : decode cX9_forget 27 = .ok (.putfield 51, 3) := by decide +kernel
theorem dX9_forget_30 : decode cX9_forget 30 = .ok (.return_, 1) := by decide +kernel
theorem dX9_perform_0 : decode cX9_perform 0 = .ok (.aload_n 0, 1) := by decide +kernel
theorem dX9_perform_1 : decode cX9_perform 1 = .ok (.invokevirtual 54, 3) := by decide +kernel
theorem dX9_perform_4 : decode cX9_perform 4 = .ok (.aload_n 0, 1) := by decide +kernel
theorem dX9_perform_5 : decode cX9_perform 5 = .ok (.aload_n 1, 1) := by decide +kernel
theorem dX9_perform_6 : decode cX9_perform 6 = .ok (.aload_n 2, 1) := by decide +kernel
theorem dX9_perform_7 : decode cX9_perform 7 = .ok (.iload_n 3, 1) := by decide +kernel
theorem dX9_perform_8 : decode cX9_perform 8 = .ok (.invokevirtual 57, 3) := by decide +kernel
theorem dX9_perform_11 : decode cX9_perform 11 = .ok (.iconst 0, 1) := by decide +kernel
theorem dX9_perform_12 : decode cX9_perform 12 = .ok (.istore 4, 2) := by decide +kernel
theorem dX9_perform_14 : decode cX9_perform 14 = .ok (.aload_n 0, 1) := by decide +kernel
theorem dX9_perform_15 : decode cX9_perform 15 = .ok (.getfield 60, 3) := by decide +kernel
theorem dX9_perform_18 : decode cX9_perform 18 = .ok (.iconst (-1), 1) := by decide +kernel
theorem dX9_perform_19 : decode cX9_perform 19 = .ok (.if_icmp .eq 39, 3) := by decide +kernel
theorem dX9_perform_22 : decode cX9_perform 22 = .ok (.iload 4, 2) := by decide +kernel
theorem dX9_perform_24 : decode cX9_perform 24 = .ok (.ldc 63, 2) := by decide +kernel
theorem dX9_perform_26 : decode cX9_perform 26 = .ok (.if_icmp .ge 32, 3) := by decide +kernel
theorem dX9_perform_29 : decode cX9_perform 29 = .ok (.iload 4, 2) := by decide +kernel
theorem dX9_perform_31 : decode cX9_perform 31 = .ok (.aload_n 0, 1) := by decide +kernel
theorem dX9_perform_32 : decode cX9_perform 32 = .ok (.invokevirtual 64, 3) := by decide +kernel
theorem dX9_perform_35 : decode cX9_perform 35 = .ok (.ifCond .eq 12, 3) := by decide +kernel
theorem dX9_perform_38 : decode cX9_perform 38 = .ok (.aload_n 0, 1) := by decide +kernel
theorem dX9_perform_39 : decode cX9_perform 39 = .ok (.iload 4, 2) := by decide +kernel
theorem dX9_perform_41 : decode cX9_perform 41 = .ok (.invokevirtual 68, 3) := by decide +kernel
theorem dX9_perform_44 : decode cX9_perform 44 = .ok (.goto 4, 3) := by decide +kernel
theorem dX9_perform_47 : decode cX9_perform 47 = .ok (.iconst 1, 1) := by decide +kernel
theorem dX9_perform_48 : decode cX9_perform 48 = .ok (.iconst 1, 1) := by decide +kernel
theorem dX9_perform_49 : decode cX9_perform 49 = .ok (.invokestatic 72, 3) := by decide +kernel
theorem dX9_perform_52 : decode cX9_perform 52 = .ok (.iadd, 1) := by decide +kernel
theorem dX9_perform_53 : decode cX9_perform 53 = .ok (.istore 4, 2) := by decide +kernel
theorem dX9_perform_55 : decode cX9_perform 55 = .ok (.goto (-41), 3) := by decide +kernel
theorem dX9_perform_58 : decode cX9_perform 58 = .ok (.aload_n 0, 1) := by decide +kernel
theorem dX9_perform_59 : decode cX9_perform 59 = .ok (.iload 4, 2) := by decide +kernel
theorem dX9_perform_61 : decode cX9_perform 61 = .ok (.putfield 78, 3) := by decide +kernel
theorem dX9_perform_64 : decode cX9_perform 64 = .ok (.aload_n 0, 1) := by decide +kernel
theorem dX9_perform_65 : decode cX9_perform 65 = .ok (.getfield 78, 3) := by decide +kernel
theorem dX9_perform_68 : decode cX9_perform 68 = .ok (.ldc 63, 2) := by decide +kernel
theorem dX9_perform_70 : decode cX9_perform 70 = .ok (.if_icmp .lt 13, 3) := by decide +kernel
theorem dX9_perform_73 : decode cX9_perform 73 = .ok (.aload_n 0, 1) := by decide +kernel
theorem dX9_perform_74 : decode cX9_perform 74 = .ok (.dup, 1) := by decide +kernel
theorem dX9_perform_75 : decode cX9_perform 75 = .ok (.getfield 81, 3) := by decide +kernel
theorem dX9_perform_78 : decode cX9_perform 78 = .ok (.iconst 1, 1) := by decide +kernel
theorem dX9_perform_79 : decode cX9_perform 79 = .ok (.iadd, 1) := by decide +kernel
theorem dX9_perform_80 : decode cX9_perform 80 = .ok (.putfield 81, 3) := by decide +kernel
theorem dX9_perform_83 : decode cX9_perform 83 = .ok (.aload_n 0, 1) := by decide +kernel
theorem dX9_perform_84 : decode cX9_perform 84 = .ok (.getfield 34, 3) := by decide +kernel
theorem dX9_perform_87 : decode cX9_perform 87 = .ok (.ifCond .ne 16, 3) := by decide +kernel
theorem dX9_perform_90 : decode cX9_perform 90 = .ok (.aload_n 0, 1) := by decide +kernel
theorem dX9_perform_91 : decode cX9_perform 91 = .ok (.dup, 1) := by decide +kernel
theorem dX9_perform_92 : decode cX9_perform 92 = .ok (.getfield 84, 3) := by decide +kernel
theorem dX9_perform_95 : decode cX9_perform 95 = .ok (.aload_n 0, 1) := by decide +kernel
theorem dX9_perform_96 : decode cX9_perform 96 = .ok (.getfield 87, 3) := by decide +kernel
theorem dX9_perform_99 : decode cX9_perform 99 = .ok (.iadd, 1) := by decide +kernel
theorem dX9_perform_100 : decode cX9_perform 100 = .ok (.putfield 84, 3) := by decide +kernel
theorem dX9_perform_103 : decode cX9_perform 103 = .ok (.aload_n 0, 1) := by decide +kernel
theorem dX9_perform_104 : decode cX9_perform 104 = .ok (.getfield 34, 3) := by decide +kernel
theorem dX9_perform_107 : decode cX9_perform 107 = .ok (.ireturn, 1) := by decide +kernel
theorem dX9_begin_0 : decode cX9_begin 0 = .ok (.aload_n 0, 1) := by decide +kernel
theorem dX9_begin_1 : decode cX9_begin 1 = .ok (.aload_n 1, 1) := by decide +kernel
theorem dX9_begin_2 : decode cX9_begin 2 = .ok (.putfield 30, 3) := by decide +kernel
theorem dX9_begin_5 : decode cX9_begin 5 = .ok (.aload_n 0, 1) := by decide +kernel
theorem dX9_begin_6 : decode cX9_begin 6 = .ok (.iload_n 3, 1) := by decide +kernel
theorem dX9_begin_7 : decode cX9_begin 7 = .ok (.putfield 90, 3) := by decide +kernel
theorem dX9_begin_10 : decode cX9_begin 10 = .ok (.iconst 0, 1) := by decide +kernel
theorem dX9_begin_11 : decode cX9_begin 11 = .ok (.istore 4, 2) := by decide +kernel
theorem dX9_begin_13 : decode cX9_begin 13 = .ok (.iload 4, 2) := by decide +kernel
theorem dX9_begin_15 : decode cX9_begin 15 = .ok (.aload_n 0, 1) := by decide +kernel
theorem dX9_begin_16 : decode cX9_begin 16 = .ok (.getfield 30, 3) := by decide +kernel
theorem dX9_begin_19 : decode cX9_begin 19 = .ok (.getfield 93, 3) := by decide +kernel
theorem dX9_begin_22 : decode cX9_begin 22 = .ok (.if_icmp .ge 25, 3) := by decide +kernel
theorem dX9_begin_25 : decode cX9_begin 25 = .ok (.iload 4, 2) := by decide +kernel
theorem dX9_begin_27 : decode cX9_begin 27 = .ok (.sipush 1400, 3) := by decide +kernel
theorem dX9_begin_30 : decode cX9_begin 30 = .ok (.if_icmp .ge 17, 3) := by decide +kernel
theorem dX9_begin_33 : decode cX9_begin 33 = .ok (.aload_n 0, 1) := by decide +kernel
theorem dX9_begin_34 : decode cX9_begin 34 = .ok (.getfield 15, 3) := by decide +kernel
theorem dX9_begin_37 : decode cX9_begin 37 = .ok (.iload 4, 2) := by decide +kernel
theorem dX9_begin_39 : decode cX9_begin 39 = .ok (.iconst 0, 1) := by decide +kernel
theorem dX9_begin_40 : decode cX9_begin 40 = .ok (.bastore, 1) := by decide +kernel
theorem dX9_begin_41 : decode cX9_begin 41 = .ok (.iinc 4 1, 3) := by decide +kernel
theorem dX9_begin_44 : decode cX9_begin 44 = .ok (.goto (-31), 3) := by decide +kernel
theorem dX9_begin_47 : decode cX9_begin 47 = .ok (.iconst 0, 1) := by decide +kernel
theorem dX9_begin_48 : decode cX9_begin 48 = .ok (.istore 4, 2) := by decide +kernel
theorem dX9_begin_50 : decode cX9_begin 50 = .ok (.iload 4, 2) := by decide +kernel
theorem dX9_begin_52 : decode cX9_begin 52 = .ok (.aload_n 2, 1) := by decide +kernel
theorem dX9_begin_53 : decode cX9_begin 53 = .ok (.arraylength, 1) := by decide +kernel
theorem dX9_begin_54 : decode cX9_begin 54 = .ok (.if_icmp .ge 27, 3) := by decide +kernel
theorem dX9_begin_57 : decode cX9_begin 57 = .ok (.iload 4, 2) := by decide +kernel
theorem dX9_begin_59 : decode cX9_begin 59 = .ok (.bipush 16, 2) := by decide +kernel
theorem dX9_begin_61 : decode cX9_begin 61 = .ok (.if_icmp .ge 20, 3) := by decide +kernel
theorem dX9_begin_64 : decode cX9_begin 64 = .ok (.aload_n 0, 1) := by decide +kernel
theorem dX9_begin_65 : decode cX9_begin 65 = .ok (.getfield 19, 3) := by decide +kernel
theorem dX9_begin_68 : decode cX9_begin 68 = .ok (.iload 4, 2) := by decide +kernel
theorem dX9_begin_70 : decode cX9_begin 70 = .ok (.aload_n 2, 1) := by decide +kernel
theorem dX9_begin_71 : decode cX9_begin 71 = .ok (.iload 4, 2) := by decide +kernel
theorem dX9_begin_73 : decode cX9_begin 73 = .ok (.iaload, 1) := by decide +kernel
theorem dX9_begin_74 : decode cX9_begin 74 = .ok (.iastore, 1) := by decide +kernel
theorem dX9_begin_75 : decode cX9_begin 75 = .ok (.iinc 4 1, 3) := by decide +kernel
theorem dX9_begin_78 : decode cX9_begin 78 = .ok (.goto (-28), 3) := by decide +kernel
theorem dX9_begin_81 : decode cX9_begin 81 = .ok (.aload_n 0, 1) := by decide +kernel
theorem dX9_begin_82 : decode cX9_begin 82 = .ok (.iconst 0, 1) := by decide +kernel
theorem dX9_begin_83 : decode cX9_begin 83 = .ok (.putfield 87, 3) := by decide +kernel
theorem dX9_begin_86 : decode cX9_begin 86 = .ok (.aload_n 0, 1) := by decide +kernel
theorem dX9_begin_87 : decode cX9_begin 87 = .ok (.iconst 1, 1) := by decide +kernel
theorem dX9_begin_88 : decode cX9_begin 88 = .ok (.putfield 34, 3) := by decide +kernel
theorem dX9_begin_91 : decode cX9_begin 91 = .ok (.aload_n 0, 1) := by decide +kernel
theorem dX9_begin_92 : decode cX9_begin 92 = .ok (.iconst 0, 1) := by decide +kernel
theorem dX9_begin_93 : decode cX9_begin 93 = .ok (.putfield 60, 3) := by decide +kernel
theorem dX9_begin_96 : decode cX9_begin 96 = .ok (.return_, 1) := by decide +kernel
theorem dX9_isReady_0 : decode cX9_isReady 0 = .ok (.aload_n 0, 1) := by decide +kernel
theorem dX9_isReady_1 : decode cX9_isReady 1 = .ok (.getfield 60, 3) := by decide +kernel
theorem dX9_isReady_4 : decode cX9_isReady 4 = .ok (.ifCond .lt 39, 3) := by decide +kernel
theorem dX9_isReady_7 : decode cX9_isReady 7 = .ok (.aload_n 0, 1) := by decide +kernel
theorem dX9_isReady_8 : decode cX9_isReady 8 = .ok (.getfield 60, 3) := by decide +kernel
theorem dX9_isReady_11 : decode cX9_isReady 11 = .ok (.aload_n 0, 1) := by decide +kernel
theorem dX9_isReady_12 : decode cX9_isReady 12 = .ok (.getfield 30, 3) := by decide +kernel
theorem dX9_isReady_15 : decode cX9_isReady 15 = .ok (.getfield 93, 3) := by decide +kernel
theorem dX9_isReady_18 : decode cX9_isReady 18 = .ok (.if_icmp .ge 25, 3) := by decide +kernel
theorem dX9_isReady_21 : decode cX9_isReady 21 = .ok (.aload_n 0, 1) := by decide +kernel
theorem dX9_isReady_22 : decode cX9_isReady 22 = .ok (.getfield 60, 3) := by decide +kernel
theorem dX9_isReady_25 : decode cX9_isReady 25 = .ok (.sipush 1400, 3) := by decide +kernel
theorem dX9_isReady_28 : decode cX9_isReady 28 = .ok (.if_icmp .ge 15, 3) := by decide +kernel
theorem dX9_isReady_31 : decode cX9_isReady 31 = .ok (.aload_n 0, 1) := by decide +kernel
theorem dX9_isReady_32 : decode cX9_isReady 32 = .ok (.getfield 15, 3) := by decide +kernel
theorem dX9_isReady_35 : decode cX9_isReady 35 = .ok (.aload_n 0, 1) := by decide +kernel
theorem dX9_isReady_36 : decode cX9_isReady 36 = .ok (.getfield 60, 3) := by decide +kernel
theorem dX9_isReady_39 : decode cX9_isReady 39 = .ok (.baload, 1) := by decide +kernel
theorem dX9_isReady_40 : decode cX9_isReady 40 = .ok (.ifCond .eq 5, 3) := by decide +kernel
theorem dX9_isReady_43 : decode cX9_isReady 43 = .ok (.iconst 0, 1) := by decide +kernel
theorem dX9_isReady_44 : decode cX9_isReady 44 = .ok (.ireturn, 1) := by decide +kernel
theorem dX9_isReady_45 : decode cX9_isReady 45 = .ok (.aload_n 0, 1) := by decide +kernel
theorem dX9_isReady_46 : decode cX9_isReady 46 = .ok (.getfield 30, 3) := by decide +kernel
theorem dX9_isReady_49 : decode cX9_isReady 49 = .ok (.getfield 98, 3) := by decide +kernel
theorem dX9_isReady_52 : decode cX9_isReady 52 = .ok (.aload_n 0, 1) := by decide +kernel
theorem dX9_isReady_53 : decode cX9_isReady 53 = .ok (.getfield 60, 3) := by decide +kernel
theorem dX9_isReady_56 : decode cX9_isReady 56 = .ok (.iaload, 1) := by decide +kernel
theorem dX9_isReady_57 : decode cX9_isReady 57 = .ok (.istore_n 1, 1) := by decide +kernel
theorem dX9_isReady_58 : decode cX9_isReady 58 = .ok (.aload_n 0, 1) := by decide +kernel
theorem dX9_isReady_59 : decode cX9_isReady 59 = .ok (.getfield 30, 3) := by decide +kernel
theorem dX9_isReady_62 : decode cX9_isReady 62 = .ok (.getfield 101, 3) := by decide +kernel
theorem dX9_isReady_65 : decode cX9_isReady 65 = .ok (.aload_n 0, 1) := by decide +kernel
theorem dX9_isReady_66 : decode cX9_isReady 66 = .ok (.getfield 60, 3) := by decide +kernel
theorem dX9_isReady_69 : decode cX9_isReady 69 = .ok (.iaload, 1) := by decide +kernel
theorem dX9_isReady_70 : decode cX9_isReady 70 = .ok (.istore_n 2, 1) := by decide +kernel
theorem dX9_isReady_71 : decode cX9_isReady 71 = .ok (.iload_n 1, 1) := by decide +kernel
theorem dX9_isReady_72 : decode cX9_isReady 72 = .ok (.iconst (-1), 1) := by decide +kernel
theorem dX9_isReady_73 : decode cX9_isReady 73 = .ok (.if_icmp .eq 11, 3) := by decide +kernel
theorem dX9_isReady_76 : decode cX9_isReady 76 = .ok (.aload_n 0, 1) := by decide +kernel
theorem dX9_isReady_77 : decode cX9_isReady 77 = .ok (.iload_n 1, 1) := by decide +kernel
theorem dX9_isReady_78 : decode cX9_isReady 78 = .ok (.invokevirtual 104, 3) := by decide +kernel
theorem dX9_isReady_81 : decode cX9_isReady 81 = .ok (.ifCond .eq 20, 3) := by decide +kernel
theorem dX9_isReady_84 : decode cX9_isReady 84 = .ok (.iload_n 2, 1) := by decide +kernel
theorem dX9_isReady_85 : decode cX9_isReady 85 = .ok (.iconst (-1), 1) := by decide +kernel
theorem dX9_isReady_86 : decode cX9_isReady 86 = .ok (.if_icmp .eq 11, 3) := by decide +kernel
theorem dX9_isReady_89 : decode cX9_isReady 89 = .ok (.aload_n 0, 1) := by decide +kernel
theorem dX9_isReady_90 : decode cX9_isReady 90 = .ok (.iload_n 2, 1) := by decide +kernel
theorem dX9_isReady_91 : decode cX9_isReady 91 = .ok (.invokevirtual 104, 3) := by decide +kernel
theorem dX9_isReady_94 : decode cX9_isReady 94 = .ok (.ifCond .eq 7, 3) := by decide +kernel
theorem dX9_isReady_97 : decode cX9_isReady 97 = .ok (.iconst 1, 1) := by decide +kernel
theorem dX9_isReady_98 : decode cX9_isReady 98 = .ok (.goto 4, 3) := by decide +kernel
theorem dX9_isReady_101 : decode cX9_isReady 101 = .ok (.iconst 0, 1) := by decide +kernel
theorem dX9_isReady_102 : decode cX9_isReady 102 = .ok (.ireturn, 1) := by decide +kernel
theorem dX9_work_0 : decode cX9_work 0 = .ok (.aload_n 0, 1) := by decide +kernel
theorem dX9_work_1 : decode cX9_work 1 = .ok (.getfield 60, 3) := by decide +kernel
theorem dX9_work_4 : decode cX9_work 4 = .ok (.istore_n 2, 1) := by decide +kernel
theorem dX9_work_5 : decode cX9_work 5 = .ok (.aload_n 0, 1) := by decide +kernel
theorem dX9_work_6 : decode cX9_work 6 = .ok (.getfield 30, 3) := by decide +kernel
theorem dX9_work_9 : decode cX9_work 9 = .ok (.getfield 108, 3) := by decide +kernel
theorem dX9_work_12 : decode cX9_work 12 = .ok (.iload_n 2, 1) := by decide +kernel
theorem dX9_work_13 : decode cX9_work 13 = .ok (.iaload, 1) := by decide +kernel
theorem dX9_work_14 : decode cX9_work 14 = .ok (.istore_n 3, 1) := by decide +kernel
theorem dX9_work_15 : decode cX9_work 15 = .ok (.aload_n 0, 1) := by decide +kernel
theorem dX9_work_16 : decode cX9_work 16 = .ok (.aload_n 0, 1) := by decide +kernel
theorem dX9_work_17 : decode cX9_work 17 = .ok (.getfield 30, 3) := by decide +kernel
theorem dX9_work_20 : decode cX9_work 20 = .ok (.getfield 98, 3) := by decide +kernel
theorem dX9_work_23 : decode cX9_work 23 = .ok (.iload_n 2, 1) := by decide +kernel
theorem dX9_work_24 : decode cX9_work 24 = .ok (.iaload, 1) := by decide +kernel
theorem dX9_work_25 : decode cX9_work 25 = .ok (.invokevirtual 111, 3) := by decide +kernel
theorem dX9_work_28 : decode cX9_work 28 = .ok (.istore 4, 2) := by decide +kernel
theorem dX9_work_30 : decode cX9_work 30 = .ok (.aload_n 0, 1) := by decide +kernel
theorem dX9_work_31 : decode cX9_work 31 = .ok (.aload_n 0, 1) := by decide +kernel
theorem dX9_work_32 : decode cX9_work 32 = .ok (.getfield 30, 3) := by decide +kernel
theorem dX9_work_35 : decode cX9_work 35 = .ok (.getfield 101, 3) := by decide +kernel
theorem dX9_work_38 : decode cX9_work 38 = .ok (.iload_n 2, 1) := by decide +kernel
theorem dX9_work_39 : decode cX9_work 39 = .ok (.iaload, 1) := by decide +kernel
theorem dX9_work_40 : decode cX9_work 40 = .ok (.invokevirtual 111, 3) := by decide +kernel
theorem dX9_work_43 : decode cX9_work 43 = .ok (.istore 5, 2) := by decide +kernel
theorem dX9_work_45 : decode cX9_work 45 = .ok (.iconst 1, 1) := by decide +kernel
theorem dX9_work_46 : decode cX9_work 46 = .ok (.istore 6, 2) := by decide +kernel
theorem dX9_work_48 : decode cX9_work 48 = .ok (.aload_n 0, 1) := by decide +kernel
theorem dX9_work_49 : decode cX9_work 49 = .ok (.dup, 1) := by decide +kernel
theorem dX9_work_50 : decode cX9_work 50 = .ok (.getfield 60, 3) := by decide +kernel
theorem dX9_work_53 : decode cX9_work 53 = .ok (.iconst 1, 1) := by decide +kernel
theorem dX9_work_54 : decode cX9_work 54 = .ok (.iadd, 1) := by decide +kernel
theorem dX9_work_55 : decode cX9_work 55 = .ok (.putfield 60, 3) := by decide +kernel
theorem dX9_work_58 : decode cX9_work 58 = .ok (.aload_n 0, 1) := by decide +kernel
theorem dX9_work_59 : decode cX9_work 59 = .ok (.getfield 30, 3) := by decide +kernel
theorem dX9_work_62 : decode cX9_work 62 = .ok (.getfield 114, 3) := by decide +kernel
theorem dX9_work_65 : decode cX9_work 65 = .ok (.iload_n 2, 1) := by decide +kernel
theorem dX9_work_66 : decode cX9_work 66 = .ok (.iaload, 1) := by decide +kernel
theorem dX9_work_67 : decode cX9_work 67 = .ok (.tableswitch 242 1 9 #[49, 58, 83, 116, 134, 164, 191, 198, 213], 49) := by decide +kernel
theorem dX9_work_116 : decode cX9_work 116 = .ok (.aload_n 0, 1) := by decide +kernel
theorem dX9_work_117 : decode cX9_work 117 = .ok (.iload_n 2, 1) := by decide +kernel
theorem dX9_work_118 : decode cX9_work 118 = .ok (.iload_n 3, 1) := by decide +kernel
theorem dX9_work_119 : decode cX9_work 119 = .ok (.invokevirtual 117, 3) := by decide +kernel
theorem dX9_work_122 : decode cX9_work 122 = .ok (.goto 208, 3) := by decide +kernel
theorem dX9_work_125 : decode cX9_work 125 = .ok (.aload_n 0, 1) := by decide +kernel
theorem dX9_work_126 : decode cX9_work 126 = .ok (.iload_n 2, 1) := by decide +kernel
theorem dX9_work_127 : decode cX9_work 127 = .ok (.iload_n 3, 1) := by decide +kernel
theorem dX9_work_128 : decode cX9_work 128 = .ok (.invokestatic 121, 3) := by decide +kernel
theorem dX9_work_131 : decode cX9_work 131 = .ok (.ifCond .eq 12, 3) := by decide +kernel
theorem dX9_work_134 : decode cX9_work 134 = .ok (.aload_n 0, 1) := by decide +kernel
theorem dX9_work_135 : decode cX9_work 135 = .ok (.getfield 19, 3) := by decide +kernel
theorem dX9_work_138 : decode cX9_work 138 = .ok (.iload_n 3, 1) := by decide +kernel
theorem dX9_work_139 : decode cX9_work 139 = .ok (.iaload, 1) := by decide +kernel
theorem dX9_work_140 : decode cX9_work 140 = .ok (.goto 4, 3) := by decide +kernel
theorem dX9_work_143 : decode cX9_work 143 = .ok (.iconst 0, 1) := by decide +kernel
theorem dX9_work_144 : decode cX9_work 144 = .ok (.invokevirtual 117, 3) := by decide +kernel
theorem dX9_work_147 : decode cX9_work 147 = .ok (.goto 183, 3) := by decide +kernel
theorem dX9_work_150 : decode cX9_work 150 = .ok (.aload_n 0, 1) := by decide +kernel
theorem dX9_work_151 : decode cX9_work 151 = .ok (.getfield 22, 3) := by decide +kernel
theorem dX9_work_154 : decode cX9_work 154 = .ok (.iload_n 1, 1) := by decide +kernel
theorem dX9_work_155 : decode cX9_work 155 = .ok (.invokevirtual 124, 3) := by decide +kernel
theorem dX9_work_158 : decode cX9_work 158 = .ok (.istore 6, 2) := by decide +kernel
theorem dX9_work_160 : decode cX9_work 160 = .ok (.aload_n 0, 1) := by decide +kernel
theorem dX9_work_161 : decode cX9_work 161 = .ok (.iload_n 2, 1) := by decide +kernel
theorem dX9_work_162 : decode cX9_work 162 = .ok (.aload_n 0, 1) := by decide +kernel
theorem dX9_work_163 : decode cX9_work 163 = .ok (.getfield 22, 3) := by decide +kernel
theorem dX9_work_166 : decode cX9_work 166 = .ok (.iload_n 3, 1) := by decide +kernel
theorem dX9_work_167 : decode cX9_work 167 = .ok (.aload_n 0, 1) := by decide +kernel
theorem dX9_work_168 : decode cX9_work 168 = .ok (.iload_n 3, 1) := by decide +kernel
theorem dX9_work_169 : decode cX9_work 169 = .ok (.iload 4, 2) := by decide +kernel
theorem dX9_work_171 : decode cX9_work 171 = .ok (.invokevirtual 127, 3) := by decide +kernel
theorem dX9_work_174 : decode cX9_work 174 = .ok (.invokevirtual 130, 3) := by decide +kernel
theorem dX9_work_177 : decode cX9_work 177 = .ok (.invokevirtual 117, 3) := by decide +kernel
theorem dX9_work_180 : decode cX9_work 180 = .ok (.goto 150, 3) := by decide +kernel
theorem dX9_work_183 : decode cX9_work 183 = .ok (.iload_n 3, 1) := by decide +kernel
theorem dX9_work_184 : decode cX9_work 184 = .ok (.invokestatic 121, 3) := by decide +kernel
theorem dX9_work_187 : decode cX9_work 187 = .ok (.ifCond .eq 143, 3) := by decide +kernel
theorem dX9_work_190 : decode cX9_work 190 = .ok (.aload_n 0, 1) := by decide +kernel
theorem dX9_work_191 : decode cX9_work 191 = .ok (.getfield 19, 3) := by decide +kernel
theorem dX9_work_194 : decode cX9_work 194 = .ok (.iload_n 3, 1) := by decide +kernel
theorem dX9_work_195 : decode cX9_work 195 = .ok (.iload 4, 2) := by decide +kernel
theorem dX9_work_197 : decode cX9_work 197 = .ok (.iastore, 1) := by decide +kernel
theorem dX9_work_198 : decode cX9_work 198 = .ok (.goto 132, 3) := by decide +kernel
theorem dX9_work_201 : decode cX9_work 201 = .ok (.aload_n 0, 1) := by decide +kernel
theorem dX9_work_202 : decode cX9_work 202 = .ok (.getfield 22, 3) := by decide +kernel
theorem dX9_work_205 : decode cX9_work 205 = .ok (.iload_n 1, 1) := by decide +kernel
theorem dX9_work_206 : decode cX9_work 206 = .ok (.invokevirtual 124, 3) := by decide +kernel
theorem dX9_work_209 : decode cX9_work 209 = .ok (.istore 6, 2) := by decide +kernel
theorem dX9_work_211 : decode cX9_work 211 = .ok (.aload_n 0, 1) := by decide +kernel
theorem dX9_work_212 : decode cX9_work 212 = .ok (.getfield 22, 3) := by decide +kernel
theorem dX9_work_215 : decode cX9_work 215 = .ok (.iload_n 3, 1) := by decide +kernel
theorem dX9_work_216 : decode cX9_work 216 = .ok (.aload_n 0, 1) := by decide +kernel
theorem dX9_work_217 : decode cX9_work 217 = .ok (.iload_n 3, 1) := by decide +kernel
theorem dX9_work_218 : decode cX9_work 218 = .ok (.iload 4, 2) := by decide +kernel
theorem dX9_work_220 : decode cX9_work 220 = .ok (.invokevirtual 127, 3) := by decide +kernel
theorem dX9_work_223 : decode cX9_work 223 = .ok (.iload 5, 2) := by decide +kernel
theorem dX9_work_225 : decode cX9_work 225 = .ok (.invokevirtual 133, 3) := by decide +kernel
theorem dX9_work_228 : decode cX9_work 228 = .ok (.goto 102, 3) := by decide +kernel
theorem dX9_work_231 : decode cX9_work 231 = .ok (.aload_n 0, 1) := by decide +kernel
theorem dX9_work_232 : decode cX9_work 232 = .ok (.iload 4, 2) := by decide +kernel
theorem dX9_work_234 : decode cX9_work 234 = .ok (.ifCond .ne 14, 3) := by decide +kernel
theorem dX9_work_237 : decode cX9_work 237 = .ok (.aload_n 0, 1) := by decide +kernel
theorem dX9_work_238 : decode cX9_work 238 = .ok (.getfield 30, 3) := by decide +kernel
theorem dX9_work_241 : decode cX9_work 241 = .ok (.iload_n 3, 1) := by decide +kernel
theorem dX9_work_242 : decode cX9_work 242 = .ok (.invokevirtual 137, 3) := by decide +kernel
theorem dX9_work_245 : decode cX9_work 245 = .ok (.goto 7, 3) := by decide +kernel
theorem dX9_work_248 : decode cX9_work 248 = .ok (.aload_n 0, 1) := by decide +kernel
theorem dX9_work_249 : decode cX9_work 249 = .ok (.getfield 60, 3) := by decide +kernel
theorem dX9_work_252 : decode cX9_work 252 = .ok (.putfield 60, 3) := by decide +kernel
theorem dX9_work_255 : decode cX9_work 255 = .ok (.goto 75, 3) := by decide +kernel
theorem dX9_work_258 : decode cX9_work 258 = .ok (.aload_n 0, 1) := by decide +kernel
theorem dX9_work_259 : decode cX9_work 259 = .ok (.invokevirtual 140, 3) := by decide +kernel
theorem dX9_work_262 : decode cX9_work 262 = .ok (.goto 68, 3) := by decide +kernel
theorem dX9_work_265 : decode cX9_work 265 = .ok (.aload_n 0, 1) := by decide +kernel
theorem dX9_work_266 : decode cX9_work 266 = .ok (.aload_n 0, 1) := by decide +kernel
theorem dX9_work_267 : decode cX9_work 267 = .ok (.getfield 30, 3) := by decide +kernel
theorem dX9_work_270 : decode cX9_work 270 = .ok (.iload_n 3, 1) := by decide +kernel
theorem dX9_work_271 : decode cX9_work 271 = .ok (.invokevirtual 137, 3) := by decide +kernel
theorem dX9_work_274 : decode cX9_work 274 = .ok (.putfield 60, 3) := by decide +kernel
theorem dX9_work_277 : decode cX9_work 277 = .ok (.goto 53, 3) := by decide +kernel
theorem dX9_work_280 : decode cX9_work 280 = .ok (.aload_n 0, 1) := by decide +kernel
theorem dX9_work_281 : decode cX9_work 281 = .ok (.getfield 26, 3) := by decide +kernel
theorem dX9_work_284 : decode cX9_work 284 = .ok (.iload_n 1, 1) := by decide +kernel
theorem dX9_work_285 : decode cX9_work 285 = .ok (.invokevirtual 143, 3) := by decide +kernel
theorem dX9_work_288 : decode cX9_work 288 = .ok (.istore 6, 2) := by decide +kernel
theorem dX9_work_290 : decode cX9_work 290 = .ok (.aload_n 0, 1) := by decide +kernel
theorem dX9_work_291 : decode cX9_work 291 = .ok (.iload 4, 2) := by decide +kernel
theorem dX9_work_293 : decode cX9_work 293 = .ok (.putfield 48, 3) := by decide +kernel
theorem dX9_work_296 : decode cX9_work 296 = .ok (.aload_n 0, 1) := by decide +kernel
theorem dX9_work_297 : decode cX9_work 297 = .ok (.iconst 0, 1) := by decide +kernel
theorem dX9_work_298 : decode cX9_work 298 = .ok (.putfield 34, 3) := by decide +kernel
theorem dX9_work_301 : decode cX9_work 301 = .ok (.aload_n 0, 1) := by decide +kernel
theorem dX9_work_302 : decode cX9_work 302 = .ok (.iconst (-1), 1) := by decide +kernel
theorem dX9_work_303 : decode cX9_work 303 = .ok (.putfield 60, 3) := by decide +kernel
theorem dX9_work_306 : decode cX9_work 306 = .ok (.goto 24, 3) := by decide +kernel
theorem dX9_work_309 : decode cX9_work 309 = .ok (.aload_n 0, 1) := by decide +kernel
theorem dX9_work_310 : decode cX9_work 310 = .ok (.iload_n 2, 1) := by decide +kernel
theorem dX9_work_311 : decode cX9_work 311 = .ok (.aload_n 0, 1) := by decide +kernel
theorem dX9_work_312 : decode cX9_work 312 = .ok (.getfield 30, 3) := by decide +kernel
theorem dX9_work_315 : decode cX9_work 315 = .ok (.getfield 114, 3) := by decide +kernel
theorem dX9_work_318 : decode cX9_work 318 = .ok (.iload_n 2, 1) := by decide +kernel
theorem dX9_work_319 : decode cX9_work 319 = .ok (.iaload, 1) := by decide +kernel
theorem dX9_work_320 : decode cX9_work 320 = .ok (.iload 4, 2) := by decide +kernel
theorem dX9_work_322 : decode cX9_work 322 = .ok (.iload 5, 2) := by decide +kernel
theorem dX9_work_324 : decode cX9_work 324 = .ok (.invokestatic 146, 3) := by decide +kernel
theorem dX9_work_327 : decode cX9_work 327 = .ok (.invokevirtual 117, 3) := by decide +kernel
theorem dX9_work_330 : decode cX9_work 330 = .ok (.iload 6, 2) := by decide +kernel
theorem dX9_work_332 : decode cX9_work 332 = .ok (.ireturn, 1) := by decide +kernel
theorem dX9_beginStep_0 : decode cX9_beginStep 0 = .ok (.aload_n 0, 1) := by decide +kernel
theorem dX9_beginStep_1 : decode cX9_beginStep 1 = .ok (.getfield 51, 3) := by decide +kernel
theorem dX9_beginStep_4 : decode cX9_beginStep 4 = .ok (.aload_n 0, 1) := by decide +kernel
theorem dX9_beginStep_5 : decode cX9_beginStep 5 = .ok (.getfield 90, 3) := by decide +kernel
theorem dX9_beginStep_8 : decode cX9_beginStep 8 = .ok (.if_icmp .lt 11, 3) := by decide +kernel
theorem dX9_beginStep_11 : decode cX9_beginStep 11 = .ok (.aload_n 0, 1) := by decide +kernel
theorem dX9_beginStep_12 : decode cX9_beginStep 12 = .ok (.iconst (-1), 1) := by decide +kernel
theorem dX9_beginStep_13 : decode cX9_beginStep 13 = .ok (.putfield 60, 3) := by decide +kernel
theorem dX9_beginStep_16 : decode cX9_beginStep 16 = .ok (.goto 13, 3) := by decide +kernel
theorem dX9_beginStep_19 : decode cX9_beginStep 19 = .ok (.aload_n 0, 1) := by decide +kernel
theorem dX9_beginStep_20 : decode cX9_beginStep 20 = .ok (.dup, 1) := by decide +kernel
theorem dX9_beginStep_21 : decode cX9_beginStep 21 = .ok (.getfield 51, 3) := by decide +kernel
theorem dX9_beginStep_24 : decode cX9_beginStep 24 = .ok (.iconst 1, 1) := by decide +kernel
theorem dX9_beginStep_25 : decode cX9_beginStep 25 = .ok (.iadd, 1) := by decide +kernel
theorem dX9_beginStep_26 : decode cX9_beginStep 26 = .ok (.putfield 51, 3) := by decide +kernel
theorem dX9_beginStep_29 : decode cX9_beginStep 29 = .ok (.return_, 1) := by decide +kernel
theorem dX9_cellOf_0 : decode cX9_cellOf 0 = .ok (.aload_n 0, 1) := by decide +kernel
theorem dX9_cellOf_1 : decode cX9_cellOf 1 = .ok (.getfield 30, 3) := by decide +kernel
theorem dX9_cellOf_4 : decode cX9_cellOf 4 = .ok (.iload_n 1, 1) := by decide +kernel
theorem dX9_cellOf_5 : decode cX9_cellOf 5 = .ok (.invokevirtual 150, 3) := by decide +kernel
theorem dX9_cellOf_8 : decode cX9_cellOf 8 = .ok (.istore_n 3, 1) := by decide +kernel
theorem dX9_cellOf_9 : decode cX9_cellOf 9 = .ok (.iload_n 3, 1) := by decide +kernel
theorem dX9_cellOf_10 : decode cX9_cellOf 10 = .ok (.ifCond .le 11, 3) := by decide +kernel
theorem dX9_cellOf_13 : decode cX9_cellOf 13 = .ok (.iload_n 2, 1) := by decide +kernel
theorem dX9_cellOf_14 : decode cX9_cellOf 14 = .ok (.iload_n 3, 1) := by decide +kernel
theorem dX9_cellOf_15 : decode cX9_cellOf 15 = .ok (.invokestatic 153, 3) := by decide +kernel
theorem dX9_cellOf_18 : decode cX9_cellOf 18 = .ok (.goto 4, 3) := by decide +kernel
theorem dX9_cellOf_21 : decode cX9_cellOf 21 = .ok (.iconst (-1), 1) := by decide +kernel
theorem dX9_cellOf_22 : decode cX9_cellOf 22 = .ok (.ireturn, 1) := by decide +kernel
theorem dX9_hand_0 : decode cX9_hand 0 = .ok (.iload_n 1, 1) := by decide +kernel
theorem dX9_hand_1 : decode cX9_hand 1 = .ok (.ifCond .lt 19, 3) := by decide +kernel
theorem dX9_hand_4 : decode cX9_hand 4 = .ok (.iload_n 1, 1) := by decide +kernel
theorem dX9_hand_5 : decode cX9_hand 5 = .ok (.sipush 1400, 3) := by decide +kernel
theorem dX9_hand_8 : decode cX9_hand 8 = .ok (.if_icmp .ge 12, 3) := by decide +kernel
theorem dX9_hand_11 : decode cX9_hand 11 = .ok (.aload_n 0, 1) := by decide +kernel
theorem dX9_hand_12 : decode cX9_hand 12 = .ok (.getfield 15, 3) := by decide +kernel
theorem dX9_hand_15 : decode cX9_hand 15 = .ok (.iload_n 1, 1) := by decide +kernel
theorem dX9_hand_16 : decode cX9_hand 16 = .ok (.baload, 1) := by decide +kernel
theorem dX9_hand_17 : decode cX9_hand 17 = .ok (.ifCond .eq 14, 3) := by decide +kernel
theorem dX9_hand_20 : decode cX9_hand 20 = .ok (.aload_n 0, 1) := by decide +kernel
theorem dX9_hand_21 : decode cX9_hand 21 = .ok (.dup, 1) := by decide +kernel
theorem dX9_hand_22 : decode cX9_hand 22 = .ok (.getfield 156, 3) := by decide +kernel
theorem dX9_hand_25 : decode cX9_hand 25 = .ok (.iconst 1, 1) := by decide +kernel
theorem dX9_hand_26 : decode cX9_hand 26 = .ok (.iadd, 1) := by decide +kernel
theorem dX9_hand_27 : decode cX9_hand 27 = .ok (.putfield 156, 3) := by decide +kernel
theorem dX9_hand_30 : decode cX9_hand 30 = .ok (.return_, 1) := by decide +kernel
theorem dX9_hand_31 : decode cX9_hand 31 = .ok (.aload_n 0, 1) := by decide +kernel
theorem dX9_hand_32 : decode cX9_hand 32 = .ok (.getfield 9, 3) := by decide +kernel
theorem dX9_hand_35 : decode cX9_hand 35 = .ok (.iload_n 1, 1) := by decide +kernel
theorem dX9_hand_36 : decode cX9_hand 36 = .ok (.iload_n 2, 1) := by decide +kernel
theorem dX9_hand_37 : decode cX9_hand 37 = .ok (.iastore, 1) := by decide +kernel
theorem dX9_hand_38 : decode cX9_hand 38 = .ok (.aload_n 0, 1) := by decide +kernel
theorem dX9_hand_39 : decode cX9_hand 39 = .ok (.getfield 15, 3) := by decide +kernel
theorem dX9_hand_42 : decode cX9_hand 42 = .ok (.iload_n 1, 1) := by decide +kernel
theorem dX9_hand_43 : decode cX9_hand 43 = .ok (.iconst 1, 1) := by decide +kernel
theorem dX9_hand_44 : decode cX9_hand 44 = .ok (.bastore, 1) := by decide +kernel
theorem dX9_hand_45 : decode cX9_hand 45 = .ok (.aload_n 0, 1) := by decide +kernel
theorem dX9_hand_46 : decode cX9_hand 46 = .ok (.dup, 1) := by decide +kernel
theorem dX9_hand_47 : decode cX9_hand 47 = .ok (.getfield 87, 3) := by decide +kernel
theorem dX9_hand_50 : decode cX9_hand 50 = .ok (.iconst 1, 1) := by decide +kernel
theorem dX9_hand_51 : decode cX9_hand 51 = .ok (.iadd, 1) := by decide +kernel
theorem dX9_hand_52 : decode cX9_hand 52 = .ok (.putfield 87, 3) := by decide +kernel
theorem dX9_hand_55 : decode cX9_hand 55 = .ok (.return_, 1) := by decide +kernel
theorem dX9_taken_0 : decode cX9_taken 0 = .ok (.aload_n 0, 1) := by decide +kernel
theorem dX9_taken_1 : decode cX9_taken 1 = .ok (.iload_n 1, 1) := by decide +kernel
theorem dX9_taken_2 : decode cX9_taken 2 = .ok (.invokevirtual 104, 3) := by decide +kernel
theorem dX9_taken_5 : decode cX9_taken 5 = .ok (.ifCond .ne 5, 3) := by decide +kernel
theorem dX9_taken_8 : decode cX9_taken 8 = .ok (.iconst 0, 1) := by decide +kernel
theorem dX9_taken_9 : decode cX9_taken 9 = .ok (.ireturn, 1) := by decide +kernel
theorem dX9_taken_10 : decode cX9_taken 10 = .ok (.aload_n 0, 1) := by decide +kernel
theorem dX9_taken_11 : decode cX9_taken 11 = .ok (.getfield 15, 3) := by decide +kernel
theorem dX9_taken_14 : decode cX9_taken 14 = .ok (.iload_n 1, 1) := by decide +kernel
theorem dX9_taken_15 : decode cX9_taken 15 = .ok (.iconst 0, 1) := by decide +kernel
theorem dX9_taken_16 : decode cX9_taken 16 = .ok (.bastore, 1) := by decide +kernel
theorem dX9_taken_17 : decode cX9_taken 17 = .ok (.aload_n 0, 1) := by decide +kernel
theorem dX9_taken_18 : decode cX9_taken 18 = .ok (.dup, 1) := by decide +kernel
theorem dX9_taken_19 : decode cX9_taken 19 = .ok (.getfield 87, 3) := by decide +kernel
theorem dX9_taken_22 : decode cX9_taken 22 = .ok (.iconst 1, 1) := by decide +kernel
theorem dX9_taken_23 : decode cX9_taken 23 = .ok (.isub, 1) := by decide +kernel
theorem dX9_taken_24 : decode cX9_taken 24 = .ok (.putfield 87, 3) := by decide +kernel
theorem dX9_taken_27 : decode cX9_taken 27 = .ok (.aload_n 0, 1) := by decide +kernel
theorem dX9_taken_28 : decode cX9_taken 28 = .ok (.getfield 9, 3) := by decide +kernel
theorem dX9_taken_31 : decode cX9_taken 31 = .ok (.iload_n 1, 1) := by decide +kernel
theorem dX9_taken_32 : decode cX9_taken 32 = .ok (.iaload, 1) := by decide +kernel
theorem dX9_taken_33 : decode cX9_taken 33 = .ok (.ireturn, 1) := by decide +kernel
theorem dX9_isFull_0 : decode cX9_isFull 0 = .ok (.iload_n 1, 1) := by decide +kernel
theorem dX9_isFull_1 : decode cX9_isFull 1 = .ok (.ifCond .lt 23, 3) := by decide +kernel
theorem dX9_isFull_4 : decode cX9_isFull 4 = .ok (.iload_n 1, 1) := by decide +kernel
theorem dX9_isFull_5 : decode cX9_isFull 5 = .ok (.sipush 1400, 3) := by decide +kernel
theorem dX9_isFull_8 : decode cX9_isFull 8 = .ok (.if_icmp .ge 16, 3) := by decide +kernel
theorem dX9_isFull_11 : decode cX9_isFull 11 = .ok (.aload_n 0, 1) := by decide +kernel
theorem dX9_isFull_12 : decode cX9_isFull 12 = .ok (.getfield 15, 3) := by decide +kernel
theorem dX9_isFull_15 : decode cX9_isFull 15 = .ok (.iload_n 1, 1) := by decide +kernel
theorem dX9_isFull_16 : decode cX9_isFull 16 = .ok (.baload, 1) := by decide +kernel
theorem dX9_isFull_17 : decode cX9_isFull 17 = .ok (.ifCond .eq 7, 3) := by decide +kernel
theorem dX9_isFull_20 : decode cX9_isFull 20 = .ok (.iconst 1, 1) := by decide +kernel
theorem dX9_isFull_21 : decode cX9_isFull 21 = .ok (.goto 4, 3) := by decide +kernel
theorem dX9_isFull_24 : decode cX9_isFull 24 = .ok (.iconst 0, 1) := by decide +kernel
theorem dX9_isFull_25 : decode cX9_isFull 25 = .ok (.ireturn, 1) := by decide +kernel
theorem dX9_isVariable_0 : decode cX9_isVariable 0 = .ok (.iload_n 0, 1) := by decide +kernel
theorem dX9_isVariable_1 : decode cX9_isVariable 1 = .ok (.ifCond .lt 13, 3) := by decide +kernel
theorem dX9_isVariable_4 : decode cX9_isVariable 4 = .ok (.iload_n 0, 1) := by decide +kernel
theorem dX9_isVariable_5 : decode cX9_isVariable 5 = .ok (.bipush 16, 2) := by decide +kernel
theorem dX9_isVariable_7 : decode cX9_isVariable 7 = .ok (.if_icmp .ge 7, 3) := by decide +kernel
theorem dX9_isVariable_10 : decode cX9_isVariable 10 = .ok (.iconst 1, 1) := by decide +kernel
theorem dX9_isVariable_11 : decode cX9_isVariable 11 = .ok (.goto 4, 3) := by decide +kernel
theorem dX9_isVariable_14 : decode cX9_isVariable 14 = .ok (.iconst 0, 1) := by decide +kernel
theorem dX9_isVariable_15 : decode cX9_isVariable 15 = .ok (.ireturn, 1) := by decide +kernel
theorem dX9_worked_0 : decode cX9_worked 0 = .ok (.iload_n 0, 1) := by decide +kernel
theorem dX9_worked_1 : decode cX9_worked 1 = .ok (.lookupswitch 273 #[(-126, 139), (-45, 123), (-33, 126), (38, 185), (60, 217), (62, 245), (94, 181), (124, 177), (8509, 203), (9766, 160), (15421, 231), (15677, 189), (15933, 259), (31868, 143)], 123) := by decide +kernel
theorem dX9_worked_124 : decode cX9_worked 124 = .ok (.iload_n 1, 1) := by decide +kernel
theorem dX9_worked_125 : decode cX9_worked 125 = .ok (.ineg, 1) := by decide +kernel
theorem dX9_worked_126 : decode cX9_worked 126 = .ok (.ireturn, 1) := by decide +kernel
theorem dX9_worked_127 : decode cX9_worked 127 = .ok (.iload_n 1, 1) := by decide +kernel
theorem dX9_worked_128 : decode cX9_worked 128 = .ok (.ifCond .ne 7, 3) := by decide +kernel
theorem dX9_worked_131 : decode cX9_worked 131 = .ok (.iconst 1, 1) := by decide +kernel
theorem dX9_worked_132 : decode cX9_worked 132 = .ok (.goto 4, 3) := by decide +kernel
theorem dX9_worked_135 : decode cX9_worked 135 = .ok (.iconst 0, 1) := by decide +kernel
theorem dX9_worked_136 : decode cX9_worked 136 = .ok (.invokestatic 159, 3) := by decide +kernel
theorem dX9_worked_139 : decode cX9_worked 139 = .ok (.ireturn, 1) := by decide +kernel
theorem dX9_worked_140 : decode cX9_worked 140 = .ok (.iload_n 1, 1) := by decide +kernel
theorem dX9_worked_141 : decode cX9_worked 141 = .ok (.iconst (-1), 1) := by decide +kernel
theorem dX9_worked_142 : decode cX9_worked 142 = .ok (.ixor, 1) := by decide +kernel
theorem dX9_worked_143 : decode cX9_worked 143 = .ok (.ireturn, 1) := by decide +kernel
theorem dX9_worked_144 : decode cX9_worked 144 = .ok (.iload_n 1, 1) := by decide +kernel
theorem dX9_worked_145 : decode cX9_worked 145 = .ok (.ifCond .ne 7, 3) := by decide +kernel
theorem dX9_worked_148 : decode cX9_worked 148 = .ok (.iload_n 2, 1) := by decide +kernel
theorem dX9_worked_149 : decode cX9_worked 149 = .ok (.ifCond .eq 7, 3) := by decide +kernel
theorem dX9_worked_152 : decode cX9_worked 152 = .ok (.iconst 1, 1) := by decide +kernel
theorem dX9_worked_153 : decode cX9_worked 153 = .ok (.goto 4, 3) := by decide +kernel
theorem dX9_worked_156 : decode cX9_worked 156 = .ok (.iconst 0, 1) := by decide +kernel
theorem dX9_worked_157 : decode cX9_worked 157 = .ok (.invokestatic 159, 3) := by decide +kernel
theorem dX9_worked_160 : decode cX9_worked 160 = .ok (.ireturn, 1) := by decide +kernel
theorem dX9_worked_161 : decode cX9_worked 161 = .ok (.iload_n 1, 1) := by decide +kernel
theorem dX9_worked_162 : decode cX9_worked 162 = .ok (.ifCond .eq 11, 3) := by decide +kernel
theorem dX9_worked_165 : decode cX9_worked 165 = .ok (.iload_n 2, 1) := by decide +kernel
theorem dX9_worked_166 : decode cX9_worked 166 = .ok (.ifCond .eq 7, 3) := by decide +kernel
theorem dX9_worked_169 : decode cX9_worked 169 = .ok (.iconst 1, 1) := by decide +kernel
theorem dX9_worked_170 : decode cX9_worked 170 = .ok (.goto 4, 3) := by decide +kernel
theorem dX9_worked_173 : decode cX9_worked 173 = .ok (.iconst 0, 1) := by decide +kernel
theorem dX9_worked_174 : decode cX9_worked 174 = .ok (.invokestatic 159, 3) := by decide +kernel
theorem dX9_worked_177 : decode cX9_worked 177 = .ok (.ireturn, 1) := by decide +kernel
theorem dX9_worked_178 : decode cX9_worked 178 = .ok (.iload_n 1, 1) := by decide +kernel
theorem dX9_worked_179 : decode cX9_worked 179 = .ok (.iload_n 2, 1) := by decide +kernel
theorem dX9_worked_180 : decode cX9_worked 180 = .ok (.ior, 1) := by decide +kernel
theorem dX9_worked_181 : decode cX9_worked 181 = .ok (.ireturn, 1) := by decide +kernel
theorem dX9_worked_182 : decode cX9_worked 182 = .ok (.iload_n 1, 1) := by decide +kernel
theorem dX9_worked_183 : decode cX9_worked 183 = .ok (.iload_n 2, 1) := by decide +kernel
theorem dX9_worked_184 : decode cX9_worked 184 = .ok (.ixor, 1) := by decide +kernel
theorem dX9_worked_185 : decode cX9_worked 185 = .ok (.ireturn, 1) := by decide +kernel
theorem dX9_worked_186 : decode cX9_worked 186 = .ok (.iload_n 1, 1) := by decide +kernel
theorem dX9_worked_187 : decode cX9_worked 187 = .ok (.iload_n 2, 1) := by decide +kernel
theorem dX9_worked_188 : decode cX9_worked 188 = .ok (.iand, 1) := by decide +kernel
theorem dX9_worked_189 : decode cX9_worked 189 = .ok (.ireturn, 1) := by decide +kernel
theorem dX9_worked_190 : decode cX9_worked 190 = .ok (.iload_n 1, 1) := by decide +kernel
theorem dX9_worked_191 : decode cX9_worked 191 = .ok (.iload_n 2, 1) := by decide +kernel
theorem dX9_worked_192 : decode cX9_worked 192 = .ok (.if_icmp .ne 7, 3) := by decide +kernel
theorem dX9_worked_195 : decode cX9_worked 195 = .ok (.iconst 1, 1) := by decide +kernel
theorem dX9_worked_196 : decode cX9_worked 196 = .ok (.goto 4, 3) := by decide +kernel
theorem dX9_worked_199 : decode cX9_worked 199 = .ok (.iconst 0, 1) := by decide +kernel
theorem dX9_worked_200 : decode cX9_worked 200 = .ok (.invokestatic 159, 3) := by decide +kernel
theorem dX9_worked_203 : decode cX9_worked 203 = .ok (.ireturn, 1) := by decide +kernel
theorem dX9_worked_204 : decode cX9_worked 204 = .ok (.iload_n 1, 1) := by decide +kernel
theorem dX9_worked_205 : decode cX9_worked 205 = .ok (.iload_n 2, 1) := by decide +kernel
theorem dX9_worked_206 : decode cX9_worked 206 = .ok (.if_icmp .eq 7, 3) := by decide +kernel
theorem dX9_worked_209 : decode cX9_worked 209 = .ok (.iconst 1, 1) := by decide +kernel
theorem dX9_worked_210 : decode cX9_worked 210 = .ok (.goto 4, 3) := by decide +kernel
theorem dX9_worked_213 : decode cX9_worked 213 = .ok (.iconst 0, 1) := by decide +kernel
theorem dX9_worked_214 : decode cX9_worked 214 = .ok (.invokestatic 159, 3) := by decide +kernel
theorem dX9_worked_217 : decode cX9_worked 217 = .ok (.ireturn, 1) := by decide +kernel
theorem dX9_worked_218 : decode cX9_worked 218 = .ok (.iload_n 1, 1) := by decide +kernel
theorem dX9_worked_219 : decode cX9_worked 219 = .ok (.iload_n 2, 1) := by decide +kernel
theorem dX9_worked_220 : decode cX9_worked 220 = .ok (.if_icmp .ge 7, 3) := by decide +kernel
theorem dX9_worked_223 : decode cX9_worked 223 = .ok (.iconst 1, 1) := by decide +kernel
theorem dX9_worked_224 : decode cX9_worked 224 = .ok (.goto 4, 3) := by decide +kernel
theorem dX9_worked_227 : decode cX9_worked 227 = .ok (.iconst 0, 1) := by decide +kernel
theorem dX9_worked_228 : decode cX9_worked 228 = .ok (.invokestatic 159, 3) := by decide +kernel
theorem dX9_worked_231 : decode cX9_worked 231 = .ok (.ireturn, 1) := by decide +kernel
theorem dX9_worked_232 : decode cX9_worked 232 = .ok (.iload_n 1, 1) := by decide +kernel
theorem dX9_worked_233 : decode cX9_worked 233 = .ok (.iload_n 2, 1) := by decide +kernel
theorem dX9_worked_234 : decode cX9_worked 234 = .ok (.if_icmp .gt 7, 3) := by decide +kernel
theorem dX9_worked_237 : decode cX9_worked 237 = .ok (.iconst 1, 1) := by decide +kernel
theorem dX9_worked_238 : decode cX9_worked 238 = .ok (.goto 4, 3) := by decide +kernel
theorem dX9_worked_241 : decode cX9_worked 241 = .ok (.iconst 0, 1) := by decide +kernel
theorem dX9_worked_242 : decode cX9_worked 242 = .ok (.invokestatic 159, 3) := by decide +kernel
theorem dX9_worked_245 : decode cX9_worked 245 = .ok (.ireturn, 1) := by decide +kernel
theorem dX9_worked_246 : decode cX9_worked 246 = .ok (.iload_n 1, 1) := by decide +kernel
theorem dX9_worked_247 : decode cX9_worked 247 = .ok (.iload_n 2, 1) := by decide +kernel
theorem dX9_worked_248 : decode cX9_worked 248 = .ok (.if_icmp .le 7, 3) := by decide +kernel
theorem dX9_worked_251 : decode cX9_worked 251 = .ok (.iconst 1, 1) := by decide +kernel
theorem dX9_worked_252 : decode cX9_worked 252 = .ok (.goto 4, 3) := by decide +kernel
theorem dX9_worked_255 : decode cX9_worked 255 = .ok (.iconst 0, 1) := by decide +kernel
theorem dX9_worked_256 : decode cX9_worked 256 = .ok (.invokestatic 159, 3) := by decide +kernel
theorem dX9_worked_259 : decode cX9_worked 259 = .ok (.ireturn, 1) := by decide +kernel
theorem dX9_worked_260 : decode cX9_worked 260 = .ok (.iload_n 1, 1) := by decide +kernel
theorem dX9_worked_261 : decode cX9_worked 261 = .ok (.iload_n 2, 1) := by decide +kernel
theorem dX9_worked_262 : decode cX9_worked 262 = .ok (.if_icmp .lt 7, 3) := by decide +kernel
theorem dX9_worked_265 : decode cX9_worked 265 = .ok (.iconst 1, 1) := by decide +kernel
theorem dX9_worked_266 : decode cX9_worked 266 = .ok (.goto 4, 3) := by decide +kernel
theorem dX9_worked_269 : decode cX9_worked 269 = .ok (.iconst 0, 1) := by decide +kernel
theorem dX9_worked_270 : decode cX9_worked 270 = .ok (.invokestatic 159, 3) := by decide +kernel
theorem dX9_worked_273 : decode cX9_worked 273 = .ok (.ireturn, 1) := by decide +kernel
theorem dX9_worked_274 : decode cX9_worked 274 = .ok (.iload_n 0, 1) := by decide +kernel
theorem dX9_worked_275 : decode cX9_worked 275 = .ok (.iload_n 1, 1) := by decide +kernel
theorem dX9_worked_276 : decode cX9_worked 276 = .ok (.iload_n 2, 1) := by decide +kernel
theorem dX9_worked_277 : decode cX9_worked 277 = .ok (.invokestatic 163, 3) := by decide +kernel
theorem dX9_worked_280 : decode cX9_worked 280 = .ok (.ireturn, 1) := by decide +kernel
theorem dX9_reckoned_0 : decode cX9_reckoned 0 = .ok (.iload_n 0, 1) := by decide +kernel
theorem dX9_reckoned_1 : decode cX9_reckoned 1 = .ok (.lookupswitch 111 #[(37, 99), (42, 83), (43, 75), (45, 79), (47, 87), (15420, 67), (15934, 71)], 67) := by decide +kernel
theorem dX9_reckoned_68 : decode cX9_reckoned 68 = .ok (.iload_n 1, 1) := by decide +kernel
theorem dX9_reckoned_69 : decode cX9_reckoned 69 = .ok (.iload_n 2, 1) := by decide +kernel
theorem dX9_reckoned_70 : decode cX9_reckoned 70 = .ok (.ishl, 1) := by decide +kernel
theorem dX9_reckoned_71 : decode cX9_reckoned 71 = .ok (.ireturn, 1) := by decide +kernel
theorem dX9_reckoned_72 : decode cX9_reckoned 72 = .ok (.iload_n 1, 1) := by decide +kernel
theorem dX9_reckoned_73 : decode cX9_reckoned 73 = .ok (.iload_n 2, 1) := by decide +kernel
theorem dX9_reckoned_74 : decode cX9_reckoned 74 = .ok (.ishr, 1) := by decide +kernel
theorem dX9_reckoned_75 : decode cX9_reckoned 75 = .ok (.ireturn, 1) := by decide +kernel
theorem dX9_reckoned_76 : decode cX9_reckoned 76 = .ok (.iload_n 1, 1) := by decide +kernel
theorem dX9_reckoned_77 : decode cX9_reckoned 77 = .ok (.iload_n 2, 1) := by decide +kernel
theorem dX9_reckoned_78 : decode cX9_reckoned 78 = .ok (.iadd, 1) := by decide +kernel
theorem dX9_reckoned_79 : decode cX9_reckoned 79 = .ok (.ireturn, 1) := by decide +kernel
theorem dX9_reckoned_80 : decode cX9_reckoned 80 = .ok (.iload_n 1, 1) := by decide +kernel
theorem dX9_reckoned_81 : decode cX9_reckoned 81 = .ok (.iload_n 2, 1) := by decide +kernel
theorem dX9_reckoned_82 : decode cX9_reckoned 82 = .ok (.isub, 1) := by decide +kernel
theorem dX9_reckoned_83 : decode cX9_reckoned 83 = .ok (.ireturn, 1) := by decide +kernel
theorem dX9_reckoned_84 : decode cX9_reckoned 84 = .ok (.iload_n 1, 1) := by decide +kernel
theorem dX9_reckoned_85 : decode cX9_reckoned 85 = .ok (.iload_n 2, 1) := by decide +kernel
theorem dX9_reckoned_86 : decode cX9_reckoned 86 = .ok (.imul, 1) := by decide +kernel
theorem dX9_reckoned_87 : decode cX9_reckoned 87 = .ok (.ireturn, 1) := by decide +kernel
theorem dX9_reckoned_88 : decode cX9_reckoned 88 = .ok (.iload_n 2, 1) := by decide +kernel
theorem dX9_reckoned_89 : decode cX9_reckoned 89 = .ok (.ifCond .ne 7, 3) := by decide +kernel
theorem dX9_reckoned_92 : decode cX9_reckoned 92 = .ok (.iconst (-1), 1) := by decide +kernel
theorem dX9_reckoned_93 : decode cX9_reckoned 93 = .ok (.goto 6, 3) := by decide +kernel
theorem dX9_reckoned_96 : decode cX9_reckoned 96 = .ok (.iload_n 1, 1) := by decide +kernel
theorem dX9_reckoned_97 : decode cX9_reckoned 97 = .ok (.iload_n 2, 1) := by decide +kernel
theorem dX9_reckoned_98 : decode cX9_reckoned 98 = .ok (.idiv, 1) := by decide +kernel
theorem dX9_reckoned_99 : decode cX9_reckoned 99 = .ok (.ireturn, 1) := by decide +kernel
theorem dX9_reckoned_100 : decode cX9_reckoned 100 = .ok (.iload_n 2, 1) := by decide +kernel
theorem dX9_reckoned_101 : decode cX9_reckoned 101 = .ok (.ifCond .ne 7, 3) := by decide +kernel
theorem dX9_reckoned_104 : decode cX9_reckoned 104 = .ok (.iload_n 1, 1) := by decide +kernel
theorem dX9_reckoned_105 : decode cX9_reckoned 105 = .ok (.goto 6, 3) := by decide +kernel
theorem dX9_reckoned_108 : decode cX9_reckoned 108 = .ok (.iload_n 1, 1) := by decide +kernel
theorem dX9_reckoned_109 : decode cX9_reckoned 109 = .ok (.iload_n 2, 1) := by decide +kernel
theorem dX9_reckoned_110 : decode cX9_reckoned 110 = .ok (.irem, 1) := by decide +kernel
theorem dX9_reckoned_111 : decode cX9_reckoned 111 = .ok (.ireturn, 1) := by decide +kernel
theorem dX9_reckoned_112 : decode cX9_reckoned 112 = .ok (.iconst 0, 1) := by decide +kernel
theorem dX9_reckoned_113 : decode cX9_reckoned 113 = .ok (.ireturn, 1) := by decide +kernel
theorem dX9_truth_0 : decode cX9_truth 0 = .ok (.iload_n 0, 1) := by decide +kernel
theorem dX9_truth_1 : decode cX9_truth 1 = .ok (.ifCond .eq 7, 3) := by decide +kernel
theorem dX9_truth_4 : decode cX9_truth 4 = .ok (.iconst 1, 1) := by decide +kernel
theorem dX9_truth_5 : decode cX9_truth 5 = .ok (.goto 4, 3) := by decide +kernel
theorem dX9_truth_8 : decode cX9_truth 8 = .ok (.iconst 0, 1) := by decide +kernel
theorem dX9_truth_9 : decode cX9_truth 9 = .ok (.ireturn, 1) := by decide +kernel
theorem dX10_init_0 : decode cX10_init 0 = .ok (.aload_n 0, 1) := by decide +kernel
theorem dX10_init_1 : decode cX10_init 1 = .ok (.invokespecial 3, 3) := by decide +kernel
theorem dX10_init_4 : decode cX10_init 4 = .ok (.aload_n 0, 1) := by decide +kernel
theorem dX10_init_5 : decode cX10_init 5 = .ok (.new 9, 3) := by decide +kernel
theorem dX10_init_8 : decode cX10_init 8 = .ok (.dup, 1) := by decide +kernel
theorem dX10_init_9 : decode cX10_init 9 = .ok (.invokespecial 11, 3) := by decide +kernel
theorem dX10_init_12 : decode cX10_init 12 = .ok (.putfield 12, 3) := by decide +kernel
theorem dX10_init_15 : decode cX10_init 15 = .ok (.aload_n 0, 1) := by decide +kernel
theorem dX10_init_16 : decode cX10_init 16 = .ok (.new 9, 3) := by decide +kernel
theorem dX10_init_19 : decode cX10_init 19 = .ok (.dup, 1) := by decide +kernel
theorem dX10_init_20 : decode cX10_init 20 = .ok (.invokespecial 11, 3) := by decide +kernel
theorem dX10_init_23 : decode cX10_init 23 = .ok (.putfield 16, 3) := by decide +kernel
theorem dX10_init_26 : decode cX10_init 26 = .ok (.aload_n 0, 1) := by decide +kernel
theorem dX10_init_27 : decode cX10_init 27 = .ok (.new 19, 3) := by decide +kernel
theorem dX10_init_30 : decode cX10_init 30 = .ok (.dup, 1) := by decide +kernel
theorem dX10_init_31 : decode cX10_init 31 = .ok (.invokespecial 21, 3) := by decide +kernel
theorem dX10_init_34 : decode cX10_init 34 = .ok (.putfield 22, 3) := by decide +kernel
theorem dX10_init_37 : decode cX10_init 37 = .ok (.aload_n 0, 1) := by decide +kernel
theorem dX10_init_38 : decode cX10_init 38 = .ok (.new 26, 3) := by decide +kernel
theorem dX10_init_41 : decode cX10_init 41 = .ok (.dup, 1) := by decide +kernel
theorem dX10_init_42 : decode cX10_init 42 = .ok (.aload_n 0, 1) := by decide +kernel
theorem dX10_init_43 : decode cX10_init 43 = .ok (.getfield 22, 3) := by decide +kernel
theorem dX10_init_46 : decode cX10_init 46 = .ok (.getfield 28, 3) := by decide +kernel
theorem dX10_init_49 : decode cX10_init 49 = .ok (.invokespecial 32, 3) := by decide +kernel
theorem dX10_init_52 : decode cX10_init 52 = .ok (.putfield 35, 3) := by decide +kernel
theorem dX10_init_55 : decode cX10_init 55 = .ok (.aload_n 0, 1) := by decide +kernel
theorem dX10_init_56 : decode cX10_init 56 = .ok (.new 39, 3) := by decide +kernel
theorem dX10_init_59 : decode cX10_init 59 = .ok (.dup, 1) := by decide +kernel
theorem dX10_init_60 : decode cX10_init 60 = .ok (.aload_n 0, 1) := by decide +kernel
theorem dX10_init_61 : decode cX10_init 61 = .ok (.getfield 35, 3) := by decide +kernel
theorem dX10_init_64 : decode cX10_init 64 = .ok (.aload_n 0, 1) := by decide +kernel
theorem dX10_init_65 : decode cX10_init 65 = .ok (.getfield 16, 3) := by decide +kernel
theorem dX10_init_68 : decode cX10_init 68 = .ok (.invokespecial 41, 3) := by decide +kernel
theorem dX10_init_71 : decode cX10_init 71 = .ok (.putfield 44, 3) := by decide +kernel
theorem dX10_init_74 : decode cX10_init 74 = .ok (.aload_n 0, 1) := by decide +kernel
theorem dX10_init_75 : decode cX10_init 75 = .ok (.new 48, 3) := by decide +kernel
theorem dX10_init_78 : decode cX10_init 78 = .ok (.dup, 1) := by decide +kernel
theorem dX10_init_79 : decode cX10_init 79 = .ok (.invokespecial 50, 3) := by decide +kernel
theorem dX10_init_82 : decode cX10_init 82 = .ok (.putfield 51, 3) := by decide +kernel
theorem dX10_init_85 : decode cX10_init 85 = .ok (.aload_n 0, 1) := by decide +kernel
theorem dX10_init_86 : decode cX10_init 86 = .ok (.new 55, 3) := by decide +kernel
theorem dX10_init_89 : decode cX10_init 89 = .ok (.dup, 1) := by decide +kernel
theorem dX10_init_90 : decode cX10_init 90 = .ok (.invokespecial 57, 3) := by decide +kernel
theorem dX10_init_93 : decode cX10_init 93 = .ok (.putfield 58, 3) := by decide +kernel
theorem dX10_init_96 : decode cX10_init 96 = .ok (.aload_n 0, 1) := by decide +kernel
theorem dX10_init_97 : decode cX10_init 97 = .ok (.new 62, 3) := by decide +kernel
theorem dX10_init_100 : decode cX10_init 100 = .ok (.dup, 1) := by decide +kernel
theorem dX10_init_101 : decode cX10_init 101 = .ok (.aload_n 0, 1) := by decide +kernel
theorem dX10_init_102 : decode cX10_init 102 = .ok (.getfield 51, 3) := by decide +kernel
theorem dX10_init_105 : decode cX10_init 105 = .ok (.aload_n 0, 1) := by decide +kernel
theorem dX10_init_106 : decode cX10_init 106 = .ok (.getfield 58, 3) := by decide +kernel
theorem dX10_init_109 : decode cX10_init 109 = .ok (.aload_n 0, 1) := by decide +kernel
theorem dX10_init_110 : decode cX10_init 110 = .ok (.getfield 12, 3) := by decide +kernel
theorem dX10_init_113 : decode cX10_init 113 = .ok (.invokespecial 64, 3) := by decide +kernel
theorem dX10_init_116 : decode cX10_init 116 = .ok (.putfield 67, 3) := by decide +kernel
theorem dX10_init_119 : decode cX10_init 119 = .ok (.aload_n 0, 1) := by decide +kernel
theorem dX10_init_120 : decode cX10_init 120 = .ok (.iconst 4, 1) := by decide +kernel
theorem dX10_init_121 : decode cX10_init 121 = .ok (.newarray .int, 2) := by decide +kernel
theorem dX10_init_123 : decode cX10_init 123 = .ok (.putfield 71, 3) := by decide +kernel
theorem dX10_init_126 : decode cX10_init 126 = .ok (.aload_n 0, 1) := by decide +kernel
theorem dX10_init_127 : decode cX10_init 127 = .ok (.iconst 0, 1) := by decide +kernel
theorem dX10_init_128 : decode cX10_init 128 = .ok (.putfield 75, 3) := by decide +kernel
theorem dX10_init_131 : decode cX10_init 131 = .ok (.aload_n 0, 1) := by decide +kernel
theorem dX10_init_132 : decode cX10_init 132 = .ok (.iconst 0, 1) := by decide +kernel
theorem dX10_init_133 : decode cX10_init 133 = .ok (.putfield 79, 3) := by decide +kernel
theorem dX10_init_136 : decode cX10_init 136 = .ok (.aload_n 0, 1) := by decide +kernel
theorem dX10_init_137 : decode cX10_init 137 = .ok (.iconst (-1), 1) := by decide +kernel
theorem dX10_init_138 : decode cX10_init 138 = .ok (.putfield 83, 3) := by decide +kernel
theorem dX10_init_141 : decode cX10_init 141 = .ok (.return_, 1) := by decide +kernel
theorem dX10_feed_0 : decode cX10_feed 0 = .ok (.aload_n 0, 1) := by decide +kernel
theorem dX10_feed_1 : decode cX10_feed 1 = .ok (.getfield 22, 3) := by decide +kernel
theorem dX10_feed_4 : decode cX10_feed 4 = .ok (.getfield 86, 3) := by decide +kernel
theorem dX10_feed_7 : decode cX10_feed 7 = .ok (.bipush 20, 2) := by decide +kernel
theorem dX10_feed_9 : decode cX10_feed 9 = .ok (.iadd, 1) := by decide +kernel
theorem dX10_feed_10 : decode cX10_feed 10 = .ok (.sipush 2000, 3) := by decide +kernel
theorem dX10_feed_13 : decode cX10_feed 13 = .ok (.if_icmp .le 5, 3) := by decide +kernel
theorem dX10_feed_16 : decode cX10_feed 16 = .ok (.iconst (-1), 1) := by decide +kernel
theorem dX10_feed_17 : decode cX10_feed 17 = .ok (.ireturn, 1) := by decide +kernel
theorem dX10_feed_18 : decode cX10_feed 18 = .ok (.aload_n 0, 1) := by decide +kernel
theorem dX10_feed_19 : decode cX10_feed 19 = .ok (.getfield 22, 3) := by decide +kernel
theorem dX10_feed_22 : decode cX10_feed 22 = .ok (.iload_n 1, 1) := by decide +kernel
theorem dX10_feed_23 : decode cX10_feed 23 = .ok (.invokevirtual 89, 3) := by decide +kernel
theorem dX10_feed_26 : decode cX10_feed 26 = .ok (.aload_n 0, 1) := by decide +kernel
theorem dX10_feed_27 : decode cX10_feed 27 = .ok (.getfield 22, 3) := by decide +kernel
theorem dX10_feed_30 : decode cX10_feed 30 = .ok (.iload_n 2, 1) := by decide +kernel
theorem dX10_feed_31 : decode cX10_feed 31 = .ok (.invokevirtual 89, 3) := by decide +kernel
theorem dX10_feed_34 : decode cX10_feed 34 = .ok (.aload_n 0, 1) := by decide +kernel
theorem dX10_feed_35 : decode cX10_feed 35 = .ok (.getfield 22, 3) := by decide +kernel
theorem dX10_feed_38 : decode cX10_feed 38 = .ok (.iload_n 3, 1) := by decide +kernel
theorem dX10_feed_39 : decode cX10_feed 39 = .ok (.invokevirtual 89, 3) := by decide +kernel
theorem dX10_feed_42 : decode cX10_feed 42 = .ok (.aload_n 0, 1) := by decide +kernel
theorem dX10_feed_43 : decode cX10_feed 43 = .ok (.getfield 22, 3) := by decide +kernel
theorem dX10_feed_46 : decode cX10_feed 46 = .ok (.iload 4, 2) := by decide +kernel
theorem dX10_feed_48 : decode cX10_feed 48 = .ok (.invokevirtual 89, 3) := by decide +kernel
theorem dX10_feed_51 : decode cX10_feed 51 = .ok (.aload_n 0, 1) := by decide +kernel
theorem dX10_feed_52 : decode cX10_feed 52 = .ok (.getfield 22, 3) := by decide +kernel
theorem dX10_feed_55 : decode cX10_feed 55 = .ok (.iload 5, 2) := by decide +kernel
theorem dX10_feed_57 : decode cX10_feed 57 = .ok (.invokevirtual 89, 3) := by decide +kernel
theorem dX10_feed_60 : decode cX10_feed 60 = .ok (.aload_n 0, 1) := by decide +kernel
theorem dX10_feed_61 : decode cX10_feed 61 = .ok (.getfield 22, 3) := by decide +kernel
theorem dX10_feed_64 : decode cX10_feed 64 = .ok (.getfield 86, 3) := by decide +kernel
theorem dX10_feed_67 : decode cX10_feed 67 = .ok (.ireturn, 1) := by decide +kernel
theorem dX10_build_0 : decode cX10_build 0 = .ok (.iload_n 1, 1) := by decide +kernel
theorem dX10_build_1 : decode cX10_build 1 = .ok (.ifCond .lt 14, 3) := by decide +kernel
theorem dX10_build_4 : decode cX10_build 4 = .ok (.iload_n 1, 1) := by decide +kernel
theorem dX10_build_5 : decode cX10_build 5 = .ok (.aload_n 0, 1) := by decide +kernel
theorem dX10_build_6 : decode cX10_build 6 = .ok (.getfield 22, 3) := by decide +kernel
theorem dX10_build_9 : decode cX10_build 9 = .ok (.getfield 86, 3) := by decide +kernel
theorem dX10_build_12 : decode cX10_build 12 = .ok (.if_icmp .le 6, 3) := by decide +kernel
theorem dX10_build_15 : decode cX10_build 15 = .ok (.bipush (-2), 2) := by decide +kernel
theorem dX10_build_17 : decode cX10_build 17 = .ok (.ireturn, 1) := by decide +kernel
theorem dX10_build_18 : decode cX10_build 18 = .ok (.aload_n 0, 1) := by decide +kernel
theorem dX10_build_19 : decode cX10_build 19 = .ok (.getfield 35, 3) := by decide +kernel
theorem dX10_build_22 : decode cX10_build 22 = .ok (.iload_n 1, 1) := by decide +kernel
theorem dX10_build_23 : decode cX10_build 23 = .ok (.invokevirtual 93, 3) := by decide +kernel
theorem dX10_build_26 : decode cX10_build 26 = .ok (.aload_n 0, 1) := by decide +kernel
theorem dX10_build_27 : decode cX10_build 27 = .ok (.getfield 22, 3) := by decide +kernel
theorem dX10_build_30 : decode cX10_build 30 = .ok (.iconst 0, 1) := by decide +kernel
theorem dX10_build_31 : decode cX10_build 31 = .ok (.putfield 86, 3) := by decide +kernel
theorem dX10_build_34 : decode cX10_build 34 = .ok (.aload_n 0, 1) := by decide +kernel
theorem dX10_build_35 : decode cX10_build 35 = .ok (.getfield 44, 3) := by decide +kernel
theorem dX10_build_38 : decode cX10_build 38 = .ok (.aload_n 0, 1) := by decide +kernel
theorem dX10_build_39 : decode cX10_build 39 = .ok (.getfield 16, 3) := by decide +kernel
theorem dX10_build_42 : decode cX10_build 42 = .ok (.invokevirtual 96, 3) := by decide +kernel
theorem dX10_build_45 : decode cX10_build 45 = .ok (.aload_n 0, 1) := by decide +kernel
theorem dX10_build_46 : decode cX10_build 46 = .ok (.aload_n 0, 1) := by decide +kernel
theorem dX10_build_47 : decode cX10_build 47 = .ok (.getfield 44, 3) := by decide +kernel
theorem dX10_build_50 : decode cX10_build 50 = .ok (.invokevirtual 100, 3) := by decide +kernel
theorem dX10_build_53 : decode cX10_build 53 = .ok (.putfield 79, 3) := by decide +kernel
theorem dX10_build_56 : decode cX10_build 56 = .ok (.aload_n 0, 1) := by decide +kernel
theorem dX10_build_57 : decode cX10_build 57 = .ok (.aload_n 0, 1) := by decide +kernel
theorem dX10_build_58 : decode cX10_build 58 = .ok (.getfield 44, 3) := by decide +kernel
theorem dX10_build_61 : decode cX10_build 61 = .ok (.invokevirtual 103, 3) := by decide +kernel
theorem dX10_build_64 : decode cX10_build 64 = .ok (.putfield 83, 3) := by decide +kernel
theorem dX10_build_67 : decode cX10_build 67 = .ok (.aload_n 0, 1) := by decide +kernel
theorem dX10_build_68 : decode cX10_build 68 = .ok (.getfield 79, 3) := by decide +kernel
theorem dX10_build_71 : decode cX10_build 71 = .ok (.ifCond .eq 5, 3) := by decide +kernel
theorem dX10_build_74 : decode cX10_build 74 = .ok (.iconst (-1), 1) := by decide +kernel
theorem dX10_build_75 : decode cX10_build 75 = .ok (.ireturn, 1) := by decide +kernel
theorem dX10_build_76 : decode cX10_build 76 = .ok (.aload_n 0, 1) := by decide +kernel
theorem dX10_build_77 : decode cX10_build 77 = .ok (.getfield 12, 3) := by decide +kernel
theorem dX10_build_80 : decode cX10_build 80 = .ok (.astore_n 2, 1) := by decide +kernel
theorem dX10_build_81 : decode cX10_build 81 = .ok (.aload_n 0, 1) := by decide +kernel
theorem dX10_build_82 : decode cX10_build 82 = .ok (.aload_n 0, 1) := by decide +kernel
theorem dX10_build_83 : decode cX10_build 83 = .ok (.getfield 16, 3) := by decide +kernel
theorem dX10_build_86 : decode cX10_build 86 = .ok (.putfield 12, 3) := by decide +kernel
theorem dX10_build_89 : decode cX10_build 89 = .ok (.aload_n 0, 1) := by decide +kernel
theorem dX10_build_90 : decode cX10_build 90 = .ok (.aload_n 2, 1) := by decide +kernel
theorem dX10_build_91 : decode cX10_build 91 = .ok (.putfield 16, 3) := by decide +kernel
theorem dX10_build_94 : decode cX10_build 94 = .ok (.aload_n 0, 1) := by decide +kernel
theorem dX10_build_95 : decode cX10_build 95 = .ok (.iconst 1, 1) := by decide +kernel
theorem dX10_build_96 : decode cX10_build 96 = .ok (.putfield 75, 3) := by decide +kernel
theorem dX10_build_99 : decode cX10_build 99 = .ok (.aload_n 0, 1) := by decide +kernel
theorem dX10_build_100 : decode cX10_build 100 = .ok (.getfield 71, 3) := by decide +kernel
theorem dX10_build_103 : decode cX10_build 103 = .ok (.iconst 0, 1) := by decide +kernel
theorem dX10_build_104 : decode cX10_build 104 = .ok (.invokestatic 105, 3) := by decide +kernel
theorem dX10_build_107 : decode cX10_build 107 = .ok (.aload_n 0, 1) := by decide +kernel
theorem dX10_build_108 : decode cX10_build 108 = .ok (.getfield 51, 3) := by decide +kernel
theorem dX10_build_111 : decode cX10_build 111 = .ok (.invokevirtual 111, 3) := by decide +kernel
theorem dX10_build_114 : decode cX10_build 114 = .ok (.aload_n 0, 1) := by decide +kernel
theorem dX10_build_115 : decode cX10_build 115 = .ok (.getfield 67, 3) := by decide +kernel
theorem dX10_build_118 : decode cX10_build 118 = .ok (.invokevirtual 114, 3) := by decide +kernel
theorem dX10_build_121 : decode cX10_build 121 = .ok (.iconst 0, 1) := by decide +kernel
theorem dX10_build_122 : decode cX10_build 122 = .ok (.ireturn, 1) := by decide +kernel
theorem dX10_fault_0 : decode cX10_fault 0 = .ok (.iload_n 1, 1) := by decide +kernel
theorem dX10_fault_1 : decode cX10_fault 1 = .ok (.lookupswitch 37 #[(0, 27), (1, 32)], 27) := by decide +kernel
theorem dX10_fault_28 : decode cX10_fault 28 = .ok (.aload_n 0, 1) := by decide +kernel
theorem dX10_fault_29 : decode cX10_fault 29 = .ok (.getfield 79, 3) := by decide +kernel
theorem dX10_fault_32 : decode cX10_fault 32 = .ok (.ireturn, 1) := by decide +kernel
theorem dX10_fault_33 : decode cX10_fault 33 = .ok (.aload_n 0, 1) := by decide +kernel
theorem dX10_fault_34 : decode cX10_fault 34 = .ok (.getfield 83, 3) := by decide +kernel
theorem dX10_fault_37 : decode cX10_fault 37 = .ok (.ireturn, 1) := by decide +kernel
theorem dX10_fault_38 : decode cX10_fault 38 = .ok (.iconst (-1), 1) := by decide +kernel
theorem dX10_fault_39 : decode cX10_fault 39 = .ok (.ireturn, 1) := by decide +kernel
theorem dX10_give_0 : decode cX10_give 0 = .ok (.iload_n 1, 1) := by decide +kernel
theorem dX10_give_1 : decode cX10_give 1 = .ok (.ifCond .lt 23, 3) := by decide +kernel
theorem dX10_give_4 : decode cX10_give 4 = .ok (.iload_n 1, 1) := by decide +kernel
theorem dX10_give_5 : decode cX10_give 5 = .ok (.aload_n 0, 1) := by decide +kernel
theorem dX10_give_6 : decode cX10_give 6 = .ok (.getfield 12, 3) := by decide +kernel
theorem dX10_give_9 : decode cX10_give 9 = .ok (.getfield 117, 3) := by decide +kernel
theorem dX10_give_12 : decode cX10_give 12 = .ok (.if_icmp .ge 12, 3) := by decide +kernel
theorem dX10_give_15 : decode cX10_give 15 = .ok (.iload_n 1, 1) := by decide +kernel
theorem dX10_give_16 : decode cX10_give 16 = .ok (.aload_n 0, 1) := by decide +kernel
theorem dX10_give_17 : decode cX10_give 17 = .ok (.getfield 71, 3) := by decide +kernel
theorem dX10_give_20 : decode cX10_give 20 = .ok (.arraylength, 1) := by decide +kernel
theorem dX10_give_21 : decode cX10_give 21 = .ok (.if_icmp .lt 13, 3) := by decide +kernel
theorem dX10_give_24 : decode cX10_give 24 = .ok (.new 120, 3) := by decide +kernel
theorem dX10_give_27 : decode cX10_give 27 = .ok (.dup, 1) := by decide +kernel
theorem dX10_give_28 : decode cX10_give 28 = .ok (.ldc 122, 2) := by decide +kernel
theorem dX10_give_30 : decode cX10_give 30 = .ok (.invokespecial 124, 3) := by decide +kernel
theorem dX10_give_33 : decode cX10_give 33 = .ok (.athrow, 1) := by decide +kernel
theorem dX10_give_34 : decode cX10_give 34 = .ok (.aload_n 0, 1) := by decide +kernel
theorem dX10_give_35 : decode cX10_give 35 = .ok (.getfield 71, 3) := by decide +kernel
theorem dX10_give_38 : decode cX10_give 38 = .ok (.iload_n 1, 1) := by decide +kernel
theorem dX10_give_39 : decode cX10_give 39 = .ok (.iaload, 1) := by decide +kernel
theorem dX10_give_40 : decode cX10_give 40 = .ok (.istore_n 3, 1) := by decide +kernel
theorem dX10_give_41 : decode cX10_give 41 = .ok (.aload_n 0, 1) := by decide +kernel
theorem dX10_give_42 : decode cX10_give 42 = .ok (.getfield 71, 3) := by decide +kernel
theorem dX10_give_45 : decode cX10_give 45 = .ok (.iload_n 1, 1) := by decide +kernel
theorem dX10_give_46 : decode cX10_give 46 = .ok (.iload_n 2, 1) := by decide +kernel
theorem dX10_give_47 : decode cX10_give 47 = .ok (.iastore, 1) := by decide +kernel
theorem dX10_give_48 : decode cX10_give 48 = .ok (.iload_n 3, 1) := by decide +kernel
theorem dX10_give_49 : decode cX10_give 49 = .ok (.ireturn, 1) := by decide +kernel
theorem dX10_poke_0 : decode cX10_poke 0 = .ok (.aload_n 0, 1) := by decide +kernel
theorem dX10_poke_1 : decode cX10_poke 1 = .ok (.iload_n 1, 1) := by decide +kernel
theorem dX10_poke_2 : decode cX10_poke 2 = .ok (.iload_n 2, 1) := by decide +kernel
theorem dX10_poke_3 : decode cX10_poke 3 = .ok (.invokevirtual 127, 3) := by decide +kernel
theorem dX10_poke_6 : decode cX10_poke 6 = .ok (.ifCond .ne 13, 3) := by decide +kernel
theorem dX10_poke_9 : decode cX10_poke 9 = .ok (.new 120, 3) := by decide +kernel
theorem dX10_poke_12 : decode cX10_poke 12 = .ok (.dup, 1) := by decide +kernel
theorem dX10_poke_13 : decode cX10_poke 13 = .ok (.ldc 131, 2) := by decide +kernel
theorem dX10_poke_15 : decode cX10_poke 15 = .ok (.invokespecial 124, 3) := by decide +kernel
theorem dX10_poke_18 : decode cX10_poke 18 = .ok (.athrow, 1) := by decide +kernel
theorem dX10_poke_19 : decode cX10_poke 19 = .ok (.aload_n 0, 1) := by decide +kernel
theorem dX10_poke_20 : decode cX10_poke 20 = .ok (.getfield 51, 3) := by decide +kernel
theorem dX10_poke_23 : decode cX10_poke 23 = .ok (.iload_n 1, 1) := by decide +kernel
theorem dX10_poke_24 : decode cX10_poke 24 = .ok (.iload_n 2, 1) := by decide +kernel
theorem dX10_poke_25 : decode cX10_poke 25 = .ok (.invokevirtual 133, 3) := by decide +kernel
theorem dX10_poke_28 : decode cX10_poke 28 = .ok (.istore 4, 2) := by decide +kernel
theorem dX10_poke_30 : decode cX10_poke 30 = .ok (.aload_n 0, 1) := by decide +kernel
theorem dX10_poke_31 : decode cX10_poke 31 = .ok (.getfield 51, 3) := by decide +kernel
theorem dX10_poke_34 : decode cX10_poke 34 = .ok (.iload_n 1, 1) := by decide +kernel
theorem dX10_poke_35 : decode cX10_poke 35 = .ok (.iload_n 2, 1) := by decide +kernel
theorem dX10_poke_36 : decode cX10_poke 36 = .ok (.iload_n 3, 1) := by decide +kernel
theorem dX10_poke_37 : decode cX10_poke 37 = .ok (.invokevirtual 137, 3) := by decide +kernel
theorem dX10_poke_40 : decode cX10_poke 40 = .ok (.iload 4, 2) := by decide +kernel
theorem dX10_poke_42 : decode cX10_poke 42 = .ok (.ireturn, 1) := by decide +kernel
theorem dX10_cell_0 : decode cX10_cell 0 = .ok (.aload_n 0, 1) := by decide +kernel
theorem dX10_cell_1 : decode cX10_cell 1 = .ok (.iload_n 1, 1) := by decide +kernel
theorem dX10_cell_2 : decode cX10_cell 2 = .ok (.iload_n 2, 1) := by decide +kernel
theorem dX10_cell_3 : decode cX10_cell 3 = .ok (.invokevirtual 127, 3) := by decide +kernel
theorem dX10_cell_6 : decode cX10_cell 6 = .ok (.ifCond .ne 13, 3) := by decide +kernel
theorem dX10_cell_9 : decode cX10_cell 9 = .ok (.new 120, 3) := by decide +kernel
theorem dX10_cell_12 : decode cX10_cell 12 = .ok (.dup, 1) := by decide +kernel
theorem dX10_cell_13 : decode cX10_cell 13 = .ok (.ldc 131, 2) := by decide +kernel
theorem dX10_cell_15 : decode cX10_cell 15 = .ok (.invokespecial 124, 3) := by decide +kernel
theorem dX10_cell_18 : decode cX10_cell 18 = .ok (.athrow, 1) := by decide +kernel
theorem dX10_cell_19 : decode cX10_cell 19 = .ok (.aload_n 0, 1) := by decide +kernel
theorem dX10_cell_20 : decode cX10_cell 20 = .ok (.getfield 51, 3) := by decide +kernel
theorem dX10_cell_23 : decode cX10_cell 23 = .ok (.iload_n 1, 1) := by decide +kernel
theorem dX10_cell_24 : decode cX10_cell 24 = .ok (.iload_n 2, 1) := by decide +kernel
theorem dX10_cell_25 : decode cX10_cell 25 = .ok (.invokevirtual 133, 3) := by decide +kernel
theorem dX10_cell_28 : decode cX10_cell 28 = .ok (.ireturn, 1) := by decide +kernel
theorem dX10_latency_0 : decode cX10_latency 0 = .ok (.iload_n 1, 1) := by decide +kernel
theorem dX10_latency_1 : decode cX10_latency 1 = .ok (.iconst 1, 1) := by decide +kernel
theorem dX10_latency_2 : decode cX10_latency 2 = .ok (.if_icmp .lt 21, 3) := by decide +kernel
theorem dX10_latency_5 : decode cX10_latency 5 = .ok (.iload_n 1, 1) := by decide +kernel
theorem dX10_latency_6 : decode cX10_latency 6 = .ok (.bipush 64, 2) := by decide +kernel
theorem dX10_latency_8 : decode cX10_latency 8 = .ok (.if_icmp .gt 15, 3) := by decide +kernel
theorem dX10_latency_11 : decode cX10_latency 11 = .ok (.aload_n 0, 1) := by decide +kernel
theorem dX10_latency_12 : decode cX10_latency 12 = .ok (.getfield 51, 3) := by decide +kernel
theorem dX10_latency_15 : decode cX10_latency 15 = .ok (.getfield 141, 3) := by decide +kernel
theorem dX10_latency_18 : decode cX10_latency 18 = .ok (.bipush 32, 2) := by decide +kernel
theorem dX10_latency_20 : decode cX10_latency 20 = .ok (.if_icmp .lt 5, 3) := by decide +kernel
theorem dX10_latency_23 : decode cX10_latency 23 = .ok (.iconst (-1), 1) := by decide +kernel
theorem dX10_latency_24 : decode cX10_latency 24 = .ok (.ireturn, 1) := by decide +kernel
theorem dX10_latency_25 : decode cX10_latency 25 = .ok (.aload_n 0, 1) := by decide +kernel
theorem dX10_latency_26 : decode cX10_latency 26 = .ok (.getfield 51, 3) := by decide +kernel
theorem dX10_latency_29 : decode cX10_latency 29 = .ok (.iload_n 1, 1) := by decide +kernel
theorem dX10_latency_30 : decode cX10_latency 30 = .ok (.invokevirtual 144, 3) := by decide +kernel
theorem dX10_latency_33 : decode cX10_latency 33 = .ok (.aload_n 0, 1) := by decide +kernel
theorem dX10_latency_34 : decode cX10_latency 34 = .ok (.getfield 51, 3) := by decide +kernel
theorem dX10_latency_37 : decode cX10_latency 37 = .ok (.getfield 141, 3) := by decide +kernel
theorem dX10_latency_40 : decode cX10_latency 40 = .ok (.ireturn, 1) := by decide +kernel
theorem dX10_free_0 : decode cX10_free 0 = .ok (.aload_n 0, 1) := by decide +kernel
theorem dX10_free_1 : decode cX10_free 1 = .ok (.getfield 51, 3) := by decide +kernel
theorem dX10_free_4 : decode cX10_free 4 = .ok (.getfield 141, 3) := by decide +kernel
theorem dX10_free_7 : decode cX10_free 7 = .ok (.istore_n 1, 1) := by decide +kernel
theorem dX10_free_8 : decode cX10_free 8 = .ok (.aload_n 0, 1) := by decide +kernel
theorem dX10_free_9 : decode cX10_free 9 = .ok (.getfield 51, 3) := by decide +kernel
theorem dX10_free_12 : decode cX10_free 12 = .ok (.iconst 0, 1) := by decide +kernel
theorem dX10_free_13 : decode cX10_free 13 = .ok (.putfield 141, 3) := by decide +kernel
theorem dX10_free_16 : decode cX10_free 16 = .ok (.iload_n 1, 1) := by decide +kernel
theorem dX10_free_17 : decode cX10_free 17 = .ok (.ireturn, 1) := by decide +kernel
theorem dX10_stall_0 : decode cX10_stall 0 = .ok (.aload_n 0, 1) := by decide +kernel
theorem dX10_stall_1 : decode cX10_stall 1 = .ok (.getfield 58, 3) := by decide +kernel
theorem dX10_stall_4 : decode cX10_stall 4 = .ok (.getfield 147, 3) := by decide +kernel
theorem dX10_stall_7 : decode cX10_stall 7 = .ok (.lstore_n 3, 1) := by decide +kernel
theorem dX10_stall_8 : decode cX10_stall 8 = .ok (.aload_n 0, 1) := by decide +kernel
theorem dX10_stall_9 : decode cX10_stall 9 = .ok (.getfield 58, 3) := by decide +kernel
theorem dX10_stall_12 : decode cX10_stall 12 = .ok (.lload_n 1, 1) := by decide +kernel
theorem dX10_stall_13 : decode cX10_stall 13 = .ok (.ldc2_w 151, 3) := by decide +kernel
theorem dX10_stall_16 : decode cX10_stall 16 = .ok (.lcmp, 1) := by decide +kernel
theorem dX10_stall_17 : decode cX10_stall 17 = .ok (.ifCond .ne 7, 3) := by decide +kernel
theorem dX10_stall_20 : decode cX10_stall 20 = .ok (.lconst 0, 1) := by decide +kernel
theorem dX10_stall_21 : decode cX10_stall 21 = .ok (.goto 4, 3) := by decide +kernel
theorem dX10_stall_24 : decode cX10_stall 24 = .ok (.lload_n 1, 1) := by decide +kernel
theorem dX10_stall_25 : decode cX10_stall 25 = .ok (.putfield 147, 3) := by decide +kernel
theorem dX10_stall_28 : decode cX10_stall 28 = .ok (.lload_n 3, 1) := by decide +kernel
theorem dX10_stall_29 : decode cX10_stall 29 = .ok (.lreturn, 1) := by decide +kernel
theorem dX10_run_0 : decode cX10_run 0 = .ok (.aload_n 0, 1) := by decide +kernel
theorem dX10_run_1 : decode cX10_run 1 = .ok (.getfield 75, 3) := by decide +kernel
theorem dX10_run_4 : decode cX10_run 4 = .ok (.ifCond .eq 15, 3) := by decide +kernel
theorem dX10_run_7 : decode cX10_run 7 = .ok (.iload_n 1, 1) := by decide +kernel
theorem dX10_run_8 : decode cX10_run 8 = .ok (.iconst 1, 1) := by decide +kernel
theorem dX10_run_9 : decode cX10_run 9 = .ok (.if_icmp .lt 10, 3) := by decide +kernel
theorem dX10_run_12 : decode cX10_run 12 = .ok (.iload_n 1, 1) := by decide +kernel
theorem dX10_run_13 : decode cX10_run 13 = .ok (.sipush 3000, 3) := by decide +kernel
theorem dX10_run_16 : decode cX10_run 16 = .ok (.if_icmp .le 5, 3) := by decide +kernel
theorem dX10_run_19 : decode cX10_run 19 = .ok (.iconst (-1), 1) := by decide +kernel
theorem dX10_run_20 : decode cX10_run 20 = .ok (.ireturn, 1) := by decide +kernel
theorem dX10_run_21 : decode cX10_run 21 = .ok (.aload_n 0, 1) := by decide +kernel
theorem dX10_run_22 : decode cX10_run 22 = .ok (.getfield 67, 3) := by decide +kernel
theorem dX10_run_25 : decode cX10_run 25 = .ok (.aload_n 0, 1) := by decide +kernel
theorem dX10_run_26 : decode cX10_run 26 = .ok (.getfield 12, 3) := by decide +kernel
theorem dX10_run_29 : decode cX10_run 29 = .ok (.aload_n 0, 1) := by decide +kernel
theorem dX10_run_30 : decode cX10_run 30 = .ok (.getfield 71, 3) := by decide +kernel
theorem dX10_run_33 : decode cX10_run 33 = .ok (.iload_n 1, 1) := by decide +kernel
theorem dX10_run_34 : decode cX10_run 34 = .ok (.invokevirtual 153, 3) := by decide +kernel
theorem dX10_run_37 : decode cX10_run 37 = .ok (.ireturn, 1) := by decide +kernel
theorem dX10_told_0 : decode cX10_told 0 = .ok (.iload_n 1, 1) := by decide +kernel
theorem dX10_told_1 : decode cX10_told 1 = .ok (.tableswitch 87 0 5 #[39, 47, 55, 63, 71, 79], 39) := by decide +kernel
theorem dX10_told_40 : decode cX10_told 40 = .ok (.aload_n 0, 1) := by decide +kernel
theorem dX10_told_41 : decode cX10_told 41 = .ok (.getfield 67, 3) := by decide +kernel
theorem dX10_told_44 : decode cX10_told 44 = .ok (.getfield 157, 3) := by decide +kernel
theorem dX10_told_47 : decode cX10_told 47 = .ok (.ireturn, 1) := by decide +kernel
theorem dX10_told_48 : decode cX10_told 48 = .ok (.aload_n 0, 1) := by decide +kernel
theorem dX10_told_49 : decode cX10_told 49 = .ok (.getfield 67, 3) := by decide +kernel
theorem dX10_told_52 : decode cX10_told 52 = .ok (.getfield 160, 3) := by decide +kernel
theorem dX10_told_55 : decode cX10_told 55 = .ok (.ireturn, 1) := by decide +kernel
theorem dX10_told_56 : decode cX10_told 56 = .ok (.aload_n 0, 1) := by decide +kernel
theorem dX10_told_57 : decode cX10_told 57 = .ok (.getfield 67, 3) := by decide +kernel
theorem dX10_told_60 : decode cX10_told 60 = .ok (.getfield 163, 3) := by decide +kernel
theorem dX10_told_63 : decode cX10_told 63 = .ok (.ireturn, 1) := by decide +kernel
theorem dX10_told_64 : decode cX10_told 64 = .ok (.aload_n 0, 1) := by decide +kernel
theorem dX10_told_65 : decode cX10_told 65 = .ok (.getfield 51, 3) := by decide +kernel
theorem dX10_told_68 : decode cX10_told 68 = .ok (.getfield 166, 3) := by decide +kernel
theorem dX10_told_71 : decode cX10_told 71 = .ok (.ireturn, 1) := by decide +kernel
theorem dX10_told_72 : decode cX10_told 72 = .ok (.aload_n 0, 1) := by decide +kernel
theorem dX10_told_73 : decode cX10_told 73 = .ok (.getfield 51, 3) := by decide +kernel
theorem dX10_told_76 : decode cX10_told 76 = .ok (.getfield 169, 3) := by decide +kernel
theorem dX10_told_79 : decode cX10_told 79 = .ok (.ireturn, 1) := by decide +kernel
theorem dX10_told_80 : decode cX10_told 80 = .ok (.aload_n 0, 1) := by decide +kernel
theorem dX10_told_81 : decode cX10_told 81 = .ok (.getfield 58, 3) := by decide +kernel
theorem dX10_told_84 : decode cX10_told 84 = .ok (.getfield 172, 3) := by decide +kernel
theorem dX10_told_87 : decode cX10_told 87 = .ok (.ireturn, 1) := by decide +kernel
theorem dX10_told_88 : decode cX10_told 88 = .ok (.iconst (-1), 1) := by decide +kernel
theorem dX10_told_89 : decode cX10_told 89 = .ok (.ireturn, 1) := by decide +kernel
theorem dX10_write_0 : decode cX10_write 0 = .ok (.iload_n 1, 1) := by decide +kernel
theorem dX10_write_1 : decode cX10_write 1 = .ok (.ifCond .lt 21, 3) := by decide +kernel
theorem dX10_write_4 : decode cX10_write 4 = .ok (.iload_n 1, 1) := by decide +kernel
theorem dX10_write_5 : decode cX10_write 5 = .ok (.aload_n 0, 1) := by decide +kernel
theorem dX10_write_6 : decode cX10_write 6 = .ok (.getfield 51, 3) := by decide +kernel
theorem dX10_write_9 : decode cX10_write 9 = .ok (.getfield 169, 3) := by decide +kernel
theorem dX10_write_12 : decode cX10_write 12 = .ok (.if_icmp .ge 10, 3) := by decide +kernel
theorem dX10_write_15 : decode cX10_write 15 = .ok (.iload_n 1, 1) := by decide +kernel
theorem dX10_write_16 : decode cX10_write 16 = .ok (.sipush 200, 3) := by decide +kernel
theorem dX10_write_19 : decode cX10_write 19 = .ok (.if_icmp .lt 13, 3) := by decide +kernel
theorem dX10_write_22 : decode cX10_write 22 = .ok (.new 120, 3) := by decide +kernel
theorem dX10_write_25 : decode cX10_write 25 = .ok (.dup, 1) := by decide +kernel
theorem dX10_write_26 : decode cX10_write 26 = .ok (.ldc 175, 2) := by decide +kernel
theorem dX10_write_28 : decode cX10_write 28 = .ok (.invokespecial 124, 3) := by decide +kernel
theorem dX10_write_31 : decode cX10_write 31 = .ok (.athrow, 1) := by decide +kernel
theorem dX10_write_32 : decode cX10_write 32 = .ok (.iload_n 2, 1) := by decide +kernel
theorem dX10_write_33 : decode cX10_write 33 = .ok (.tableswitch 57 0 2 #[27, 37, 47], 27) := by decide +kernel
theorem dX10_write_60 : decode cX10_write 60 = .ok (.aload_n 0, 1) := by decide +kernel
theorem dX10_write_61 : decode cX10_write 61 = .ok (.getfield 51, 3) := by decide +kernel
theorem dX10_write_64 : decode cX10_write 64 = .ok (.getfield 177, 3) := by decide +kernel
theorem dX10_write_67 : decode cX10_write 67 = .ok (.iload_n 1, 1) := by decide +kernel
theorem dX10_write_68 : decode cX10_write 68 = .ok (.iaload, 1) := by decide +kernel
theorem dX10_write_69 : decode cX10_write 69 = .ok (.ireturn, 1) := by decide +kernel
theorem dX10_write_70 : decode cX10_write 70 = .ok (.aload_n 0, 1) := by decide +kernel
theorem dX10_write_71 : decode cX10_write 71 = .ok (.getfield 51, 3) := by decide +kernel
theorem dX10_write_74 : decode cX10_write 74 = .ok (.getfield 180, 3) := by decide +kernel
theorem dX10_write_77 : decode cX10_write 77 = .ok (.iload_n 1, 1) := by decide +kernel
theorem dX10_write_78 : decode cX10_write 78 = .ok (.iaload, 1) := by decide +kernel
theorem dX10_write_79 : decode cX10_write 79 = .ok (.ireturn, 1) := by decide +kernel
theorem dX10_write_80 : decode cX10_write 80 = .ok (.aload_n 0, 1) := by decide +kernel
theorem dX10_write_81 : decode cX10_write 81 = .ok (.getfield 51, 3) := by decide +kernel
theorem dX10_write_84 : decode cX10_write 84 = .ok (.getfield 183, 3) := by decide +kernel
theorem dX10_write_87 : decode cX10_write 87 = .ok (.iload_n 1, 1) := by decide +kernel
theorem dX10_write_88 : decode cX10_write 88 = .ok (.iaload, 1) := by decide +kernel
theorem dX10_write_89 : decode cX10_write 89 = .ok (.ireturn, 1) := by decide +kernel
theorem dX10_write_90 : decode cX10_write 90 = .ok (.iconst (-1), 1) := by decide +kernel
theorem dX10_write_91 : decode cX10_write 91 = .ok (.ireturn, 1) := by decide +kernel
theorem dX10_count_0 : decode cX10_count 0 = .ok (.iload_n 1, 1) := by decide +kernel
theorem dX10_count_1 : decode cX10_count 1 = .ok (.tableswitch 152 0 10 #[59, 67, 80, 88, 96, 104, 112, 120, 128, 136, 144], 59) := by decide +kernel
theorem dX10_count_60 : decode cX10_count 60 = .ok (.aload_n 0, 1) := by decide +kernel
theorem dX10_count_61 : decode cX10_count 61 = .ok (.getfield 22, 3) := by decide +kernel
theorem dX10_count_64 : decode cX10_count 64 = .ok (.getfield 86, 3) := by decide +kernel
theorem dX10_count_67 : decode cX10_count 67 = .ok (.ireturn, 1) := by decide +kernel
theorem dX10_count_68 : decode cX10_count 68 = .ok (.aload_n 0, 1) := by decide +kernel
theorem dX10_count_69 : decode cX10_count 69 = .ok (.getfield 75, 3) := by decide +kernel
theorem dX10_count_72 : decode cX10_count 72 = .ok (.ifCond .eq 7, 3) := by decide +kernel
theorem dX10_count_75 : decode cX10_count 75 = .ok (.iconst 1, 1) := by decide +kernel
theorem dX10_count_76 : decode cX10_count 76 = .ok (.goto 4, 3) := by decide +kernel
theorem dX10_count_79 : decode cX10_count 79 = .ok (.iconst 0, 1) := by decide +kernel
theorem dX10_count_80 : decode cX10_count 80 = .ok (.ireturn, 1) := by decide +kernel
theorem dX10_count_81 : decode cX10_count 81 = .ok (.aload_n 0, 1) := by decide +kernel
theorem dX10_count_82 : decode cX10_count 82 = .ok (.getfield 12, 3) := by decide +kernel
theorem dX10_count_85 : decode cX10_count 85 = .ok (.getfield 186, 3) := by decide +kernel
theorem dX10_count_88 : decode cX10_count 88 = .ok (.ireturn, 1) := by decide +kernel
theorem dX10_count_89 : decode cX10_count 89 = .ok (.aload_n 0, 1) := by decide +kernel
theorem dX10_count_90 : decode cX10_count 90 = .ok (.getfield 12, 3) := by decide +kernel
theorem dX10_count_93 : decode cX10_count 93 = .ok (.getfield 117, 3) := by decide +kernel
theorem dX10_count_96 : decode cX10_count 96 = .ok (.ireturn, 1) := by decide +kernel
theorem dX10_count_97 : decode cX10_count 97 = .ok (.aload_n 0, 1) := by decide +kernel
theorem dX10_count_98 : decode cX10_count 98 = .ok (.getfield 12, 3) := by decide +kernel
theorem dX10_count_101 : decode cX10_count 101 = .ok (.getfield 189, 3) := by decide +kernel
theorem dX10_count_104 : decode cX10_count 104 = .ok (.ireturn, 1) := by decide +kernel
theorem dX10_count_105 : decode cX10_count 105 = .ok (.aload_n 0, 1) := by decide +kernel
theorem dX10_count_106 : decode cX10_count 106 = .ok (.getfield 12, 3) := by decide +kernel
theorem dX10_count_109 : decode cX10_count 109 = .ok (.getfield 192, 3) := by decide +kernel
theorem dX10_count_112 : decode cX10_count 112 = .ok (.ireturn, 1) := by decide +kernel
theorem dX10_count_113 : decode cX10_count 113 = .ok (.aload_n 0, 1) := by decide +kernel
theorem dX10_count_114 : decode cX10_count 114 = .ok (.getfield 51, 3) := by decide +kernel
theorem dX10_count_117 : decode cX10_count 117 = .ok (.getfield 141, 3) := by decide +kernel
theorem dX10_count_120 : decode cX10_count 120 = .ok (.ireturn, 1) := by decide +kernel
theorem dX10_count_121 : decode cX10_count 121 = .ok (.aload_n 0, 1) := by decide +kernel
theorem dX10_count_122 : decode cX10_count 122 = .ok (.getfield 67, 3) := by decide +kernel
theorem dX10_count_125 : decode cX10_count 125 = .ok (.getfield 195, 3) := by decide +kernel
theorem dX10_count_128 : decode cX10_count 128 = .ok (.ireturn, 1) := by decide +kernel
theorem dX10_count_129 : decode cX10_count 129 = .ok (.aload_n 0, 1) := by decide +kernel
theorem dX10_count_130 : decode cX10_count 130 = .ok (.getfield 67, 3) := by decide +kernel
theorem dX10_count_133 : decode cX10_count 133 = .ok (.getfield 198, 3) := by decide +kernel
theorem dX10_count_136 : decode cX10_count 136 = .ok (.ireturn, 1) := by decide +kernel
theorem dX10_count_137 : decode cX10_count 137 = .ok (.aload_n 0, 1) := by decide +kernel
theorem dX10_count_138 : decode cX10_count 138 = .ok (.getfield 67, 3) := by decide +kernel
theorem dX10_count_141 : decode cX10_count 141 = .ok (.getfield 201, 3) := by decide +kernel
theorem dX10_count_144 : decode cX10_count 144 = .ok (.ireturn, 1) := by decide +kernel
theorem dX10_count_145 : decode cX10_count 145 = .ok (.aload_n 0, 1) := by decide +kernel
theorem dX10_count_146 : decode cX10_count 146 = .ok (.getfield 51, 3) := by decide +kernel
theorem dX10_count_149 : decode cX10_count 149 = .ok (.getfield 204, 3) := by decide +kernel
theorem dX10_count_152 : decode cX10_count 152 = .ok (.ireturn, 1) := by decide +kernel
theorem dX10_count_153 : decode cX10_count 153 = .ok (.iconst (-1), 1) := by decide +kernel
theorem dX10_count_154 : decode cX10_count 154 = .ok (.ireturn, 1) := by decide +kernel
theorem dX10_size_0 : decode cX10_size 0 = .ok (.aload_n 0, 1) := by decide +kernel
theorem dX10_size_1 : decode cX10_size 1 = .ok (.getfield 12, 3) := by decide +kernel
theorem dX10_size_4 : decode cX10_size 4 = .ok (.iload_n 1, 1) := by decide +kernel
theorem dX10_size_5 : decode cX10_size 5 = .ok (.invokevirtual 207, 3) := by decide +kernel
theorem dX10_size_8 : decode cX10_size 8 = .ok (.ireturn, 1) := by decide +kernel
theorem dX10_isCell_0 : decode cX10_isCell 0 = .ok (.iload_n 2, 1) := by decide +kernel
theorem dX10_isCell_1 : decode cX10_isCell 1 = .ok (.ifCond .lt 19, 3) := by decide +kernel
theorem dX10_isCell_4 : decode cX10_isCell 4 = .ok (.iload_n 2, 1) := by decide +kernel
theorem dX10_isCell_5 : decode cX10_isCell 5 = .ok (.aload_n 0, 1) := by decide +kernel
theorem dX10_isCell_6 : decode cX10_isCell 6 = .ok (.getfield 12, 3) := by decide +kernel
theorem dX10_isCell_9 : decode cX10_isCell 9 = .ok (.iload_n 1, 1) := by decide +kernel
theorem dX10_isCell_10 : decode cX10_isCell 10 = .ok (.invokevirtual 207, 3) := by decide +kernel
theorem dX10_isCell_13 : decode cX10_isCell 13 = .ok (.if_icmp .ge 7, 3) := by decide +kernel
theorem dX10_isCell_16 : decode cX10_isCell 16 = .ok (.iconst 1, 1) := by decide +kernel
theorem dX10_isCell_17 : decode cX10_isCell 17 = .ok (.goto 4, 3) := by decide +kernel
theorem dX10_isCell_20 : decode cX10_isCell 20 = .ok (.iconst 0, 1) := by decide +kernel
theorem dX10_isCell_21 : decode cX10_isCell 21 = .ok (.ireturn, 1) := by decide +kernel
theorem dX11_init_0 : decode cX11_init 0 = .ok (.aload_n 0, 1) := by decide +kernel
theorem dX11_init_1 : decode cX11_init 1 = .ok (.invokespecial 3, 3) := by decide +kernel
theorem dX11_init_4 : decode cX11_init 4 = .ok (.aload_n 0, 1) := by decide +kernel
theorem dX11_init_5 : decode cX11_init 5 = .ok (.bipush 8, 2) := by decide +kernel
theorem dX11_init_7 : decode cX11_init 7 = .ok (.newarray .int, 2) := by decide +kernel
theorem dX11_init_9 : decode cX11_init 9 = .ok (.putfield 9, 3) := by decide +kernel
theorem dX11_init_12 : decode cX11_init 12 = .ok (.aload_n 0, 1) := by decide +kernel
theorem dX11_init_13 : decode cX11_init 13 = .ok (.sipush 2000, 3) := by decide +kernel
theorem dX11_init_16 : decode cX11_init 16 = .ok (.newarray .int, 2) := by decide +kernel
theorem dX11_init_18 : decode cX11_init 18 = .ok (.putfield 15, 3) := by decide +kernel
theorem dX11_init_21 : decode cX11_init 21 = .ok (.aload_n 0, 1) := by decide +kernel
theorem dX11_init_22 : decode cX11_init 22 = .ok (.sipush 2000, 3) := by decide +kernel
theorem dX11_init_25 : decode cX11_init 25 = .ok (.newarray .int, 2) := by decide +kernel
theorem dX11_init_27 : decode cX11_init 27 = .ok (.putfield 18, 3) := by decide +kernel
theorem dX11_init_30 : decode cX11_init 30 = .ok (.aload_n 0, 1) := by decide +kernel
theorem dX11_init_31 : decode cX11_init 31 = .ok (.sipush 2000, 3) := by decide +kernel
theorem dX11_init_34 : decode cX11_init 34 = .ok (.newarray .int, 2) := by decide +kernel
theorem dX11_init_36 : decode cX11_init 36 = .ok (.putfield 21, 3) := by decide +kernel
theorem dX11_init_39 : decode cX11_init 39 = .ok (.aload_n 0, 1) := by decide +kernel
theorem dX11_init_40 : decode cX11_init 40 = .ok (.sipush 2000, 3) := by decide +kernel
theorem dX11_init_43 : decode cX11_init 43 = .ok (.newarray .int, 2) := by decide +kernel
theorem dX11_init_45 : decode cX11_init 45 = .ok (.putfield 24, 3) := by decide +kernel
theorem dX11_init_48 : decode cX11_init 48 = .ok (.aload_n 0, 1) := by decide +kernel
theorem dX11_init_49 : decode cX11_init 49 = .ok (.sipush 2000, 3) := by decide +kernel
theorem dX11_init_52 : decode cX11_init 52 = .ok (.newarray .int, 2) := by decide +kernel
theorem dX11_init_54 : decode cX11_init 54 = .ok (.putfield 27, 3) := by decide +kernel
theorem dX11_init_57 : decode cX11_init 57 = .ok (.aload_n 0, 1) := by decide +kernel
theorem dX11_init_58 : decode cX11_init 58 = .ok (.sipush 2000, 3) := by decide +kernel
theorem dX11_init_61 : decode cX11_init 61 = .ok (.newarray .int, 2) := by decide +kernel
theorem dX11_init_63 : decode cX11_init 63 = .ok (.putfield 30, 3) := by decide +kernel
theorem dX11_init_66 : decode cX11_init 66 = .ok (.aload_n 0, 1) := by decide +kernel
theorem dX11_init_67 : decode cX11_init 67 = .ok (.sipush 2000, 3) := by decide +kernel
theorem dX11_init_70 : decode cX11_init 70 = .ok (.newarray .int, 2) := by decide +kernel
theorem dX11_init_72 : decode cX11_init 72 = .ok (.putfield 33, 3) := by decide +kernel
theorem dX11_init_75 : decode cX11_init 75 = .ok (.aload_n 0, 1) := by decide +kernel
theorem dX11_init_76 : decode cX11_init 76 = .ok (.sipush 2000, 3) := by decide +kernel
theorem dX11_init_79 : decode cX11_init 79 = .ok (.newarray .int, 2) := by decide +kernel
theorem dX11_init_81 : decode cX11_init 81 = .ok (.putfield 36, 3) := by decide +kernel
theorem dX11_init_84 : decode cX11_init 84 = .ok (.aload_n 0, 1) := by decide +kernel
theorem dX11_init_85 : decode cX11_init 85 = .ok (.sipush 2000, 3) := by decide +kernel
theorem dX11_init_88 : decode cX11_init 88 = .ok (.newarray .int, 2) := by decide +kernel
theorem dX11_init_90 : decode cX11_init 90 = .ok (.putfield 39, 3) := by decide +kernel
theorem dX11_init_93 : decode cX11_init 93 = .ok (.return_, 1) := by decide +kernel
theorem dX11_clear_0 : decode cX11_clear 0 = .ok (.aload_n 0, 1) := by decide +kernel
theorem dX11_clear_1 : decode cX11_clear 1 = .ok (.iconst 0, 1) := by decide +kernel
theorem dX11_clear_2 : decode cX11_clear 2 = .ok (.putfield 42, 3) := by decide +kernel
theorem dX11_clear_5 : decode cX11_clear 5 = .ok (.aload_n 0, 1) := by decide +kernel
theorem dX11_clear_6 : decode cX11_clear 6 = .ok (.iconst 0, 1) := by decide +kernel
theorem dX11_clear_7 : decode cX11_clear 7 = .ok (.putfield 46, 3) := by decide +kernel
theorem dX11_clear_10 : decode cX11_clear 10 = .ok (.aload_n 0, 1) := by decide +kernel
theorem dX11_clear_11 : decode cX11_clear 11 = .ok (.iconst 0, 1) := by decide +kernel
theorem dX11_clear_12 : decode cX11_clear 12 = .ok (.putfield 49, 3) := by decide +kernel
theorem dX11_clear_15 : decode cX11_clear 15 = .ok (.aload_n 0, 1) := by decide +kernel
theorem dX11_clear_16 : decode cX11_clear 16 = .ok (.iconst 0, 1) := by decide +kernel
theorem dX11_clear_17 : decode cX11_clear 17 = .ok (.putfield 52, 3) := by decide +kernel
theorem dX11_clear_20 : decode cX11_clear 20 = .ok (.aload_n 0, 1) := by decide +kernel
theorem dX11_clear_21 : decode cX11_clear 21 = .ok (.iconst 0, 1) := by decide +kernel
theorem dX11_clear_22 : decode cX11_clear 22 = .ok (.putfield 55, 3) := by decide +kernel
theorem dX11_clear_25 : decode cX11_clear 25 = .ok (.aload_n 0, 1) := by decide +kernel
theorem dX11_clear_26 : decode cX11_clear 26 = .ok (.iconst 0, 1) := by decide +kernel
theorem dX11_clear_27 : decode cX11_clear 27 = .ok (.putfield 58, 3) := by decide +kernel
theorem dX11_clear_30 : decode cX11_clear 30 = .ok (.aload_n 0, 1) := by decide +kernel
theorem dX11_clear_31 : decode cX11_clear 31 = .ok (.iconst 0, 1) := by decide +kernel
theorem dX11_clear_32 : decode cX11_clear 32 = .ok (.putfield 61, 3) := by decide +kernel
theorem dX11_clear_35 : decode cX11_clear 35 = .ok (.aload_n 0, 1) := by decide +kernel
theorem dX11_clear_36 : decode cX11_clear 36 = .ok (.iconst (-1), 1) := by decide +kernel
theorem dX11_clear_37 : decode cX11_clear 37 = .ok (.putfield 64, 3) := by decide +kernel
theorem dX11_clear_40 : decode cX11_clear 40 = .ok (.return_, 1) := by decide +kernel
theorem dJ11_isValidCodePoint_9a6ad_0 : decode cJ11_isValidCodePoint_9a6ad 0 = .ok (.iload_n 0, 1) := by decide +kernel
theorem dJ11_isValidCodePoint_9a6ad_1 : decode cJ11_isValidCodePoint_9a6ad 1 = .ok (.bipush 16, 2) := by decide +kernel
theorem dJ11_isValidCodePoint_9a6ad_3 : decode cJ11_isValidCodePoint_9a6ad 3 = .ok (.iushr, 1) := by decide +kernel
theorem dJ11_isValidCodePoint_9a6ad_4 : decode cJ11_isValidCodePoint_9a6ad 4 = .ok (.istore_n 1, 1) := by decide +kernel
theorem dJ11_isValidCodePoint_9a6ad_5 : decode cJ11_isValidCodePoint_9a6ad 5 = .ok (.iload_n 1, 1) := by decide +kernel
theorem dJ11_isValidCodePoint_9a6ad_6 : decode cJ11_isValidCodePoint_9a6ad 6 = .ok (.bipush 17, 2) := by decide +kernel
theorem dJ11_isValidCodePoint_9a6ad_8 : decode cJ11_isValidCodePoint_9a6ad 8 = .ok (.if_icmp .ge 7, 3) := by decide +kernel
theorem dJ11_isValidCodePoint_9a6ad_11 : decode cJ11_isValidCodePoint_9a6ad 11 = .ok (.iconst 1, 1) := by decide +kernel
theorem dJ11_isValidCodePoint_9a6ad_12 : decode cJ11_isValidCodePoint_9a6ad 12 = .ok (.goto 4, 3) := by decide +kernel
theorem dJ11_isValidCodePoint_9a6ad_15 : decode cJ11_isValidCodePoint_9a6ad 15 = .ok (.iconst 0, 1) := by decide +kernel
theorem dJ11_isValidCodePoint_9a6ad_16 : decode cJ11_isValidCodePoint_9a6ad 16 = .ok (.ireturn, 1) := by decide +kernel
theorem dJ11_highSurrogate_5068e_0 : decode cJ11_highSurrogate_5068e 0 = .ok (.iload_n 0, 1) := by decide +kernel
theorem dJ11_highSurrogate_5068e_1 : decode cJ11_highSurrogate_5068e 1 = .ok (.bipush 10, 2) := by decide +kernel
theorem dJ11_highSurrogate_5068e_3 : decode cJ11_highSurrogate_5068e 3 = .ok (.iushr, 1) := by decide +kernel
theorem dJ11_highSurrogate_5068e_4 : decode cJ11_highSurrogate_5068e 4 = .ok (.ldc 110, 2) := by decide +kernel
theorem dJ11_highSurrogate_5068e_6 : decode cJ11_highSurrogate_5068e 6 = .ok (.iadd, 1) := by decide +kernel
theorem dJ11_highSurrogate_5068e_7 : decode cJ11_highSurrogate_5068e 7 = .ok (.i2c, 1) := by decide +kernel
theorem dJ11_highSurrogate_5068e_8 : decode cJ11_highSurrogate_5068e 8 = .ok (.ireturn, 1) := by decide +kernel
theorem dJ11_lowSurrogate_5068e_0 : decode cJ11_lowSurrogate_5068e 0 = .ok (.iload_n 0, 1) := by decide +kernel
theorem dJ11_lowSurrogate_5068e_1 : decode cJ11_lowSurrogate_5068e 1 = .ok (.sipush 1023, 3) := by decide +kernel
theorem dJ11_lowSurrogate_5068e_4 : decode cJ11_lowSurrogate_5068e 4 = .ok (.iand, 1) := by decide +kernel
theorem dJ11_lowSurrogate_5068e_5 : decode cJ11_lowSurrogate_5068e 5 = .ok (.ldc 76, 2) := by decide +kernel
theorem dJ11_lowSurrogate_5068e_7 : decode cJ11_lowSurrogate_5068e 7 = .ok (.iadd, 1) := by decide +kernel
theorem dJ11_lowSurrogate_5068e_8 : decode cJ11_lowSurrogate_5068e 8 = .ok (.i2c, 1) := by decide +kernel
theorem dJ11_lowSurrogate_5068e_9 : decode cJ11_lowSurrogate_5068e 9 = .ok (.ireturn, 1) := by decide +kernel
theorem dJxb5711_init_a7421_0 : decode cJxb5711_init_a7421 0 = .ok (.aload_n 0, 1) := by decide +kernel
theorem dJxb5711_init_a7421_1 : decode cJxb5711_init_a7421 1 = .ok (.aload_n 1, 1) := by decide +kernel
theorem dJxb5711_init_a7421_2 : decode cJxb5711_init_a7421 2 = .ok (.invokespecial 7, 3) := by decide +kernel
theorem dJxb5711_init_a7421_5 : decode cJxb5711_init_a7421 5 = .ok (.return_, 1) := by decide +kernel
theorem dJ9_floorMod_7cf53_0 : decode cJ9_floorMod_7cf53 0 = .ok (.iload_n 0, 1) := by decide +kernel
theorem dJ9_floorMod_7cf53_1 : decode cJ9_floorMod_7cf53 1 = .ok (.iload_n 1, 1) := by decide +kernel
theorem dJ9_floorMod_7cf53_2 : decode cJ9_floorMod_7cf53 2 = .ok (.irem, 1) := by decide +kernel
theorem dJ9_floorMod_7cf53_3 : decode cJ9_floorMod_7cf53 3 = .ok (.istore_n 2, 1) := by decide +kernel
theorem dJ9_floorMod_7cf53_4 : decode cJ9_floorMod_7cf53 4 = .ok (.iload_n 0, 1) := by decide +kernel
theorem dJ9_floorMod_7cf53_5 : decode cJ9_floorMod_7cf53 5 = .ok (.iload_n 1, 1) := by decide +kernel
theorem dJ9_floorMod_7cf53_6 : decode cJ9_floorMod_7cf53 6 = .ok (.ixor, 1) := by decide +kernel
theorem dJ9_floorMod_7cf53_7 : decode cJ9_floorMod_7cf53 7 = .ok (.ifCond .ge 11, 3) := by decide +kernel
theorem dJ9_floorMod_7cf53_10 : decode cJ9_floorMod_7cf53 10 = .ok (.iload_n 2, 1) := by decide +kernel
theorem dJ9_floorMod_7cf53_11 : decode cJ9_floorMod_7cf53 11 = .ok (.ifCond .eq 7, 3) := by decide +kernel
theorem dJ9_floorMod_7cf53_14 : decode cJ9_floorMod_7cf53 14 = .ok (.iload_n 2, 1) := by decide +kernel
theorem dJ9_floorMod_7cf53_15 : decode cJ9_floorMod_7cf53 15 = .ok (.iload_n 1, 1) := by decide +kernel
theorem dJ9_floorMod_7cf53_16 : decode cJ9_floorMod_7cf53 16 = .ok (.iadd, 1) := by decide +kernel
theorem dJ9_floorMod_7cf53_17 : decode cJ9_floorMod_7cf53 17 = .ok (.ireturn, 1) := by decide +kernel
theorem dJ9_floorMod_7cf53_18 : decode cJ9_floorMod_7cf53 18 = .ok (.iload_n 2, 1) := by decide +kernel
theorem dJ9_floorMod_7cf53_19 : decode cJ9_floorMod_7cf53 19 = .ok (.ireturn, 1) := by decide +kernel
theorem dJ9_max_7cf53_0 : decode cJ9_max_7cf53 0 = .ok (.iload_n 0, 1) := by decide +kernel
theorem dJ9_max_7cf53_1 : decode cJ9_max_7cf53 1 = .ok (.iload_n 1, 1) := by decide +kernel
theorem dJ9_max_7cf53_2 : decode cJ9_max_7cf53 2 = .ok (.if_icmp .lt 7, 3) := by decide +kernel
theorem dJ9_max_7cf53_5 : decode cJ9_max_7cf53 5 = .ok (.iload_n 0, 1) := by decide +kernel
theorem dJ9_max_7cf53_6 : decode cJ9_max_7cf53 6 = .ok (.goto 4, 3) := by decide +kernel
theorem dJ9_max_7cf53_9 : decode cJ9_max_7cf53 9 = .ok (.iload_n 1, 1) := by decide +kernel
theorem dJ9_max_7cf53_10 : decode cJ9_max_7cf53 10 = .ok (.ireturn, 1) := by decide +kernel
theorem dJ9_min_7cf53_0 : decode cJ9_min_7cf53 0 = .ok (.iload_n 0, 1) := by decide +kernel
theorem dJ9_min_7cf53_1 : decode cJ9_min_7cf53 1 = .ok (.iload_n 1, 1) := by decide +kernel
theorem dJ9_min_7cf53_2 : decode cJ9_min_7cf53 2 = .ok (.if_icmp .gt 7, 3) := by decide +kernel
theorem dJ9_min_7cf53_5 : decode cJ9_min_7cf53 5 = .ok (.iload_n 0, 1) := by decide +kernel
theorem dJ9_min_7cf53_6 : decode cJ9_min_7cf53 6 = .ok (.goto 4, 3) := by decide +kernel
theorem dJ9_min_7cf53_9 : decode cJ9_min_7cf53 9 = .ok (.iload_n 1, 1) := by decide +kernel
theorem dJ9_min_7cf53_10 : decode cJ9_min_7cf53 10 = .ok (.ireturn, 1) := by decide +kernel
theorem dJ9_min_f86c9_0 : decode cJ9_min_f86c9 0 = .ok (.lload_n 0, 1) := by decide +kernel
theorem dJ9_min_f86c9_1 : decode cJ9_min_f86c9 1 = .ok (.lload_n 2, 1) := by decide +kernel
theorem dJ9_min_f86c9_2 : decode cJ9_min_f86c9 2 = .ok (.lcmp, 1) := by decide +kernel
theorem dJ9_min_f86c9_3 : decode cJ9_min_f86c9 3 = .ok (.ifCond .gt 7, 3) := by decide +kernel
theorem dJ9_min_f86c9_6 : decode cJ9_min_f86c9 6 = .ok (.lload_n 0, 1) := by decide +kernel
theorem dJ9_min_f86c9_7 : decode cJ9_min_f86c9 7 = .ok (.goto 4, 3) := by decide +kernel
theorem dJ9_min_f86c9_10 : decode cJ9_min_f86c9 10 = .ok (.lload_n 2, 1) := by decide +kernel
theorem dJ9_min_f86c9_11 : decode cJ9_min_f86c9 11 = .ok (.lreturn, 1) := by decide +kernel
theorem dJ0_length_8abf5_0 : decode cJ0_length_8abf5 0 = .ok (.aload_n 0, 1) := by decide +kernel
theorem dJ0_length_8abf5_1 : decode cJ0_length_8abf5 1 = .ok (.getfield 9, 3) := by decide +kernel
theorem dJ0_length_8abf5_4 : decode cJ0_length_8abf5 4 = .ok (.arraylength, 1) := by decide +kernel
theorem dJ0_length_8abf5_5 : decode cJ0_length_8abf5 5 = .ok (.aload_n 0, 1) := by decide +kernel
theorem dJ0_length_8abf5_6 : decode cJ0_length_8abf5 6 = .ok (.invokevirtual 335, 3) := by decide +kernel
theorem dJ0_length_8abf5_9 : decode cJ0_length_8abf5 9 = .ok (.ishr, 1) := by decide +kernel
theorem dJ0_length_8abf5_10 : decode cJ0_length_8abf5 10 = .ok (.ireturn, 1) := by decide +kernel
theorem dJ0_indexOf_0f7a4_0 : decode cJ0_indexOf_0f7a4 0 = .ok (.aload_n 0, 1) := by decide +kernel
theorem dJ0_indexOf_0f7a4_1 : decode cJ0_indexOf_0f7a4 1 = .ok (.iload_n 1, 1) := by decide +kernel
theorem dJ0_indexOf_0f7a4_2 : decode cJ0_indexOf_0f7a4 2 = .ok (.iconst 0, 1) := by decide +kernel
theorem dJ0_indexOf_0f7a4_3 : decode cJ0_indexOf_0f7a4 3 = .ok (.invokevirtual 633, 3) := by decide +kernel
theorem dJ0_indexOf_0f7a4_6 : decode cJ0_indexOf_0f7a4 6 = .ok (.ireturn, 1) := by decide +kernel
theorem dJ0_indexOf_7cf53_0 : decode cJ0_indexOf_7cf53 0 = .ok (.aload_n 0, 1) := by decide +kernel
theorem dJ0_indexOf_7cf53_1 : decode cJ0_indexOf_7cf53 1 = .ok (.invokevirtual 492, 3) := by decide +kernel
theorem dJ0_indexOf_7cf53_4 : decode cJ0_indexOf_7cf53 4 = .ok (.ifCond .eq 19, 3) := by decide +kernel
theorem dJ0_indexOf_7cf53_7 : decode cJ0_indexOf_7cf53 7 = .ok (.aload_n 0, 1) := by decide +kernel
theorem dJ0_indexOf_7cf53_8 : decode cJ0_indexOf_7cf53 8 = .ok (.getfield 9, 3) := by decide +kernel
theorem dJ0_indexOf_7cf53_11 : decode cJ0_indexOf_7cf53 11 = .ok (.iload_n 1, 1) := by decide +kernel
theorem dJ0_indexOf_7cf53_12 : decode cJ0_indexOf_7cf53 12 = .ok (.iload_n 2, 1) := by decide +kernel
theorem dJ0_indexOf_7cf53_13 : decode cJ0_indexOf_7cf53 13 = .ok (.aload_n 0, 1) := by decide +kernel
theorem dJ0_indexOf_7cf53_14 : decode cJ0_indexOf_7cf53 14 = .ok (.invokevirtual 505, 3) := by decide +kernel
theorem dJ0_indexOf_7cf53_17 : decode cJ0_indexOf_7cf53 17 = .ok (.invokestatic 637, 3) := by decide +kernel
theorem dJ0_indexOf_7cf53_20 : decode cJ0_indexOf_7cf53 20 = .ok (.goto 16, 3) := by decide +kernel
theorem dJ0_indexOf_7cf53_23 : decode cJ0_indexOf_7cf53 23 = .ok (.aload_n 0, 1) := by decide +kernel
theorem dJ0_indexOf_7cf53_24 : decode cJ0_indexOf_7cf53 24 = .ok (.getfield 9, 3) := by decide +kernel
theorem dJ0_indexOf_7cf53_27 : decode cJ0_indexOf_7cf53 27 = .ok (.iload_n 1, 1) := by decide +kernel
theorem dJ0_indexOf_7cf53_28 : decode cJ0_indexOf_7cf53 28 = .ok (.iload_n 2, 1) := by decide +kernel
theorem dJ0_indexOf_7cf53_29 : decode cJ0_indexOf_7cf53 29 = .ok (.aload_n 0, 1) := by decide +kernel
theorem dJ0_indexOf_7cf53_30 : decode cJ0_indexOf_7cf53 30 = .ok (.invokevirtual 505, 3) := by decide +kernel
theorem dJ0_indexOf_7cf53_33 : decode cJ0_indexOf_7cf53 33 = .ok (.invokestatic 640, 3) := by decide +kernel
theorem dJ0_indexOf_7cf53_36 : decode cJ0_indexOf_7cf53 36 = .ok (.ireturn, 1) := by decide +kernel
theorem dJ0_coder_7d493_0 : decode cJ0_coder_7d493 0 = .ok (.getstatic 38, 3) := by decide +kernel
theorem dJ0_coder_7d493_3 : decode cJ0_coder_7d493 3 = .ok (.ifCond .eq 10, 3) := by decide +kernel
theorem dJ0_coder_7d493_6 : decode cJ0_coder_7d493 6 = .ok (.aload_n 0, 1) := by decide +kernel
theorem dJ0_coder_7d493_7 : decode cJ0_coder_7d493 7 = .ok (.getfield 15, 3) := by decide +kernel
theorem dJ0_coder_7d493_10 : decode cJ0_coder_7d493 10 = .ok (.goto 4, 3) := by decide +kernel
theorem dJ0_coder_7d493_13 : decode cJ0_coder_7d493 13 = .ok (.iconst 1, 1) := by decide +kernel
theorem dJ0_coder_7d493_14 : decode cJ0_coder_7d493 14 = .ok (.ireturn, 1) := by decide +kernel
theorem dJ0_isLatin1_aae02_0 : decode cJ0_isLatin1_aae02 0 = .ok (.getstatic 38, 3) := by decide +kernel
theorem dJ0_isLatin1_aae02_3 : decode cJ0_isLatin1_aae02 3 = .ok (.ifCond .eq 14, 3) := by decide +kernel
theorem dJ0_isLatin1_aae02_6 : decode cJ0_isLatin1_aae02 6 = .ok (.aload_n 0, 1) := by decide +kernel
theorem dJ0_isLatin1_aae02_7 : decode cJ0_isLatin1_aae02 7 = .ok (.getfield 15, 3) := by decide +kernel
theorem dJ0_isLatin1_aae02_10 : decode cJ0_isLatin1_aae02 10 = .ok (.ifCond .ne 7, 3) := by decide +kernel
theorem dJ0_isLatin1_aae02_13 : decode cJ0_isLatin1_aae02 13 = .ok (.iconst 1, 1) := by decide +kernel
theorem dJ0_isLatin1_aae02_14 : decode cJ0_isLatin1_aae02 14 = .ok (.goto 4, 3) := by decide +kernel
theorem dJ0_isLatin1_aae02_17 : decode cJ0_isLatin1_aae02 17 = .ok (.iconst 0, 1) := by decide +kernel
theorem dJ0_isLatin1_aae02_18 : decode cJ0_isLatin1_aae02 18 = .ok (.ireturn, 1) := by decide +kernel
theorem dJ0_checkBoundsBeginEnd_23922_0 : decode cJ0_checkBoundsBeginEnd_23922 0 = .ok (.iload_n 0, 1) := by decide +kernel
theorem dJ0_checkBoundsBeginEnd_23922_1 : decode cJ0_checkBoundsBeginEnd_23922 1 = .ok (.iload_n 1, 1) := by decide +kernel
theorem dJ0_checkBoundsBeginEnd_23922_2 : decode cJ0_checkBoundsBeginEnd_23922 2 = .ok (.iload_n 2, 1) := by decide +kernel
theorem dJ0_checkBoundsBeginEnd_23922_3 : decode cJ0_checkBoundsBeginEnd_23922 3 = .ok (.getstatic 1053, 3) := by decide +kernel
theorem dJ0_checkBoundsBeginEnd_23922_6 : decode cJ0_checkBoundsBeginEnd_23922 6 = .ok (.invokestatic 1062, 3) := by decide +kernel
theorem dJ0_checkBoundsBeginEnd_23922_9 : decode cJ0_checkBoundsBeginEnd_23922 9 = .ok (.pop, 1) := by decide +kernel
theorem dJ0_checkBoundsBeginEnd_23922_10 : decode cJ0_checkBoundsBeginEnd_23922 10 = .ok (.return_, 1) := by decide +kernel
theorem dJ1_canEncode_9a6ad_0 : decode cJ1_canEncode_9a6ad 0 = .ok (.iload_n 0, 1) := by decide +kernel
theorem dJ1_canEncode_9a6ad_1 : decode cJ1_canEncode_9a6ad 1 = .ok (.ifCond .lt 14, 3) := by decide +kernel
theorem dJ1_canEncode_9a6ad_4 : decode cJ1_canEncode_9a6ad 4 = .ok (.iload_n 0, 1) := by decide +kernel
theorem dJ1_canEncode_9a6ad_5 : decode cJ1_canEncode_9a6ad 5 = .ok (.sipush 255, 3) := by decide +kernel
theorem dJ1_canEncode_9a6ad_8 : decode cJ1_canEncode_9a6ad 8 = .ok (.if_icmp .gt 7, 3) := by decide +kernel
theorem dJ1_canEncode_9a6ad_11 : decode cJ1_canEncode_9a6ad 11 = .ok (.iconst 1, 1) := by decide +kernel
theorem dJ1_canEncode_9a6ad_12 : decode cJ1_canEncode_9a6ad 12 = .ok (.goto 4, 3) := by decide +kernel
theorem dJ1_canEncode_9a6ad_15 : decode cJ1_canEncode_9a6ad 15 = .ok (.iconst 0, 1) := by decide +kernel
theorem dJ1_canEncode_9a6ad_16 : decode cJ1_canEncode_9a6ad 16 = .ok (.ireturn, 1) := by decide +kernel
theorem dJ1_indexOf_4cfef_0 : decode cJ1_indexOf_4cfef 0 = .ok (.iload_n 1, 1) := by decide +kernel
theorem dJ1_indexOf_4cfef_1 : decode cJ1_indexOf_4cfef 1 = .ok (.invokestatic 88, 3) := by decide +kernel
theorem dJ1_indexOf_4cfef_4 : decode cJ1_indexOf_4cfef 4 = .ok (.ifCond .ne 5, 3) := by decide +kernel
theorem dJ1_indexOf_4cfef_7 : decode cJ1_indexOf_4cfef 7 = .ok (.iconst (-1), 1) := by decide +kernel
theorem dJ1_indexOf_4cfef_8 : decode cJ1_indexOf_4cfef 8 = .ok (.ireturn, 1) := by decide +kernel
theorem dJ1_indexOf_4cfef_9 : decode cJ1_indexOf_4cfef 9 = .ok (.iload_n 2, 1) := by decide +kernel
theorem dJ1_indexOf_4cfef_10 : decode cJ1_indexOf_4cfef 10 = .ok (.iconst 0, 1) := by decide +kernel
theorem dJ1_indexOf_4cfef_11 : decode cJ1_indexOf_4cfef 11 = .ok (.invokestatic 92, 3) := by decide +kernel
theorem dJ1_indexOf_4cfef_14 : decode cJ1_indexOf_4cfef 14 = .ok (.istore_n 2, 1) := by decide +kernel
theorem dJ1_indexOf_4cfef_15 : decode cJ1_indexOf_4cfef 15 = .ok (.iload_n 3, 1) := by decide +kernel
theorem dJ1_indexOf_4cfef_16 : decode cJ1_indexOf_4cfef 16 = .ok (.aload_n 0, 1) := by decide +kernel
theorem dJ1_indexOf_4cfef_17 : decode cJ1_indexOf_4cfef 17 = .ok (.arraylength, 1) := by decide +kernel
theorem dJ1_indexOf_4cfef_18 : decode cJ1_indexOf_4cfef 18 = .ok (.invokestatic 38, 3) := by decide +kernel
theorem dJ1_indexOf_4cfef_21 : decode cJ1_indexOf_4cfef 21 = .ok (.istore_n 3, 1) := by decide +kernel
theorem dJ1_indexOf_4cfef_22 : decode cJ1_indexOf_4cfef 22 = .ok (.iload_n 2, 1) := by decide +kernel
theorem dJ1_indexOf_4cfef_23 : decode cJ1_indexOf_4cfef 23 = .ok (.iload_n 3, 1) := by decide +kernel
theorem dJ1_indexOf_4cfef_24 : decode cJ1_indexOf_4cfef 24 = .ok (.if_icmp .lt 5, 3) := by decide +kernel
theorem dJ1_indexOf_4cfef_27 : decode cJ1_indexOf_4cfef 27 = .ok (.iconst (-1), 1) := by decide +kernel
theorem dJ1_indexOf_4cfef_28 : decode cJ1_indexOf_4cfef 28 = .ok (.ireturn, 1) := by decide +kernel
theorem dJ1_indexOf_4cfef_29 : decode cJ1_indexOf_4cfef 29 = .ok (.aload_n 0, 1) := by decide +kernel
theorem dJ1_indexOf_4cfef_30 : decode cJ1_indexOf_4cfef 30 = .ok (.iload_n 1, 1) := by decide +kernel
theorem dJ1_indexOf_4cfef_31 : decode cJ1_indexOf_4cfef 31 = .ok (.iload_n 2, 1) := by decide +kernel
theorem dJ1_indexOf_4cfef_32 : decode cJ1_indexOf_4cfef 32 = .ok (.iload_n 3, 1) := by decide +kernel
theorem dJ1_indexOf_4cfef_33 : decode cJ1_indexOf_4cfef 33 = .ok (.invokestatic 95, 3) := by decide +kernel
theorem dJ1_indexOf_4cfef_36 : decode cJ1_indexOf_4cfef 36 = .ok (.ireturn, 1) := by decide +kernel
theorem dJ1_indexOfChar_4cfef_0 : decode cJ1_indexOfChar_4cfef 0 = .ok (.iload_n 1, 1) := by decide +kernel
theorem dJ1_indexOfChar_4cfef_1 : decode cJ1_indexOfChar_4cfef 1 = .ok (.i2b, 1) := by decide +kernel
theorem dJ1_indexOfChar_4cfef_2 : decode cJ1_indexOfChar_4cfef 2 = .ok (.istore 4, 2) := by decide +kernel
theorem dJ1_indexOfChar_4cfef_4 : decode cJ1_indexOfChar_4cfef 4 = .ok (.iload_n 2, 1) := by decide +kernel
theorem dJ1_indexOfChar_4cfef_5 : decode cJ1_indexOfChar_4cfef 5 = .ok (.istore 5, 2) := by decide +kernel
theorem dJ1_indexOfChar_4cfef_7 : decode cJ1_indexOfChar_4cfef 7 = .ok (.iload 5, 2) := by decide +kernel
theorem dJ1_indexOfChar_4cfef_9 : decode cJ1_indexOfChar_4cfef 9 = .ok (.iload_n 3, 1) := by decide +kernel
theorem dJ1_indexOfChar_4cfef_10 : decode cJ1_indexOfChar_4cfef 10 = .ok (.if_icmp .ge 21, 3) := by decide +kernel
theorem dJ1_indexOfChar_4cfef_13 : decode cJ1_indexOfChar_4cfef 13 = .ok (.aload_n 0, 1) := by decide +kernel
theorem dJ1_indexOfChar_4cfef_14 : decode cJ1_indexOfChar_4cfef 14 = .ok (.iload 5, 2) := by decide +kernel
theorem dJ1_indexOfChar_4cfef_16 : decode cJ1_indexOfChar_4cfef 16 = .ok (.baload, 1) := by decide +kernel
theorem dJ1_indexOfChar_4cfef_17 : decode cJ1_indexOfChar_4cfef 17 = .ok (.iload 4, 2) := by decide +kernel
theorem dJ1_indexOfChar_4cfef_19 : decode cJ1_indexOfChar_4cfef 19 = .ok (.if_icmp .ne 6, 3) := by decide +kernel
theorem dJ1_indexOfChar_4cfef_22 : decode cJ1_indexOfChar_4cfef 22 = .ok (.iload 5, 2) := by decide +kernel
theorem dJ1_indexOfChar_4cfef_24 : decode cJ1_indexOfChar_4cfef 24 = .ok (.ireturn, 1) := by decide +kernel
theorem dJ1_indexOfChar_4cfef_25 : decode cJ1_indexOfChar_4cfef 25 = .ok (.iinc 5 1, 3) := by decide +kernel
theorem dJ1_indexOfChar_4cfef_28 : decode cJ1_indexOfChar_4cfef 28 = .ok (.goto (-21), 3) := by decide +kernel
theorem dJ1_indexOfChar_4cfef_31 : decode cJ1_indexOfChar_4cfef 31 = .ok (.iconst (-1), 1) := by decide +kernel
theorem dJ1_indexOfChar_4cfef_32 : decode cJ1_indexOfChar_4cfef 32 = .ok (.ireturn, 1) := by decide +kernel
theorem dJ2_getChar_3b067_0 : decode cJ2_getChar_3b067 0 = .ok (.getstatic 44, 3) := by decide +kernel
theorem dJ2_getChar_3b067_3 : decode cJ2_getChar_3b067 3 = .ok (.ifCond .ne 25, 3) := by decide +kernel
theorem dJ2_getChar_3b067_6 : decode cJ2_getChar_3b067 6 = .ok (.iload_n 1, 1) := by decide +kernel
theorem dJ2_getChar_3b067_7 : decode cJ2_getChar_3b067 7 = .ok (.ifCond .lt 11, 3) := by decide +kernel
theorem dJ2_getChar_3b067_10 : decode cJ2_getChar_3b067 10 = .ok (.iload_n 1, 1) := by decide +kernel
theorem dJ2_getChar_3b067_11 : decode cJ2_getChar_3b067 11 = .ok (.aload_n 0, 1) := by decide +kernel
theorem dJ2_getChar_3b067_12 : decode cJ2_getChar_3b067 12 = .ok (.invokestatic 48, 3) := by decide +kernel
theorem dJ2_getChar_3b067_15 : decode cJ2_getChar_3b067 15 = .ok (.if_icmp .lt 13, 3) := by decide +kernel
theorem dJ2_getChar_3b067_18 : decode cJ2_getChar_3b067 18 = .ok (.new 52, 3) := by decide +kernel
theorem dJ2_getChar_3b067_21 : decode cJ2_getChar_3b067 21 = .ok (.dup, 1) := by decide +kernel
theorem dJ2_getChar_3b067_22 : decode cJ2_getChar_3b067 22 = .ok (.ldc 54, 2) := by decide +kernel
theorem dJ2_getChar_3b067_24 : decode cJ2_getChar_3b067 24 = .ok (.invokespecial 56, 3) := by decide +kernel
theorem dJ2_getChar_3b067_27 : decode cJ2_getChar_3b067 27 = .ok (.athrow, 1) := by decide +kernel
theorem dJ2_getChar_3b067_28 : decode cJ2_getChar_3b067 28 = .ok (.iload_n 1, 1) := by decide +kernel
theorem dJ2_getChar_3b067_29 : decode cJ2_getChar_3b067 29 = .ok (.iconst 1, 1) := by decide +kernel
theorem dJ2_getChar_3b067_30 : decode cJ2_getChar_3b067 30 = .ok (.ishl, 1) := by decide +kernel
theorem dJ2_getChar_3b067_31 : decode cJ2_getChar_3b067 31 = .ok (.istore_n 1, 1) := by decide +kernel
theorem dJ2_getChar_3b067_32 : decode cJ2_getChar_3b067 32 = .ok (.aload_n 0, 1) := by decide +kernel
theorem dJ2_getChar_3b067_33 : decode cJ2_getChar_3b067 33 = .ok (.iload_n 1, 1) := by decide +kernel
theorem dJ2_getChar_3b067_34 : decode cJ2_getChar_3b067 34 = .ok (.iinc 1 1, 3) := by decide +kernel
theorem dJ2_getChar_3b067_37 : decode cJ2_getChar_3b067 37 = .ok (.baload, 1) := by decide +kernel
theorem dJ2_getChar_3b067_38 : decode cJ2_getChar_3b067 38 = .ok (.sipush 255, 3) := by decide +kernel
theorem dJ2_getChar_3b067_41 : decode cJ2_getChar_3b067 41 = .ok (.iand, 1) := by decide +kernel
theorem dJ2_getChar_3b067_42 : decode cJ2_getChar_3b067 42 = .ok (.getstatic 59, 3) := by decide +kernel
theorem dJ2_getChar_3b067_45 : decode cJ2_getChar_3b067 45 = .ok (.ishl, 1) := by decide +kernel
theorem dJ2_getChar_3b067_46 : decode cJ2_getChar_3b067 46 = .ok (.aload_n 0, 1) := by decide +kernel
theorem dJ2_getChar_3b067_47 : decode cJ2_getChar_3b067 47 = .ok (.iload_n 1, 1) := by decide +kernel
theorem dJ2_getChar_3b067_48 : decode cJ2_getChar_3b067 48 = .ok (.baload, 1) := by decide +kernel
theorem dJ2_getChar_3b067_49 : decode cJ2_getChar_3b067 49 = .ok (.sipush 255, 3) := by decide +kernel
theorem dJ2_getChar_3b067_52 : decode cJ2_getChar_3b067 52 = .ok (.iand, 1) := by decide +kernel
theorem dJ2_getChar_3b067_53 : decode cJ2_getChar_3b067 53 = .ok (.getstatic 63, 3) := by decide +kernel
theorem dJ2_getChar_3b067_56 : decode cJ2_getChar_3b067 56 = .ok (.ishl, 1) := by decide +kernel
theorem dJ2_getChar_3b067_57 : decode cJ2_getChar_3b067 57 = .ok (.ior, 1) := by decide +kernel
theorem dJ2_getChar_3b067_58 : decode cJ2_getChar_3b067 58 = .ok (.i2c, 1) := by decide +kernel
theorem dJ2_getChar_3b067_59 : decode cJ2_getChar_3b067 59 = .ok (.ireturn, 1) := by decide +kernel
theorem dJ2_length_9d52b_0 : decode cJ2_length_9d52b 0 = .ok (.aload_n 0, 1) := by decide +kernel
theorem dJ2_length_9d52b_1 : decode cJ2_length_9d52b 1 = .ok (.arraylength, 1) := by decide +kernel
theorem dJ2_length_9d52b_2 : decode cJ2_length_9d52b 2 = .ok (.iconst 1, 1) := by decide +kernel
theorem dJ2_length_9d52b_3 : decode cJ2_length_9d52b 3 = .ok (.ishr, 1) := by decide +kernel
theorem dJ2_length_9d52b_4 : decode cJ2_length_9d52b 4 = .ok (.ireturn, 1) := by decide +kernel
theorem dJ2_indexOf_4cfef_0 : decode cJ2_indexOf_4cfef 0 = .ok (.iload_n 2, 1) := by decide +kernel
theorem dJ2_indexOf_4cfef_1 : decode cJ2_indexOf_4cfef 1 = .ok (.iconst 0, 1) := by decide +kernel
theorem dJ2_indexOf_4cfef_2 : decode cJ2_indexOf_4cfef 2 = .ok (.invokestatic 224, 3) := by decide +kernel
theorem dJ2_indexOf_4cfef_5 : decode cJ2_indexOf_4cfef 5 = .ok (.istore_n 2, 1) := by decide +kernel
theorem dJ2_indexOf_4cfef_6 : decode cJ2_indexOf_4cfef 6 = .ok (.iload_n 3, 1) := by decide +kernel
theorem dJ2_indexOf_4cfef_7 : decode cJ2_indexOf_4cfef 7 = .ok (.aload_n 0, 1) := by decide +kernel
theorem dJ2_indexOf_4cfef_8 : decode cJ2_indexOf_4cfef 8 = .ok (.arraylength, 1) := by decide +kernel
theorem dJ2_indexOf_4cfef_9 : decode cJ2_indexOf_4cfef 9 = .ok (.iconst 1, 1) := by decide +kernel
theorem dJ2_indexOf_4cfef_10 : decode cJ2_indexOf_4cfef 10 = .ok (.ishr, 1) := by decide +kernel
theorem dJ2_indexOf_4cfef_11 : decode cJ2_indexOf_4cfef 11 = .ok (.invokestatic 183, 3) := by decide +kernel
theorem dJ2_indexOf_4cfef_14 : decode cJ2_indexOf_4cfef 14 = .ok (.istore_n 3, 1) := by decide +kernel
theorem dJ2_indexOf_4cfef_15 : decode cJ2_indexOf_4cfef 15 = .ok (.iload_n 2, 1) := by decide +kernel
theorem dJ2_indexOf_4cfef_16 : decode cJ2_indexOf_4cfef 16 = .ok (.iload_n 3, 1) := by decide +kernel
theorem dJ2_indexOf_4cfef_17 : decode cJ2_indexOf_4cfef 17 = .ok (.if_icmp .lt 5, 3) := by decide +kernel
theorem dJ2_indexOf_4cfef_20 : decode cJ2_indexOf_4cfef 20 = .ok (.iconst (-1), 1) := by decide +kernel
theorem dJ2_indexOf_4cfef_21 : decode cJ2_indexOf_4cfef 21 = .ok (.ireturn, 1) := by decide +kernel
theorem dJ2_indexOf_4cfef_22 : decode cJ2_indexOf_4cfef 22 = .ok (.iload_n 1, 1) := by decide +kernel
theorem dJ2_indexOf_4cfef_23 : decode cJ2_indexOf_4cfef 23 = .ok (.ldc 227, 2) := by decide +kernel
theorem dJ2_indexOf_4cfef_25 : decode cJ2_indexOf_4cfef 25 = .ok (.if_icmp .ge 11, 3) := by decide +kernel
theorem dJ2_indexOf_4cfef_28 : decode cJ2_indexOf_4cfef 28 = .ok (.aload_n 0, 1) := by decide +kernel
theorem dJ2_indexOf_4cfef_29 : decode cJ2_indexOf_4cfef 29 = .ok (.iload_n 1, 1) := by decide +kernel
theorem dJ2_indexOf_4cfef_30 : decode cJ2_indexOf_4cfef 30 = .ok (.iload_n 2, 1) := by decide +kernel
theorem dJ2_indexOf_4cfef_31 : decode cJ2_indexOf_4cfef 31 = .ok (.iload_n 3, 1) := by decide +kernel
theorem dJ2_indexOf_4cfef_32 : decode cJ2_indexOf_4cfef 32 = .ok (.invokestatic 228, 3) := by decide +kernel
theorem dJ2_indexOf_4cfef_35 : decode cJ2_indexOf_4cfef 35 = .ok (.ireturn, 1) := by decide +kernel
theorem dJ2_indexOf_4cfef_36 : decode cJ2_indexOf_4cfef 36 = .ok (.aload_n 0, 1) := by decide +kernel
theorem dJ2_indexOf_4cfef_37 : decode cJ2_indexOf_4cfef 37 = .ok (.iload_n 1, 1) := by decide +kernel
theorem dJ2_indexOf_4cfef_38 : decode cJ2_indexOf_4cfef 38 = .ok (.iload_n 2, 1) := by decide +kernel
theorem dJ2_indexOf_4cfef_39 : decode cJ2_indexOf_4cfef 39 = .ok (.iload_n 3, 1) := by decide +kernel
theorem dJ2_indexOf_4cfef_40 : decode cJ2_indexOf_4cfef 40 = .ok (.invokestatic 232, 3) := by decide +kernel
theorem dJ2_indexOf_4cfef_43 : decode cJ2_indexOf_4cfef 43 = .ok (.ireturn, 1) := by decide +kernel
theorem dJ2_indexOfChar_4cfef_0 : decode cJ2_indexOfChar_4cfef 0 = .ok (.iload_n 2, 1) := by decide +kernel
theorem dJ2_indexOfChar_4cfef_1 : decode cJ2_indexOfChar_4cfef 1 = .ok (.iload_n 3, 1) := by decide +kernel
theorem dJ2_indexOfChar_4cfef_2 : decode cJ2_indexOfChar_4cfef 2 = .ok (.aload_n 0, 1) := by decide +kernel
theorem dJ2_indexOfChar_4cfef_3 : decode cJ2_indexOfChar_4cfef 3 = .ok (.invokestatic 96, 3) := by decide +kernel
theorem dJ2_indexOfChar_4cfef_6 : decode cJ2_indexOfChar_4cfef 6 = .ok (.aload_n 0, 1) := by decide +kernel
theorem dJ2_indexOfChar_4cfef_7 : decode cJ2_indexOfChar_4cfef 7 = .ok (.iload_n 1, 1) := by decide +kernel
theorem dJ2_indexOfChar_4cfef_8 : decode cJ2_indexOfChar_4cfef 8 = .ok (.iload_n 2, 1) := by decide +kernel
theorem dJ2_indexOfChar_4cfef_9 : decode cJ2_indexOfChar_4cfef 9 = .ok (.iload_n 3, 1) := by decide +kernel
theorem dJ2_indexOfChar_4cfef_10 : decode cJ2_indexOfChar_4cfef 10 = .ok (.invokestatic 244, 3) := by decide +kernel
theorem dJ2_indexOfChar_4cfef_13 : decode cJ2_indexOfChar_4cfef 13 = .ok (.ireturn, 1) := by decide +kernel
theorem dJ2_indexOfCharUnsafe_4cfef_0 : decode cJ2_indexOfCharUnsafe_4cfef 0 = .ok (.iload_n 2, 1) := by decide +kernel
theorem dJ2_indexOfCharUnsafe_4cfef_1 : decode cJ2_indexOfCharUnsafe_4cfef 1 = .ok (.istore 4, 2) := by decide +kernel
theorem dJ2_indexOfCharUnsafe_4cfef_3 : decode cJ2_indexOfCharUnsafe_4cfef 3 = .ok (.iload 4, 2) := by decide +kernel
theorem dJ2_indexOfCharUnsafe_4cfef_5 : decode cJ2_indexOfCharUnsafe_4cfef 5 = .ok (.iload_n 3, 1) := by decide +kernel
theorem dJ2_indexOfCharUnsafe_4cfef_6 : decode cJ2_indexOfCharUnsafe_4cfef 6 = .ok (.if_icmp .ge 22, 3) := by decide +kernel
theorem dJ2_indexOfCharUnsafe_4cfef_9 : decode cJ2_indexOfCharUnsafe_4cfef 9 = .ok (.aload_n 0, 1) := by decide +kernel
theorem dJ2_indexOfCharUnsafe_4cfef_10 : decode cJ2_indexOfCharUnsafe_4cfef 10 = .ok (.iload 4, 2) := by decide +kernel
theorem dJ2_indexOfCharUnsafe_4cfef_12 : decode cJ2_indexOfCharUnsafe_4cfef 12 = .ok (.invokestatic 71, 3) := by decide +kernel
theorem dJ2_indexOfCharUnsafe_4cfef_15 : decode cJ2_indexOfCharUnsafe_4cfef 15 = .ok (.iload_n 1, 1) := by decide +kernel
theorem dJ2_indexOfCharUnsafe_4cfef_16 : decode cJ2_indexOfCharUnsafe_4cfef 16 = .ok (.if_icmp .ne 6, 3) := by decide +kernel
theorem dJ2_indexOfCharUnsafe_4cfef_19 : decode cJ2_indexOfCharUnsafe_4cfef 19 = .ok (.iload 4, 2) := by decide +kernel
theorem dJ2_indexOfCharUnsafe_4cfef_21 : decode cJ2_indexOfCharUnsafe_4cfef 21 = .ok (.ireturn, 1) := by decide +kernel
theorem dJ2_indexOfCharUnsafe_4cfef_22 : decode cJ2_indexOfCharUnsafe_4cfef 22 = .ok (.iinc 4 1, 3) := by decide +kernel
theorem dJ2_indexOfCharUnsafe_4cfef_25 : decode cJ2_indexOfCharUnsafe_4cfef 25 = .ok (.goto (-22), 3) := by decide +kernel
theorem dJ2_indexOfCharUnsafe_4cfef_28 : decode cJ2_indexOfCharUnsafe_4cfef 28 = .ok (.iconst (-1), 1) := by decide +kernel
theorem dJ2_indexOfCharUnsafe_4cfef_29 : decode cJ2_indexOfCharUnsafe_4cfef 29 = .ok (.ireturn, 1) := by decide +kernel
theorem dJ2_indexOfSupplementary_4cfef_0 : decode cJ2_indexOfSupplementary_4cfef 0 = .ok (.iload_n 1, 1) := by decide +kernel
theorem dJ2_indexOfSupplementary_4cfef_1 : decode cJ2_indexOfSupplementary_4cfef 1 = .ok (.invokestatic 164, 3) := by decide +kernel
theorem dJ2_indexOfSupplementary_4cfef_4 : decode cJ2_indexOfSupplementary_4cfef 4 = .ok (.ifCond .eq 65, 3) := by decide +kernel
theorem dJ2_indexOfSupplementary_4cfef_7 : decode cJ2_indexOfSupplementary_4cfef 7 = .ok (.iload_n 1, 1) := by decide +kernel
theorem dJ2_indexOfSupplementary_4cfef_8 : decode cJ2_indexOfSupplementary_4cfef 8 = .ok (.invokestatic 157, 3) := by decide +kernel
theorem dJ2_indexOfSupplementary_4cfef_11 : decode cJ2_indexOfSupplementary_4cfef 11 = .ok (.istore 4, 2) := by decide +kernel
theorem dJ2_indexOfSupplementary_4cfef_13 : decode cJ2_indexOfSupplementary_4cfef 13 = .ok (.iload_n 1, 1) := by decide +kernel
theorem dJ2_indexOfSupplementary_4cfef_14 : decode cJ2_indexOfSupplementary_4cfef 14 = .ok (.invokestatic 161, 3) := by decide +kernel
theorem dJ2_indexOfSupplementary_4cfef_17 : decode cJ2_indexOfSupplementary_4cfef 17 = .ok (.istore 5, 2) := by decide +kernel
theorem dJ2_indexOfSupplementary_4cfef_19 : decode cJ2_indexOfSupplementary_4cfef 19 = .ok (.iload_n 2, 1) := by decide +kernel
theorem dJ2_indexOfSupplementary_4cfef_20 : decode cJ2_indexOfSupplementary_4cfef 20 = .ok (.iload_n 3, 1) := by decide +kernel
theorem dJ2_indexOfSupplementary_4cfef_21 : decode cJ2_indexOfSupplementary_4cfef 21 = .ok (.aload_n 0, 1) := by decide +kernel
theorem dJ2_indexOfSupplementary_4cfef_22 : decode cJ2_indexOfSupplementary_4cfef 22 = .ok (.invokestatic 96, 3) := by decide +kernel
theorem dJ2_indexOfSupplementary_4cfef_25 : decode cJ2_indexOfSupplementary_4cfef 25 = .ok (.iload_n 2, 1) := by decide +kernel
theorem dJ2_indexOfSupplementary_4cfef_26 : decode cJ2_indexOfSupplementary_4cfef 26 = .ok (.istore 6, 2) := by decide +kernel
theorem dJ2_indexOfSupplementary_4cfef_28 : decode cJ2_indexOfSupplementary_4cfef 28 = .ok (.iload 6, 2) := by decide +kernel
theorem dJ2_indexOfSupplementary_4cfef_30 : decode cJ2_indexOfSupplementary_4cfef 30 = .ok (.iload_n 3, 1) := by decide +kernel
theorem dJ2_indexOfSupplementary_4cfef_31 : decode cJ2_indexOfSupplementary_4cfef 31 = .ok (.iconst 1, 1) := by decide +kernel
theorem dJ2_indexOfSupplementary_4cfef_32 : decode cJ2_indexOfSupplementary_4cfef 32 = .ok (.isub, 1) := by decide +kernel
theorem dJ2_indexOfSupplementary_4cfef_33 : decode cJ2_indexOfSupplementary_4cfef 33 = .ok (.if_icmp .ge 36, 3) := by decide +kernel
theorem dJ2_indexOfSupplementary_4cfef_36 : decode cJ2_indexOfSupplementary_4cfef 36 = .ok (.aload_n 0, 1) := by decide +kernel
theorem dJ2_indexOfSupplementary_4cfef_37 : decode cJ2_indexOfSupplementary_4cfef 37 = .ok (.iload 6, 2) := by decide +kernel
theorem dJ2_indexOfSupplementary_4cfef_39 : decode cJ2_indexOfSupplementary_4cfef 39 = .ok (.invokestatic 71, 3) := by decide +kernel
theorem dJ2_indexOfSupplementary_4cfef_42 : decode cJ2_indexOfSupplementary_4cfef 42 = .ok (.iload 4, 2) := by decide +kernel
theorem dJ2_indexOfSupplementary_4cfef_44 : decode cJ2_indexOfSupplementary_4cfef 44 = .ok (.if_icmp .ne 19, 3) := by decide +kernel
theorem dJ2_indexOfSupplementary_4cfef_47 : decode cJ2_indexOfSupplementary_4cfef 47 = .ok (.aload_n 0, 1) := by decide +kernel
theorem dJ2_indexOfSupplementary_4cfef_48 : decode cJ2_indexOfSupplementary_4cfef 48 = .ok (.iload 6, 2) := by decide +kernel
theorem dJ2_indexOfSupplementary_4cfef_50 : decode cJ2_indexOfSupplementary_4cfef 50 = .ok (.iconst 1, 1) := by decide +kernel
theorem dJ2_indexOfSupplementary_4cfef_51 : decode cJ2_indexOfSupplementary_4cfef 51 = .ok (.iadd, 1) := by decide +kernel
theorem dJ2_indexOfSupplementary_4cfef_52 : decode cJ2_indexOfSupplementary_4cfef 52 = .ok (.invokestatic 71, 3) := by decide +kernel
theorem dJ2_indexOfSupplementary_4cfef_55 : decode cJ2_indexOfSupplementary_4cfef 55 = .ok (.iload 5, 2) := by decide +kernel
theorem dJ2_indexOfSupplementary_4cfef_57 : decode cJ2_indexOfSupplementary_4cfef 57 = .ok (.if_icmp .ne 6, 3) := by decide +kernel
theorem dJ2_indexOfSupplementary_4cfef_60 : decode cJ2_indexOfSupplementary_4cfef 60 = .ok (.iload 6, 2) := by decide +kernel
theorem dJ2_indexOfSupplementary_4cfef_62 : decode cJ2_indexOfSupplementary_4cfef 62 = .ok (.ireturn, 1) := by decide +kernel
theorem dJ2_indexOfSupplementary_4cfef_63 : decode cJ2_indexOfSupplementary_4cfef 63 = .ok (.iinc 6 1, 3) := by decide +kernel
theorem dJ2_indexOfSupplementary_4cfef_66 : decode cJ2_indexOfSupplementary_4cfef 66 = .ok (.goto (-38), 3) := by decide +kernel
theorem dJ2_indexOfSupplementary_4cfef_69 : decode cJ2_indexOfSupplementary_4cfef 69 = .ok (.iconst (-1), 1) := by decide +kernel
theorem dJ2_indexOfSupplementary_4cfef_70 : decode cJ2_indexOfSupplementary_4cfef 70 = .ok (.ireturn, 1) := by decide +kernel
theorem dJ2_checkBoundsBeginEnd_d044e_0 : decode cJ2_checkBoundsBeginEnd_d044e 0 = .ok (.iload_n 0, 1) := by decide +kernel
theorem dJ2_checkBoundsBeginEnd_d044e_1 : decode cJ2_checkBoundsBeginEnd_d044e 1 = .ok (.iload_n 1, 1) := by decide +kernel
theorem dJ2_checkBoundsBeginEnd_d044e_2 : decode cJ2_checkBoundsBeginEnd_d044e 2 = .ok (.aload_n 2, 1) := by decide +kernel
theorem dJ2_checkBoundsBeginEnd_d044e_3 : decode cJ2_checkBoundsBeginEnd_d044e 3 = .ok (.invokestatic 48, 3) := by decide +kernel
theorem dJ2_checkBoundsBeginEnd_d044e_6 : decode cJ2_checkBoundsBeginEnd_d044e 6 = .ok (.invokestatic 241, 3) := by decide +kernel
theorem dJ2_checkBoundsBeginEnd_d044e_9 : decode cJ2_checkBoundsBeginEnd_d044e 9 = .ok (.return_, 1) := by decide +kernel
theorem dJ7_fill_53178_0 : decode cJ7_fill_53178 0 = .ok (.iconst 0, 1) := by decide +kernel
theorem dJ7_fill_53178_1 : decode cJ7_fill_53178 1 = .ok (.istore_n 2, 1) := by decide +kernel
theorem dJ7_fill_53178_2 : decode cJ7_fill_53178 2 = .ok (.aload_n 0, 1) := by decide +kernel
theorem dJ7_fill_53178_3 : decode cJ7_fill_53178 3 = .ok (.arraylength, 1) := by decide +kernel
theorem dJ7_fill_53178_4 : decode cJ7_fill_53178 4 = .ok (.istore_n 3, 1) := by decide +kernel
theorem dJ7_fill_53178_5 : decode cJ7_fill_53178 5 = .ok (.iload_n 2, 1) := by decide +kernel
theorem dJ7_fill_53178_6 : decode cJ7_fill_53178 6 = .ok (.iload_n 3, 1) := by decide +kernel
theorem dJ7_fill_53178_7 : decode cJ7_fill_53178 7 = .ok (.if_icmp .ge 13, 3) := by decide +kernel
theorem dJ7_fill_53178_10 : decode cJ7_fill_53178 10 = .ok (.aload_n 0, 1) := by decide +kernel
theorem dJ7_fill_53178_11 : decode cJ7_fill_53178 11 = .ok (.iload_n 2, 1) := by decide +kernel
theorem dJ7_fill_53178_12 : decode cJ7_fill_53178 12 = .ok (.iload_n 1, 1) := by decide +kernel
theorem dJ7_fill_53178_13 : decode cJ7_fill_53178 13 = .ok (.iastore, 1) := by decide +kernel
theorem dJ7_fill_53178_14 : decode cJ7_fill_53178 14 = .ok (.iinc 2 1, 3) := by decide +kernel
theorem dJ7_fill_53178_17 : decode cJ7_fill_53178 17 = .ok (.goto (-12), 3) := by decide +kernel
theorem dJ7_fill_53178_20 : decode cJ7_fill_53178 20 = .ok (.return_, 1) := by decide +kernel
theorem dJ3_checkFromToIndex_8c36e_0 : decode cJ3_checkFromToIndex_8c36e 0 = .ok (.iload_n 0, 1) := by decide +kernel
theorem dJ3_checkFromToIndex_8c36e_1 : decode cJ3_checkFromToIndex_8c36e 1 = .ok (.ifCond .lt 13, 3) := by decide +kernel
theorem dJ3_checkFromToIndex_8c36e_4 : decode cJ3_checkFromToIndex_8c36e 4 = .ok (.iload_n 0, 1) := by decide +kernel
theorem dJ3_checkFromToIndex_8c36e_5 : decode cJ3_checkFromToIndex_8c36e 5 = .ok (.iload_n 1, 1) := by decide +kernel
theorem dJ3_checkFromToIndex_8c36e_6 : decode cJ3_checkFromToIndex_8c36e 6 = .ok (.if_icmp .gt 8, 3) := by decide +kernel
theorem dJ3_checkFromToIndex_8c36e_9 : decode cJ3_checkFromToIndex_8c36e 9 = .ok (.iload_n 1, 1) := by decide +kernel
theorem dJ3_checkFromToIndex_8c36e_10 : decode cJ3_checkFromToIndex_8c36e 10 = .ok (.iload_n 2, 1) := by decide +kernel
theorem dJ3_checkFromToIndex_8c36e_11 : decode cJ3_checkFromToIndex_8c36e 11 = .ok (.if_icmp .le 11, 3) := by decide +kernel
theorem dJ3_checkFromToIndex_8c36e_14 : decode cJ3_checkFromToIndex_8c36e 14 = .ok (.aload_n 3, 1) := by decide +kernel
theorem dJ3_checkFromToIndex_8c36e_15 : decode cJ3_checkFromToIndex_8c36e 15 = .ok (.iload_n 0, 1) := by decide +kernel
theorem dJ3_checkFromToIndex_8c36e_16 : decode cJ3_checkFromToIndex_8c36e 16 = .ok (.iload_n 1, 1) := by decide +kernel
theorem dJ3_checkFromToIndex_8c36e_17 : decode cJ3_checkFromToIndex_8c36e 17 = .ok (.iload_n 2, 1) := by decide +kernel
theorem dJ3_checkFromToIndex_8c36e_18 : decode cJ3_checkFromToIndex_8c36e 18 = .ok (.invokestatic 99, 3) := by decide +kernel
theorem dJ3_checkFromToIndex_8c36e_21 : decode cJ3_checkFromToIndex_8c36e 21 = .ok (.athrow, 1) := by decide +kernel
theorem dJ3_checkFromToIndex_8c36e_22 : decode cJ3_checkFromToIndex_8c36e 22 = .ok (.iload_n 0, 1) := by decide +kernel
theorem dJ3_checkFromToIndex_8c36e_23 : decode cJ3_checkFromToIndex_8c36e 23 = .ok (.ireturn, 1) := by decide +kernel
