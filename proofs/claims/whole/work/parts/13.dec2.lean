theorem dX12_init_0 : decode cX12_init 0 = .ok (.aload_n 0, 1) := by decide +kernel
theorem dX12_init_1 : decode cX12_init 1 = .ok (.invokespecial 3, 3) := by decide +kernel
theorem dX12_init_4 : decode cX12_init 4 = .ok (.aload_n 0, 1) := by decide +kernel
theorem dX12_init_5 : decode cX12_init 5 = .ok (.sipush 2000, 3) := by decide +kernel
theorem dX12_init_8 : decode cX12_init 8 = .ok (.newarray .byte, 2) := by decide +kernel
theorem dX12_init_10 : decode cX12_init 10 = .ok (.putfield 9, 3) := by decide +kernel
theorem dX12_init_13 : decode cX12_init 13 = .ok (.aload_n 0, 1) := by decide +kernel
theorem dX12_init_14 : decode cX12_init 14 = .ok (.iconst (-1), 1) := by decide +kernel
theorem dX12_init_15 : decode cX12_init 15 = .ok (.putfield 13, 3) := by decide +kernel
theorem dX12_init_18 : decode cX12_init 18 = .ok (.aload_n 0, 1) := by decide +kernel
theorem dX12_init_19 : decode cX12_init 19 = .ok (.bipush 32, 2) := by decide +kernel
theorem dX12_init_21 : decode cX12_init 21 = .ok (.newarray .int, 2) := by decide +kernel
theorem dX12_init_23 : decode cX12_init 23 = .ok (.putfield 17, 3) := by decide +kernel
theorem dX12_init_26 : decode cX12_init 26 = .ok (.aload_n 0, 1) := by decide +kernel
theorem dX12_init_27 : decode cX12_init 27 = .ok (.sipush 2000, 3) := by decide +kernel
theorem dX12_init_30 : decode cX12_init 30 = .ok (.newarray .byte, 2) := by decide +kernel
theorem dX12_init_32 : decode cX12_init 32 = .ok (.putfield 21, 3) := by decide +kernel
theorem dX12_init_35 : decode cX12_init 35 = .ok (.aload_n 0, 1) := by decide +kernel
theorem dX12_init_36 : decode cX12_init 36 = .ok (.sipush 2001, 3) := by decide +kernel
theorem dX12_init_39 : decode cX12_init 39 = .ok (.newarray .int, 2) := by decide +kernel
theorem dX12_init_41 : decode cX12_init 41 = .ok (.putfield 24, 3) := by decide +kernel
theorem dX12_init_44 : decode cX12_init 44 = .ok (.aload_n 0, 1) := by decide +kernel
theorem dX12_init_45 : decode cX12_init 45 = .ok (.sipush 2001, 3) := by decide +kernel
theorem dX12_init_48 : decode cX12_init 48 = .ok (.newarray .int, 2) := by decide +kernel
theorem dX12_init_50 : decode cX12_init 50 = .ok (.putfield 27, 3) := by decide +kernel
theorem dX12_init_53 : decode cX12_init 53 = .ok (.aload_n 0, 1) := by decide +kernel
theorem dX12_init_54 : decode cX12_init 54 = .ok (.sipush 2001, 3) := by decide +kernel
theorem dX12_init_57 : decode cX12_init 57 = .ok (.newarray .int, 2) := by decide +kernel
theorem dX12_init_59 : decode cX12_init 59 = .ok (.putfield 30, 3) := by decide +kernel
theorem dX12_init_62 : decode cX12_init 62 = .ok (.aload_n 0, 1) := by decide +kernel
theorem dX12_init_63 : decode cX12_init 63 = .ok (.new 33, 3) := by decide +kernel
theorem dX12_init_66 : decode cX12_init 66 = .ok (.dup, 1) := by decide +kernel
theorem dX12_init_67 : decode cX12_init 67 = .ok (.ldc 35, 2) := by decide +kernel
theorem dX12_init_69 : decode cX12_init 69 = .ok (.invokespecial 37, 3) := by decide +kernel
theorem dX12_init_72 : decode cX12_init 72 = .ok (.putfield 40, 3) := by decide +kernel
theorem dX12_init_75 : decode cX12_init 75 = .ok (.aload_n 0, 1) := by decide +kernel
theorem dX12_init_76 : decode cX12_init 76 = .ok (.new 43, 3) := by decide +kernel
theorem dX12_init_79 : decode cX12_init 79 = .ok (.dup, 1) := by decide +kernel
theorem dX12_init_80 : decode cX12_init 80 = .ok (.invokespecial 45, 3) := by decide +kernel
theorem dX12_init_83 : decode cX12_init 83 = .ok (.putfield 46, 3) := by decide +kernel
theorem dX12_init_86 : decode cX12_init 86 = .ok (.aload_n 0, 1) := by decide +kernel
theorem dX12_init_87 : decode cX12_init 87 = .ok (.new 43, 3) := by decide +kernel
theorem dX12_init_90 : decode cX12_init 90 = .ok (.dup, 1) := by decide +kernel
theorem dX12_init_91 : decode cX12_init 91 = .ok (.invokespecial 45, 3) := by decide +kernel
theorem dX12_init_94 : decode cX12_init 94 = .ok (.putfield 50, 3) := by decide +kernel
theorem dX12_init_97 : decode cX12_init 97 = .ok (.aload_n 0, 1) := by decide +kernel
theorem dX12_init_98 : decode cX12_init 98 = .ok (.sipush 2000, 3) := by decide +kernel
theorem dX12_init_101 : decode cX12_init 101 = .ok (.newarray .int, 2) := by decide +kernel
theorem dX12_init_103 : decode cX12_init 103 = .ok (.putfield 53, 3) := by decide +kernel
theorem dX12_init_106 : decode cX12_init 106 = .ok (.aload_n 0, 1) := by decide +kernel
theorem dX12_init_107 : decode cX12_init 107 = .ok (.sipush 2000, 3) := by decide +kernel
theorem dX12_init_110 : decode cX12_init 110 = .ok (.newarray .int, 2) := by decide +kernel
theorem dX12_init_112 : decode cX12_init 112 = .ok (.putfield 56, 3) := by decide +kernel
theorem dX12_init_115 : decode cX12_init 115 = .ok (.aload_n 0, 1) := by decide +kernel
theorem dX12_init_116 : decode cX12_init 116 = .ok (.sipush 2000, 3) := by decide +kernel
theorem dX12_init_119 : decode cX12_init 119 = .ok (.newarray .int, 2) := by decide +kernel
theorem dX12_init_121 : decode cX12_init 121 = .ok (.putfield 59, 3) := by decide +kernel
theorem dX12_init_124 : decode cX12_init 124 = .ok (.aload_n 0, 1) := by decide +kernel
theorem dX12_init_125 : decode cX12_init 125 = .ok (.sipush 2048, 3) := by decide +kernel
theorem dX12_init_128 : decode cX12_init 128 = .ok (.newarray .int, 2) := by decide +kernel
theorem dX12_init_130 : decode cX12_init 130 = .ok (.putfield 62, 3) := by decide +kernel
theorem dX12_init_133 : decode cX12_init 133 = .ok (.aload_n 0, 1) := by decide +kernel
theorem dX12_init_134 : decode cX12_init 134 = .ok (.iconst 4, 1) := by decide +kernel
theorem dX12_init_135 : decode cX12_init 135 = .ok (.newarray .int, 2) := by decide +kernel
theorem dX12_init_137 : decode cX12_init 137 = .ok (.putfield 65, 3) := by decide +kernel
theorem dX12_init_140 : decode cX12_init 140 = .ok (.aload_n 0, 1) := by decide +kernel
theorem dX12_init_141 : decode cX12_init 141 = .ok (.sipush 2016, 3) := by decide +kernel
theorem dX12_init_144 : decode cX12_init 144 = .ok (.newarray .int, 2) := by decide +kernel
theorem dX12_init_146 : decode cX12_init 146 = .ok (.putfield 68, 3) := by decide +kernel
theorem dX12_init_149 : decode cX12_init 149 = .ok (.aload_n 0, 1) := by decide +kernel
theorem dX12_init_150 : decode cX12_init 150 = .ok (.sipush 600, 3) := by decide +kernel
theorem dX12_init_153 : decode cX12_init 153 = .ok (.newarray .int, 2) := by decide +kernel
theorem dX12_init_155 : decode cX12_init 155 = .ok (.putfield 71, 3) := by decide +kernel
theorem dX12_init_158 : decode cX12_init 158 = .ok (.aload_n 0, 1) := by decide +kernel
theorem dX12_init_159 : decode cX12_init 159 = .ok (.sipush 2000, 3) := by decide +kernel
theorem dX12_init_162 : decode cX12_init 162 = .ok (.newarray .int, 2) := by decide +kernel
theorem dX12_init_164 : decode cX12_init 164 = .ok (.putfield 74, 3) := by decide +kernel
theorem dX12_init_167 : decode cX12_init 167 = .ok (.aload_n 0, 1) := by decide +kernel
theorem dX12_init_168 : decode cX12_init 168 = .ok (.sipush 2000, 3) := by decide +kernel
theorem dX12_init_171 : decode cX12_init 171 = .ok (.newarray .int, 2) := by decide +kernel
theorem dX12_init_173 : decode cX12_init 173 = .ok (.putfield 77, 3) := by decide +kernel
theorem dX12_init_176 : decode cX12_init 176 = .ok (.aload_n 0, 1) := by decide +kernel
theorem dX12_init_177 : decode cX12_init 177 = .ok (.sipush 2000, 3) := by decide +kernel
theorem dX12_init_180 : decode cX12_init 180 = .ok (.newarray .int, 2) := by decide +kernel
theorem dX12_init_182 : decode cX12_init 182 = .ok (.putfield 80, 3) := by decide +kernel
theorem dX12_init_185 : decode cX12_init 185 = .ok (.return_, 1) := by decide +kernel
theorem dX12_thrown_0 : decode cX12_thrown 0 = .ok (.aload_n 0, 1) := by decide +kernel
theorem dX12_thrown_1 : decode cX12_thrown 1 = .ok (.getfield 83, 3) := by decide +kernel
theorem dX12_thrown_4 : decode cX12_thrown 4 = .ok (.ireturn, 1) := by decide +kernel
theorem dX12_feed_0 : decode cX12_feed 0 = .ok (.aload_n 0, 1) := by decide +kernel
theorem dX12_feed_1 : decode cX12_feed 1 = .ok (.iconst 0, 1) := by decide +kernel
theorem dX12_feed_2 : decode cX12_feed 2 = .ok (.putfield 83, 3) := by decide +kernel
theorem dX12_feed_5 : decode cX12_feed 5 = .ok (.aload_n 0, 1) := by decide +kernel
theorem dX12_feed_6 : decode cX12_feed 6 = .ok (.getfield 86, 3) := by decide +kernel
theorem dX12_feed_9 : decode cX12_feed 9 = .ok (.bipush 20, 2) := by decide +kernel
theorem dX12_feed_11 : decode cX12_feed 11 = .ok (.iadd, 1) := by decide +kernel
theorem dX12_feed_12 : decode cX12_feed 12 = .ok (.sipush 2000, 3) := by decide +kernel
theorem dX12_feed_15 : decode cX12_feed 15 = .ok (.if_icmp .le 5, 3) := by decide +kernel
theorem dX12_feed_18 : decode cX12_feed 18 = .ok (.iconst (-1), 1) := by decide +kernel
theorem dX12_feed_19 : decode cX12_feed 19 = .ok (.ireturn, 1) := by decide +kernel
theorem dX12_feed_20 : decode cX12_feed 20 = .ok (.aload_n 0, 1) := by decide +kernel
theorem dX12_feed_21 : decode cX12_feed 21 = .ok (.iload_n 1, 1) := by decide +kernel
theorem dX12_feed_22 : decode cX12_feed 22 = .ok (.invokevirtual 89, 3) := by decide +kernel
theorem dX12_feed_25 : decode cX12_feed 25 = .ok (.aload_n 0, 1) := by decide +kernel
theorem dX12_feed_26 : decode cX12_feed 26 = .ok (.iload_n 2, 1) := by decide +kernel
theorem dX12_feed_27 : decode cX12_feed 27 = .ok (.invokevirtual 89, 3) := by decide +kernel
theorem dX12_feed_30 : decode cX12_feed 30 = .ok (.aload_n 0, 1) := by decide +kernel
theorem dX12_feed_31 : decode cX12_feed 31 = .ok (.iload_n 3, 1) := by decide +kernel
theorem dX12_feed_32 : decode cX12_feed 32 = .ok (.invokevirtual 89, 3) := by decide +kernel
theorem dX12_feed_35 : decode cX12_feed 35 = .ok (.aload_n 0, 1) := by decide +kernel
theorem dX12_feed_36 : decode cX12_feed 36 = .ok (.iload 4, 2) := by decide +kernel
theorem dX12_feed_38 : decode cX12_feed 38 = .ok (.invokevirtual 89, 3) := by decide +kernel
theorem dX12_feed_41 : decode cX12_feed 41 = .ok (.aload_n 0, 1) := by decide +kernel
theorem dX12_feed_42 : decode cX12_feed 42 = .ok (.iload 5, 2) := by decide +kernel
theorem dX12_feed_44 : decode cX12_feed 44 = .ok (.invokevirtual 89, 3) := by decide +kernel
theorem dX12_feed_47 : decode cX12_feed 47 = .ok (.aload_n 0, 1) := by decide +kernel
theorem dX12_feed_48 : decode cX12_feed 48 = .ok (.getfield 86, 3) := by decide +kernel
theorem dX12_feed_51 : decode cX12_feed 51 = .ok (.ireturn, 1) := by decide +kernel
theorem dX12_four_0 : decode cX12_four 0 = .ok (.bipush 24, 2) := by decide +kernel
theorem dX12_four_2 : decode cX12_four 2 = .ok (.istore_n 2, 1) := by decide +kernel
theorem dX12_four_3 : decode cX12_four 3 = .ok (.iload_n 2, 1) := by decide +kernel
theorem dX12_four_4 : decode cX12_four 4 = .ok (.ifCond .lt 32, 3) := by decide +kernel
theorem dX12_four_7 : decode cX12_four 7 = .ok (.aload_n 0, 1) := by decide +kernel
theorem dX12_four_8 : decode cX12_four 8 = .ok (.getfield 9, 3) := by decide +kernel
theorem dX12_four_11 : decode cX12_four 11 = .ok (.aload_n 0, 1) := by decide +kernel
theorem dX12_four_12 : decode cX12_four 12 = .ok (.getfield 86, 3) := by decide +kernel
theorem dX12_four_15 : decode cX12_four 15 = .ok (.iload_n 1, 1) := by decide +kernel
theorem dX12_four_16 : decode cX12_four 16 = .ok (.iload_n 2, 1) := by decide +kernel
theorem dX12_four_17 : decode cX12_four 17 = .ok (.ishr, 1) := by decide +kernel
theorem dX12_four_18 : decode cX12_four 18 = .ok (.i2b, 1) := by decide +kernel
theorem dX12_four_19 : decode cX12_four 19 = .ok (.bastore, 1) := by decide +kernel
theorem dX12_four_20 : decode cX12_four 20 = .ok (.aload_n 0, 1) := by decide +kernel
theorem dX12_four_21 : decode cX12_four 21 = .ok (.dup, 1) := by decide +kernel
theorem dX12_four_22 : decode cX12_four 22 = .ok (.getfield 86, 3) := by decide +kernel
theorem dX12_four_25 : decode cX12_four 25 = .ok (.iconst 1, 1) := by decide +kernel
theorem dX12_four_26 : decode cX12_four 26 = .ok (.iadd, 1) := by decide +kernel
theorem dX12_four_27 : decode cX12_four 27 = .ok (.putfield 86, 3) := by decide +kernel
theorem dX12_four_30 : decode cX12_four 30 = .ok (.iinc 2 (-8), 3) := by decide +kernel
theorem dX12_four_33 : decode cX12_four 33 = .ok (.goto (-30), 3) := by decide +kernel
theorem dX12_four_36 : decode cX12_four 36 = .ok (.return_, 1) := by decide +kernel
theorem dX12_isSmall_0 : decode cX12_isSmall 0 = .ok (.iload_n 0, 1) := by decide +kernel
theorem dX12_isSmall_1 : decode cX12_isSmall 1 = .ok (.bipush 97, 2) := by decide +kernel
theorem dX12_isSmall_3 : decode cX12_isSmall 3 = .ok (.if_icmp .lt 13, 3) := by decide +kernel
theorem dX12_isSmall_6 : decode cX12_isSmall 6 = .ok (.iload_n 0, 1) := by decide +kernel
theorem dX12_isSmall_7 : decode cX12_isSmall 7 = .ok (.bipush 122, 2) := by decide +kernel
theorem dX12_isSmall_9 : decode cX12_isSmall 9 = .ok (.if_icmp .gt 7, 3) := by decide +kernel
theorem dX12_isSmall_12 : decode cX12_isSmall 12 = .ok (.iconst 1, 1) := by decide +kernel
theorem dX12_isSmall_13 : decode cX12_isSmall 13 = .ok (.goto 4, 3) := by decide +kernel
theorem dX12_isSmall_16 : decode cX12_isSmall 16 = .ok (.iconst 0, 1) := by decide +kernel
theorem dX12_isSmall_17 : decode cX12_isSmall 17 = .ok (.ireturn, 1) := by decide +kernel
theorem dX12_isDigit_0 : decode cX12_isDigit 0 = .ok (.iload_n 0, 1) := by decide +kernel
theorem dX12_isDigit_1 : decode cX12_isDigit 1 = .ok (.bipush 48, 2) := by decide +kernel
theorem dX12_isDigit_3 : decode cX12_isDigit 3 = .ok (.if_icmp .lt 13, 3) := by decide +kernel
theorem dX12_isDigit_6 : decode cX12_isDigit 6 = .ok (.iload_n 0, 1) := by decide +kernel
theorem dX12_isDigit_7 : decode cX12_isDigit 7 = .ok (.bipush 57, 2) := by decide +kernel
theorem dX12_isDigit_9 : decode cX12_isDigit 9 = .ok (.if_icmp .gt 7, 3) := by decide +kernel
theorem dX12_isDigit_12 : decode cX12_isDigit 12 = .ok (.iconst 1, 1) := by decide +kernel
theorem dX12_isDigit_13 : decode cX12_isDigit 13 = .ok (.goto 4, 3) := by decide +kernel
theorem dX12_isDigit_16 : decode cX12_isDigit 16 = .ok (.iconst 0, 1) := by decide +kernel
theorem dX12_isDigit_17 : decode cX12_isDigit 17 = .ok (.ireturn, 1) := by decide +kernel
theorem dX12_byteAt_0 : decode cX12_byteAt 0 = .ok (.iload_n 1, 1) := by decide +kernel
theorem dX12_byteAt_1 : decode cX12_byteAt 1 = .ok (.aload_n 0, 1) := by decide +kernel
theorem dX12_byteAt_2 : decode cX12_byteAt 2 = .ok (.getfield 93, 3) := by decide +kernel
theorem dX12_byteAt_5 : decode cX12_byteAt 5 = .ok (.if_icmp .ge 16, 3) := by decide +kernel
theorem dX12_byteAt_8 : decode cX12_byteAt 8 = .ok (.aload_n 0, 1) := by decide +kernel
theorem dX12_byteAt_9 : decode cX12_byteAt 9 = .ok (.getfield 21, 3) := by decide +kernel
theorem dX12_byteAt_12 : decode cX12_byteAt 12 = .ok (.iload_n 1, 1) := by decide +kernel
theorem dX12_byteAt_13 : decode cX12_byteAt 13 = .ok (.baload, 1) := by decide +kernel
theorem dX12_byteAt_14 : decode cX12_byteAt 14 = .ok (.sipush 255, 3) := by decide +kernel
theorem dX12_byteAt_17 : decode cX12_byteAt 17 = .ok (.iand, 1) := by decide +kernel
theorem dX12_byteAt_18 : decode cX12_byteAt 18 = .ok (.goto 4, 3) := by decide +kernel
theorem dX12_byteAt_21 : decode cX12_byteAt 21 = .ok (.iconst 0, 1) := by decide +kernel
theorem dX12_byteAt_22 : decode cX12_byteAt 22 = .ok (.ireturn, 1) := by decide +kernel
theorem dX12_token_0 : decode cX12_token 0 = .ok (.aload_n 0, 1) := by decide +kernel
theorem dX12_token_1 : decode cX12_token 1 = .ok (.getfield 24, 3) := by decide +kernel
theorem dX12_token_4 : decode cX12_token 4 = .ok (.aload_n 0, 1) := by decide +kernel
theorem dX12_token_5 : decode cX12_token 5 = .ok (.getfield 96, 3) := by decide +kernel
theorem dX12_token_8 : decode cX12_token 8 = .ok (.iload_n 1, 1) := by decide +kernel
theorem dX12_token_9 : decode cX12_token 9 = .ok (.iastore, 1) := by decide +kernel
theorem dX12_token_10 : decode cX12_token 10 = .ok (.aload_n 0, 1) := by decide +kernel
theorem dX12_token_11 : decode cX12_token 11 = .ok (.getfield 27, 3) := by decide +kernel
theorem dX12_token_14 : decode cX12_token 14 = .ok (.aload_n 0, 1) := by decide +kernel
theorem dX12_token_15 : decode cX12_token 15 = .ok (.getfield 96, 3) := by decide +kernel
theorem dX12_token_18 : decode cX12_token 18 = .ok (.iload_n 2, 1) := by decide +kernel
theorem dX12_token_19 : decode cX12_token 19 = .ok (.iastore, 1) := by decide +kernel
theorem dX12_token_20 : decode cX12_token 20 = .ok (.aload_n 0, 1) := by decide +kernel
theorem dX12_token_21 : decode cX12_token 21 = .ok (.getfield 30, 3) := by decide +kernel
theorem dX12_token_24 : decode cX12_token 24 = .ok (.aload_n 0, 1) := by decide +kernel
theorem dX12_token_25 : decode cX12_token 25 = .ok (.getfield 96, 3) := by decide +kernel
theorem dX12_token_28 : decode cX12_token 28 = .ok (.iload_n 3, 1) := by decide +kernel
theorem dX12_token_29 : decode cX12_token 29 = .ok (.iastore, 1) := by decide +kernel
theorem dX12_token_30 : decode cX12_token 30 = .ok (.aload_n 0, 1) := by decide +kernel
theorem dX12_token_31 : decode cX12_token 31 = .ok (.dup, 1) := by decide +kernel
theorem dX12_token_32 : decode cX12_token 32 = .ok (.getfield 96, 3) := by decide +kernel
theorem dX12_token_35 : decode cX12_token 35 = .ok (.iconst 1, 1) := by decide +kernel
theorem dX12_token_36 : decode cX12_token 36 = .ok (.iadd, 1) := by decide +kernel
theorem dX12_token_37 : decode cX12_token 37 = .ok (.putfield 96, 3) := by decide +kernel
theorem dX12_token_40 : decode cX12_token 40 = .ok (.return_, 1) := by decide +kernel
theorem dX12_isWord_0 : decode cX12_isWord 0 = .ok (.lconst 0, 1) := by decide +kernel
theorem dX12_isWord_1 : decode cX12_isWord 1 = .ok (.lstore 5, 2) := by decide +kernel
theorem dX12_isWord_3 : decode cX12_isWord 3 = .ok (.iconst 0, 1) := by decide +kernel
theorem dX12_isWord_4 : decode cX12_isWord 4 = .ok (.istore 7, 2) := by decide +kernel
theorem dX12_isWord_6 : decode cX12_isWord 6 = .ok (.iload 7, 2) := by decide +kernel
theorem dX12_isWord_8 : decode cX12_isWord 8 = .ok (.iload_n 2, 1) := by decide +kernel
theorem dX12_isWord_9 : decode cX12_isWord 9 = .ok (.if_icmp .ge 26, 3) := by decide +kernel
theorem dX12_isWord_12 : decode cX12_isWord 12 = .ok (.lload 5, 2) := by decide +kernel
theorem dX12_isWord_14 : decode cX12_isWord 14 = .ok (.bipush 8, 2) := by decide +kernel
theorem dX12_isWord_16 : decode cX12_isWord 16 = .ok (.lshl, 1) := by decide +kernel
theorem dX12_isWord_17 : decode cX12_isWord 17 = .ok (.aload_n 0, 1) := by decide +kernel
theorem dX12_isWord_18 : decode cX12_isWord 18 = .ok (.iload_n 1, 1) := by decide +kernel
theorem dX12_isWord_19 : decode cX12_isWord 19 = .ok (.iload 7, 2) := by decide +kernel
theorem dX12_isWord_21 : decode cX12_isWord 21 = .ok (.iadd, 1) := by decide +kernel
theorem dX12_isWord_22 : decode cX12_isWord 22 = .ok (.invokevirtual 99, 3) := by decide +kernel
theorem dX12_isWord_25 : decode cX12_isWord 25 = .ok (.i2l, 1) := by decide +kernel
theorem dX12_isWord_26 : decode cX12_isWord 26 = .ok (.lor, 1) := by decide +kernel
theorem dX12_isWord_27 : decode cX12_isWord 27 = .ok (.lstore 5, 2) := by decide +kernel
theorem dX12_isWord_29 : decode cX12_isWord 29 = .ok (.iinc 7 1, 3) := by decide +kernel
theorem dX12_isWord_32 : decode cX12_isWord 32 = .ok (.goto (-26), 3) := by decide +kernel
theorem dX12_isWord_35 : decode cX12_isWord 35 = .ok (.lload 5, 2) := by decide +kernel
theorem dX12_isWord_37 : decode cX12_isWord 37 = .ok (.lload_n 3, 1) := by decide +kernel
theorem dX12_isWord_38 : decode cX12_isWord 38 = .ok (.lcmp, 1) := by decide +kernel
theorem dX12_isWord_39 : decode cX12_isWord 39 = .ok (.ifCond .ne 7, 3) := by decide +kernel
theorem dX12_isWord_42 : decode cX12_isWord 42 = .ok (.iconst 1, 1) := by decide +kernel
theorem dX12_isWord_43 : decode cX12_isWord 43 = .ok (.goto 4, 3) := by decide +kernel
theorem dX12_isWord_46 : decode cX12_isWord 46 = .ok (.iconst 0, 1) := by decide +kernel
theorem dX12_isWord_47 : decode cX12_isWord 47 = .ok (.ireturn, 1) := by decide +kernel
theorem dX12_wordOf_0 : decode cX12_wordOf 0 = .ok (.aload_n 0, 1) := by decide +kernel
theorem dX12_wordOf_1 : decode cX12_wordOf 1 = .ok (.iload_n 1, 1) := by decide +kernel
theorem dX12_wordOf_2 : decode cX12_wordOf 2 = .ok (.iload_n 2, 1) := by decide +kernel
theorem dX12_wordOf_3 : decode cX12_wordOf 3 = .ok (.ldc2_w 103, 3) := by decide +kernel
theorem dX12_wordOf_6 : decode cX12_wordOf 6 = .ok (.invokevirtual 105, 3) := by decide +kernel
theorem dX12_wordOf_9 : decode cX12_wordOf 9 = .ok (.ifCond .eq 5, 3) := by decide +kernel
theorem dX12_wordOf_12 : decode cX12_wordOf 12 = .ok (.iconst 5, 1) := by decide +kernel
theorem dX12_wordOf_13 : decode cX12_wordOf 13 = .ok (.ireturn, 1) := by decide +kernel
theorem dX12_wordOf_14 : decode cX12_wordOf 14 = .ok (.aload_n 0, 1) := by decide +kernel
theorem dX12_wordOf_15 : decode cX12_wordOf 15 = .ok (.iload_n 1, 1) := by decide +kernel
theorem dX12_wordOf_16 : decode cX12_wordOf 16 = .ok (.iload_n 2, 1) := by decide +kernel
theorem dX12_wordOf_17 : decode cX12_wordOf 17 = .ok (.ldc2_w 109, 3) := by decide +kernel
theorem dX12_wordOf_20 : decode cX12_wordOf 20 = .ok (.invokevirtual 105, 3) := by decide +kernel
theorem dX12_wordOf_23 : decode cX12_wordOf 23 = .ok (.ifCond .eq 6, 3) := by decide +kernel
theorem dX12_wordOf_26 : decode cX12_wordOf 26 = .ok (.bipush 6, 2) := by decide +kernel
theorem dX12_wordOf_28 : decode cX12_wordOf 28 = .ok (.ireturn, 1) := by decide +kernel
theorem dX12_wordOf_29 : decode cX12_wordOf 29 = .ok (.aload_n 0, 1) := by decide +kernel
theorem dX12_wordOf_30 : decode cX12_wordOf 30 = .ok (.iload_n 1, 1) := by decide +kernel
theorem dX12_wordOf_31 : decode cX12_wordOf 31 = .ok (.iload_n 2, 1) := by decide +kernel
theorem dX12_wordOf_32 : decode cX12_wordOf 32 = .ok (.ldc2_w 111, 3) := by decide +kernel
theorem dX12_wordOf_35 : decode cX12_wordOf 35 = .ok (.invokevirtual 105, 3) := by decide +kernel
theorem dX12_wordOf_38 : decode cX12_wordOf 38 = .ok (.ifCond .eq 6, 3) := by decide +kernel
theorem dX12_wordOf_41 : decode cX12_wordOf 41 = .ok (.bipush 7, 2) := by decide +kernel
theorem dX12_wordOf_43 : decode cX12_wordOf 43 = .ok (.ireturn, 1) := by decide +kernel
theorem dX12_wordOf_44 : decode cX12_wordOf 44 = .ok (.aload_n 0, 1) := by decide +kernel
theorem dX12_wordOf_45 : decode cX12_wordOf 45 = .ok (.iload_n 1, 1) := by decide +kernel
theorem dX12_wordOf_46 : decode cX12_wordOf 46 = .ok (.iload_n 2, 1) := by decide +kernel
theorem dX12_wordOf_47 : decode cX12_wordOf 47 = .ok (.ldc2_w 113, 3) := by decide +kernel
theorem dX12_wordOf_50 : decode cX12_wordOf 50 = .ok (.invokevirtual 105, 3) := by decide +kernel
theorem dX12_wordOf_53 : decode cX12_wordOf 53 = .ok (.ifCond .eq 6, 3) := by decide +kernel
theorem dX12_wordOf_56 : decode cX12_wordOf 56 = .ok (.bipush 8, 2) := by decide +kernel
theorem dX12_wordOf_58 : decode cX12_wordOf 58 = .ok (.ireturn, 1) := by decide +kernel
theorem dX12_wordOf_59 : decode cX12_wordOf 59 = .ok (.aload_n 0, 1) := by decide +kernel
theorem dX12_wordOf_60 : decode cX12_wordOf 60 = .ok (.iload_n 1, 1) := by decide +kernel
theorem dX12_wordOf_61 : decode cX12_wordOf 61 = .ok (.iload_n 2, 1) := by decide +kernel
theorem dX12_wordOf_62 : decode cX12_wordOf 62 = .ok (.ldc2_w 115, 3) := by decide +kernel
theorem dX12_wordOf_65 : decode cX12_wordOf 65 = .ok (.invokevirtual 105, 3) := by decide +kernel
theorem dX12_wordOf_68 : decode cX12_wordOf 68 = .ok (.ifCond .eq 6, 3) := by decide +kernel
theorem dX12_wordOf_71 : decode cX12_wordOf 71 = .ok (.bipush 9, 2) := by decide +kernel
theorem dX12_wordOf_73 : decode cX12_wordOf 73 = .ok (.ireturn, 1) := by decide +kernel
theorem dX12_wordOf_74 : decode cX12_wordOf 74 = .ok (.aload_n 0, 1) := by decide +kernel
theorem dX12_wordOf_75 : decode cX12_wordOf 75 = .ok (.iload_n 1, 1) := by decide +kernel
theorem dX12_wordOf_76 : decode cX12_wordOf 76 = .ok (.iload_n 2, 1) := by decide +kernel
theorem dX12_wordOf_77 : decode cX12_wordOf 77 = .ok (.ldc2_w 117, 3) := by decide +kernel
theorem dX12_wordOf_80 : decode cX12_wordOf 80 = .ok (.invokevirtual 105, 3) := by decide +kernel
theorem dX12_wordOf_83 : decode cX12_wordOf 83 = .ok (.ifCond .eq 6, 3) := by decide +kernel
theorem dX12_wordOf_86 : decode cX12_wordOf 86 = .ok (.bipush 10, 2) := by decide +kernel
theorem dX12_wordOf_88 : decode cX12_wordOf 88 = .ok (.ireturn, 1) := by decide +kernel
theorem dX12_wordOf_89 : decode cX12_wordOf 89 = .ok (.aload_n 0, 1) := by decide +kernel
theorem dX12_wordOf_90 : decode cX12_wordOf 90 = .ok (.iload_n 1, 1) := by decide +kernel
theorem dX12_wordOf_91 : decode cX12_wordOf 91 = .ok (.iload_n 2, 1) := by decide +kernel
theorem dX12_wordOf_92 : decode cX12_wordOf 92 = .ok (.ldc2_w 119, 3) := by decide +kernel
theorem dX12_wordOf_95 : decode cX12_wordOf 95 = .ok (.invokevirtual 105, 3) := by decide +kernel
theorem dX12_wordOf_98 : decode cX12_wordOf 98 = .ok (.ifCond .eq 6, 3) := by decide +kernel
theorem dX12_wordOf_101 : decode cX12_wordOf 101 = .ok (.bipush 11, 2) := by decide +kernel
theorem dX12_wordOf_103 : decode cX12_wordOf 103 = .ok (.ireturn, 1) := by decide +kernel
theorem dX12_wordOf_104 : decode cX12_wordOf 104 = .ok (.iconst 2, 1) := by decide +kernel
theorem dX12_wordOf_105 : decode cX12_wordOf 105 = .ok (.ireturn, 1) := by decide +kernel
theorem dX12_signAt_0 : decode cX12_signAt 0 = .ok (.aload_n 0, 1) := by decide +kernel
theorem dX12_signAt_1 : decode cX12_signAt 1 = .ok (.iload_n 1, 1) := by decide +kernel
theorem dX12_signAt_2 : decode cX12_signAt 2 = .ok (.invokevirtual 99, 3) := by decide +kernel
theorem dX12_signAt_5 : decode cX12_signAt 5 = .ok (.istore_n 2, 1) := by decide +kernel
theorem dX12_signAt_6 : decode cX12_signAt 6 = .ok (.aload_n 0, 1) := by decide +kernel
theorem dX12_signAt_7 : decode cX12_signAt 7 = .ok (.iload_n 1, 1) := by decide +kernel
theorem dX12_signAt_8 : decode cX12_signAt 8 = .ok (.iconst 1, 1) := by decide +kernel
theorem dX12_signAt_9 : decode cX12_signAt 9 = .ok (.iadd, 1) := by decide +kernel
theorem dX12_signAt_10 : decode cX12_signAt 10 = .ok (.invokevirtual 99, 3) := by decide +kernel
theorem dX12_signAt_13 : decode cX12_signAt 13 = .ok (.istore_n 3, 1) := by decide +kernel
theorem dX12_signAt_14 : decode cX12_signAt 14 = .ok (.iload_n 2, 1) := by decide +kernel
theorem dX12_signAt_15 : decode cX12_signAt 15 = .ok (.bipush 61, 2) := by decide +kernel
theorem dX12_signAt_17 : decode cX12_signAt 17 = .ok (.if_icmp .eq 21, 3) := by decide +kernel
theorem dX12_signAt_20 : decode cX12_signAt 20 = .ok (.iload_n 2, 1) := by decide +kernel
theorem dX12_signAt_21 : decode cX12_signAt 21 = .ok (.bipush 33, 2) := by decide +kernel
theorem dX12_signAt_23 : decode cX12_signAt 23 = .ok (.if_icmp .eq 15, 3) := by decide +kernel
theorem dX12_signAt_26 : decode cX12_signAt 26 = .ok (.iload_n 2, 1) := by decide +kernel
theorem dX12_signAt_27 : decode cX12_signAt 27 = .ok (.bipush 60, 2) := by decide +kernel
theorem dX12_signAt_29 : decode cX12_signAt 29 = .ok (.if_icmp .eq 9, 3) := by decide +kernel
theorem dX12_signAt_32 : decode cX12_signAt 32 = .ok (.iload_n 2, 1) := by decide +kernel
theorem dX12_signAt_33 : decode cX12_signAt 33 = .ok (.bipush 62, 2) := by decide +kernel
theorem dX12_signAt_35 : decode cX12_signAt 35 = .ok (.if_icmp .ne 16, 3) := by decide +kernel
theorem dX12_signAt_38 : decode cX12_signAt 38 = .ok (.iload_n 3, 1) := by decide +kernel
theorem dX12_signAt_39 : decode cX12_signAt 39 = .ok (.bipush 61, 2) := by decide +kernel
theorem dX12_signAt_41 : decode cX12_signAt 41 = .ok (.if_icmp .ne 10, 3) := by decide +kernel
theorem dX12_signAt_44 : decode cX12_signAt 44 = .ok (.iload_n 2, 1) := by decide +kernel
theorem dX12_signAt_45 : decode cX12_signAt 45 = .ok (.bipush 8, 2) := by decide +kernel
theorem dX12_signAt_47 : decode cX12_signAt 47 = .ok (.ishl, 1) := by decide +kernel
theorem dX12_signAt_48 : decode cX12_signAt 48 = .ok (.iload_n 3, 1) := by decide +kernel
theorem dX12_signAt_49 : decode cX12_signAt 49 = .ok (.ior, 1) := by decide +kernel
theorem dX12_signAt_50 : decode cX12_signAt 50 = .ok (.ireturn, 1) := by decide +kernel
theorem dX12_signAt_51 : decode cX12_signAt 51 = .ok (.iload_n 2, 1) := by decide +kernel
theorem dX12_signAt_52 : decode cX12_signAt 52 = .ok (.bipush 60, 2) := by decide +kernel
theorem dX12_signAt_54 : decode cX12_signAt 54 = .ok (.if_icmp .eq 21, 3) := by decide +kernel
theorem dX12_signAt_57 : decode cX12_signAt 57 = .ok (.iload_n 2, 1) := by decide +kernel
theorem dX12_signAt_58 : decode cX12_signAt 58 = .ok (.bipush 62, 2) := by decide +kernel
theorem dX12_signAt_60 : decode cX12_signAt 60 = .ok (.if_icmp .eq 15, 3) := by decide +kernel
theorem dX12_signAt_63 : decode cX12_signAt 63 = .ok (.iload_n 2, 1) := by decide +kernel
theorem dX12_signAt_64 : decode cX12_signAt 64 = .ok (.bipush 38, 2) := by decide +kernel
theorem dX12_signAt_66 : decode cX12_signAt 66 = .ok (.if_icmp .eq 9, 3) := by decide +kernel
theorem dX12_signAt_69 : decode cX12_signAt 69 = .ok (.iload_n 2, 1) := by decide +kernel
theorem dX12_signAt_70 : decode cX12_signAt 70 = .ok (.bipush 124, 2) := by decide +kernel
theorem dX12_signAt_72 : decode cX12_signAt 72 = .ok (.if_icmp .ne 15, 3) := by decide +kernel
theorem dX12_signAt_75 : decode cX12_signAt 75 = .ok (.iload_n 3, 1) := by decide +kernel
theorem dX12_signAt_76 : decode cX12_signAt 76 = .ok (.iload_n 2, 1) := by decide +kernel
theorem dX12_signAt_77 : decode cX12_signAt 77 = .ok (.if_icmp .ne 10, 3) := by decide +kernel
theorem dX12_signAt_80 : decode cX12_signAt 80 = .ok (.iload_n 2, 1) := by decide +kernel
theorem dX12_signAt_81 : decode cX12_signAt 81 = .ok (.bipush 8, 2) := by decide +kernel
theorem dX12_signAt_83 : decode cX12_signAt 83 = .ok (.ishl, 1) := by decide +kernel
theorem dX12_signAt_84 : decode cX12_signAt 84 = .ok (.iload_n 3, 1) := by decide +kernel
theorem dX12_signAt_85 : decode cX12_signAt 85 = .ok (.ior, 1) := by decide +kernel
theorem dX12_signAt_86 : decode cX12_signAt 86 = .ok (.ireturn, 1) := by decide +kernel
theorem dX12_signAt_87 : decode cX12_signAt 87 = .ok (.iload_n 2, 1) := by decide +kernel
theorem dX12_signAt_88 : decode cX12_signAt 88 = .ok (.tableswitch 394 33 126 #[392, 394, 394, 394, 392, 392, 394, 392, 392, 392, 392, 392, 392, 394, 392, 394, 394, 394, 394, 394, 394, 394, 394, 394, 394, 394, 392, 392, 392, 392, 394, 394, 394, 394, 394, 394, 394, 394, 394, 394, 394, 394, 394, 394, 394, 394, 394, 394, 394, 394, 394, 394, 394, 394, 394, 394, 394, 394, 392, 394, 392, 392, 394, 394, 394, 394, 394, 394, 394, 394, 394, 394, 394, 394, 394, 394, 394, 394, 394, 394, 394, 394, 394, 394, 394, 394, 394, 394, 394, 394, 392, 392, 392, 392], 392) := by decide +kernel
theorem dX12_signAt_480 : decode cX12_signAt 480 = .ok (.iload_n 2, 1) := by decide +kernel
theorem dX12_signAt_481 : decode cX12_signAt 481 = .ok (.ireturn, 1) := by decide +kernel
theorem dX12_signAt_482 : decode cX12_signAt 482 = .ok (.iconst 0, 1) := by decide +kernel
theorem dX12_signAt_483 : decode cX12_signAt 483 = .ok (.ireturn, 1) := by decide +kernel
theorem dX12_scans_0 : decode cX12_scans 0 = .ok (.aload_n 0, 1) := by decide +kernel
theorem dX12_scans_1 : decode cX12_scans 1 = .ok (.iconst 0, 1) := by decide +kernel
theorem dX12_scans_2 : decode cX12_scans 2 = .ok (.putfield 96, 3) := by decide +kernel
theorem dX12_scans_5 : decode cX12_scans 5 = .ok (.iconst 0, 1) := by decide +kernel
theorem dX12_scans_6 : decode cX12_scans 6 = .ok (.istore_n 1, 1) := by decide +kernel
theorem dX12_scans_7 : decode cX12_scans 7 = .ok (.iconst 1, 1) := by decide +kernel
theorem dX12_scans_8 : decode cX12_scans 8 = .ok (.istore_n 2, 1) := by decide +kernel
theorem dX12_scans_9 : decode cX12_scans 9 = .ok (.iload_n 2, 1) := by decide +kernel
theorem dX12_scans_10 : decode cX12_scans 10 = .ok (.ifCond .eq 287, 3) := by decide +kernel
theorem dX12_scans_13 : decode cX12_scans 13 = .ok (.iload_n 1, 1) := by decide +kernel
theorem dX12_scans_14 : decode cX12_scans 14 = .ok (.aload_n 0, 1) := by decide +kernel
theorem dX12_scans_15 : decode cX12_scans 15 = .ok (.getfield 93, 3) := by decide +kernel
theorem dX12_scans_18 : decode cX12_scans 18 = .ok (.if_icmp .ge 31, 3) := by decide +kernel
theorem dX12_scans_21 : decode cX12_scans 21 = .ok (.aload_n 0, 1) := by decide +kernel
theorem dX12_scans_22 : decode cX12_scans 22 = .ok (.getfield 21, 3) := by decide +kernel
theorem dX12_scans_25 : decode cX12_scans 25 = .ok (.iload_n 1, 1) := by decide +kernel
theorem dX12_scans_26 : decode cX12_scans 26 = .ok (.baload, 1) := by decide +kernel
theorem dX12_scans_27 : decode cX12_scans 27 = .ok (.bipush 32, 2) := by decide +kernel
theorem dX12_scans_29 : decode cX12_scans 29 = .ok (.if_icmp .eq 14, 3) := by decide +kernel
theorem dX12_scans_32 : decode cX12_scans 32 = .ok (.aload_n 0, 1) := by decide +kernel
theorem dX12_scans_33 : decode cX12_scans 33 = .ok (.getfield 21, 3) := by decide +kernel
theorem dX12_scans_36 : decode cX12_scans 36 = .ok (.iload_n 1, 1) := by decide +kernel
theorem dX12_scans_37 : decode cX12_scans 37 = .ok (.baload, 1) := by decide +kernel
theorem dX12_scans_38 : decode cX12_scans 38 = .ok (.bipush 10, 2) := by decide +kernel
theorem dX12_scans_40 : decode cX12_scans 40 = .ok (.if_icmp .ne 9, 3) := by decide +kernel
theorem dX12_scans_43 : decode cX12_scans 43 = .ok (.iinc 1 1, 3) := by decide +kernel
theorem dX12_scans_46 : decode cX12_scans 46 = .ok (.goto (-33), 3) := by decide +kernel
theorem dX12_scans_49 : decode cX12_scans 49 = .ok (.iload_n 1, 1) := by decide +kernel
theorem dX12_scans_50 : decode cX12_scans 50 = .ok (.aload_n 0, 1) := by decide +kernel
theorem dX12_scans_51 : decode cX12_scans 51 = .ok (.getfield 93, 3) := by decide +kernel
theorem dX12_scans_54 : decode cX12_scans 54 = .ok (.if_icmp .ne 6, 3) := by decide +kernel
theorem dX12_scans_57 : decode cX12_scans 57 = .ok (.goto 240, 3) := by decide +kernel
theorem dX12_scans_60 : decode cX12_scans 60 = .ok (.iload_n 1, 1) := by decide +kernel
theorem dX12_scans_61 : decode cX12_scans 61 = .ok (.istore_n 3, 1) := by decide +kernel
theorem dX12_scans_62 : decode cX12_scans 62 = .ok (.aload_n 0, 1) := by decide +kernel
theorem dX12_scans_63 : decode cX12_scans 63 = .ok (.iload_n 1, 1) := by decide +kernel
theorem dX12_scans_64 : decode cX12_scans 64 = .ok (.invokevirtual 99, 3) := by decide +kernel
theorem dX12_scans_67 : decode cX12_scans 67 = .ok (.invokestatic 121, 3) := by decide +kernel
theorem dX12_scans_70 : decode cX12_scans 70 = .ok (.ifCond .eq 72, 3) := by decide +kernel
theorem dX12_scans_73 : decode cX12_scans 73 = .ok (.aload_n 0, 1) := by decide +kernel
theorem dX12_scans_74 : decode cX12_scans 74 = .ok (.iload_n 1, 1) := by decide +kernel
theorem dX12_scans_75 : decode cX12_scans 75 = .ok (.invokevirtual 99, 3) := by decide +kernel
theorem dX12_scans_78 : decode cX12_scans 78 = .ok (.invokestatic 121, 3) := by decide +kernel
theorem dX12_scans_81 : decode cX12_scans 81 = .ok (.ifCond .ne 14, 3) := by decide +kernel
theorem dX12_scans_84 : decode cX12_scans 84 = .ok (.aload_n 0, 1) := by decide +kernel
theorem dX12_scans_85 : decode cX12_scans 85 = .ok (.iload_n 1, 1) := by decide +kernel
theorem dX12_scans_86 : decode cX12_scans 86 = .ok (.invokevirtual 99, 3) := by decide +kernel
theorem dX12_scans_89 : decode cX12_scans 89 = .ok (.invokestatic 125, 3) := by decide +kernel
theorem dX12_scans_92 : decode cX12_scans 92 = .ok (.ifCond .eq 9, 3) := by decide +kernel
theorem dX12_scans_95 : decode cX12_scans 95 = .ok (.iinc 1 1, 3) := by decide +kernel
theorem dX12_scans_98 : decode cX12_scans 98 = .ok (.goto (-25), 3) := by decide +kernel
theorem dX12_scans_101 : decode cX12_scans 101 = .ok (.iload_n 1, 1) := by decide +kernel
theorem dX12_scans_102 : decode cX12_scans 102 = .ok (.iload_n 3, 1) := by decide +kernel
theorem dX12_scans_103 : decode cX12_scans 103 = .ok (.isub, 1) := by decide +kernel
theorem dX12_scans_104 : decode cX12_scans 104 = .ok (.bipush 8, 2) := by decide +kernel
theorem dX12_scans_106 : decode cX12_scans 106 = .ok (.if_icmp .gt 7, 3) := by decide +kernel
theorem dX12_scans_109 : decode cX12_scans 109 = .ok (.iconst 1, 1) := by decide +kernel
theorem dX12_scans_110 : decode cX12_scans 110 = .ok (.goto 4, 3) := by decide +kernel
theorem dX12_scans_113 : decode cX12_scans 113 = .ok (.iconst 0, 1) := by decide +kernel
theorem dX12_scans_114 : decode cX12_scans 114 = .ok (.istore_n 2, 1) := by decide +kernel
theorem dX12_scans_115 : decode cX12_scans 115 = .ok (.aload_n 0, 1) := by decide +kernel
theorem dX12_scans_116 : decode cX12_scans 116 = .ok (.iload_n 2, 1) := by decide +kernel
theorem dX12_scans_117 : decode cX12_scans 117 = .ok (.ifCond .eq 14, 3) := by decide +kernel
theorem dX12_scans_120 : decode cX12_scans 120 = .ok (.aload_n 0, 1) := by decide +kernel
theorem dX12_scans_121 : decode cX12_scans 121 = .ok (.iload_n 3, 1) := by decide +kernel
theorem dX12_scans_122 : decode cX12_scans 122 = .ok (.iload_n 1, 1) := by decide +kernel
theorem dX12_scans_123 : decode cX12_scans 123 = .ok (.iload_n 3, 1) := by decide +kernel
theorem dX12_scans_124 : decode cX12_scans 124 = .ok (.isub, 1) := by decide +kernel
theorem dX12_scans_125 : decode cX12_scans 125 = .ok (.invokevirtual 128, 3) := by decide +kernel
theorem dX12_scans_128 : decode cX12_scans 128 = .ok (.goto 4, 3) := by decide +kernel
theorem dX12_scans_131 : decode cX12_scans 131 = .ok (.iconst 1, 1) := by decide +kernel
theorem dX12_scans_132 : decode cX12_scans 132 = .ok (.iload_n 3, 1) := by decide +kernel
theorem dX12_scans_133 : decode cX12_scans 133 = .ok (.iload_n 1, 1) := by decide +kernel
theorem dX12_scans_134 : decode cX12_scans 134 = .ok (.iload_n 3, 1) := by decide +kernel
theorem dX12_scans_135 : decode cX12_scans 135 = .ok (.isub, 1) := by decide +kernel
theorem dX12_scans_136 : decode cX12_scans 136 = .ok (.invokevirtual 132, 3) := by decide +kernel
theorem dX12_scans_139 : decode cX12_scans 139 = .ok (.goto 155, 3) := by decide +kernel
theorem dX12_scans_142 : decode cX12_scans 142 = .ok (.aload_n 0, 1) := by decide +kernel
theorem dX12_scans_143 : decode cX12_scans 143 = .ok (.iload_n 1, 1) := by decide +kernel
theorem dX12_scans_144 : decode cX12_scans 144 = .ok (.invokevirtual 99, 3) := by decide +kernel
theorem dX12_scans_147 : decode cX12_scans 147 = .ok (.invokestatic 125, 3) := by decide +kernel
theorem dX12_scans_150 : decode cX12_scans 150 = .ok (.ifCond .eq 94, 3) := by decide +kernel
theorem dX12_scans_153 : decode cX12_scans 153 = .ok (.lconst 0, 1) := by decide +kernel
theorem dX12_scans_154 : decode cX12_scans 154 = .ok (.lstore 4, 2) := by decide +kernel
theorem dX12_scans_156 : decode cX12_scans 156 = .ok (.aload_n 0, 1) := by decide +kernel
theorem dX12_scans_157 : decode cX12_scans 157 = .ok (.iload_n 1, 1) := by decide +kernel
theorem dX12_scans_158 : decode cX12_scans 158 = .ok (.invokevirtual 99, 3) := by decide +kernel
theorem dX12_scans_161 : decode cX12_scans 161 = .ok (.invokestatic 125, 3) := by decide +kernel
theorem dX12_scans_164 : decode cX12_scans 164 = .ok (.ifCond .eq 34, 3) := by decide +kernel
theorem dX12_scans_167 : decode cX12_scans 167 = .ok (.lload 4, 2) := by decide +kernel
theorem dX12_scans_169 : decode cX12_scans 169 = .ok (.ldc2_w 136, 3) := by decide +kernel
theorem dX12_scans_172 : decode cX12_scans 172 = .ok (.lmul, 1) := by decide +kernel
theorem dX12_scans_173 : decode cX12_scans 173 = .ok (.aload_n 0, 1) := by decide +kernel
theorem dX12_scans_174 : decode cX12_scans 174 = .ok (.iload_n 1, 1) := by decide +kernel
theorem dX12_scans_175 : decode cX12_scans 175 = .ok (.invokevirtual 99, 3) := by decide +kernel
theorem dX12_scans_178 : decode cX12_scans 178 = .ok (.i2l, 1) := by decide +kernel
theorem dX12_scans_179 : decode cX12_scans 179 = .ok (.ladd, 1) := by decide +kernel
theorem dX12_scans_180 : decode cX12_scans 180 = .ok (.ldc2_w 138, 3) := by decide +kernel
theorem dX12_scans_183 : decode cX12_scans 183 = .ok (.lsub, 1) := by decide +kernel
theorem dX12_scans_184 : decode cX12_scans 184 = .ok (.ldc2_w 140, 3) := by decide +kernel
theorem dX12_scans_187 : decode cX12_scans 187 = .ok (.invokestatic 142, 3) := by decide +kernel
theorem dX12_scans_190 : decode cX12_scans 190 = .ok (.lstore 4, 2) := by decide +kernel
theorem dX12_scans_192 : decode cX12_scans 192 = .ok (.iinc 1 1, 3) := by decide +kernel
theorem dX12_scans_195 : decode cX12_scans 195 = .ok (.goto (-39), 3) := by decide +kernel
theorem dX12_scans_198 : decode cX12_scans 198 = .ok (.lload 4, 2) := by decide +kernel
theorem dX12_scans_200 : decode cX12_scans 200 = .ok (.ldc2_w 148, 3) := by decide +kernel
theorem dX12_scans_203 : decode cX12_scans 203 = .ok (.lcmp, 1) := by decide +kernel
theorem dX12_scans_204 : decode cX12_scans 204 = .ok (.ifCond .gt 18, 3) := by decide +kernel
theorem dX12_scans_207 : decode cX12_scans 207 = .ok (.aload_n 0, 1) := by decide +kernel
theorem dX12_scans_208 : decode cX12_scans 208 = .ok (.iload_n 1, 1) := by decide +kernel
theorem dX12_scans_209 : decode cX12_scans 209 = .ok (.invokevirtual 99, 3) := by decide +kernel
theorem dX12_scans_212 : decode cX12_scans 212 = .ok (.invokestatic 121, 3) := by decide +kernel
theorem dX12_scans_215 : decode cX12_scans 215 = .ok (.ifCond .ne 7, 3) := by decide +kernel
theorem dX12_scans_218 : decode cX12_scans 218 = .ok (.iconst 1, 1) := by decide +kernel
theorem dX12_scans_219 : decode cX12_scans 219 = .ok (.goto 4, 3) := by decide +kernel
theorem dX12_scans_222 : decode cX12_scans 222 = .ok (.iconst 0, 1) := by decide +kernel
theorem dX12_scans_223 : decode cX12_scans 223 = .ok (.istore_n 2, 1) := by decide +kernel
theorem dX12_scans_224 : decode cX12_scans 224 = .ok (.aload_n 0, 1) := by decide +kernel
theorem dX12_scans_225 : decode cX12_scans 225 = .ok (.iload_n 2, 1) := by decide +kernel
theorem dX12_scans_226 : decode cX12_scans 226 = .ok (.ifCond .eq 7, 3) := by decide +kernel
theorem dX12_scans_229 : decode cX12_scans 229 = .ok (.iconst 3, 1) := by decide +kernel
theorem dX12_scans_230 : decode cX12_scans 230 = .ok (.goto 4, 3) := by decide +kernel
theorem dX12_scans_233 : decode cX12_scans 233 = .ok (.iconst 1, 1) := by decide +kernel
theorem dX12_scans_234 : decode cX12_scans 234 = .ok (.iload_n 3, 1) := by decide +kernel
theorem dX12_scans_235 : decode cX12_scans 235 = .ok (.lload 4, 2) := by decide +kernel
theorem dX12_scans_237 : decode cX12_scans 237 = .ok (.l2i, 1) := by decide +kernel
theorem dX12_scans_238 : decode cX12_scans 238 = .ok (.invokevirtual 132, 3) := by decide +kernel
theorem dX12_scans_241 : decode cX12_scans 241 = .ok (.goto 53, 3) := by decide +kernel
theorem dX12_scans_244 : decode cX12_scans 244 = .ok (.aload_n 0, 1) := by decide +kernel
theorem dX12_scans_245 : decode cX12_scans 245 = .ok (.iload_n 1, 1) := by decide +kernel
theorem dX12_scans_246 : decode cX12_scans 246 = .ok (.invokevirtual 150, 3) := by decide +kernel
theorem dX12_scans_249 : decode cX12_scans 249 = .ok (.istore 4, 2) := by decide +kernel
theorem dX12_scans_251 : decode cX12_scans 251 = .ok (.iload 4, 2) := by decide +kernel
theorem dX12_scans_253 : decode cX12_scans 253 = .ok (.ifCond .le 7, 3) := by decide +kernel
theorem dX12_scans_256 : decode cX12_scans 256 = .ok (.iconst 1, 1) := by decide +kernel
theorem dX12_scans_257 : decode cX12_scans 257 = .ok (.goto 4, 3) := by decide +kernel
theorem dX12_scans_260 : decode cX12_scans 260 = .ok (.iconst 0, 1) := by decide +kernel
theorem dX12_scans_261 : decode cX12_scans 261 = .ok (.istore_n 2, 1) := by decide +kernel
theorem dX12_scans_262 : decode cX12_scans 262 = .ok (.aload_n 0, 1) := by decide +kernel
theorem dX12_scans_263 : decode cX12_scans 263 = .ok (.iload_n 2, 1) := by decide +kernel
theorem dX12_scans_264 : decode cX12_scans 264 = .ok (.ifCond .eq 7, 3) := by decide +kernel
theorem dX12_scans_267 : decode cX12_scans 267 = .ok (.iconst 4, 1) := by decide +kernel
theorem dX12_scans_268 : decode cX12_scans 268 = .ok (.goto 4, 3) := by decide +kernel
theorem dX12_scans_271 : decode cX12_scans 271 = .ok (.iconst 1, 1) := by decide +kernel
theorem dX12_scans_272 : decode cX12_scans 272 = .ok (.iload_n 3, 1) := by decide +kernel
theorem dX12_scans_273 : decode cX12_scans 273 = .ok (.iload 4, 2) := by decide +kernel
theorem dX12_scans_275 : decode cX12_scans 275 = .ok (.invokevirtual 132, 3) := by decide +kernel
theorem dX12_scans_278 : decode cX12_scans 278 = .ok (.iload_n 1, 1) := by decide +kernel
theorem dX12_scans_279 : decode cX12_scans 279 = .ok (.iload 4, 2) := by decide +kernel
theorem dX12_scans_281 : decode cX12_scans 281 = .ok (.sipush 255, 3) := by decide +kernel
theorem dX12_scans_284 : decode cX12_scans 284 = .ok (.if_icmp .le 7, 3) := by decide +kernel
theorem dX12_scans_287 : decode cX12_scans 287 = .ok (.iconst 2, 1) := by decide +kernel
theorem dX12_scans_288 : decode cX12_scans 288 = .ok (.goto 4, 3) := by decide +kernel
theorem dX12_scans_291 : decode cX12_scans 291 = .ok (.iconst 1, 1) := by decide +kernel
theorem dX12_scans_292 : decode cX12_scans 292 = .ok (.iadd, 1) := by decide +kernel
theorem dX12_scans_293 : decode cX12_scans 293 = .ok (.istore_n 1, 1) := by decide +kernel
theorem dX12_scans_294 : decode cX12_scans 294 = .ok (.goto (-285), 3) := by decide +kernel
theorem dX12_scans_297 : decode cX12_scans 297 = .ok (.iload_n 2, 1) := by decide +kernel
theorem dX12_scans_298 : decode cX12_scans 298 = .ok (.ifCond .eq 13, 3) := by decide +kernel
theorem dX12_scans_301 : decode cX12_scans 301 = .ok (.aload_n 0, 1) := by decide +kernel
theorem dX12_scans_302 : decode cX12_scans 302 = .ok (.iconst 0, 1) := by decide +kernel
theorem dX12_scans_303 : decode cX12_scans 303 = .ok (.aload_n 0, 1) := by decide +kernel
theorem dX12_scans_304 : decode cX12_scans 304 = .ok (.getfield 93, 3) := by decide +kernel
theorem dX12_scans_307 : decode cX12_scans 307 = .ok (.iconst 0, 1) := by decide +kernel
theorem dX12_scans_308 : decode cX12_scans 308 = .ok (.invokevirtual 132, 3) := by decide +kernel
theorem dX12_scans_311 : decode cX12_scans 311 = .ok (.return_, 1) := by decide +kernel
theorem dX12_refuse_0 : decode cX12_refuse 0 = .ok (.aload_n 0, 1) := by decide +kernel
theorem dX12_refuse_1 : decode cX12_refuse 1 = .ok (.iload_n 1, 1) := by decide +kernel
theorem dX12_refuse_2 : decode cX12_refuse 2 = .ok (.putfield 153, 3) := by decide +kernel
theorem dX12_refuse_5 : decode cX12_refuse 5 = .ok (.aload_n 0, 1) := by decide +kernel
theorem dX12_refuse_6 : decode cX12_refuse 6 = .ok (.aload_n 0, 1) := by decide +kernel
theorem dX12_refuse_7 : decode cX12_refuse 7 = .ok (.getfield 27, 3) := by decide +kernel
theorem dX12_refuse_10 : decode cX12_refuse 10 = .ok (.aload_n 0, 1) := by decide +kernel
theorem dX12_refuse_11 : decode cX12_refuse 11 = .ok (.getfield 156, 3) := by decide +kernel
theorem dX12_refuse_14 : decode cX12_refuse 14 = .ok (.iaload, 1) := by decide +kernel
theorem dX12_refuse_15 : decode cX12_refuse 15 = .ok (.putfield 159, 3) := by decide +kernel
theorem dX12_refuse_18 : decode cX12_refuse 18 = .ok (.aload_n 0, 1) := by decide +kernel
theorem dX12_refuse_19 : decode cX12_refuse 19 = .ok (.getfield 40, 3) := by decide +kernel
theorem dX12_refuse_22 : decode cX12_refuse 22 = .ok (.athrow, 1) := by decide +kernel
theorem dX12_wrong_0 : decode cX12_wrong 0 = .ok (.aload_n 0, 1) := by decide +kernel
theorem dX12_wrong_1 : decode cX12_wrong 1 = .ok (.getfield 162, 3) := by decide +kernel
theorem dX12_wrong_4 : decode cX12_wrong 4 = .ok (.ifCond .le 38, 3) := by decide +kernel
theorem dX12_wrong_7 : decode cX12_wrong 7 = .ok (.aload_n 0, 1) := by decide +kernel
theorem dX12_wrong_8 : decode cX12_wrong 8 = .ok (.getfield 165, 3) := by decide +kernel
theorem dX12_wrong_11 : decode cX12_wrong 11 = .ok (.aload_n 0, 1) := by decide +kernel
theorem dX12_wrong_12 : decode cX12_wrong 12 = .ok (.getfield 27, 3) := by decide +kernel
theorem dX12_wrong_15 : decode cX12_wrong 15 = .ok (.iload_n 2, 1) := by decide +kernel
theorem dX12_wrong_16 : decode cX12_wrong 16 = .ok (.iaload, 1) := by decide +kernel
theorem dX12_wrong_17 : decode cX12_wrong 17 = .ok (.if_icmp .lt 24, 3) := by decide +kernel
theorem dX12_wrong_20 : decode cX12_wrong 20 = .ok (.aload_n 0, 1) := by decide +kernel
theorem dX12_wrong_21 : decode cX12_wrong 21 = .ok (.getfield 165, 3) := by decide +kernel
theorem dX12_wrong_24 : decode cX12_wrong 24 = .ok (.aload_n 0, 1) := by decide +kernel
theorem dX12_wrong_25 : decode cX12_wrong 25 = .ok (.getfield 27, 3) := by decide +kernel
theorem dX12_wrong_28 : decode cX12_wrong 28 = .ok (.iload_n 2, 1) := by decide +kernel
theorem dX12_wrong_29 : decode cX12_wrong 29 = .ok (.iaload, 1) := by decide +kernel
theorem dX12_wrong_30 : decode cX12_wrong 30 = .ok (.if_icmp .ne 12, 3) := by decide +kernel
theorem dX12_wrong_33 : decode cX12_wrong 33 = .ok (.aload_n 0, 1) := by decide +kernel
theorem dX12_wrong_34 : decode cX12_wrong 34 = .ok (.getfield 162, 3) := by decide +kernel
theorem dX12_wrong_37 : decode cX12_wrong 37 = .ok (.iload_n 1, 1) := by decide +kernel
theorem dX12_wrong_38 : decode cX12_wrong 38 = .ok (.if_icmp .gt 4, 3) := by decide +kernel
theorem dX12_wrong_41 : decode cX12_wrong 41 = .ok (.return_, 1) := by decide +kernel
theorem dX12_wrong_42 : decode cX12_wrong 42 = .ok (.aload_n 0, 1) := by decide +kernel
theorem dX12_wrong_43 : decode cX12_wrong 43 = .ok (.iload_n 1, 1) := by decide +kernel
theorem dX12_wrong_44 : decode cX12_wrong 44 = .ok (.putfield 162, 3) := by decide +kernel
theorem dX12_wrong_47 : decode cX12_wrong 47 = .ok (.aload_n 0, 1) := by decide +kernel
theorem dX12_wrong_48 : decode cX12_wrong 48 = .ok (.aload_n 0, 1) := by decide +kernel
theorem dX12_wrong_49 : decode cX12_wrong 49 = .ok (.getfield 27, 3) := by decide +kernel
theorem dX12_wrong_52 : decode cX12_wrong 52 = .ok (.iload_n 2, 1) := by decide +kernel
theorem dX12_wrong_53 : decode cX12_wrong 53 = .ok (.iaload, 1) := by decide +kernel
theorem dX12_wrong_54 : decode cX12_wrong 54 = .ok (.putfield 165, 3) := by decide +kernel
theorem dX12_wrong_57 : decode cX12_wrong 57 = .ok (.return_, 1) := by decide +kernel
theorem dX12_is_0 : decode cX12_is 0 = .ok (.aload_n 0, 1) := by decide +kernel
theorem dX12_is_1 : decode cX12_is 1 = .ok (.getfield 24, 3) := by decide +kernel
theorem dX12_is_4 : decode cX12_is 4 = .ok (.aload_n 0, 1) := by decide +kernel
theorem dX12_is_5 : decode cX12_is 5 = .ok (.getfield 156, 3) := by decide +kernel
theorem dX12_is_8 : decode cX12_is 8 = .ok (.iaload, 1) := by decide +kernel
theorem dX12_is_9 : decode cX12_is 9 = .ok (.iconst 4, 1) := by decide +kernel
theorem dX12_is_10 : decode cX12_is 10 = .ok (.if_icmp .ne 20, 3) := by decide +kernel
theorem dX12_is_13 : decode cX12_is 13 = .ok (.aload_n 0, 1) := by decide +kernel
theorem dX12_is_14 : decode cX12_is 14 = .ok (.getfield 30, 3) := by decide +kernel
theorem dX12_is_17 : decode cX12_is 17 = .ok (.aload_n 0, 1) := by decide +kernel
theorem dX12_is_18 : decode cX12_is 18 = .ok (.getfield 156, 3) := by decide +kernel
theorem dX12_is_21 : decode cX12_is 21 = .ok (.iaload, 1) := by decide +kernel
theorem dX12_is_22 : decode cX12_is 22 = .ok (.iload_n 1, 1) := by decide +kernel
theorem dX12_is_23 : decode cX12_is 23 = .ok (.if_icmp .ne 7, 3) := by decide +kernel
theorem dX12_is_26 : decode cX12_is 26 = .ok (.iconst 1, 1) := by decide +kernel
theorem dX12_is_27 : decode cX12_is 27 = .ok (.goto 4, 3) := by decide +kernel
theorem dX12_is_30 : decode cX12_is 30 = .ok (.iconst 0, 1) := by decide +kernel
theorem dX12_is_31 : decode cX12_is 31 = .ok (.ireturn, 1) := by decide +kernel
theorem dX12_wants_0 : decode cX12_wants 0 = .ok (.aload_n 0, 1) := by decide +kernel
theorem dX12_wants_1 : decode cX12_wants 1 = .ok (.iload_n 1, 1) := by decide +kernel
theorem dX12_wants_2 : decode cX12_wants 2 = .ok (.invokevirtual 168, 3) := by decide +kernel
theorem dX12_wants_5 : decode cX12_wants 5 = .ok (.ifCond .ne 8, 3) := by decide +kernel
theorem dX12_wants_8 : decode cX12_wants 8 = .ok (.aload_n 0, 1) := by decide +kernel
theorem dX12_wants_9 : decode cX12_wants 9 = .ok (.iconst 1, 1) := by decide +kernel
theorem dX12_wants_10 : decode cX12_wants 10 = .ok (.invokevirtual 171, 3) := by decide +kernel
theorem dX12_wants_13 : decode cX12_wants 13 = .ok (.aload_n 0, 1) := by decide +kernel
theorem dX12_wants_14 : decode cX12_wants 14 = .ok (.dup, 1) := by decide +kernel
theorem dX12_wants_15 : decode cX12_wants 15 = .ok (.getfield 156, 3) := by decide +kernel
theorem dX12_wants_18 : decode cX12_wants 18 = .ok (.iconst 1, 1) := by decide +kernel
theorem dX12_wants_19 : decode cX12_wants 19 = .ok (.iadd, 1) := by decide +kernel
theorem dX12_wants_20 : decode cX12_wants 20 = .ok (.putfield 156, 3) := by decide +kernel
theorem dX12_wants_23 : decode cX12_wants 23 = .ok (.return_, 1) := by decide +kernel
theorem dX12_wantsKind_0 : decode cX12_wantsKind 0 = .ok (.aload_n 0, 1) := by decide +kernel
theorem dX12_wantsKind_1 : decode cX12_wantsKind 1 = .ok (.getfield 24, 3) := by decide +kernel
theorem dX12_wantsKind_4 : decode cX12_wantsKind 4 = .ok (.aload_n 0, 1) := by decide +kernel
theorem dX12_wantsKind_5 : decode cX12_wantsKind 5 = .ok (.getfield 156, 3) := by decide +kernel
theorem dX12_wantsKind_8 : decode cX12_wantsKind 8 = .ok (.iaload, 1) := by decide +kernel
theorem dX12_wantsKind_9 : decode cX12_wantsKind 9 = .ok (.iload_n 1, 1) := by decide +kernel
theorem dX12_wantsKind_10 : decode cX12_wantsKind 10 = .ok (.if_icmp .eq 8, 3) := by decide +kernel
theorem dX12_wantsKind_13 : decode cX12_wantsKind 13 = .ok (.aload_n 0, 1) := by decide +kernel
theorem dX12_wantsKind_14 : decode cX12_wantsKind 14 = .ok (.iconst 1, 1) := by decide +kernel
theorem dX12_wantsKind_15 : decode cX12_wantsKind 15 = .ok (.invokevirtual 171, 3) := by decide +kernel
theorem dX12_wantsKind_18 : decode cX12_wantsKind 18 = .ok (.aload_n 0, 1) := by decide +kernel
theorem dX12_wantsKind_19 : decode cX12_wantsKind 19 = .ok (.dup, 1) := by decide +kernel
theorem dX12_wantsKind_20 : decode cX12_wantsKind 20 = .ok (.getfield 156, 3) := by decide +kernel
theorem dX12_wantsKind_23 : decode cX12_wantsKind 23 = .ok (.iconst 1, 1) := by decide +kernel
theorem dX12_wantsKind_24 : decode cX12_wantsKind 24 = .ok (.iadd, 1) := by decide +kernel
theorem dX12_wantsKind_25 : decode cX12_wantsKind 25 = .ok (.putfield 156, 3) := by decide +kernel
theorem dX12_wantsKind_28 : decode cX12_wantsKind 28 = .ok (.aload_n 0, 1) := by decide +kernel
theorem dX12_wantsKind_29 : decode cX12_wantsKind 29 = .ok (.getfield 156, 3) := by decide +kernel
theorem dX12_wantsKind_32 : decode cX12_wantsKind 32 = .ok (.iconst 1, 1) := by decide +kernel
theorem dX12_wantsKind_33 : decode cX12_wantsKind 33 = .ok (.isub, 1) := by decide +kernel
theorem dX12_wantsKind_34 : decode cX12_wantsKind 34 = .ok (.ireturn, 1) := by decide +kernel
theorem dX12_enters_0 : decode cX12_enters 0 = .ok (.aload_n 0, 1) := by decide +kernel
theorem dX12_enters_1 : decode cX12_enters 1 = .ok (.getfield 174, 3) := by decide +kernel
theorem dX12_enters_4 : decode cX12_enters 4 = .ok (.bipush 16, 2) := by decide +kernel
theorem dX12_enters_6 : decode cX12_enters 6 = .ok (.if_icmp .ne 9, 3) := by decide +kernel
theorem dX12_enters_9 : decode cX12_enters 9 = .ok (.aload_n 0, 1) := by decide +kernel
theorem dX12_enters_10 : decode cX12_enters 10 = .ok (.bipush 7, 2) := by decide +kernel
theorem dX12_enters_12 : decode cX12_enters 12 = .ok (.invokevirtual 171, 3) := by decide +kernel
theorem dX12_enters_15 : decode cX12_enters 15 = .ok (.aload_n 0, 1) := by decide +kernel
theorem dX12_enters_16 : decode cX12_enters 16 = .ok (.dup, 1) := by decide +kernel
theorem dX12_enters_17 : decode cX12_enters 17 = .ok (.getfield 174, 3) := by decide +kernel
theorem dX12_enters_20 : decode cX12_enters 20 = .ok (.iconst 1, 1) := by decide +kernel
theorem dX12_enters_21 : decode cX12_enters 21 = .ok (.iadd, 1) := by decide +kernel
theorem dX12_enters_22 : decode cX12_enters 22 = .ok (.putfield 174, 3) := by decide +kernel
theorem dX12_enters_25 : decode cX12_enters 25 = .ok (.aload_n 0, 1) := by decide +kernel
theorem dX12_enters_26 : decode cX12_enters 26 = .ok (.dup, 1) := by decide +kernel
theorem dX12_enters_27 : decode cX12_enters 27 = .ok (.getfield 156, 3) := by decide +kernel
theorem dX12_enters_30 : decode cX12_enters 30 = .ok (.iconst 1, 1) := by decide +kernel
theorem dX12_enters_31 : decode cX12_enters 31 = .ok (.iadd, 1) := by decide +kernel
theorem dX12_enters_32 : decode cX12_enters 32 = .ok (.putfield 156, 3) := by decide +kernel
theorem dX12_enters_35 : decode cX12_enters 35 = .ok (.return_, 1) := by decide +kernel
theorem dX12_opens_0 : decode cX12_opens 0 = .ok (.aload_n 0, 1) := by decide +kernel
theorem dX12_opens_1 : decode cX12_opens 1 = .ok (.iload_n 1, 1) := by decide +kernel
theorem dX12_opens_2 : decode cX12_opens 2 = .ok (.invokevirtual 168, 3) := by decide +kernel
theorem dX12_opens_5 : decode cX12_opens 5 = .ok (.ifCond .ne 8, 3) := by decide +kernel
theorem dX12_opens_8 : decode cX12_opens 8 = .ok (.aload_n 0, 1) := by decide +kernel
theorem dX12_opens_9 : decode cX12_opens 9 = .ok (.iconst 1, 1) := by decide +kernel
theorem dX12_opens_10 : decode cX12_opens 10 = .ok (.invokevirtual 171, 3) := by decide +kernel
theorem dX12_opens_13 : decode cX12_opens 13 = .ok (.aload_n 0, 1) := by decide +kernel
theorem dX12_opens_14 : decode cX12_opens 14 = .ok (.invokevirtual 177, 3) := by decide +kernel
theorem dX12_opens_17 : decode cX12_opens 17 = .ok (.return_, 1) := by decide +kernel
theorem dX12_closes_0 : decode cX12_closes 0 = .ok (.aload_n 0, 1) := by decide +kernel
theorem dX12_closes_1 : decode cX12_closes 1 = .ok (.iload_n 1, 1) := by decide +kernel
theorem dX12_closes_2 : decode cX12_closes 2 = .ok (.invokevirtual 180, 3) := by decide +kernel
theorem dX12_closes_5 : decode cX12_closes 5 = .ok (.aload_n 0, 1) := by decide +kernel
theorem dX12_closes_6 : decode cX12_closes 6 = .ok (.dup, 1) := by decide +kernel
theorem dX12_closes_7 : decode cX12_closes 7 = .ok (.getfield 174, 3) := by decide +kernel
theorem dX12_closes_10 : decode cX12_closes 10 = .ok (.iconst 1, 1) := by decide +kernel
theorem dX12_closes_11 : decode cX12_closes 11 = .ok (.isub, 1) := by decide +kernel
theorem dX12_closes_12 : decode cX12_closes 12 = .ok (.putfield 174, 3) := by decide +kernel
theorem dX12_closes_15 : decode cX12_closes 15 = .ok (.return_, 1) := by decide +kernel
theorem dX12_areAlike_0 : decode cX12_areAlike 0 = .ok (.aload_n 0, 1) := by decide +kernel
theorem dX12_areAlike_1 : decode cX12_areAlike 1 = .ok (.getfield 30, 3) := by decide +kernel
theorem dX12_areAlike_4 : decode cX12_areAlike 4 = .ok (.iload_n 1, 1) := by decide +kernel
theorem dX12_areAlike_5 : decode cX12_areAlike 5 = .ok (.iaload, 1) := by decide +kernel
theorem dX12_areAlike_6 : decode cX12_areAlike 6 = .ok (.aload_n 0, 1) := by decide +kernel
theorem dX12_areAlike_7 : decode cX12_areAlike 7 = .ok (.getfield 30, 3) := by decide +kernel
theorem dX12_areAlike_10 : decode cX12_areAlike 10 = .ok (.iload_n 2, 1) := by decide +kernel
theorem dX12_areAlike_11 : decode cX12_areAlike 11 = .ok (.iaload, 1) := by decide +kernel
theorem dX12_areAlike_12 : decode cX12_areAlike 12 = .ok (.if_icmp .eq 5, 3) := by decide +kernel
theorem dX12_areAlike_15 : decode cX12_areAlike 15 = .ok (.iconst 0, 1) := by decide +kernel
theorem dX12_areAlike_16 : decode cX12_areAlike 16 = .ok (.ireturn, 1) := by decide +kernel
theorem dX12_areAlike_17 : decode cX12_areAlike 17 = .ok (.iconst 0, 1) := by decide +kernel
theorem dX12_areAlike_18 : decode cX12_areAlike 18 = .ok (.istore_n 3, 1) := by decide +kernel
theorem dX12_areAlike_19 : decode cX12_areAlike 19 = .ok (.iload_n 3, 1) := by decide +kernel
theorem dX12_areAlike_20 : decode cX12_areAlike 20 = .ok (.aload_n 0, 1) := by decide +kernel
theorem dX12_areAlike_21 : decode cX12_areAlike 21 = .ok (.getfield 30, 3) := by decide +kernel
theorem dX12_areAlike_24 : decode cX12_areAlike 24 = .ok (.iload_n 1, 1) := by decide +kernel
theorem dX12_areAlike_25 : decode cX12_areAlike 25 = .ok (.iaload, 1) := by decide +kernel
theorem dX12_areAlike_26 : decode cX12_areAlike 26 = .ok (.if_icmp .ge 40, 3) := by decide +kernel
theorem dX12_areAlike_29 : decode cX12_areAlike 29 = .ok (.aload_n 0, 1) := by decide +kernel
theorem dX12_areAlike_30 : decode cX12_areAlike 30 = .ok (.getfield 21, 3) := by decide +kernel
theorem dX12_areAlike_33 : decode cX12_areAlike 33 = .ok (.aload_n 0, 1) := by decide +kernel
theorem dX12_areAlike_34 : decode cX12_areAlike 34 = .ok (.getfield 27, 3) := by decide +kernel
theorem dX12_areAlike_37 : decode cX12_areAlike 37 = .ok (.iload_n 1, 1) := by decide +kernel
theorem dX12_areAlike_38 : decode cX12_areAlike 38 = .ok (.iaload, 1) := by decide +kernel
theorem dX12_areAlike_39 : decode cX12_areAlike 39 = .ok (.iload_n 3, 1) := by decide +kernel
theorem dX12_areAlike_40 : decode cX12_areAlike 40 = .ok (.iadd, 1) := by decide +kernel
theorem dX12_areAlike_41 : decode cX12_areAlike 41 = .ok (.baload, 1) := by decide +kernel
theorem dX12_areAlike_42 : decode cX12_areAlike 42 = .ok (.aload_n 0, 1) := by decide +kernel
theorem dX12_areAlike_43 : decode cX12_areAlike 43 = .ok (.getfield 21, 3) := by decide +kernel
theorem dX12_areAlike_46 : decode cX12_areAlike 46 = .ok (.aload_n 0, 1) := by decide +kernel
theorem dX12_areAlike_47 : decode cX12_areAlike 47 = .ok (.getfield 27, 3) := by decide +kernel
theorem dX12_areAlike_50 : decode cX12_areAlike 50 = .ok (.iload_n 2, 1) := by decide +kernel
theorem dX12_areAlike_51 : decode cX12_areAlike 51 = .ok (.iaload, 1) := by decide +kernel
theorem dX12_areAlike_52 : decode cX12_areAlike 52 = .ok (.iload_n 3, 1) := by decide +kernel
theorem dX12_areAlike_53 : decode cX12_areAlike 53 = .ok (.iadd, 1) := by decide +kernel
theorem dX12_areAlike_54 : decode cX12_areAlike 54 = .ok (.baload, 1) := by decide +kernel
theorem dX12_areAlike_55 : decode cX12_areAlike 55 = .ok (.if_icmp .eq 5, 3) := by decide +kernel
theorem dX12_areAlike_58 : decode cX12_areAlike 58 = .ok (.iconst 0, 1) := by decide +kernel
theorem dX12_areAlike_59 : decode cX12_areAlike 59 = .ok (.ireturn, 1) := by decide +kernel
theorem dX12_areAlike_60 : decode cX12_areAlike 60 = .ok (.iinc 3 1, 3) := by decide +kernel
theorem dX12_areAlike_63 : decode cX12_areAlike 63 = .ok (.goto (-44), 3) := by decide +kernel
theorem dX12_areAlike_66 : decode cX12_areAlike 66 = .ok (.iconst 1, 1) := by decide +kernel
theorem dX12_areAlike_67 : decode cX12_areAlike 67 = .ok (.ireturn, 1) := by decide +kernel
theorem dX12_meaning_0 : decode cX12_meaning 0 = .ok (.aload_n 0, 1) := by decide +kernel
theorem dX12_meaning_1 : decode cX12_meaning 1 = .ok (.getfield 183, 3) := by decide +kernel
theorem dX12_meaning_4 : decode cX12_meaning 4 = .ok (.iconst 1, 1) := by decide +kernel
theorem dX12_meaning_5 : decode cX12_meaning 5 = .ok (.isub, 1) := by decide +kernel
theorem dX12_meaning_6 : decode cX12_meaning 6 = .ok (.istore_n 2, 1) := by decide +kernel
theorem dX12_meaning_7 : decode cX12_meaning 7 = .ok (.iload_n 2, 1) := by decide +kernel
theorem dX12_meaning_8 : decode cX12_meaning 8 = .ok (.ifCond .lt 25, 3) := by decide +kernel
theorem dX12_meaning_11 : decode cX12_meaning 11 = .ok (.aload_n 0, 1) := by decide +kernel
theorem dX12_meaning_12 : decode cX12_meaning 12 = .ok (.aload_n 0, 1) := by decide +kernel
theorem dX12_meaning_13 : decode cX12_meaning 13 = .ok (.getfield 53, 3) := by decide +kernel
theorem dX12_meaning_16 : decode cX12_meaning 16 = .ok (.iload_n 2, 1) := by decide +kernel
theorem dX12_meaning_17 : decode cX12_meaning 17 = .ok (.iaload, 1) := by decide +kernel
theorem dX12_meaning_18 : decode cX12_meaning 18 = .ok (.iload_n 1, 1) := by decide +kernel
theorem dX12_meaning_19 : decode cX12_meaning 19 = .ok (.invokevirtual 186, 3) := by decide +kernel
theorem dX12_meaning_22 : decode cX12_meaning 22 = .ok (.ifCond .eq 5, 3) := by decide +kernel
theorem dX12_meaning_25 : decode cX12_meaning 25 = .ok (.iload_n 2, 1) := by decide +kernel
theorem dX12_meaning_26 : decode cX12_meaning 26 = .ok (.ireturn, 1) := by decide +kernel
theorem dX12_meaning_27 : decode cX12_meaning 27 = .ok (.iinc 2 (-1), 3) := by decide +kernel
theorem dX12_meaning_30 : decode cX12_meaning 30 = .ok (.goto (-23), 3) := by decide +kernel
theorem dX12_meaning_33 : decode cX12_meaning 33 = .ok (.iconst (-1), 1) := by decide +kernel
theorem dX12_meaning_34 : decode cX12_meaning 34 = .ok (.ireturn, 1) := by decide +kernel
theorem dX12_told_0 : decode cX12_told 0 = .ok (.aload_n 0, 1) := by decide +kernel
theorem dX12_told_1 : decode cX12_told 1 = .ok (.getfield 53, 3) := by decide +kernel
theorem dX12_told_4 : decode cX12_told 4 = .ok (.aload_n 0, 1) := by decide +kernel
theorem dX12_told_5 : decode cX12_told 5 = .ok (.getfield 183, 3) := by decide +kernel
theorem dX12_told_8 : decode cX12_told 8 = .ok (.iload_n 1, 1) := by decide +kernel
theorem dX12_told_9 : decode cX12_told 9 = .ok (.iastore, 1) := by decide +kernel
theorem dX12_told_10 : decode cX12_told 10 = .ok (.aload_n 0, 1) := by decide +kernel
theorem dX12_told_11 : decode cX12_told 11 = .ok (.getfield 56, 3) := by decide +kernel
theorem dX12_told_14 : decode cX12_told 14 = .ok (.aload_n 0, 1) := by decide +kernel
theorem dX12_told_15 : decode cX12_told 15 = .ok (.getfield 183, 3) := by decide +kernel
theorem dX12_told_18 : decode cX12_told 18 = .ok (.iload_n 2, 1) := by decide +kernel
theorem dX12_told_19 : decode cX12_told 19 = .ok (.iastore, 1) := by decide +kernel
theorem dX12_told_20 : decode cX12_told 20 = .ok (.aload_n 0, 1) := by decide +kernel
theorem dX12_told_21 : decode cX12_told 21 = .ok (.getfield 59, 3) := by decide +kernel
theorem dX12_told_24 : decode cX12_told 24 = .ok (.aload_n 0, 1) := by decide +kernel
theorem dX12_told_25 : decode cX12_told 25 = .ok (.getfield 183, 3) := by decide +kernel
theorem dX12_told_28 : decode cX12_told 28 = .ok (.iload_n 3, 1) := by decide +kernel
theorem dX12_told_29 : decode cX12_told 29 = .ok (.iastore, 1) := by decide +kernel
theorem dX12_told_30 : decode cX12_told 30 = .ok (.aload_n 0, 1) := by decide +kernel
theorem dX12_told_31 : decode cX12_told 31 = .ok (.dup, 1) := by decide +kernel
theorem dX12_told_32 : decode cX12_told 32 = .ok (.getfield 183, 3) := by decide +kernel
theorem dX12_told_35 : decode cX12_told 35 = .ok (.iconst 1, 1) := by decide +kernel
theorem dX12_told_36 : decode cX12_told 36 = .ok (.iadd, 1) := by decide +kernel
theorem dX12_told_37 : decode cX12_told 37 = .ok (.putfield 183, 3) := by decide +kernel
theorem dX12_told_40 : decode cX12_told 40 = .ok (.return_, 1) := by decide +kernel
theorem dX12_asksNew_0 : decode cX12_asksNew 0 = .ok (.aload_n 0, 1) := by decide +kernel
theorem dX12_asksNew_1 : decode cX12_asksNew 1 = .ok (.iload_n 1, 1) := by decide +kernel
theorem dX12_asksNew_2 : decode cX12_asksNew 2 = .ok (.invokevirtual 190, 3) := by decide +kernel
theorem dX12_asksNew_5 : decode cX12_asksNew 5 = .ok (.iconst (-1), 1) := by decide +kernel
theorem dX12_asksNew_6 : decode cX12_asksNew 6 = .ok (.if_icmp .eq 9, 3) := by decide +kernel
theorem dX12_asksNew_9 : decode cX12_asksNew 9 = .ok (.aload_n 0, 1) := by decide +kernel
theorem dX12_asksNew_10 : decode cX12_asksNew 10 = .ok (.iconst 2, 1) := by decide +kernel
theorem dX12_asksNew_11 : decode cX12_asksNew 11 = .ok (.iload_n 1, 1) := by decide +kernel
theorem dX12_asksNew_12 : decode cX12_asksNew 12 = .ok (.invokevirtual 193, 3) := by decide +kernel
theorem dX12_asksNew_15 : decode cX12_asksNew 15 = .ok (.return_, 1) := by decide +kernel
theorem dX12_program_0 : decode cX12_program 0 = .ok (.aload_n 0, 1) := by decide +kernel
theorem dX12_program_1 : decode cX12_program 1 = .ok (.getfield 50, 3) := by decide +kernel
theorem dX12_program_4 : decode cX12_program 4 = .ok (.astore_n 1, 1) := by decide +kernel
theorem dX12_program_5 : decode cX12_program 5 = .ok (.iconst 1, 1) := by decide +kernel
theorem dX12_program_6 : decode cX12_program 6 = .ok (.istore_n 2, 1) := by decide +kernel
theorem dX12_program_7 : decode cX12_program 7 = .ok (.iload_n 2, 1) := by decide +kernel
theorem dX12_program_8 : decode cX12_program 8 = .ok (.ifCond .eq 49, 3) := by decide +kernel
theorem dX12_program_11 : decode cX12_program 11 = .ok (.aload_n 0, 1) := by decide +kernel
theorem dX12_program_12 : decode cX12_program 12 = .ok (.iconst 5, 1) := by decide +kernel
theorem dX12_program_13 : decode cX12_program 13 = .ok (.invokevirtual 197, 3) := by decide +kernel
theorem dX12_program_16 : decode cX12_program 16 = .ok (.pop, 1) := by decide +kernel
theorem dX12_program_17 : decode cX12_program 17 = .ok (.aload_n 0, 1) := by decide +kernel
theorem dX12_program_18 : decode cX12_program 18 = .ok (.iconst 2, 1) := by decide +kernel
theorem dX12_program_19 : decode cX12_program 19 = .ok (.invokevirtual 197, 3) := by decide +kernel
theorem dX12_program_22 : decode cX12_program 22 = .ok (.istore_n 3, 1) := by decide +kernel
theorem dX12_program_23 : decode cX12_program 23 = .ok (.aload_n 0, 1) := by decide +kernel
theorem dX12_program_24 : decode cX12_program 24 = .ok (.iload_n 3, 1) := by decide +kernel
theorem dX12_program_25 : decode cX12_program 25 = .ok (.invokevirtual 200, 3) := by decide +kernel
theorem dX12_program_28 : decode cX12_program 28 = .ok (.aload_n 0, 1) := by decide +kernel
theorem dX12_program_29 : decode cX12_program 29 = .ok (.bipush 40, 2) := by decide +kernel
theorem dX12_program_31 : decode cX12_program 31 = .ok (.invokevirtual 168, 3) := by decide +kernel
theorem dX12_program_34 : decode cX12_program 34 = .ok (.ifCond .eq 15, 3) := by decide +kernel
theorem dX12_program_37 : decode cX12_program 37 = .ok (.aload_n 0, 1) := by decide +kernel
theorem dX12_program_38 : decode cX12_program 38 = .ok (.iload_n 3, 1) := by decide +kernel
theorem dX12_program_39 : decode cX12_program 39 = .ok (.iconst 1, 1) := by decide +kernel
theorem dX12_program_40 : decode cX12_program 40 = .ok (.iconst 0, 1) := by decide +kernel
theorem dX12_program_41 : decode cX12_program 41 = .ok (.invokevirtual 203, 3) := by decide +kernel
theorem dX12_program_44 : decode cX12_program 44 = .ok (.iconst 0, 1) := by decide +kernel
theorem dX12_program_45 : decode cX12_program 45 = .ok (.istore_n 2, 1) := by decide +kernel
theorem dX12_program_46 : decode cX12_program 46 = .ok (.goto 8, 3) := by decide +kernel
theorem dX12_program_49 : decode cX12_program 49 = .ok (.aload_n 0, 1) := by decide +kernel
theorem dX12_program_50 : decode cX12_program 50 = .ok (.iload_n 3, 1) := by decide +kernel
theorem dX12_program_51 : decode cX12_program 51 = .ok (.invokevirtual 206, 3) := by decide +kernel
theorem dX12_program_54 : decode cX12_program 54 = .ok (.goto (-47), 3) := by decide +kernel
theorem dX12_program_57 : decode cX12_program 57 = .ok (.aload_n 0, 1) := by decide +kernel
theorem dX12_program_58 : decode cX12_program 58 = .ok (.bipush 40, 2) := by decide +kernel
theorem dX12_program_60 : decode cX12_program 60 = .ok (.invokevirtual 209, 3) := by decide +kernel
theorem dX12_program_63 : decode cX12_program 63 = .ok (.aload_n 0, 1) := by decide +kernel
theorem dX12_program_64 : decode cX12_program 64 = .ok (.getfield 24, 3) := by decide +kernel
theorem dX12_program_67 : decode cX12_program 67 = .ok (.aload_n 0, 1) := by decide +kernel
theorem dX12_program_68 : decode cX12_program 68 = .ok (.getfield 156, 3) := by decide +kernel
theorem dX12_program_71 : decode cX12_program 71 = .ok (.iaload, 1) := by decide +kernel
theorem dX12_program_72 : decode cX12_program 72 = .ok (.iconst 5, 1) := by decide +kernel
theorem dX12_program_73 : decode cX12_program 73 = .ok (.if_icmp .ne 51, 3) := by decide +kernel
theorem dX12_program_76 : decode cX12_program 76 = .ok (.aload_n 0, 1) := by decide +kernel
theorem dX12_program_77 : decode cX12_program 77 = .ok (.invokevirtual 212, 3) := by decide +kernel
theorem dX12_program_80 : decode cX12_program 80 = .ok (.aload_n 0, 1) := by decide +kernel
theorem dX12_program_81 : decode cX12_program 81 = .ok (.bipush 44, 2) := by decide +kernel
theorem dX12_program_83 : decode cX12_program 83 = .ok (.invokevirtual 168, 3) := by decide +kernel
theorem dX12_program_86 : decode cX12_program 86 = .ok (.ifCond .eq 38, 3) := by decide +kernel
theorem dX12_program_89 : decode cX12_program 89 = .ok (.aload_n 0, 1) := by decide +kernel
theorem dX12_program_90 : decode cX12_program 90 = .ok (.dup, 1) := by decide +kernel
theorem dX12_program_91 : decode cX12_program 91 = .ok (.getfield 156, 3) := by decide +kernel
theorem dX12_program_94 : decode cX12_program 94 = .ok (.iconst 1, 1) := by decide +kernel
theorem dX12_program_95 : decode cX12_program 95 = .ok (.iadd, 1) := by decide +kernel
theorem dX12_program_96 : decode cX12_program 96 = .ok (.putfield 156, 3) := by decide +kernel
theorem dX12_program_99 : decode cX12_program 99 = .ok (.aload_n 0, 1) := by decide +kernel
theorem dX12_program_100 : decode cX12_program 100 = .ok (.getfield 24, 3) := by decide +kernel
theorem dX12_program_103 : decode cX12_program 103 = .ok (.aload_n 0, 1) := by decide +kernel
theorem dX12_program_104 : decode cX12_program 104 = .ok (.getfield 156, 3) := by decide +kernel
theorem dX12_program_107 : decode cX12_program 107 = .ok (.iaload, 1) := by decide +kernel
theorem dX12_program_108 : decode cX12_program 108 = .ok (.iconst 5, 1) := by decide +kernel
theorem dX12_program_109 : decode cX12_program 109 = .ok (.if_icmp .eq 8, 3) := by decide +kernel
theorem dX12_program_112 : decode cX12_program 112 = .ok (.aload_n 0, 1) := by decide +kernel
theorem dX12_program_113 : decode cX12_program 113 = .ok (.iconst 1, 1) := by decide +kernel
theorem dX12_program_114 : decode cX12_program 114 = .ok (.invokevirtual 171, 3) := by decide +kernel
theorem dX12_program_117 : decode cX12_program 117 = .ok (.aload_n 0, 1) := by decide +kernel
theorem dX12_program_118 : decode cX12_program 118 = .ok (.invokevirtual 212, 3) := by decide +kernel
theorem dX12_program_121 : decode cX12_program 121 = .ok (.goto (-41), 3) := by decide +kernel
theorem dX12_program_124 : decode cX12_program 124 = .ok (.aload_n 0, 1) := by decide +kernel
theorem dX12_program_125 : decode cX12_program 125 = .ok (.bipush 41, 2) := by decide +kernel
theorem dX12_program_127 : decode cX12_program 127 = .ok (.invokevirtual 215, 3) := by decide +kernel
theorem dX12_program_130 : decode cX12_program 130 = .ok (.aload_n 1, 1) := by decide +kernel
theorem dX12_program_131 : decode cX12_program 131 = .ok (.aload_n 0, 1) := by decide +kernel
theorem dX12_program_132 : decode cX12_program 132 = .ok (.invokevirtual 218, 3) := by decide +kernel
theorem dX12_program_135 : decode cX12_program 135 = .ok (.putfield 222, 3) := by decide +kernel
theorem dX12_program_138 : decode cX12_program 138 = .ok (.aload_n 0, 1) := by decide +kernel
theorem dX12_program_139 : decode cX12_program 139 = .ok (.getfield 24, 3) := by decide +kernel
theorem dX12_program_142 : decode cX12_program 142 = .ok (.aload_n 0, 1) := by decide +kernel
theorem dX12_program_143 : decode cX12_program 143 = .ok (.getfield 156, 3) := by decide +kernel
theorem dX12_program_146 : decode cX12_program 146 = .ok (.iaload, 1) := by decide +kernel
theorem dX12_program_147 : decode cX12_program 147 = .ok (.ifCond .eq 8, 3) := by decide +kernel
theorem dX12_program_150 : decode cX12_program 150 = .ok (.aload_n 0, 1) := by decide +kernel
theorem dX12_program_151 : decode cX12_program 151 = .ok (.iconst 1, 1) := by decide +kernel
theorem dX12_program_152 : decode cX12_program 152 = .ok (.invokevirtual 171, 3) := by decide +kernel
theorem dX12_program_155 : decode cX12_program 155 = .ok (.return_, 1) := by decide +kernel
theorem dX12_array_0 : decode cX12_array 0 = .ok (.aload_n 0, 1) := by decide +kernel
theorem dX12_array_1 : decode cX12_array 1 = .ok (.getfield 50, 3) := by decide +kernel
theorem dX12_array_4 : decode cX12_array 4 = .ok (.astore_n 2, 1) := by decide +kernel
theorem dX12_array_5 : decode cX12_array 5 = .ok (.aload_n 0, 1) := by decide +kernel
theorem dX12_array_6 : decode cX12_array 6 = .ok (.bipush 91, 2) := by decide +kernel
theorem dX12_array_8 : decode cX12_array 8 = .ok (.invokevirtual 209, 3) := by decide +kernel
theorem dX12_array_11 : decode cX12_array 11 = .ok (.aload_n 0, 1) := by decide +kernel
theorem dX12_array_12 : decode cX12_array 12 = .ok (.iconst 3, 1) := by decide +kernel
theorem dX12_array_13 : decode cX12_array 13 = .ok (.invokevirtual 197, 3) := by decide +kernel
theorem dX12_array_16 : decode cX12_array 16 = .ok (.istore_n 3, 1) := by decide +kernel
theorem dX12_array_17 : decode cX12_array 17 = .ok (.aload_n 0, 1) := by decide +kernel
theorem dX12_array_18 : decode cX12_array 18 = .ok (.bipush 93, 2) := by decide +kernel
theorem dX12_array_20 : decode cX12_array 20 = .ok (.invokevirtual 215, 3) := by decide +kernel
theorem dX12_array_23 : decode cX12_array 23 = .ok (.aload_n 0, 1) := by decide +kernel
theorem dX12_array_24 : decode cX12_array 24 = .ok (.bipush 59, 2) := by decide +kernel
theorem dX12_array_26 : decode cX12_array 26 = .ok (.invokevirtual 180, 3) := by decide +kernel
theorem dX12_array_29 : decode cX12_array 29 = .ok (.aload_n 2, 1) := by decide +kernel
theorem dX12_array_30 : decode cX12_array 30 = .ok (.getfield 225, 3) := by decide +kernel
theorem dX12_array_33 : decode cX12_array 33 = .ok (.bipush 8, 2) := by decide +kernel
theorem dX12_array_35 : decode cX12_array 35 = .ok (.if_icmp .lt 10, 3) := by decide +kernel
theorem dX12_array_38 : decode cX12_array 38 = .ok (.aload_n 0, 1) := by decide +kernel
theorem dX12_array_39 : decode cX12_array 39 = .ok (.bipush 6, 2) := by decide +kernel
theorem dX12_array_41 : decode cX12_array 41 = .ok (.iload_n 1, 1) := by decide +kernel
theorem dX12_array_42 : decode cX12_array 42 = .ok (.invokevirtual 193, 3) := by decide +kernel
theorem dX12_array_45 : decode cX12_array 45 = .ok (.aload_n 0, 1) := by decide +kernel
theorem dX12_array_46 : decode cX12_array 46 = .ok (.getfield 30, 3) := by decide +kernel
theorem dX12_array_49 : decode cX12_array 49 = .ok (.iload_n 3, 1) := by decide +kernel
theorem dX12_array_50 : decode cX12_array 50 = .ok (.iaload, 1) := by decide +kernel
theorem dX12_array_51 : decode cX12_array 51 = .ok (.iconst 1, 1) := by decide +kernel
theorem dX12_array_52 : decode cX12_array 52 = .ok (.if_icmp .lt 15, 3) := by decide +kernel
theorem dX12_array_55 : decode cX12_array 55 = .ok (.aload_n 0, 1) := by decide +kernel
theorem dX12_array_56 : decode cX12_array 56 = .ok (.getfield 30, 3) := by decide +kernel
theorem dX12_array_59 : decode cX12_array 59 = .ok (.iload_n 3, 1) := by decide +kernel
theorem dX12_array_60 : decode cX12_array 60 = .ok (.iaload, 1) := by decide +kernel
theorem dX12_array_61 : decode cX12_array 61 = .ok (.sipush 256, 3) := by decide +kernel
theorem dX12_array_64 : decode cX12_array 64 = .ok (.if_icmp .le 10, 3) := by decide +kernel
theorem dX12_array_67 : decode cX12_array 67 = .ok (.aload_n 0, 1) := by decide +kernel
theorem dX12_array_68 : decode cX12_array 68 = .ok (.bipush 6, 2) := by decide +kernel
theorem dX12_array_70 : decode cX12_array 70 = .ok (.iload_n 3, 1) := by decide +kernel
theorem dX12_array_71 : decode cX12_array 71 = .ok (.invokevirtual 193, 3) := by decide +kernel
theorem dX12_array_74 : decode cX12_array 74 = .ok (.aload_n 2, 1) := by decide +kernel
theorem dX12_array_75 : decode cX12_array 75 = .ok (.getfield 225, 3) := by decide +kernel
theorem dX12_array_78 : decode cX12_array 78 = .ok (.bipush 8, 2) := by decide +kernel
theorem dX12_array_80 : decode cX12_array 80 = .ok (.if_icmp .ge 18, 3) := by decide +kernel
theorem dX12_array_83 : decode cX12_array 83 = .ok (.aload_n 2, 1) := by decide +kernel
theorem dX12_array_84 : decode cX12_array 84 = .ok (.getfield 228, 3) := by decide +kernel
theorem dX12_array_87 : decode cX12_array 87 = .ok (.aload_n 2, 1) := by decide +kernel
theorem dX12_array_88 : decode cX12_array 88 = .ok (.getfield 225, 3) := by decide +kernel
theorem dX12_array_91 : decode cX12_array 91 = .ok (.aload_n 0, 1) := by decide +kernel
theorem dX12_array_92 : decode cX12_array 92 = .ok (.getfield 30, 3) := by decide +kernel
theorem dX12_array_95 : decode cX12_array 95 = .ok (.iload_n 3, 1) := by decide +kernel
theorem dX12_array_96 : decode cX12_array 96 = .ok (.iaload, 1) := by decide +kernel
theorem dX12_array_97 : decode cX12_array 97 = .ok (.iastore, 1) := by decide +kernel
theorem dX12_array_98 : decode cX12_array 98 = .ok (.aload_n 0, 1) := by decide +kernel
theorem dX12_array_99 : decode cX12_array 99 = .ok (.iload_n 1, 1) := by decide +kernel
theorem dX12_array_100 : decode cX12_array 100 = .ok (.iconst 0, 1) := by decide +kernel
theorem dX12_array_101 : decode cX12_array 101 = .ok (.aload_n 2, 1) := by decide +kernel
theorem dX12_array_102 : decode cX12_array 102 = .ok (.getfield 225, 3) := by decide +kernel
theorem dX12_array_105 : decode cX12_array 105 = .ok (.invokevirtual 203, 3) := by decide +kernel
theorem dX12_array_108 : decode cX12_array 108 = .ok (.aload_n 2, 1) := by decide +kernel
theorem dX12_array_109 : decode cX12_array 109 = .ok (.dup, 1) := by decide +kernel
theorem dX12_array_110 : decode cX12_array 110 = .ok (.getfield 225, 3) := by decide +kernel
theorem dX12_array_113 : decode cX12_array 113 = .ok (.iconst 1, 1) := by decide +kernel
theorem dX12_array_114 : decode cX12_array 114 = .ok (.iadd, 1) := by decide +kernel
theorem dX12_array_115 : decode cX12_array 115 = .ok (.putfield 225, 3) := by decide +kernel
theorem dX12_array_118 : decode cX12_array 118 = .ok (.return_, 1) := by decide +kernel
theorem dX12_parameter_0 : decode cX12_parameter 0 = .ok (.aload_n 0, 1) := by decide +kernel
theorem dX12_parameter_1 : decode cX12_parameter 1 = .ok (.getfield 50, 3) := by decide +kernel
theorem dX12_parameter_4 : decode cX12_parameter 4 = .ok (.astore_n 1, 1) := by decide +kernel
theorem dX12_parameter_5 : decode cX12_parameter 5 = .ok (.aload_n 0, 1) := by decide +kernel
theorem dX12_parameter_6 : decode cX12_parameter 6 = .ok (.dup, 1) := by decide +kernel
theorem dX12_parameter_7 : decode cX12_parameter 7 = .ok (.getfield 156, 3) := by decide +kernel
theorem dX12_parameter_10 : decode cX12_parameter 10 = .ok (.iconst 1, 1) := by decide +kernel
theorem dX12_parameter_11 : decode cX12_parameter 11 = .ok (.iadd, 1) := by decide +kernel
theorem dX12_parameter_12 : decode cX12_parameter 12 = .ok (.putfield 156, 3) := by decide +kernel
theorem dX12_parameter_15 : decode cX12_parameter 15 = .ok (.aload_n 0, 1) := by decide +kernel
theorem dX12_parameter_16 : decode cX12_parameter 16 = .ok (.iconst 2, 1) := by decide +kernel
theorem dX12_parameter_17 : decode cX12_parameter 17 = .ok (.invokevirtual 197, 3) := by decide +kernel
theorem dX12_parameter_20 : decode cX12_parameter 20 = .ok (.istore_n 2, 1) := by decide +kernel
theorem dX12_parameter_21 : decode cX12_parameter 21 = .ok (.aload_n 0, 1) := by decide +kernel
theorem dX12_parameter_22 : decode cX12_parameter 22 = .ok (.iload_n 2, 1) := by decide +kernel
theorem dX12_parameter_23 : decode cX12_parameter 23 = .ok (.invokevirtual 200, 3) := by decide +kernel
theorem dX12_parameter_26 : decode cX12_parameter 26 = .ok (.aload_n 1, 1) := by decide +kernel
theorem dX12_parameter_27 : decode cX12_parameter 27 = .ok (.getfield 231, 3) := by decide +kernel
theorem dX12_parameter_30 : decode cX12_parameter 30 = .ok (.iconst 4, 1) := by decide +kernel
theorem dX12_parameter_31 : decode cX12_parameter 31 = .ok (.if_icmp .lt 10, 3) := by decide +kernel
theorem dX12_parameter_34 : decode cX12_parameter 34 = .ok (.aload_n 0, 1) := by decide +kernel
theorem dX12_parameter_35 : decode cX12_parameter 35 = .ok (.bipush 6, 2) := by decide +kernel
theorem dX12_parameter_37 : decode cX12_parameter 37 = .ok (.iload_n 2, 1) := by decide +kernel
theorem dX12_parameter_38 : decode cX12_parameter 38 = .ok (.invokevirtual 193, 3) := by decide +kernel
theorem dX12_parameter_41 : decode cX12_parameter 41 = .ok (.aload_n 1, 1) := by decide +kernel
theorem dX12_parameter_42 : decode cX12_parameter 42 = .ok (.dup, 1) := by decide +kernel
theorem dX12_parameter_43 : decode cX12_parameter 43 = .ok (.getfield 231, 3) := by decide +kernel
theorem dX12_parameter_46 : decode cX12_parameter 46 = .ok (.iconst 1, 1) := by decide +kernel
theorem dX12_parameter_47 : decode cX12_parameter 47 = .ok (.iadd, 1) := by decide +kernel
theorem dX12_parameter_48 : decode cX12_parameter 48 = .ok (.putfield 231, 3) := by decide +kernel
theorem dX12_parameter_51 : decode cX12_parameter 51 = .ok (.aload_n 0, 1) := by decide +kernel
theorem dX12_parameter_52 : decode cX12_parameter 52 = .ok (.iload_n 2, 1) := by decide +kernel
theorem dX12_parameter_53 : decode cX12_parameter 53 = .ok (.invokevirtual 234, 3) := by decide +kernel
theorem dX12_parameter_56 : decode cX12_parameter 56 = .ok (.return_, 1) := by decide +kernel
theorem dX12_variableTold_0 : decode cX12_variableTold 0 = .ok (.aload_n 0, 1) := by decide +kernel
theorem dX12_variableTold_1 : decode cX12_variableTold 1 = .ok (.getfield 50, 3) := by decide +kernel
theorem dX12_variableTold_4 : decode cX12_variableTold 4 = .ok (.astore_n 2, 1) := by decide +kernel
theorem dX12_variableTold_5 : decode cX12_variableTold 5 = .ok (.aload_n 2, 1) := by decide +kernel
theorem dX12_variableTold_6 : decode cX12_variableTold 6 = .ok (.getfield 237, 3) := by decide +kernel
theorem dX12_variableTold_9 : decode cX12_variableTold 9 = .ok (.bipush 16, 2) := by decide +kernel
theorem dX12_variableTold_11 : decode cX12_variableTold 11 = .ok (.if_icmp .lt 10, 3) := by decide +kernel
theorem dX12_variableTold_14 : decode cX12_variableTold 14 = .ok (.aload_n 0, 1) := by decide +kernel
theorem dX12_variableTold_15 : decode cX12_variableTold 15 = .ok (.bipush 6, 2) := by decide +kernel
theorem dX12_variableTold_17 : decode cX12_variableTold 17 = .ok (.iload_n 1, 1) := by decide +kernel
theorem dX12_variableTold_18 : decode cX12_variableTold 18 = .ok (.invokevirtual 193, 3) := by decide +kernel
theorem dX12_variableTold_21 : decode cX12_variableTold 21 = .ok (.aload_n 0, 1) := by decide +kernel
theorem dX12_variableTold_22 : decode cX12_variableTold 22 = .ok (.iload_n 1, 1) := by decide +kernel
theorem dX12_variableTold_23 : decode cX12_variableTold 23 = .ok (.iconst 2, 1) := by decide +kernel
theorem dX12_variableTold_24 : decode cX12_variableTold 24 = .ok (.aload_n 2, 1) := by decide +kernel
theorem dX12_variableTold_25 : decode cX12_variableTold 25 = .ok (.getfield 237, 3) := by decide +kernel
theorem dX12_variableTold_28 : decode cX12_variableTold 28 = .ok (.invokevirtual 203, 3) := by decide +kernel
theorem dX12_variableTold_31 : decode cX12_variableTold 31 = .ok (.aload_n 2, 1) := by decide +kernel
theorem dX12_variableTold_32 : decode cX12_variableTold 32 = .ok (.dup, 1) := by decide +kernel
theorem dX12_variableTold_33 : decode cX12_variableTold 33 = .ok (.getfield 237, 3) := by decide +kernel
theorem dX12_variableTold_36 : decode cX12_variableTold 36 = .ok (.iconst 1, 1) := by decide +kernel
theorem dX12_variableTold_37 : decode cX12_variableTold 37 = .ok (.iadd, 1) := by decide +kernel
theorem dX12_variableTold_38 : decode cX12_variableTold 38 = .ok (.putfield 237, 3) := by decide +kernel
theorem dX12_variableTold_41 : decode cX12_variableTold 41 = .ok (.return_, 1) := by decide +kernel
theorem dX12_block_0 : decode cX12_block 0 = .ok (.aload_n 0, 1) := by decide +kernel
theorem dX12_block_1 : decode cX12_block 1 = .ok (.getfield 183, 3) := by decide +kernel
theorem dX12_block_4 : decode cX12_block 4 = .ok (.istore_n 1, 1) := by decide +kernel
theorem dX12_block_5 : decode cX12_block 5 = .ok (.aload_n 0, 1) := by decide +kernel
theorem dX12_block_6 : decode cX12_block 6 = .ok (.bipush 123, 2) := by decide +kernel
theorem dX12_block_8 : decode cX12_block 8 = .ok (.invokevirtual 209, 3) := by decide +kernel
theorem dX12_block_11 : decode cX12_block 11 = .ok (.iconst (-1), 1) := by decide +kernel
theorem dX12_block_12 : decode cX12_block 12 = .ok (.istore_n 2, 1) := by decide +kernel
theorem dX12_block_13 : decode cX12_block 13 = .ok (.iconst (-1), 1) := by decide +kernel
theorem dX12_block_14 : decode cX12_block 14 = .ok (.istore_n 3, 1) := by decide +kernel
theorem dX12_block_15 : decode cX12_block 15 = .ok (.aload_n 0, 1) := by decide +kernel
theorem dX12_block_16 : decode cX12_block 16 = .ok (.bipush 125, 2) := by decide +kernel
theorem dX12_block_18 : decode cX12_block 18 = .ok (.invokevirtual 168, 3) := by decide +kernel
theorem dX12_block_21 : decode cX12_block 21 = .ok (.ifCond .ne 37, 3) := by decide +kernel
theorem dX12_block_24 : decode cX12_block 24 = .ok (.aload_n 0, 1) := by decide +kernel
theorem dX12_block_25 : decode cX12_block 25 = .ok (.invokevirtual 240, 3) := by decide +kernel
theorem dX12_block_28 : decode cX12_block 28 = .ok (.istore 4, 2) := by decide +kernel
theorem dX12_block_30 : decode cX12_block 30 = .ok (.iload_n 2, 1) := by decide +kernel
theorem dX12_block_31 : decode cX12_block 31 = .ok (.iconst (-1), 1) := by decide +kernel
theorem dX12_block_32 : decode cX12_block 32 = .ok (.if_icmp .ne 9, 3) := by decide +kernel
theorem dX12_block_35 : decode cX12_block 35 = .ok (.iload 4, 2) := by decide +kernel
theorem dX12_block_37 : decode cX12_block 37 = .ok (.istore_n 2, 1) := by decide +kernel
theorem dX12_block_38 : decode cX12_block 38 = .ok (.goto 14, 3) := by decide +kernel
theorem dX12_block_41 : decode cX12_block 41 = .ok (.aload_n 0, 1) := by decide +kernel
theorem dX12_block_42 : decode cX12_block 42 = .ok (.getfield 50, 3) := by decide +kernel
theorem dX12_block_45 : decode cX12_block 45 = .ok (.getfield 243, 3) := by decide +kernel
theorem dX12_block_48 : decode cX12_block 48 = .ok (.iload_n 3, 1) := by decide +kernel
theorem dX12_block_49 : decode cX12_block 49 = .ok (.iload 4, 2) := by decide +kernel
theorem dX12_block_51 : decode cX12_block 51 = .ok (.iastore, 1) := by decide +kernel
theorem dX12_block_52 : decode cX12_block 52 = .ok (.iload 4, 2) := by decide +kernel
theorem dX12_block_54 : decode cX12_block 54 = .ok (.istore_n 3, 1) := by decide +kernel
theorem dX12_block_55 : decode cX12_block 55 = .ok (.goto (-40), 3) := by decide +kernel
theorem dX12_block_58 : decode cX12_block 58 = .ok (.aload_n 0, 1) := by decide +kernel
theorem dX12_block_59 : decode cX12_block 59 = .ok (.bipush 125, 2) := by decide +kernel
theorem dX12_block_61 : decode cX12_block 61 = .ok (.invokevirtual 215, 3) := by decide +kernel
theorem dX12_block_64 : decode cX12_block 64 = .ok (.aload_n 0, 1) := by decide +kernel
theorem dX12_block_65 : decode cX12_block 65 = .ok (.iload_n 1, 1) := by decide +kernel
theorem dX12_block_66 : decode cX12_block 66 = .ok (.putfield 183, 3) := by decide +kernel
theorem dX12_block_69 : decode cX12_block 69 = .ok (.iload_n 2, 1) := by decide +kernel
theorem dX12_block_70 : decode cX12_block 70 = .ok (.ireturn, 1) := by decide +kernel
theorem dX12_newStatement_0 : decode cX12_newStatement 0 = .ok (.aload_n 0, 1) := by decide +kernel
theorem dX12_newStatement_1 : decode cX12_newStatement 1 = .ok (.getfield 50, 3) := by decide +kernel
theorem dX12_newStatement_4 : decode cX12_newStatement 4 = .ok (.astore_n 2, 1) := by decide +kernel
theorem dX12_newStatement_5 : decode cX12_newStatement 5 = .ok (.aload_n 2, 1) := by decide +kernel
theorem dX12_newStatement_6 : decode cX12_newStatement 6 = .ok (.getfield 246, 3) := by decide +kernel
theorem dX12_newStatement_9 : decode cX12_newStatement 9 = .ok (.istore_n 3, 1) := by decide +kernel
theorem dX12_newStatement_10 : decode cX12_newStatement 10 = .ok (.aload_n 2, 1) := by decide +kernel
theorem dX12_newStatement_11 : decode cX12_newStatement 11 = .ok (.dup, 1) := by decide +kernel
theorem dX12_newStatement_12 : decode cX12_newStatement 12 = .ok (.getfield 246, 3) := by decide +kernel
theorem dX12_newStatement_15 : decode cX12_newStatement 15 = .ok (.iconst 1, 1) := by decide +kernel
theorem dX12_newStatement_16 : decode cX12_newStatement 16 = .ok (.iadd, 1) := by decide +kernel
theorem dX12_newStatement_17 : decode cX12_newStatement 17 = .ok (.putfield 246, 3) := by decide +kernel
theorem dX12_newStatement_20 : decode cX12_newStatement 20 = .ok (.aload_n 2, 1) := by decide +kernel
theorem dX12_newStatement_21 : decode cX12_newStatement 21 = .ok (.getfield 249, 3) := by decide +kernel
theorem dX12_newStatement_24 : decode cX12_newStatement 24 = .ok (.iload_n 3, 1) := by decide +kernel
theorem dX12_newStatement_25 : decode cX12_newStatement 25 = .ok (.iload_n 1, 1) := by decide +kernel
theorem dX12_newStatement_26 : decode cX12_newStatement 26 = .ok (.iastore, 1) := by decide +kernel
theorem dX12_newStatement_27 : decode cX12_newStatement 27 = .ok (.aload_n 2, 1) := by decide +kernel
theorem dX12_newStatement_28 : decode cX12_newStatement 28 = .ok (.getfield 252, 3) := by decide +kernel
theorem dX12_newStatement_31 : decode cX12_newStatement 31 = .ok (.iload_n 3, 1) := by decide +kernel
theorem dX12_newStatement_32 : decode cX12_newStatement 32 = .ok (.iconst 0, 1) := by decide +kernel
theorem dX12_newStatement_33 : decode cX12_newStatement 33 = .ok (.iastore, 1) := by decide +kernel
theorem dX12_newStatement_34 : decode cX12_newStatement 34 = .ok (.aload_n 2, 1) := by decide +kernel
theorem dX12_newStatement_35 : decode cX12_newStatement 35 = .ok (.getfield 255, 3) := by decide +kernel
theorem dX12_newStatement_38 : decode cX12_newStatement 38 = .ok (.iload_n 3, 1) := by decide +kernel
theorem dX12_newStatement_39 : decode cX12_newStatement 39 = .ok (.iconst (-1), 1) := by decide +kernel
theorem dX12_newStatement_40 : decode cX12_newStatement 40 = .ok (.iastore, 1) := by decide +kernel
theorem dX12_newStatement_41 : decode cX12_newStatement 41 = .ok (.aload_n 2, 1) := by decide +kernel
theorem dX12_newStatement_42 : decode cX12_newStatement 42 = .ok (.getfield 258, 3) := by decide +kernel
theorem dX12_newStatement_45 : decode cX12_newStatement 45 = .ok (.iload_n 3, 1) := by decide +kernel
theorem dX12_newStatement_46 : decode cX12_newStatement 46 = .ok (.iconst (-1), 1) := by decide +kernel
theorem dX12_newStatement_47 : decode cX12_newStatement 47 = .ok (.iastore, 1) := by decide +kernel
theorem dX12_newStatement_48 : decode cX12_newStatement 48 = .ok (.aload_n 2, 1) := by decide +kernel
theorem dX12_newStatement_49 : decode cX12_newStatement 49 = .ok (.getfield 243, 3) := by decide +kernel
theorem dX12_newStatement_52 : decode cX12_newStatement 52 = .ok (.iload_n 3, 1) := by decide +kernel
theorem dX12_newStatement_53 : decode cX12_newStatement 53 = .ok (.iconst (-1), 1) := by decide +kernel
theorem dX12_newStatement_54 : decode cX12_newStatement 54 = .ok (.iastore, 1) := by decide +kernel
theorem dX12_newStatement_55 : decode cX12_newStatement 55 = .ok (.iload_n 3, 1) := by decide +kernel
theorem dX12_newStatement_56 : decode cX12_newStatement 56 = .ok (.ireturn, 1) := by decide +kernel
theorem dX12_within_0 : decode cX12_within 0 = .ok (.aload_n 0, 1) := by decide +kernel
theorem dX12_within_1 : decode cX12_within 1 = .ok (.getfield 183, 3) := by decide +kernel
theorem dX12_within_4 : decode cX12_within 4 = .ok (.istore_n 1, 1) := by decide +kernel
theorem dX12_within_5 : decode cX12_within 5 = .ok (.aload_n 0, 1) := by decide +kernel
theorem dX12_within_6 : decode cX12_within 6 = .ok (.invokevirtual 240, 3) := by decide +kernel
theorem dX12_within_9 : decode cX12_within 9 = .ok (.istore_n 2, 1) := by decide +kernel
theorem dX12_within_10 : decode cX12_within 10 = .ok (.aload_n 0, 1) := by decide +kernel
theorem dX12_within_11 : decode cX12_within 11 = .ok (.iload_n 1, 1) := by decide +kernel
theorem dX12_within_12 : decode cX12_within 12 = .ok (.putfield 183, 3) := by decide +kernel
theorem dX12_within_15 : decode cX12_within 15 = .ok (.iload_n 2, 1) := by decide +kernel
theorem dX12_within_16 : decode cX12_within 16 = .ok (.ireturn, 1) := by decide +kernel
theorem dX12_statement_0 : decode cX12_statement 0 = .ok (.aload_n 0, 1) := by decide +kernel
theorem dX12_statement_1 : decode cX12_statement 1 = .ok (.getfield 50, 3) := by decide +kernel
theorem dX12_statement_4 : decode cX12_statement 4 = .ok (.astore_n 1, 1) := by decide +kernel
theorem dX12_statement_5 : decode cX12_statement 5 = .ok (.aload_n 0, 1) := by decide +kernel
theorem dX12_statement_6 : decode cX12_statement 6 = .ok (.getfield 156, 3) := by decide +kernel
theorem dX12_statement_9 : decode cX12_statement 9 = .ok (.istore_n 2, 1) := by decide +kernel
theorem dX12_statement_10 : decode cX12_statement 10 = .ok (.aload_n 0, 1) := by decide +kernel
theorem dX12_statement_11 : decode cX12_statement 11 = .ok (.getfield 24, 3) := by decide +kernel
theorem dX12_statement_14 : decode cX12_statement 14 = .ok (.aload_n 0, 1) := by decide +kernel
theorem dX12_statement_15 : decode cX12_statement 15 = .ok (.getfield 156, 3) := by decide +kernel
theorem dX12_statement_18 : decode cX12_statement 18 = .ok (.iaload, 1) := by decide +kernel
theorem dX12_statement_19 : decode cX12_statement 19 = .ok (.tableswitch 239 2 11 #[139, 239, 239, 53, 144, 239, 149, 154, 154, 204], 53) := by decide +kernel
theorem dX12_statement_72 : decode cX12_statement 72 = .ok (.aload_n 0, 1) := by decide +kernel
theorem dX12_statement_73 : decode cX12_statement 73 = .ok (.dup, 1) := by decide +kernel
theorem dX12_statement_74 : decode cX12_statement 74 = .ok (.getfield 156, 3) := by decide +kernel
theorem dX12_statement_77 : decode cX12_statement 77 = .ok (.iconst 1, 1) := by decide +kernel
theorem dX12_statement_78 : decode cX12_statement 78 = .ok (.iadd, 1) := by decide +kernel
theorem dX12_statement_79 : decode cX12_statement 79 = .ok (.putfield 156, 3) := by decide +kernel
theorem dX12_statement_82 : decode cX12_statement 82 = .ok (.aload_n 0, 1) := by decide +kernel
theorem dX12_statement_83 : decode cX12_statement 83 = .ok (.iconst 2, 1) := by decide +kernel
theorem dX12_statement_84 : decode cX12_statement 84 = .ok (.invokevirtual 197, 3) := by decide +kernel
theorem dX12_statement_87 : decode cX12_statement 87 = .ok (.istore 4, 2) := by decide +kernel
theorem dX12_statement_89 : decode cX12_statement 89 = .ok (.aload_n 0, 1) := by decide +kernel
theorem dX12_statement_90 : decode cX12_statement 90 = .ok (.iload 4, 2) := by decide +kernel
theorem dX12_statement_92 : decode cX12_statement 92 = .ok (.invokevirtual 200, 3) := by decide +kernel
theorem dX12_statement_95 : decode cX12_statement 95 = .ok (.aload_n 1, 1) := by decide +kernel
theorem dX12_statement_96 : decode cX12_statement 96 = .ok (.getfield 237, 3) := by decide +kernel
theorem dX12_statement_99 : decode cX12_statement 99 = .ok (.bipush 16, 2) := by decide +kernel
theorem dX12_statement_101 : decode cX12_statement 101 = .ok (.if_icmp .lt 11, 3) := by decide +kernel
theorem dX12_statement_104 : decode cX12_statement 104 = .ok (.aload_n 0, 1) := by decide +kernel
theorem dX12_statement_105 : decode cX12_statement 105 = .ok (.bipush 6, 2) := by decide +kernel
theorem dX12_statement_107 : decode cX12_statement 107 = .ok (.iload 4, 2) := by decide +kernel
theorem dX12_statement_109 : decode cX12_statement 109 = .ok (.invokevirtual 193, 3) := by decide +kernel
theorem dX12_statement_112 : decode cX12_statement 112 = .ok (.aload_n 0, 1) := by decide +kernel
theorem dX12_statement_113 : decode cX12_statement 113 = .ok (.bipush 61, 2) := by decide +kernel
theorem dX12_statement_115 : decode cX12_statement 115 = .ok (.invokevirtual 180, 3) := by decide +kernel
theorem dX12_statement_118 : decode cX12_statement 118 = .ok (.aload_n 0, 1) := by decide +kernel
theorem dX12_statement_119 : decode cX12_statement 119 = .ok (.iconst 0, 1) := by decide +kernel
theorem dX12_statement_120 : decode cX12_statement 120 = .ok (.invokevirtual 261, 3) := by decide +kernel
theorem dX12_statement_123 : decode cX12_statement 123 = .ok (.istore_n 3, 1) := by decide +kernel
theorem dX12_statement_124 : decode cX12_statement 124 = .ok (.aload_n 1, 1) := by decide +kernel
theorem dX12_statement_125 : decode cX12_statement 125 = .ok (.getfield 264, 3) := by decide +kernel
theorem dX12_statement_128 : decode cX12_statement 128 = .ok (.iload_n 3, 1) := by decide +kernel
theorem dX12_statement_129 : decode cX12_statement 129 = .ok (.aload_n 0, 1) := by decide +kernel
theorem dX12_statement_130 : decode cX12_statement 130 = .ok (.invokevirtual 267, 3) := by decide +kernel
theorem dX12_statement_133 : decode cX12_statement 133 = .ok (.iastore, 1) := by decide +kernel
theorem dX12_statement_134 : decode cX12_statement 134 = .ok (.aload_n 0, 1) := by decide +kernel
theorem dX12_statement_135 : decode cX12_statement 135 = .ok (.bipush 59, 2) := by decide +kernel
theorem dX12_statement_137 : decode cX12_statement 137 = .ok (.invokevirtual 180, 3) := by decide +kernel
theorem dX12_statement_140 : decode cX12_statement 140 = .ok (.aload_n 1, 1) := by decide +kernel
theorem dX12_statement_141 : decode cX12_statement 141 = .ok (.getfield 252, 3) := by decide +kernel
theorem dX12_statement_144 : decode cX12_statement 144 = .ok (.iload_n 3, 1) := by decide +kernel
theorem dX12_statement_145 : decode cX12_statement 145 = .ok (.aload_n 1, 1) := by decide +kernel
theorem dX12_statement_146 : decode cX12_statement 146 = .ok (.getfield 237, 3) := by decide +kernel
theorem dX12_statement_149 : decode cX12_statement 149 = .ok (.iastore, 1) := by decide +kernel
theorem dX12_statement_150 : decode cX12_statement 150 = .ok (.aload_n 0, 1) := by decide +kernel
theorem dX12_statement_151 : decode cX12_statement 151 = .ok (.iload 4, 2) := by decide +kernel
theorem dX12_statement_153 : decode cX12_statement 153 = .ok (.invokevirtual 234, 3) := by decide +kernel
theorem dX12_statement_156 : decode cX12_statement 156 = .ok (.iload_n 3, 1) := by decide +kernel
theorem dX12_statement_157 : decode cX12_statement 157 = .ok (.ireturn, 1) := by decide +kernel
theorem dX12_statement_158 : decode cX12_statement 158 = .ok (.aload_n 0, 1) := by decide +kernel
theorem dX12_statement_159 : decode cX12_statement 159 = .ok (.invokevirtual 270, 3) := by decide +kernel
theorem dX12_statement_162 : decode cX12_statement 162 = .ok (.ireturn, 1) := by decide +kernel
theorem dX12_statement_163 : decode cX12_statement 163 = .ok (.aload_n 0, 1) := by decide +kernel
theorem dX12_statement_164 : decode cX12_statement 164 = .ok (.invokevirtual 273, 3) := by decide +kernel
theorem dX12_statement_167 : decode cX12_statement 167 = .ok (.ireturn, 1) := by decide +kernel
theorem dX12_statement_168 : decode cX12_statement 168 = .ok (.aload_n 0, 1) := by decide +kernel
theorem dX12_statement_169 : decode cX12_statement 169 = .ok (.invokevirtual 276, 3) := by decide +kernel
theorem dX12_statement_172 : decode cX12_statement 172 = .ok (.ireturn, 1) := by decide +kernel
theorem dX12_statement_173 : decode cX12_statement 173 = .ok (.aload_n 0, 1) := by decide +kernel
theorem dX12_statement_174 : decode cX12_statement 174 = .ok (.dup, 1) := by decide +kernel
theorem dX12_statement_175 : decode cX12_statement 175 = .ok (.getfield 156, 3) := by decide +kernel
theorem dX12_statement_178 : decode cX12_statement 178 = .ok (.iconst 1, 1) := by decide +kernel
theorem dX12_statement_179 : decode cX12_statement 179 = .ok (.iadd, 1) := by decide +kernel
theorem dX12_statement_180 : decode cX12_statement 180 = .ok (.putfield 156, 3) := by decide +kernel
theorem dX12_statement_183 : decode cX12_statement 183 = .ok (.aload_n 0, 1) := by decide +kernel
theorem dX12_statement_184 : decode cX12_statement 184 = .ok (.bipush 59, 2) := by decide +kernel
theorem dX12_statement_186 : decode cX12_statement 186 = .ok (.invokevirtual 180, 3) := by decide +kernel
theorem dX12_statement_189 : decode cX12_statement 189 = .ok (.aload_n 0, 1) := by decide +kernel
theorem dX12_statement_190 : decode cX12_statement 190 = .ok (.getfield 279, 3) := by decide +kernel
theorem dX12_statement_193 : decode cX12_statement 193 = .ok (.ifCond .ne 9, 3) := by decide +kernel
theorem dX12_statement_196 : decode cX12_statement 196 = .ok (.aload_n 0, 1) := by decide +kernel
theorem dX12_statement_197 : decode cX12_statement 197 = .ok (.iconst 5, 1) := by decide +kernel
theorem dX12_statement_198 : decode cX12_statement 198 = .ok (.iload_n 2, 1) := by decide +kernel
theorem dX12_statement_199 : decode cX12_statement 199 = .ok (.invokevirtual 193, 3) := by decide +kernel
theorem dX12_statement_202 : decode cX12_statement 202 = .ok (.aload_n 0, 1) := by decide +kernel
theorem dX12_statement_203 : decode cX12_statement 203 = .ok (.aload_n 0, 1) := by decide +kernel
theorem dX12_statement_204 : decode cX12_statement 204 = .ok (.getfield 24, 3) := by decide +kernel
theorem dX12_statement_207 : decode cX12_statement 207 = .ok (.iload_n 2, 1) := by decide +kernel
theorem dX12_statement_208 : decode cX12_statement 208 = .ok (.iaload, 1) := by decide +kernel
theorem dX12_statement_209 : decode cX12_statement 209 = .ok (.bipush 9, 2) := by decide +kernel
theorem dX12_statement_211 : decode cX12_statement 211 = .ok (.if_icmp .ne 7, 3) := by decide +kernel
theorem dX12_statement_214 : decode cX12_statement 214 = .ok (.iconst 4, 1) := by decide +kernel
theorem dX12_statement_215 : decode cX12_statement 215 = .ok (.goto 4, 3) := by decide +kernel
theorem dX12_statement_218 : decode cX12_statement 218 = .ok (.iconst 5, 1) := by decide +kernel
theorem dX12_statement_219 : decode cX12_statement 219 = .ok (.invokevirtual 261, 3) := by decide +kernel
theorem dX12_statement_222 : decode cX12_statement 222 = .ok (.ireturn, 1) := by decide +kernel
theorem dX12_statement_223 : decode cX12_statement 223 = .ok (.aload_n 0, 1) := by decide +kernel
theorem dX12_statement_224 : decode cX12_statement 224 = .ok (.dup, 1) := by decide +kernel
theorem dX12_statement_225 : decode cX12_statement 225 = .ok (.getfield 156, 3) := by decide +kernel
theorem dX12_statement_228 : decode cX12_statement 228 = .ok (.iconst 1, 1) := by decide +kernel
theorem dX12_statement_229 : decode cX12_statement 229 = .ok (.iadd, 1) := by decide +kernel
theorem dX12_statement_230 : decode cX12_statement 230 = .ok (.putfield 156, 3) := by decide +kernel
theorem dX12_statement_233 : decode cX12_statement 233 = .ok (.aload_n 0, 1) := by decide +kernel
theorem dX12_statement_234 : decode cX12_statement 234 = .ok (.bipush 6, 2) := by decide +kernel
theorem dX12_statement_236 : decode cX12_statement 236 = .ok (.invokevirtual 261, 3) := by decide +kernel
theorem dX12_statement_239 : decode cX12_statement 239 = .ok (.istore_n 3, 1) := by decide +kernel
theorem dX12_statement_240 : decode cX12_statement 240 = .ok (.aload_n 1, 1) := by decide +kernel
theorem dX12_statement_241 : decode cX12_statement 241 = .ok (.getfield 264, 3) := by decide +kernel
theorem dX12_statement_244 : decode cX12_statement 244 = .ok (.iload_n 3, 1) := by decide +kernel
theorem dX12_statement_245 : decode cX12_statement 245 = .ok (.aload_n 0, 1) := by decide +kernel
theorem dX12_statement_246 : decode cX12_statement 246 = .ok (.invokevirtual 267, 3) := by decide +kernel
theorem dX12_statement_249 : decode cX12_statement 249 = .ok (.iastore, 1) := by decide +kernel
theorem dX12_statement_250 : decode cX12_statement 250 = .ok (.aload_n 0, 1) := by decide +kernel
theorem dX12_statement_251 : decode cX12_statement 251 = .ok (.bipush 59, 2) := by decide +kernel
theorem dX12_statement_253 : decode cX12_statement 253 = .ok (.invokevirtual 180, 3) := by decide +kernel
theorem dX12_statement_256 : decode cX12_statement 256 = .ok (.iload_n 3, 1) := by decide +kernel
theorem dX12_statement_257 : decode cX12_statement 257 = .ok (.ireturn, 1) := by decide +kernel
theorem dX12_statement_258 : decode cX12_statement 258 = .ok (.aload_n 0, 1) := by decide +kernel
theorem dX12_statement_259 : decode cX12_statement 259 = .ok (.bipush 123, 2) := by decide +kernel
theorem dX12_statement_261 : decode cX12_statement 261 = .ok (.invokevirtual 168, 3) := by decide +kernel
theorem dX12_statement_264 : decode cX12_statement 264 = .ok (.ifCond .ne 8, 3) := by decide +kernel
theorem dX12_statement_267 : decode cX12_statement 267 = .ok (.aload_n 0, 1) := by decide +kernel
theorem dX12_statement_268 : decode cX12_statement 268 = .ok (.iconst 1, 1) := by decide +kernel
theorem dX12_statement_269 : decode cX12_statement 269 = .ok (.invokevirtual 171, 3) := by decide +kernel
theorem dX12_statement_272 : decode cX12_statement 272 = .ok (.aload_n 0, 1) := by decide +kernel
theorem dX12_statement_273 : decode cX12_statement 273 = .ok (.bipush 7, 2) := by decide +kernel
theorem dX12_statement_275 : decode cX12_statement 275 = .ok (.invokevirtual 261, 3) := by decide +kernel
theorem dX12_statement_278 : decode cX12_statement 278 = .ok (.istore_n 3, 1) := by decide +kernel
theorem dX12_statement_279 : decode cX12_statement 279 = .ok (.aload_n 1, 1) := by decide +kernel
theorem dX12_statement_280 : decode cX12_statement 280 = .ok (.getfield 255, 3) := by decide +kernel
theorem dX12_statement_283 : decode cX12_statement 283 = .ok (.iload_n 3, 1) := by decide +kernel
theorem dX12_statement_284 : decode cX12_statement 284 = .ok (.aload_n 0, 1) := by decide +kernel
theorem dX12_statement_285 : decode cX12_statement 285 = .ok (.invokevirtual 218, 3) := by decide +kernel
theorem dX12_statement_288 : decode cX12_statement 288 = .ok (.iastore, 1) := by decide +kernel
theorem dX12_statement_289 : decode cX12_statement 289 = .ok (.iload_n 3, 1) := by decide +kernel
theorem dX12_statement_290 : decode cX12_statement 290 = .ok (.ireturn, 1) := by decide +kernel
theorem dX12_uses_0 : decode cX12_uses 0 = .ok (.aload_n 0, 1) := by decide +kernel
theorem dX12_uses_1 : decode cX12_uses 1 = .ok (.iload_n 1, 1) := by decide +kernel
theorem dX12_uses_2 : decode cX12_uses 2 = .ok (.invokevirtual 190, 3) := by decide +kernel
theorem dX12_uses_5 : decode cX12_uses 5 = .ok (.istore_n 3, 1) := by decide +kernel
theorem dX12_uses_6 : decode cX12_uses 6 = .ok (.iload_n 3, 1) := by decide +kernel
theorem dX12_uses_7 : decode cX12_uses 7 = .ok (.iconst (-1), 1) := by decide +kernel
theorem dX12_uses_8 : decode cX12_uses 8 = .ok (.if_icmp .ne 11, 3) := by decide +kernel
theorem dX12_uses_11 : decode cX12_uses 11 = .ok (.aload_n 0, 1) := by decide +kernel
theorem dX12_uses_12 : decode cX12_uses 12 = .ok (.iconst 3, 1) := by decide +kernel
theorem dX12_uses_13 : decode cX12_uses 13 = .ok (.iload_n 1, 1) := by decide +kernel
theorem dX12_uses_14 : decode cX12_uses 14 = .ok (.invokevirtual 193, 3) := by decide +kernel
theorem dX12_uses_17 : decode cX12_uses 17 = .ok (.iconst 0, 1) := by decide +kernel
theorem dX12_uses_18 : decode cX12_uses 18 = .ok (.ireturn, 1) := by decide +kernel
theorem dX12_uses_19 : decode cX12_uses 19 = .ok (.aload_n 0, 1) := by decide +kernel
theorem dX12_uses_20 : decode cX12_uses 20 = .ok (.getfield 56, 3) := by decide +kernel
theorem dX12_uses_23 : decode cX12_uses 23 = .ok (.iload_n 3, 1) := by decide +kernel
theorem dX12_uses_24 : decode cX12_uses 24 = .ok (.iaload, 1) := by decide +kernel
theorem dX12_uses_25 : decode cX12_uses 25 = .ok (.iconst 1, 1) := by decide +kernel
theorem dX12_uses_26 : decode cX12_uses 26 = .ok (.if_icmp .eq 21, 3) := by decide +kernel
theorem dX12_uses_29 : decode cX12_uses 29 = .ok (.aload_n 0, 1) := by decide +kernel
theorem dX12_uses_30 : decode cX12_uses 30 = .ok (.getfield 56, 3) := by decide +kernel
theorem dX12_uses_33 : decode cX12_uses 33 = .ok (.iload_n 3, 1) := by decide +kernel
theorem dX12_uses_34 : decode cX12_uses 34 = .ok (.iaload, 1) := by decide +kernel
theorem dX12_uses_35 : decode cX12_uses 35 = .ok (.ifCond .ne 7, 3) := by decide +kernel
theorem dX12_uses_38 : decode cX12_uses 38 = .ok (.iconst 1, 1) := by decide +kernel
theorem dX12_uses_39 : decode cX12_uses 39 = .ok (.goto 4, 3) := by decide +kernel
theorem dX12_uses_42 : decode cX12_uses 42 = .ok (.iconst 0, 1) := by decide +kernel
theorem dX12_uses_43 : decode cX12_uses 43 = .ok (.iload_n 2, 1) := by decide +kernel
theorem dX12_uses_44 : decode cX12_uses 44 = .ok (.if_icmp .eq 9, 3) := by decide +kernel
theorem dX12_uses_47 : decode cX12_uses 47 = .ok (.aload_n 0, 1) := by decide +kernel
theorem dX12_uses_48 : decode cX12_uses 48 = .ok (.iconst 4, 1) := by decide +kernel
theorem dX12_uses_49 : decode cX12_uses 49 = .ok (.iload_n 1, 1) := by decide +kernel
theorem dX12_uses_50 : decode cX12_uses 50 = .ok (.invokevirtual 193, 3) := by decide +kernel
theorem dX12_uses_53 : decode cX12_uses 53 = .ok (.aload_n 0, 1) := by decide +kernel
theorem dX12_uses_54 : decode cX12_uses 54 = .ok (.getfield 59, 3) := by decide +kernel
theorem dX12_uses_57 : decode cX12_uses 57 = .ok (.iload_n 3, 1) := by decide +kernel
theorem dX12_uses_58 : decode cX12_uses 58 = .ok (.iaload, 1) := by decide +kernel
theorem dX12_uses_59 : decode cX12_uses 59 = .ok (.ireturn, 1) := by decide +kernel
theorem dX12_assigns_0 : decode cX12_assigns 0 = .ok (.aload_n 0, 1) := by decide +kernel
theorem dX12_assigns_1 : decode cX12_assigns 1 = .ok (.getfield 50, 3) := by decide +kernel
theorem dX12_assigns_4 : decode cX12_assigns 4 = .ok (.astore_n 1, 1) := by decide +kernel
theorem dX12_assigns_5 : decode cX12_assigns 5 = .ok (.aload_n 0, 1) := by decide +kernel
theorem dX12_assigns_6 : decode cX12_assigns 6 = .ok (.getfield 156, 3) := by decide +kernel
theorem dX12_assigns_9 : decode cX12_assigns 9 = .ok (.istore_n 2, 1) := by decide +kernel
theorem dX12_assigns_10 : decode cX12_assigns 10 = .ok (.aload_n 0, 1) := by decide +kernel
theorem dX12_assigns_11 : decode cX12_assigns 11 = .ok (.dup, 1) := by decide +kernel
theorem dX12_assigns_12 : decode cX12_assigns 12 = .ok (.getfield 156, 3) := by decide +kernel
theorem dX12_assigns_15 : decode cX12_assigns 15 = .ok (.iconst 1, 1) := by decide +kernel
theorem dX12_assigns_16 : decode cX12_assigns 16 = .ok (.iadd, 1) := by decide +kernel
theorem dX12_assigns_17 : decode cX12_assigns 17 = .ok (.putfield 156, 3) := by decide +kernel
theorem dX12_assigns_20 : decode cX12_assigns 20 = .ok (.aload_n 0, 1) := by decide +kernel
theorem dX12_assigns_21 : decode cX12_assigns 21 = .ok (.bipush 91, 2) := by decide +kernel
theorem dX12_assigns_23 : decode cX12_assigns 23 = .ok (.invokevirtual 168, 3) := by decide +kernel
theorem dX12_assigns_26 : decode cX12_assigns 26 = .ok (.istore_n 3, 1) := by decide +kernel
theorem dX12_assigns_27 : decode cX12_assigns 27 = .ok (.iload_n 3, 1) := by decide +kernel
theorem dX12_assigns_28 : decode cX12_assigns 28 = .ok (.ifCond .ne 17, 3) := by decide +kernel
theorem dX12_assigns_31 : decode cX12_assigns 31 = .ok (.aload_n 0, 1) := by decide +kernel
theorem dX12_assigns_32 : decode cX12_assigns 32 = .ok (.bipush 61, 2) := by decide +kernel
theorem dX12_assigns_34 : decode cX12_assigns 34 = .ok (.invokevirtual 168, 3) := by decide +kernel
theorem dX12_assigns_37 : decode cX12_assigns 37 = .ok (.ifCond .ne 8, 3) := by decide +kernel
theorem dX12_assigns_40 : decode cX12_assigns 40 = .ok (.aload_n 0, 1) := by decide +kernel
theorem dX12_assigns_41 : decode cX12_assigns 41 = .ok (.iconst 1, 1) := by decide +kernel
theorem dX12_assigns_42 : decode cX12_assigns 42 = .ok (.invokevirtual 171, 3) := by decide +kernel
theorem dX12_assigns_45 : decode cX12_assigns 45 = .ok (.aload_n 0, 1) := by decide +kernel
theorem dX12_assigns_46 : decode cX12_assigns 46 = .ok (.iload_n 2, 1) := by decide +kernel
theorem dX12_assigns_47 : decode cX12_assigns 47 = .ok (.iload_n 3, 1) := by decide +kernel
theorem dX12_assigns_48 : decode cX12_assigns 48 = .ok (.invokevirtual 282, 3) := by decide +kernel
theorem dX12_assigns_51 : decode cX12_assigns 51 = .ok (.istore 4, 2) := by decide +kernel
theorem dX12_assigns_53 : decode cX12_assigns 53 = .ok (.aload_n 0, 1) := by decide +kernel
theorem dX12_assigns_54 : decode cX12_assigns 54 = .ok (.iload_n 3, 1) := by decide +kernel
theorem dX12_assigns_55 : decode cX12_assigns 55 = .ok (.ifCond .eq 7, 3) := by decide +kernel
theorem dX12_assigns_58 : decode cX12_assigns 58 = .ok (.iconst 1, 1) := by decide +kernel
theorem dX12_assigns_59 : decode cX12_assigns 59 = .ok (.goto 4, 3) := by decide +kernel
theorem dX12_assigns_62 : decode cX12_assigns 62 = .ok (.iconst 0, 1) := by decide +kernel
theorem dX12_assigns_63 : decode cX12_assigns 63 = .ok (.invokevirtual 261, 3) := by decide +kernel
theorem dX12_assigns_66 : decode cX12_assigns 66 = .ok (.istore 5, 2) := by decide +kernel
theorem dX12_assigns_68 : decode cX12_assigns 68 = .ok (.aload_n 1, 1) := by decide +kernel
theorem dX12_assigns_69 : decode cX12_assigns 69 = .ok (.getfield 252, 3) := by decide +kernel
theorem dX12_assigns_72 : decode cX12_assigns 72 = .ok (.iload 5, 2) := by decide +kernel
theorem dX12_assigns_74 : decode cX12_assigns 74 = .ok (.iload 4, 2) := by decide +kernel
theorem dX12_assigns_76 : decode cX12_assigns 76 = .ok (.iastore, 1) := by decide +kernel
theorem dX12_assigns_77 : decode cX12_assigns 77 = .ok (.iload_n 3, 1) := by decide +kernel
theorem dX12_assigns_78 : decode cX12_assigns 78 = .ok (.ifCond .eq 26, 3) := by decide +kernel
theorem dX12_assigns_81 : decode cX12_assigns 81 = .ok (.aload_n 0, 1) := by decide +kernel
theorem dX12_assigns_82 : decode cX12_assigns 82 = .ok (.bipush 91, 2) := by decide +kernel
theorem dX12_assigns_84 : decode cX12_assigns 84 = .ok (.invokevirtual 209, 3) := by decide +kernel
theorem dX12_assigns_87 : decode cX12_assigns 87 = .ok (.aload_n 1, 1) := by decide +kernel
theorem dX12_assigns_88 : decode cX12_assigns 88 = .ok (.getfield 264, 3) := by decide +kernel
theorem dX12_assigns_91 : decode cX12_assigns 91 = .ok (.iload 5, 2) := by decide +kernel
theorem dX12_assigns_93 : decode cX12_assigns 93 = .ok (.aload_n 0, 1) := by decide +kernel
theorem dX12_assigns_94 : decode cX12_assigns 94 = .ok (.invokevirtual 267, 3) := by decide +kernel
theorem dX12_assigns_97 : decode cX12_assigns 97 = .ok (.iastore, 1) := by decide +kernel
theorem dX12_assigns_98 : decode cX12_assigns 98 = .ok (.aload_n 0, 1) := by decide +kernel
theorem dX12_assigns_99 : decode cX12_assigns 99 = .ok (.bipush 93, 2) := by decide +kernel
theorem dX12_assigns_101 : decode cX12_assigns 101 = .ok (.invokevirtual 215, 3) := by decide +kernel
theorem dX12_assigns_104 : decode cX12_assigns 104 = .ok (.aload_n 0, 1) := by decide +kernel
theorem dX12_assigns_105 : decode cX12_assigns 105 = .ok (.bipush 61, 2) := by decide +kernel
theorem dX12_assigns_107 : decode cX12_assigns 107 = .ok (.invokevirtual 180, 3) := by decide +kernel
theorem dX12_assigns_110 : decode cX12_assigns 110 = .ok (.aload_n 0, 1) := by decide +kernel
theorem dX12_assigns_111 : decode cX12_assigns 111 = .ok (.invokevirtual 267, 3) := by decide +kernel
theorem dX12_assigns_114 : decode cX12_assigns 114 = .ok (.istore 6, 2) := by decide +kernel
theorem dX12_assigns_116 : decode cX12_assigns 116 = .ok (.iload_n 3, 1) := by decide +kernel
theorem dX12_assigns_117 : decode cX12_assigns 117 = .ok (.ifCond .eq 15, 3) := by decide +kernel
theorem dX12_assigns_120 : decode cX12_assigns 120 = .ok (.aload_n 1, 1) := by decide +kernel
theorem dX12_assigns_121 : decode cX12_assigns 121 = .ok (.getfield 286, 3) := by decide +kernel
theorem dX12_assigns_124 : decode cX12_assigns 124 = .ok (.iload 5, 2) := by decide +kernel
theorem dX12_assigns_126 : decode cX12_assigns 126 = .ok (.iload 6, 2) := by decide +kernel
theorem dX12_assigns_128 : decode cX12_assigns 128 = .ok (.iastore, 1) := by decide +kernel
theorem dX12_assigns_129 : decode cX12_assigns 129 = .ok (.goto 12, 3) := by decide +kernel
theorem dX12_assigns_132 : decode cX12_assigns 132 = .ok (.aload_n 1, 1) := by decide +kernel
theorem dX12_assigns_133 : decode cX12_assigns 133 = .ok (.getfield 264, 3) := by decide +kernel
theorem dX12_assigns_136 : decode cX12_assigns 136 = .ok (.iload 5, 2) := by decide +kernel
theorem dX12_assigns_138 : decode cX12_assigns 138 = .ok (.iload 6, 2) := by decide +kernel
theorem dX12_assigns_140 : decode cX12_assigns 140 = .ok (.iastore, 1) := by decide +kernel
theorem dX12_assigns_141 : decode cX12_assigns 141 = .ok (.aload_n 0, 1) := by decide +kernel
theorem dX12_assigns_142 : decode cX12_assigns 142 = .ok (.bipush 59, 2) := by decide +kernel
theorem dX12_assigns_144 : decode cX12_assigns 144 = .ok (.invokevirtual 180, 3) := by decide +kernel
theorem dX12_assigns_147 : decode cX12_assigns 147 = .ok (.iload 5, 2) := by decide +kernel
theorem dX12_assigns_149 : decode cX12_assigns 149 = .ok (.ireturn, 1) := by decide +kernel
theorem dX12_loop_0 : decode cX12_loop 0 = .ok (.aload_n 0, 1) := by decide +kernel
theorem dX12_loop_1 : decode cX12_loop 1 = .ok (.getfield 50, 3) := by decide +kernel
theorem dX12_loop_4 : decode cX12_loop 4 = .ok (.dup, 1) := by decide +kernel
theorem dX12_loop_5 : decode cX12_loop 5 = .ok (.getfield 289, 3) := by decide +kernel
theorem dX12_loop_8 : decode cX12_loop 8 = .ok (.iconst 1, 1) := by decide +kernel
theorem dX12_loop_9 : decode cX12_loop 9 = .ok (.iadd, 1) := by decide +kernel
theorem dX12_loop_10 : decode cX12_loop 10 = .ok (.putfield 289, 3) := by decide +kernel
theorem dX12_loop_13 : decode cX12_loop 13 = .ok (.aload_n 0, 1) := by decide +kernel
theorem dX12_loop_14 : decode cX12_loop 14 = .ok (.getfield 50, 3) := by decide +kernel
theorem dX12_loop_17 : decode cX12_loop 17 = .ok (.getfield 289, 3) := by decide +kernel
theorem dX12_loop_20 : decode cX12_loop 20 = .ok (.bipush 40, 2) := by decide +kernel
theorem dX12_loop_22 : decode cX12_loop 22 = .ok (.if_icmp .le 10, 3) := by decide +kernel
theorem dX12_loop_25 : decode cX12_loop 25 = .ok (.aload_n 0, 1) := by decide +kernel
theorem dX12_loop_26 : decode cX12_loop 26 = .ok (.bipush 6, 2) := by decide +kernel
theorem dX12_loop_28 : decode cX12_loop 28 = .ok (.iload_n 1, 1) := by decide +kernel
theorem dX12_loop_29 : decode cX12_loop 29 = .ok (.invokevirtual 193, 3) := by decide +kernel
theorem dX12_loop_32 : decode cX12_loop 32 = .ok (.return_, 1) := by decide +kernel
theorem dX12_chooses_0 : decode cX12_chooses 0 = .ok (.aload_n 0, 1) := by decide +kernel
theorem dX12_chooses_1 : decode cX12_chooses 1 = .ok (.getfield 50, 3) := by decide +kernel
theorem dX12_chooses_4 : decode cX12_chooses 4 = .ok (.astore_n 1, 1) := by decide +kernel
theorem dX12_chooses_5 : decode cX12_chooses 5 = .ok (.aload_n 0, 1) := by decide +kernel
theorem dX12_chooses_6 : decode cX12_chooses 6 = .ok (.getfield 156, 3) := by decide +kernel
theorem dX12_chooses_9 : decode cX12_chooses 9 = .ok (.istore_n 2, 1) := by decide +kernel
theorem dX12_chooses_10 : decode cX12_chooses 10 = .ok (.aload_n 0, 1) := by decide +kernel
theorem dX12_chooses_11 : decode cX12_chooses 11 = .ok (.invokevirtual 177, 3) := by decide +kernel
theorem dX12_chooses_14 : decode cX12_chooses 14 = .ok (.aload_n 0, 1) := by decide +kernel
theorem dX12_chooses_15 : decode cX12_chooses 15 = .ok (.iload_n 2, 1) := by decide +kernel
theorem dX12_chooses_16 : decode cX12_chooses 16 = .ok (.invokevirtual 292, 3) := by decide +kernel
theorem dX12_chooses_19 : decode cX12_chooses 19 = .ok (.aload_n 0, 1) := by decide +kernel
theorem dX12_chooses_20 : decode cX12_chooses 20 = .ok (.iconst 2, 1) := by decide +kernel
theorem dX12_chooses_21 : decode cX12_chooses 21 = .ok (.invokevirtual 261, 3) := by decide +kernel
theorem dX12_chooses_24 : decode cX12_chooses 24 = .ok (.istore_n 3, 1) := by decide +kernel
theorem dX12_chooses_25 : decode cX12_chooses 25 = .ok (.aload_n 0, 1) := by decide +kernel
theorem dX12_chooses_26 : decode cX12_chooses 26 = .ok (.bipush 40, 2) := by decide +kernel
theorem dX12_chooses_28 : decode cX12_chooses 28 = .ok (.invokevirtual 209, 3) := by decide +kernel
theorem dX12_chooses_31 : decode cX12_chooses 31 = .ok (.aload_n 1, 1) := by decide +kernel
theorem dX12_chooses_32 : decode cX12_chooses 32 = .ok (.getfield 264, 3) := by decide +kernel
theorem dX12_chooses_35 : decode cX12_chooses 35 = .ok (.iload_n 3, 1) := by decide +kernel
theorem dX12_chooses_36 : decode cX12_chooses 36 = .ok (.aload_n 0, 1) := by decide +kernel
theorem dX12_chooses_37 : decode cX12_chooses 37 = .ok (.invokevirtual 267, 3) := by decide +kernel
theorem dX12_chooses_40 : decode cX12_chooses 40 = .ok (.iastore, 1) := by decide +kernel
theorem dX12_chooses_41 : decode cX12_chooses 41 = .ok (.aload_n 0, 1) := by decide +kernel
theorem dX12_chooses_42 : decode cX12_chooses 42 = .ok (.bipush 41, 2) := by decide +kernel
theorem dX12_chooses_44 : decode cX12_chooses 44 = .ok (.invokevirtual 215, 3) := by decide +kernel
theorem dX12_chooses_47 : decode cX12_chooses 47 = .ok (.aload_n 1, 1) := by decide +kernel
theorem dX12_chooses_48 : decode cX12_chooses 48 = .ok (.getfield 255, 3) := by decide +kernel
theorem dX12_chooses_51 : decode cX12_chooses 51 = .ok (.iload_n 3, 1) := by decide +kernel
theorem dX12_chooses_52 : decode cX12_chooses 52 = .ok (.aload_n 0, 1) := by decide +kernel
theorem dX12_chooses_53 : decode cX12_chooses 53 = .ok (.invokevirtual 295, 3) := by decide +kernel
theorem dX12_chooses_56 : decode cX12_chooses 56 = .ok (.iastore, 1) := by decide +kernel
theorem dX12_chooses_57 : decode cX12_chooses 57 = .ok (.aload_n 0, 1) := by decide +kernel
theorem dX12_chooses_58 : decode cX12_chooses 58 = .ok (.getfield 24, 3) := by decide +kernel
theorem dX12_chooses_61 : decode cX12_chooses 61 = .ok (.aload_n 0, 1) := by decide +kernel
theorem dX12_chooses_62 : decode cX12_chooses 62 = .ok (.getfield 156, 3) := by decide +kernel
theorem dX12_chooses_65 : decode cX12_chooses 65 = .ok (.iaload, 1) := by decide +kernel
theorem dX12_chooses_66 : decode cX12_chooses 66 = .ok (.bipush 7, 2) := by decide +kernel
theorem dX12_chooses_68 : decode cX12_chooses 68 = .ok (.if_icmp .ne 23, 3) := by decide +kernel
theorem dX12_chooses_71 : decode cX12_chooses 71 = .ok (.aload_n 0, 1) := by decide +kernel
theorem dX12_chooses_72 : decode cX12_chooses 72 = .ok (.dup, 1) := by decide +kernel
theorem dX12_chooses_73 : decode cX12_chooses 73 = .ok (.getfield 156, 3) := by decide +kernel
theorem dX12_chooses_76 : decode cX12_chooses 76 = .ok (.iconst 1, 1) := by decide +kernel
theorem dX12_chooses_77 : decode cX12_chooses 77 = .ok (.iadd, 1) := by decide +kernel
theorem dX12_chooses_78 : decode cX12_chooses 78 = .ok (.putfield 156, 3) := by decide +kernel
theorem dX12_chooses_81 : decode cX12_chooses 81 = .ok (.aload_n 1, 1) := by decide +kernel
theorem dX12_chooses_82 : decode cX12_chooses 82 = .ok (.getfield 258, 3) := by decide +kernel
theorem dX12_chooses_85 : decode cX12_chooses 85 = .ok (.iload_n 3, 1) := by decide +kernel
theorem dX12_chooses_86 : decode cX12_chooses 86 = .ok (.aload_n 0, 1) := by decide +kernel
theorem dX12_chooses_87 : decode cX12_chooses 87 = .ok (.invokevirtual 295, 3) := by decide +kernel
theorem dX12_chooses_90 : decode cX12_chooses 90 = .ok (.iastore, 1) := by decide +kernel
theorem dX12_chooses_91 : decode cX12_chooses 91 = .ok (.aload_n 0, 1) := by decide +kernel
theorem dX12_chooses_92 : decode cX12_chooses 92 = .ok (.dup, 1) := by decide +kernel
theorem dX12_chooses_93 : decode cX12_chooses 93 = .ok (.getfield 174, 3) := by decide +kernel
theorem dX12_chooses_96 : decode cX12_chooses 96 = .ok (.iconst 1, 1) := by decide +kernel
theorem dX12_chooses_97 : decode cX12_chooses 97 = .ok (.isub, 1) := by decide +kernel
theorem dX12_chooses_98 : decode cX12_chooses 98 = .ok (.putfield 174, 3) := by decide +kernel
theorem dX12_chooses_101 : decode cX12_chooses 101 = .ok (.iload_n 3, 1) := by decide +kernel
theorem dX12_chooses_102 : decode cX12_chooses 102 = .ok (.ireturn, 1) := by decide +kernel
theorem dX12_repeats_0 : decode cX12_repeats 0 = .ok (.aload_n 0, 1) := by decide +kernel
theorem dX12_repeats_1 : decode cX12_repeats 1 = .ok (.getfield 50, 3) := by decide +kernel
theorem dX12_repeats_4 : decode cX12_repeats 4 = .ok (.astore_n 1, 1) := by decide +kernel
theorem dX12_repeats_5 : decode cX12_repeats 5 = .ok (.aload_n 0, 1) := by decide +kernel
theorem dX12_repeats_6 : decode cX12_repeats 6 = .ok (.getfield 156, 3) := by decide +kernel
theorem dX12_repeats_9 : decode cX12_repeats 9 = .ok (.istore_n 2, 1) := by decide +kernel
theorem dX12_repeats_10 : decode cX12_repeats 10 = .ok (.aload_n 0, 1) := by decide +kernel
theorem dX12_repeats_11 : decode cX12_repeats 11 = .ok (.invokevirtual 177, 3) := by decide +kernel
theorem dX12_repeats_14 : decode cX12_repeats 14 = .ok (.aload_n 0, 1) := by decide +kernel
theorem dX12_repeats_15 : decode cX12_repeats 15 = .ok (.iload_n 2, 1) := by decide +kernel
theorem dX12_repeats_16 : decode cX12_repeats 16 = .ok (.invokevirtual 292, 3) := by decide +kernel
theorem dX12_repeats_19 : decode cX12_repeats 19 = .ok (.aload_n 0, 1) := by decide +kernel
theorem dX12_repeats_20 : decode cX12_repeats 20 = .ok (.iconst 3, 1) := by decide +kernel
theorem dX12_repeats_21 : decode cX12_repeats 21 = .ok (.invokevirtual 261, 3) := by decide +kernel
theorem dX12_repeats_24 : decode cX12_repeats 24 = .ok (.istore_n 3, 1) := by decide +kernel
theorem dX12_repeats_25 : decode cX12_repeats 25 = .ok (.aload_n 0, 1) := by decide +kernel
theorem dX12_repeats_26 : decode cX12_repeats 26 = .ok (.bipush 40, 2) := by decide +kernel
theorem dX12_repeats_28 : decode cX12_repeats 28 = .ok (.invokevirtual 209, 3) := by decide +kernel
theorem dX12_repeats_31 : decode cX12_repeats 31 = .ok (.aload_n 1, 1) := by decide +kernel
theorem dX12_repeats_32 : decode cX12_repeats 32 = .ok (.getfield 264, 3) := by decide +kernel
theorem dX12_repeats_35 : decode cX12_repeats 35 = .ok (.iload_n 3, 1) := by decide +kernel
theorem dX12_repeats_36 : decode cX12_repeats 36 = .ok (.aload_n 0, 1) := by decide +kernel
theorem dX12_repeats_37 : decode cX12_repeats 37 = .ok (.invokevirtual 267, 3) := by decide +kernel
theorem dX12_repeats_40 : decode cX12_repeats 40 = .ok (.iastore, 1) := by decide +kernel
theorem dX12_repeats_41 : decode cX12_repeats 41 = .ok (.aload_n 0, 1) := by decide +kernel
theorem dX12_repeats_42 : decode cX12_repeats 42 = .ok (.bipush 41, 2) := by decide +kernel
theorem dX12_repeats_44 : decode cX12_repeats 44 = .ok (.invokevirtual 215, 3) := by decide +kernel
theorem dX12_repeats_47 : decode cX12_repeats 47 = .ok (.aload_n 0, 1) := by decide +kernel
theorem dX12_repeats_48 : decode cX12_repeats 48 = .ok (.dup, 1) := by decide +kernel
theorem dX12_repeats_49 : decode cX12_repeats 49 = .ok (.getfield 279, 3) := by decide +kernel
theorem dX12_repeats_52 : decode cX12_repeats 52 = .ok (.iconst 1, 1) := by decide +kernel
theorem dX12_repeats_53 : decode cX12_repeats 53 = .ok (.iadd, 1) := by decide +kernel
theorem dX12_repeats_54 : decode cX12_repeats 54 = .ok (.putfield 279, 3) := by decide +kernel
theorem dX12_repeats_57 : decode cX12_repeats 57 = .ok (.aload_n 1, 1) := by decide +kernel
theorem dX12_repeats_58 : decode cX12_repeats 58 = .ok (.getfield 255, 3) := by decide +kernel
theorem dX12_repeats_61 : decode cX12_repeats 61 = .ok (.iload_n 3, 1) := by decide +kernel
theorem dX12_repeats_62 : decode cX12_repeats 62 = .ok (.aload_n 0, 1) := by decide +kernel
theorem dX12_repeats_63 : decode cX12_repeats 63 = .ok (.invokevirtual 295, 3) := by decide +kernel
theorem dX12_repeats_66 : decode cX12_repeats 66 = .ok (.iastore, 1) := by decide +kernel
theorem dX12_repeats_67 : decode cX12_repeats 67 = .ok (.aload_n 0, 1) := by decide +kernel
theorem dX12_repeats_68 : decode cX12_repeats 68 = .ok (.dup, 1) := by decide +kernel
theorem dX12_repeats_69 : decode cX12_repeats 69 = .ok (.getfield 279, 3) := by decide +kernel
theorem dX12_repeats_72 : decode cX12_repeats 72 = .ok (.iconst 1, 1) := by decide +kernel
theorem dX12_repeats_73 : decode cX12_repeats 73 = .ok (.isub, 1) := by decide +kernel
theorem dX12_repeats_74 : decode cX12_repeats 74 = .ok (.putfield 279, 3) := by decide +kernel
theorem dX12_repeats_77 : decode cX12_repeats 77 = .ok (.aload_n 0, 1) := by decide +kernel
theorem dX12_repeats_78 : decode cX12_repeats 78 = .ok (.dup, 1) := by decide +kernel
theorem dX12_repeats_79 : decode cX12_repeats 79 = .ok (.getfield 174, 3) := by decide +kernel
theorem dX12_repeats_82 : decode cX12_repeats 82 = .ok (.iconst 1, 1) := by decide +kernel
theorem dX12_repeats_83 : decode cX12_repeats 83 = .ok (.isub, 1) := by decide +kernel
theorem dX12_repeats_84 : decode cX12_repeats 84 = .ok (.putfield 174, 3) := by decide +kernel
theorem dX12_repeats_87 : decode cX12_repeats 87 = .ok (.iload_n 3, 1) := by decide +kernel
theorem dX12_repeats_88 : decode cX12_repeats 88 = .ok (.ireturn, 1) := by decide +kernel
theorem dX12_expression_0 : decode cX12_expression 0 = .ok (.aload_n 0, 1) := by decide +kernel
theorem dX12_expression_1 : decode cX12_expression 1 = .ok (.getfield 50, 3) := by decide +kernel
theorem dX12_expression_4 : decode cX12_expression 4 = .ok (.getfield 298, 3) := by decide +kernel
theorem dX12_expression_7 : decode cX12_expression 7 = .ok (.istore_n 1, 1) := by decide +kernel
theorem dX12_expression_8 : decode cX12_expression 8 = .ok (.aload_n 0, 1) := by decide +kernel
theorem dX12_expression_9 : decode cX12_expression 9 = .ok (.iconst 0, 1) := by decide +kernel
theorem dX12_expression_10 : decode cX12_expression 10 = .ok (.invokevirtual 301, 3) := by decide +kernel
theorem dX12_expression_13 : decode cX12_expression 13 = .ok (.aload_n 0, 1) := by decide +kernel
theorem dX12_expression_14 : decode cX12_expression 14 = .ok (.getfield 80, 3) := by decide +kernel
theorem dX12_expression_17 : decode cX12_expression 17 = .ok (.iload_n 1, 1) := by decide +kernel
theorem dX12_expression_18 : decode cX12_expression 18 = .ok (.aload_n 0, 1) := by decide +kernel
theorem dX12_expression_19 : decode cX12_expression 19 = .ok (.getfield 50, 3) := by decide +kernel
theorem dX12_expression_22 : decode cX12_expression 22 = .ok (.getfield 298, 3) := by decide +kernel
theorem dX12_expression_25 : decode cX12_expression 25 = .ok (.iastore, 1) := by decide +kernel
theorem dX12_expression_26 : decode cX12_expression 26 = .ok (.iload_n 1, 1) := by decide +kernel
theorem dX12_expression_27 : decode cX12_expression 27 = .ok (.ireturn, 1) := by decide +kernel
theorem dX12_code_0 : decode cX12_code 0 = .ok (.aload_n 0, 1) := by decide +kernel
theorem dX12_code_1 : decode cX12_code 1 = .ok (.getfield 50, 3) := by decide +kernel
theorem dX12_code_4 : decode cX12_code 4 = .ok (.getfield 304, 3) := by decide +kernel
theorem dX12_code_7 : decode cX12_code 7 = .ok (.aload_n 0, 1) := by decide +kernel
theorem dX12_code_8 : decode cX12_code 8 = .ok (.getfield 50, 3) := by decide +kernel
theorem dX12_code_11 : decode cX12_code 11 = .ok (.getfield 298, 3) := by decide +kernel
theorem dX12_code_14 : decode cX12_code 14 = .ok (.iload_n 1, 1) := by decide +kernel
theorem dX12_code_15 : decode cX12_code 15 = .ok (.iastore, 1) := by decide +kernel
theorem dX12_code_16 : decode cX12_code 16 = .ok (.aload_n 0, 1) := by decide +kernel
theorem dX12_code_17 : decode cX12_code 17 = .ok (.getfield 50, 3) := by decide +kernel
theorem dX12_code_20 : decode cX12_code 20 = .ok (.getfield 307, 3) := by decide +kernel
theorem dX12_code_23 : decode cX12_code 23 = .ok (.aload_n 0, 1) := by decide +kernel
theorem dX12_code_24 : decode cX12_code 24 = .ok (.getfield 50, 3) := by decide +kernel
theorem dX12_code_27 : decode cX12_code 27 = .ok (.getfield 298, 3) := by decide +kernel
theorem dX12_code_30 : decode cX12_code 30 = .ok (.iload_n 2, 1) := by decide +kernel
theorem dX12_code_31 : decode cX12_code 31 = .ok (.iastore, 1) := by decide +kernel
theorem dX12_code_32 : decode cX12_code 32 = .ok (.aload_n 0, 1) := by decide +kernel
theorem dX12_code_33 : decode cX12_code 33 = .ok (.getfield 50, 3) := by decide +kernel
theorem dX12_code_36 : decode cX12_code 36 = .ok (.dup, 1) := by decide +kernel
theorem dX12_code_37 : decode cX12_code 37 = .ok (.getfield 298, 3) := by decide +kernel
theorem dX12_code_40 : decode cX12_code 40 = .ok (.iconst 1, 1) := by decide +kernel
theorem dX12_code_41 : decode cX12_code 41 = .ok (.iadd, 1) := by decide +kernel
theorem dX12_code_42 : decode cX12_code 42 = .ok (.putfield 298, 3) := by decide +kernel
theorem dX12_code_45 : decode cX12_code 45 = .ok (.return_, 1) := by decide +kernel
theorem dX12_part_0 : decode cX12_part 0 = .ok (.aload_n 0, 1) := by decide +kernel
theorem dX12_part_1 : decode cX12_part 1 = .ok (.getfield 50, 3) := by decide +kernel
theorem dX12_part_4 : decode cX12_part 4 = .ok (.dup, 1) := by decide +kernel
theorem dX12_part_5 : decode cX12_part 5 = .ok (.getfield 310, 3) := by decide +kernel
theorem dX12_part_8 : decode cX12_part 8 = .ok (.iconst 1, 1) := by decide +kernel
theorem dX12_part_9 : decode cX12_part 9 = .ok (.iadd, 1) := by decide +kernel
theorem dX12_part_10 : decode cX12_part 10 = .ok (.putfield 310, 3) := by decide +kernel
theorem dX12_part_13 : decode cX12_part 13 = .ok (.aload_n 0, 1) := by decide +kernel
theorem dX12_part_14 : decode cX12_part 14 = .ok (.getfield 50, 3) := by decide +kernel
theorem dX12_part_17 : decode cX12_part 17 = .ok (.getfield 310, 3) := by decide +kernel
theorem dX12_part_20 : decode cX12_part 20 = .ok (.sipush 400, 3) := by decide +kernel
theorem dX12_part_23 : decode cX12_part 23 = .ok (.if_icmp .le 10, 3) := by decide +kernel
theorem dX12_part_26 : decode cX12_part 26 = .ok (.aload_n 0, 1) := by decide +kernel
theorem dX12_part_27 : decode cX12_part 27 = .ok (.bipush 6, 2) := by decide +kernel
theorem dX12_part_29 : decode cX12_part 29 = .ok (.iload_n 1, 1) := by decide +kernel
theorem dX12_part_30 : decode cX12_part 30 = .ok (.invokevirtual 193, 3) := by decide +kernel
theorem dX12_part_33 : decode cX12_part 33 = .ok (.return_, 1) := by decide +kernel
theorem dX12_levelOf_0 : decode cX12_levelOf 0 = .ok (.aload_n 0, 1) := by decide +kernel
theorem dX12_levelOf_1 : decode cX12_levelOf 1 = .ok (.getfield 24, 3) := by decide +kernel
theorem dX12_levelOf_4 : decode cX12_levelOf 4 = .ok (.aload_n 0, 1) := by decide +kernel
theorem dX12_levelOf_5 : decode cX12_levelOf 5 = .ok (.getfield 156, 3) := by decide +kernel
theorem dX12_levelOf_8 : decode cX12_levelOf 8 = .ok (.iaload, 1) := by decide +kernel
theorem dX12_levelOf_9 : decode cX12_levelOf 9 = .ok (.iconst 4, 1) := by decide +kernel
theorem dX12_levelOf_10 : decode cX12_levelOf 10 = .ok (.if_icmp .eq 5, 3) := by decide +kernel
theorem dX12_levelOf_13 : decode cX12_levelOf 13 = .ok (.iconst (-1), 1) := by decide +kernel
theorem dX12_levelOf_14 : decode cX12_levelOf 14 = .ok (.ireturn, 1) := by decide +kernel
theorem dX12_levelOf_15 : decode cX12_levelOf 15 = .ok (.aload_n 0, 1) := by decide +kernel
theorem dX12_levelOf_16 : decode cX12_levelOf 16 = .ok (.getfield 30, 3) := by decide +kernel
theorem dX12_levelOf_19 : decode cX12_levelOf 19 = .ok (.aload_n 0, 1) := by decide +kernel
theorem dX12_levelOf_20 : decode cX12_levelOf 20 = .ok (.getfield 156, 3) := by decide +kernel
theorem dX12_levelOf_23 : decode cX12_levelOf 23 = .ok (.iaload, 1) := by decide +kernel
theorem dX12_levelOf_24 : decode cX12_levelOf 24 = .ok (.lookupswitch 180 #[(37, 177), (38, 164), (42, 177), (43, 174), (45, 174), (47, 177), (60, 168), (62, 168), (94, 162), (124, 160), (8509, 166), (9766, 158), (15420, 171), (15421, 168), (15677, 166), (15933, 168), (15934, 171), (31868, 156)], 156) := by decide +kernel
theorem dX12_levelOf_180 : decode cX12_levelOf 180 = .ok (.iconst 0, 1) := by decide +kernel
theorem dX12_levelOf_181 : decode cX12_levelOf 181 = .ok (.ireturn, 1) := by decide +kernel
theorem dX12_levelOf_182 : decode cX12_levelOf 182 = .ok (.iconst 1, 1) := by decide +kernel
theorem dX12_levelOf_183 : decode cX12_levelOf 183 = .ok (.ireturn, 1) := by decide +kernel
theorem dX12_levelOf_184 : decode cX12_levelOf 184 = .ok (.iconst 2, 1) := by decide +kernel
theorem dX12_levelOf_185 : decode cX12_levelOf 185 = .ok (.ireturn, 1) := by decide +kernel
theorem dX12_levelOf_186 : decode cX12_levelOf 186 = .ok (.iconst 3, 1) := by decide +kernel
theorem dX12_levelOf_187 : decode cX12_levelOf 187 = .ok (.ireturn, 1) := by decide +kernel
theorem dX12_levelOf_188 : decode cX12_levelOf 188 = .ok (.iconst 4, 1) := by decide +kernel
theorem dX12_levelOf_189 : decode cX12_levelOf 189 = .ok (.ireturn, 1) := by decide +kernel
theorem dX12_levelOf_190 : decode cX12_levelOf 190 = .ok (.iconst 5, 1) := by decide +kernel
theorem dX12_levelOf_191 : decode cX12_levelOf 191 = .ok (.ireturn, 1) := by decide +kernel
theorem dX12_levelOf_192 : decode cX12_levelOf 192 = .ok (.bipush 6, 2) := by decide +kernel
theorem dX12_levelOf_194 : decode cX12_levelOf 194 = .ok (.ireturn, 1) := by decide +kernel
theorem dX12_levelOf_195 : decode cX12_levelOf 195 = .ok (.bipush 7, 2) := by decide +kernel
theorem dX12_levelOf_197 : decode cX12_levelOf 197 = .ok (.ireturn, 1) := by decide +kernel
theorem dX12_levelOf_198 : decode cX12_levelOf 198 = .ok (.bipush 8, 2) := by decide +kernel
theorem dX12_levelOf_200 : decode cX12_levelOf 200 = .ok (.ireturn, 1) := by decide +kernel
theorem dX12_levelOf_201 : decode cX12_levelOf 201 = .ok (.bipush 9, 2) := by decide +kernel
theorem dX12_levelOf_203 : decode cX12_levelOf 203 = .ok (.ireturn, 1) := by decide +kernel
theorem dX12_levelOf_204 : decode cX12_levelOf 204 = .ok (.iconst (-1), 1) := by decide +kernel
theorem dX12_levelOf_205 : decode cX12_levelOf 205 = .ok (.ireturn, 1) := by decide +kernel
theorem dX12_binary_0 : decode cX12_binary 0 = .ok (.iload_n 1, 1) := by decide +kernel
theorem dX12_binary_1 : decode cX12_binary 1 = .ok (.bipush 10, 2) := by decide +kernel
theorem dX12_binary_3 : decode cX12_binary 3 = .ok (.if_icmp .ne 8, 3) := by decide +kernel
theorem dX12_binary_6 : decode cX12_binary 6 = .ok (.aload_n 0, 1) := by decide +kernel
theorem dX12_binary_7 : decode cX12_binary 7 = .ok (.invokevirtual 313, 3) := by decide +kernel
theorem dX12_binary_10 : decode cX12_binary 10 = .ok (.return_, 1) := by decide +kernel
theorem dX12_binary_11 : decode cX12_binary 11 = .ok (.aload_n 0, 1) := by decide +kernel
theorem dX12_binary_12 : decode cX12_binary 12 = .ok (.iload_n 1, 1) := by decide +kernel
theorem dX12_binary_13 : decode cX12_binary 13 = .ok (.iconst 1, 1) := by decide +kernel
theorem dX12_binary_14 : decode cX12_binary 14 = .ok (.iadd, 1) := by decide +kernel
theorem dX12_binary_15 : decode cX12_binary 15 = .ok (.invokevirtual 301, 3) := by decide +kernel
theorem dX12_binary_18 : decode cX12_binary 18 = .ok (.aload_n 0, 1) := by decide +kernel
theorem dX12_binary_19 : decode cX12_binary 19 = .ok (.invokevirtual 316, 3) := by decide +kernel
theorem dX12_binary_22 : decode cX12_binary 22 = .ok (.iload_n 1, 1) := by decide +kernel
theorem dX12_binary_23 : decode cX12_binary 23 = .ok (.if_icmp .ne 44, 3) := by decide +kernel
theorem dX12_binary_26 : decode cX12_binary 26 = .ok (.aload_n 0, 1) := by decide +kernel
theorem dX12_binary_27 : decode cX12_binary 27 = .ok (.getfield 156, 3) := by decide +kernel
theorem dX12_binary_30 : decode cX12_binary 30 = .ok (.istore_n 2, 1) := by decide +kernel
theorem dX12_binary_31 : decode cX12_binary 31 = .ok (.aload_n 0, 1) := by decide +kernel
theorem dX12_binary_32 : decode cX12_binary 32 = .ok (.iload_n 2, 1) := by decide +kernel
theorem dX12_binary_33 : decode cX12_binary 33 = .ok (.invokevirtual 319, 3) := by decide +kernel
theorem dX12_binary_36 : decode cX12_binary 36 = .ok (.aload_n 0, 1) := by decide +kernel
theorem dX12_binary_37 : decode cX12_binary 37 = .ok (.dup, 1) := by decide +kernel
theorem dX12_binary_38 : decode cX12_binary 38 = .ok (.getfield 156, 3) := by decide +kernel
theorem dX12_binary_41 : decode cX12_binary 41 = .ok (.iconst 1, 1) := by decide +kernel
theorem dX12_binary_42 : decode cX12_binary 42 = .ok (.iadd, 1) := by decide +kernel
theorem dX12_binary_43 : decode cX12_binary 43 = .ok (.putfield 156, 3) := by decide +kernel
theorem dX12_binary_46 : decode cX12_binary 46 = .ok (.aload_n 0, 1) := by decide +kernel
theorem dX12_binary_47 : decode cX12_binary 47 = .ok (.iload_n 1, 1) := by decide +kernel
theorem dX12_binary_48 : decode cX12_binary 48 = .ok (.iconst 1, 1) := by decide +kernel
theorem dX12_binary_49 : decode cX12_binary 49 = .ok (.iadd, 1) := by decide +kernel
theorem dX12_binary_50 : decode cX12_binary 50 = .ok (.invokevirtual 301, 3) := by decide +kernel
theorem dX12_binary_53 : decode cX12_binary 53 = .ok (.aload_n 0, 1) := by decide +kernel
theorem dX12_binary_54 : decode cX12_binary 54 = .ok (.iconst 3, 1) := by decide +kernel
theorem dX12_binary_55 : decode cX12_binary 55 = .ok (.aload_n 0, 1) := by decide +kernel
theorem dX12_binary_56 : decode cX12_binary 56 = .ok (.getfield 30, 3) := by decide +kernel
theorem dX12_binary_59 : decode cX12_binary 59 = .ok (.iload_n 2, 1) := by decide +kernel
theorem dX12_binary_60 : decode cX12_binary 60 = .ok (.iaload, 1) := by decide +kernel
theorem dX12_binary_61 : decode cX12_binary 61 = .ok (.invokevirtual 322, 3) := by decide +kernel
theorem dX12_binary_64 : decode cX12_binary 64 = .ok (.goto (-46), 3) := by decide +kernel
theorem dX12_binary_67 : decode cX12_binary 67 = .ok (.return_, 1) := by decide +kernel
theorem dX12_unary_0 : decode cX12_unary 0 = .ok (.aload_n 0, 1) := by decide +kernel
theorem dX12_unary_1 : decode cX12_unary 1 = .ok (.getfield 156, 3) := by decide +kernel
theorem dX12_unary_4 : decode cX12_unary 4 = .ok (.istore_n 1, 1) := by decide +kernel
theorem dX12_unary_5 : decode cX12_unary 5 = .ok (.aload_n 0, 1) := by decide +kernel
theorem dX12_unary_6 : decode cX12_unary 6 = .ok (.bipush 45, 2) := by decide +kernel
theorem dX12_unary_8 : decode cX12_unary 8 = .ok (.invokevirtual 168, 3) := by decide +kernel
theorem dX12_unary_11 : decode cX12_unary 11 = .ok (.ifCond .ne 21, 3) := by decide +kernel
theorem dX12_unary_14 : decode cX12_unary 14 = .ok (.aload_n 0, 1) := by decide +kernel
theorem dX12_unary_15 : decode cX12_unary 15 = .ok (.bipush 33, 2) := by decide +kernel
theorem dX12_unary_17 : decode cX12_unary 17 = .ok (.invokevirtual 168, 3) := by decide +kernel
theorem dX12_unary_20 : decode cX12_unary 20 = .ok (.ifCond .ne 12, 3) := by decide +kernel
theorem dX12_unary_23 : decode cX12_unary 23 = .ok (.aload_n 0, 1) := by decide +kernel
theorem dX12_unary_24 : decode cX12_unary 24 = .ok (.bipush 126, 2) := by decide +kernel
theorem dX12_unary_26 : decode cX12_unary 26 = .ok (.invokevirtual 168, 3) := by decide +kernel
theorem dX12_unary_29 : decode cX12_unary 29 = .ok (.ifCond .eq 66, 3) := by decide +kernel
theorem dX12_unary_32 : decode cX12_unary 32 = .ok (.aload_n 0, 1) := by decide +kernel
theorem dX12_unary_33 : decode cX12_unary 33 = .ok (.invokevirtual 177, 3) := by decide +kernel
theorem dX12_unary_36 : decode cX12_unary 36 = .ok (.aload_n 0, 1) := by decide +kernel
theorem dX12_unary_37 : decode cX12_unary 37 = .ok (.iload_n 1, 1) := by decide +kernel
theorem dX12_unary_38 : decode cX12_unary 38 = .ok (.invokevirtual 319, 3) := by decide +kernel
theorem dX12_unary_41 : decode cX12_unary 41 = .ok (.aload_n 0, 1) := by decide +kernel
theorem dX12_unary_42 : decode cX12_unary 42 = .ok (.invokevirtual 313, 3) := by decide +kernel
theorem dX12_unary_45 : decode cX12_unary 45 = .ok (.aload_n 0, 1) := by decide +kernel
theorem dX12_unary_46 : decode cX12_unary 46 = .ok (.dup, 1) := by decide +kernel
theorem dX12_unary_47 : decode cX12_unary 47 = .ok (.getfield 174, 3) := by decide +kernel
theorem dX12_unary_50 : decode cX12_unary 50 = .ok (.iconst 1, 1) := by decide +kernel
theorem dX12_unary_51 : decode cX12_unary 51 = .ok (.isub, 1) := by decide +kernel
theorem dX12_unary_52 : decode cX12_unary 52 = .ok (.putfield 174, 3) := by decide +kernel
theorem dX12_unary_55 : decode cX12_unary 55 = .ok (.aload_n 0, 1) := by decide +kernel
theorem dX12_unary_56 : decode cX12_unary 56 = .ok (.aload_n 0, 1) := by decide +kernel
theorem dX12_unary_57 : decode cX12_unary 57 = .ok (.getfield 30, 3) := by decide +kernel
theorem dX12_unary_60 : decode cX12_unary 60 = .ok (.iload_n 1, 1) := by decide +kernel
theorem dX12_unary_61 : decode cX12_unary 61 = .ok (.iaload, 1) := by decide +kernel
theorem dX12_unary_62 : decode cX12_unary 62 = .ok (.bipush 45, 2) := by decide +kernel
theorem dX12_unary_64 : decode cX12_unary 64 = .ok (.if_icmp .ne 7, 3) := by decide +kernel
theorem dX12_unary_67 : decode cX12_unary 67 = .ok (.iconst 4, 1) := by decide +kernel
theorem dX12_unary_68 : decode cX12_unary 68 = .ok (.goto 20, 3) := by decide +kernel
theorem dX12_unary_71 : decode cX12_unary 71 = .ok (.aload_n 0, 1) := by decide +kernel
theorem dX12_unary_72 : decode cX12_unary 72 = .ok (.getfield 30, 3) := by decide +kernel
theorem dX12_unary_75 : decode cX12_unary 75 = .ok (.iload_n 1, 1) := by decide +kernel
theorem dX12_unary_76 : decode cX12_unary 76 = .ok (.iaload, 1) := by decide +kernel
theorem dX12_unary_77 : decode cX12_unary 77 = .ok (.bipush 33, 2) := by decide +kernel
theorem dX12_unary_79 : decode cX12_unary 79 = .ok (.if_icmp .ne 7, 3) := by decide +kernel
theorem dX12_unary_82 : decode cX12_unary 82 = .ok (.iconst 5, 1) := by decide +kernel
theorem dX12_unary_83 : decode cX12_unary 83 = .ok (.goto 5, 3) := by decide +kernel
theorem dX12_unary_86 : decode cX12_unary 86 = .ok (.bipush 6, 2) := by decide +kernel
theorem dX12_unary_88 : decode cX12_unary 88 = .ok (.iconst 0, 1) := by decide +kernel
theorem dX12_unary_89 : decode cX12_unary 89 = .ok (.invokevirtual 322, 3) := by decide +kernel
theorem dX12_unary_92 : decode cX12_unary 92 = .ok (.goto 146, 3) := by decide +kernel
theorem dX12_unary_95 : decode cX12_unary 95 = .ok (.aload_n 0, 1) := by decide +kernel
theorem dX12_unary_96 : decode cX12_unary 96 = .ok (.getfield 24, 3) := by decide +kernel
theorem dX12_unary_99 : decode cX12_unary 99 = .ok (.aload_n 0, 1) := by decide +kernel
theorem dX12_unary_100 : decode cX12_unary 100 = .ok (.getfield 156, 3) := by decide +kernel
theorem dX12_unary_103 : decode cX12_unary 103 = .ok (.iaload, 1) := by decide +kernel
theorem dX12_unary_104 : decode cX12_unary 104 = .ok (.iconst 3, 1) := by decide +kernel
theorem dX12_unary_105 : decode cX12_unary 105 = .ok (.if_icmp .ne 32, 3) := by decide +kernel
theorem dX12_unary_108 : decode cX12_unary 108 = .ok (.aload_n 0, 1) := by decide +kernel
theorem dX12_unary_109 : decode cX12_unary 109 = .ok (.iload_n 1, 1) := by decide +kernel
theorem dX12_unary_110 : decode cX12_unary 110 = .ok (.invokevirtual 319, 3) := by decide +kernel
theorem dX12_unary_113 : decode cX12_unary 113 = .ok (.aload_n 0, 1) := by decide +kernel
theorem dX12_unary_114 : decode cX12_unary 114 = .ok (.dup, 1) := by decide +kernel
theorem dX12_unary_115 : decode cX12_unary 115 = .ok (.getfield 156, 3) := by decide +kernel
theorem dX12_unary_118 : decode cX12_unary 118 = .ok (.iconst 1, 1) := by decide +kernel
theorem dX12_unary_119 : decode cX12_unary 119 = .ok (.iadd, 1) := by decide +kernel
theorem dX12_unary_120 : decode cX12_unary 120 = .ok (.putfield 156, 3) := by decide +kernel
theorem dX12_unary_123 : decode cX12_unary 123 = .ok (.aload_n 0, 1) := by decide +kernel
theorem dX12_unary_124 : decode cX12_unary 124 = .ok (.iconst 0, 1) := by decide +kernel
theorem dX12_unary_125 : decode cX12_unary 125 = .ok (.aload_n 0, 1) := by decide +kernel
theorem dX12_unary_126 : decode cX12_unary 126 = .ok (.getfield 30, 3) := by decide +kernel
theorem dX12_unary_129 : decode cX12_unary 129 = .ok (.iload_n 1, 1) := by decide +kernel
theorem dX12_unary_130 : decode cX12_unary 130 = .ok (.iaload, 1) := by decide +kernel
theorem dX12_unary_131 : decode cX12_unary 131 = .ok (.invokevirtual 322, 3) := by decide +kernel
theorem dX12_unary_134 : decode cX12_unary 134 = .ok (.goto 104, 3) := by decide +kernel
theorem dX12_unary_137 : decode cX12_unary 137 = .ok (.aload_n 0, 1) := by decide +kernel
theorem dX12_unary_138 : decode cX12_unary 138 = .ok (.getfield 24, 3) := by decide +kernel
theorem dX12_unary_141 : decode cX12_unary 141 = .ok (.aload_n 0, 1) := by decide +kernel
theorem dX12_unary_142 : decode cX12_unary 142 = .ok (.getfield 156, 3) := by decide +kernel
theorem dX12_unary_145 : decode cX12_unary 145 = .ok (.iaload, 1) := by decide +kernel
theorem dX12_unary_146 : decode cX12_unary 146 = .ok (.iconst 2, 1) := by decide +kernel
theorem dX12_unary_147 : decode cX12_unary 147 = .ok (.if_icmp .ne 74, 3) := by decide +kernel
theorem dX12_unary_150 : decode cX12_unary 150 = .ok (.aload_n 0, 1) := by decide +kernel
theorem dX12_unary_151 : decode cX12_unary 151 = .ok (.iload_n 1, 1) := by decide +kernel
theorem dX12_unary_152 : decode cX12_unary 152 = .ok (.invokevirtual 319, 3) := by decide +kernel
theorem dX12_unary_155 : decode cX12_unary 155 = .ok (.aload_n 0, 1) := by decide +kernel
theorem dX12_unary_156 : decode cX12_unary 156 = .ok (.dup, 1) := by decide +kernel
theorem dX12_unary_157 : decode cX12_unary 157 = .ok (.getfield 156, 3) := by decide +kernel
theorem dX12_unary_160 : decode cX12_unary 160 = .ok (.iconst 1, 1) := by decide +kernel
theorem dX12_unary_161 : decode cX12_unary 161 = .ok (.iadd, 1) := by decide +kernel
theorem dX12_unary_162 : decode cX12_unary 162 = .ok (.putfield 156, 3) := by decide +kernel
theorem dX12_unary_165 : decode cX12_unary 165 = .ok (.aload_n 0, 1) := by decide +kernel
theorem dX12_unary_166 : decode cX12_unary 166 = .ok (.iload_n 1, 1) := by decide +kernel
theorem dX12_unary_167 : decode cX12_unary 167 = .ok (.aload_n 0, 1) := by decide +kernel
theorem dX12_unary_168 : decode cX12_unary 168 = .ok (.bipush 91, 2) := by decide +kernel
theorem dX12_unary_170 : decode cX12_unary 170 = .ok (.invokevirtual 168, 3) := by decide +kernel
theorem dX12_unary_173 : decode cX12_unary 173 = .ok (.invokevirtual 282, 3) := by decide +kernel
theorem dX12_unary_176 : decode cX12_unary 176 = .ok (.istore_n 2, 1) := by decide +kernel
theorem dX12_unary_177 : decode cX12_unary 177 = .ok (.aload_n 0, 1) := by decide +kernel
theorem dX12_unary_178 : decode cX12_unary 178 = .ok (.bipush 91, 2) := by decide +kernel
theorem dX12_unary_180 : decode cX12_unary 180 = .ok (.invokevirtual 168, 3) := by decide +kernel
theorem dX12_unary_183 : decode cX12_unary 183 = .ok (.ifCond .eq 29, 3) := by decide +kernel
theorem dX12_unary_186 : decode cX12_unary 186 = .ok (.aload_n 0, 1) := by decide +kernel
theorem dX12_unary_187 : decode cX12_unary 187 = .ok (.bipush 91, 2) := by decide +kernel
theorem dX12_unary_189 : decode cX12_unary 189 = .ok (.invokevirtual 209, 3) := by decide +kernel
theorem dX12_unary_192 : decode cX12_unary 192 = .ok (.aload_n 0, 1) := by decide +kernel
theorem dX12_unary_193 : decode cX12_unary 193 = .ok (.iconst 0, 1) := by decide +kernel
theorem dX12_unary_194 : decode cX12_unary 194 = .ok (.invokevirtual 301, 3) := by decide +kernel
theorem dX12_unary_197 : decode cX12_unary 197 = .ok (.aload_n 0, 1) := by decide +kernel
theorem dX12_unary_198 : decode cX12_unary 198 = .ok (.bipush 93, 2) := by decide +kernel
theorem dX12_unary_200 : decode cX12_unary 200 = .ok (.invokevirtual 215, 3) := by decide +kernel
theorem dX12_unary_203 : decode cX12_unary 203 = .ok (.aload_n 0, 1) := by decide +kernel
theorem dX12_unary_204 : decode cX12_unary 204 = .ok (.iconst 2, 1) := by decide +kernel
theorem dX12_unary_205 : decode cX12_unary 205 = .ok (.iload_n 2, 1) := by decide +kernel
theorem dX12_unary_206 : decode cX12_unary 206 = .ok (.invokevirtual 322, 3) := by decide +kernel
theorem dX12_unary_209 : decode cX12_unary 209 = .ok (.goto 9, 3) := by decide +kernel
theorem dX12_unary_212 : decode cX12_unary 212 = .ok (.aload_n 0, 1) := by decide +kernel
theorem dX12_unary_213 : decode cX12_unary 213 = .ok (.iconst 1, 1) := by decide +kernel
theorem dX12_unary_214 : decode cX12_unary 214 = .ok (.iload_n 2, 1) := by decide +kernel
theorem dX12_unary_215 : decode cX12_unary 215 = .ok (.invokevirtual 322, 3) := by decide +kernel
theorem dX12_unary_218 : decode cX12_unary 218 = .ok (.goto 20, 3) := by decide +kernel
theorem dX12_unary_221 : decode cX12_unary 221 = .ok (.aload_n 0, 1) := by decide +kernel
theorem dX12_unary_222 : decode cX12_unary 222 = .ok (.bipush 40, 2) := by decide +kernel
theorem dX12_unary_224 : decode cX12_unary 224 = .ok (.invokevirtual 209, 3) := by decide +kernel
theorem dX12_unary_227 : decode cX12_unary 227 = .ok (.aload_n 0, 1) := by decide +kernel
theorem dX12_unary_228 : decode cX12_unary 228 = .ok (.iconst 0, 1) := by decide +kernel
theorem dX12_unary_229 : decode cX12_unary 229 = .ok (.invokevirtual 301, 3) := by decide +kernel
theorem dX12_unary_232 : decode cX12_unary 232 = .ok (.aload_n 0, 1) := by decide +kernel
theorem dX12_unary_233 : decode cX12_unary 233 = .ok (.bipush 41, 2) := by decide +kernel
theorem dX12_unary_235 : decode cX12_unary 235 = .ok (.invokevirtual 215, 3) := by decide +kernel
theorem dX12_unary_238 : decode cX12_unary 238 = .ok (.return_, 1) := by decide +kernel
theorem dX12_build_0 : decode cX12_build 0 = .ok (.aload_n 0, 1) := by decide +kernel
theorem dX12_build_1 : decode cX12_build 1 = .ok (.iconst 0, 1) := by decide +kernel
theorem dX12_build_2 : decode cX12_build 2 = .ok (.putfield 83, 3) := by decide +kernel
theorem dX12_build_5 : decode cX12_build 5 = .ok (.iload_n 1, 1) := by decide +kernel
theorem dX12_build_6 : decode cX12_build 6 = .ok (.ifCond .lt 11, 3) := by decide +kernel
theorem dX12_build_9 : decode cX12_build 9 = .ok (.iload_n 1, 1) := by decide +kernel
theorem dX12_build_10 : decode cX12_build 10 = .ok (.aload_n 0, 1) := by decide +kernel
theorem dX12_build_11 : decode cX12_build 11 = .ok (.getfield 86, 3) := by decide +kernel
theorem dX12_build_14 : decode cX12_build 14 = .ok (.if_icmp .le 6, 3) := by decide +kernel
theorem dX12_build_17 : decode cX12_build 17 = .ok (.bipush (-2), 2) := by decide +kernel
theorem dX12_build_19 : decode cX12_build 19 = .ok (.ireturn, 1) := by decide +kernel
theorem dX12_build_20 : decode cX12_build 20 = .ok (.aload_n 0, 1) := by decide +kernel
theorem dX12_build_21 : decode cX12_build 21 = .ok (.iload_n 1, 1) := by decide +kernel
theorem dX12_build_22 : decode cX12_build 22 = .ok (.putfield 93, 3) := by decide +kernel
theorem dX12_build_25 : decode cX12_build 25 = .ok (.iconst 0, 1) := by decide +kernel
theorem dX12_build_26 : decode cX12_build 26 = .ok (.istore_n 2, 1) := by decide +kernel
theorem dX12_build_27 : decode cX12_build 27 = .ok (.iload_n 2, 1) := by decide +kernel
theorem dX12_build_28 : decode cX12_build 28 = .ok (.iload_n 1, 1) := by decide +kernel
theorem dX12_build_29 : decode cX12_build 29 = .ok (.if_icmp .ge 21, 3) := by decide +kernel
theorem dX12_build_32 : decode cX12_build 32 = .ok (.aload_n 0, 1) := by decide +kernel
theorem dX12_build_33 : decode cX12_build 33 = .ok (.getfield 21, 3) := by decide +kernel
theorem dX12_build_36 : decode cX12_build 36 = .ok (.iload_n 2, 1) := by decide +kernel
theorem dX12_build_37 : decode cX12_build 37 = .ok (.aload_n 0, 1) := by decide +kernel
theorem dX12_build_38 : decode cX12_build 38 = .ok (.getfield 9, 3) := by decide +kernel
theorem dX12_build_41 : decode cX12_build 41 = .ok (.iload_n 2, 1) := by decide +kernel
theorem dX12_build_42 : decode cX12_build 42 = .ok (.baload, 1) := by decide +kernel
theorem dX12_build_43 : decode cX12_build 43 = .ok (.bastore, 1) := by decide +kernel
theorem dX12_build_44 : decode cX12_build 44 = .ok (.iinc 2 1, 3) := by decide +kernel
theorem dX12_build_47 : decode cX12_build 47 = .ok (.goto (-20), 3) := by decide +kernel
theorem dX12_build_50 : decode cX12_build 50 = .ok (.aload_n 0, 1) := by decide +kernel
theorem dX12_build_51 : decode cX12_build 51 = .ok (.iconst 0, 1) := by decide +kernel
theorem dX12_build_52 : decode cX12_build 52 = .ok (.putfield 86, 3) := by decide +kernel
theorem dX12_build_55 : decode cX12_build 55 = .ok (.aload_n 0, 1) := by decide +kernel
theorem dX12_build_56 : decode cX12_build 56 = .ok (.invokevirtual 325, 3) := by decide +kernel
theorem dX12_build_59 : decode cX12_build 59 = .ok (.aload_n 0, 1) := by decide +kernel
theorem dX12_build_60 : decode cX12_build 60 = .ok (.iconst 0, 1) := by decide +kernel
theorem dX12_build_61 : decode cX12_build 61 = .ok (.putfield 156, 3) := by decide +kernel
theorem dX12_build_64 : decode cX12_build 64 = .ok (.aload_n 0, 1) := by decide +kernel
theorem dX12_build_65 : decode cX12_build 65 = .ok (.iconst 0, 1) := by decide +kernel
theorem dX12_build_66 : decode cX12_build 66 = .ok (.putfield 174, 3) := by decide +kernel
theorem dX12_build_69 : decode cX12_build 69 = .ok (.aload_n 0, 1) := by decide +kernel
theorem dX12_build_70 : decode cX12_build 70 = .ok (.iconst 0, 1) := by decide +kernel
theorem dX12_build_71 : decode cX12_build 71 = .ok (.putfield 183, 3) := by decide +kernel
theorem dX12_build_74 : decode cX12_build 74 = .ok (.aload_n 0, 1) := by decide +kernel
theorem dX12_build_75 : decode cX12_build 75 = .ok (.iconst 0, 1) := by decide +kernel
theorem dX12_build_76 : decode cX12_build 76 = .ok (.putfield 279, 3) := by decide +kernel
theorem dX12_build_79 : decode cX12_build 79 = .ok (.aload_n 0, 1) := by decide +kernel
theorem dX12_build_80 : decode cX12_build 80 = .ok (.iconst 0, 1) := by decide +kernel
theorem dX12_build_81 : decode cX12_build 81 = .ok (.putfield 153, 3) := by decide +kernel
theorem dX12_build_84 : decode cX12_build 84 = .ok (.aload_n 0, 1) := by decide +kernel
theorem dX12_build_85 : decode cX12_build 85 = .ok (.iconst 0, 1) := by decide +kernel
theorem dX12_build_86 : decode cX12_build 86 = .ok (.putfield 162, 3) := by decide +kernel
theorem dX12_build_89 : decode cX12_build 89 = .ok (.aload_n 0, 1) := by decide +kernel
theorem dX12_build_90 : decode cX12_build 90 = .ok (.getfield 50, 3) := by decide +kernel
theorem dX12_build_93 : decode cX12_build 93 = .ok (.invokevirtual 328, 3) := by decide +kernel
theorem dX12_build_96 : decode cX12_build 96 = .ok (.aload_n 0, 1) := by decide +kernel
theorem dX12_build_97 : decode cX12_build 97 = .ok (.invokevirtual 331, 3) := by decide +kernel
theorem dX12_build_100 : decode cX12_build 100 = .ok (.goto 9, 3) := by decide +kernel
theorem dX12_build_103 : decode cX12_build 103 = .ok (.astore_n 2, 1) := by decide +kernel
theorem dX12_build_104 : decode cX12_build 104 = .ok (.aload_n 0, 1) := by decide +kernel
theorem dX12_build_105 : decode cX12_build 105 = .ok (.iconst 0, 1) := by decide +kernel
theorem dX12_build_106 : decode cX12_build 106 = .ok (.putfield 162, 3) := by decide +kernel
theorem dX12_build_109 : decode cX12_build 109 = .ok (.aload_n 0, 1) := by decide +kernel
theorem dX12_build_110 : decode cX12_build 110 = .ok (.aload_n 0, 1) := by decide +kernel
theorem dX12_build_111 : decode cX12_build 111 = .ok (.getfield 153, 3) := by decide +kernel
theorem dX12_build_114 : decode cX12_build 114 = .ok (.ifCond .le 10, 3) := by decide +kernel
theorem dX12_build_117 : decode cX12_build 117 = .ok (.aload_n 0, 1) := by decide +kernel
theorem dX12_build_118 : decode cX12_build 118 = .ok (.getfield 153, 3) := by decide +kernel
theorem dX12_build_121 : decode cX12_build 121 = .ok (.goto 7, 3) := by decide +kernel
theorem dX12_build_124 : decode cX12_build 124 = .ok (.aload_n 0, 1) := by decide +kernel
theorem dX12_build_125 : decode cX12_build 125 = .ok (.getfield 162, 3) := by decide +kernel
theorem dX12_build_128 : decode cX12_build 128 = .ok (.putfield 333, 3) := by decide +kernel
theorem dX12_build_131 : decode cX12_build 131 = .ok (.aload_n 0, 1) := by decide +kernel
theorem dX12_build_132 : decode cX12_build 132 = .ok (.aload_n 0, 1) := by decide +kernel
theorem dX12_build_133 : decode cX12_build 133 = .ok (.getfield 153, 3) := by decide +kernel
theorem dX12_build_136 : decode cX12_build 136 = .ok (.ifCond .le 10, 3) := by decide +kernel
theorem dX12_build_139 : decode cX12_build 139 = .ok (.aload_n 0, 1) := by decide +kernel
theorem dX12_build_140 : decode cX12_build 140 = .ok (.getfield 159, 3) := by decide +kernel
theorem dX12_build_143 : decode cX12_build 143 = .ok (.goto 18, 3) := by decide +kernel
theorem dX12_build_146 : decode cX12_build 146 = .ok (.aload_n 0, 1) := by decide +kernel
theorem dX12_build_147 : decode cX12_build 147 = .ok (.getfield 162, 3) := by decide +kernel
theorem dX12_build_150 : decode cX12_build 150 = .ok (.ifCond .le 10, 3) := by decide +kernel
theorem dX12_build_153 : decode cX12_build 153 = .ok (.aload_n 0, 1) := by decide +kernel
theorem dX12_build_154 : decode cX12_build 154 = .ok (.getfield 165, 3) := by decide +kernel
theorem dX12_build_157 : decode cX12_build 157 = .ok (.goto 4, 3) := by decide +kernel
theorem dX12_build_160 : decode cX12_build 160 = .ok (.iconst (-1), 1) := by decide +kernel
theorem dX12_build_161 : decode cX12_build 161 = .ok (.putfield 13, 3) := by decide +kernel
theorem dX12_build_164 : decode cX12_build 164 = .ok (.aload_n 0, 1) := by decide +kernel
theorem dX12_build_165 : decode cX12_build 165 = .ok (.getfield 333, 3) := by decide +kernel
theorem dX12_build_168 : decode cX12_build 168 = .ok (.ifCond .le 5, 3) := by decide +kernel
theorem dX12_build_171 : decode cX12_build 171 = .ok (.iconst (-1), 1) := by decide +kernel
theorem dX12_build_172 : decode cX12_build 172 = .ok (.ireturn, 1) := by decide +kernel
theorem dX12_build_173 : decode cX12_build 173 = .ok (.aload_n 0, 1) := by decide +kernel
theorem dX12_build_174 : decode cX12_build 174 = .ok (.getfield 46, 3) := by decide +kernel
theorem dX12_build_177 : decode cX12_build 177 = .ok (.astore_n 2, 1) := by decide +kernel
theorem dX12_build_178 : decode cX12_build 178 = .ok (.aload_n 0, 1) := by decide +kernel
theorem dX12_build_179 : decode cX12_build 179 = .ok (.aload_n 0, 1) := by decide +kernel
theorem dX12_build_180 : decode cX12_build 180 = .ok (.getfield 50, 3) := by decide +kernel
theorem dX12_build_183 : decode cX12_build 183 = .ok (.putfield 46, 3) := by decide +kernel
theorem dX12_build_186 : decode cX12_build 186 = .ok (.aload_n 0, 1) := by decide +kernel
theorem dX12_build_187 : decode cX12_build 187 = .ok (.aload_n 2, 1) := by decide +kernel
theorem dX12_build_188 : decode cX12_build 188 = .ok (.putfield 50, 3) := by decide +kernel
theorem dX12_build_191 : decode cX12_build 191 = .ok (.aload_n 0, 1) := by decide +kernel
theorem dX12_build_192 : decode cX12_build 192 = .ok (.getfield 77, 3) := by decide +kernel
theorem dX12_build_195 : decode cX12_build 195 = .ok (.astore_n 3, 1) := by decide +kernel
theorem dX12_build_196 : decode cX12_build 196 = .ok (.aload_n 0, 1) := by decide +kernel
theorem dX12_build_197 : decode cX12_build 197 = .ok (.aload_n 0, 1) := by decide +kernel
theorem dX12_build_198 : decode cX12_build 198 = .ok (.getfield 80, 3) := by decide +kernel
theorem dX12_build_201 : decode cX12_build 201 = .ok (.putfield 77, 3) := by decide +kernel
theorem dX12_build_204 : decode cX12_build 204 = .ok (.aload_n 0, 1) := by decide +kernel
theorem dX12_build_205 : decode cX12_build 205 = .ok (.aload_n 3, 1) := by decide +kernel
theorem dX12_build_206 : decode cX12_build 206 = .ok (.putfield 80, 3) := by decide +kernel
theorem dX12_build_209 : decode cX12_build 209 = .ok (.aload_n 0, 1) := by decide +kernel
theorem dX12_build_210 : decode cX12_build 210 = .ok (.iconst 1, 1) := by decide +kernel
theorem dX12_build_211 : decode cX12_build 211 = .ok (.putfield 336, 3) := by decide +kernel
theorem dX12_build_214 : decode cX12_build 214 = .ok (.aload_n 0, 1) := by decide +kernel
theorem dX12_build_215 : decode cX12_build 215 = .ok (.iconst 0, 1) := by decide +kernel
theorem dX12_build_216 : decode cX12_build 216 = .ok (.putfield 340, 3) := by decide +kernel
theorem dX12_build_219 : decode cX12_build 219 = .ok (.iconst 0, 1) := by decide +kernel
theorem dX12_build_220 : decode cX12_build 220 = .ok (.istore 4, 2) := by decide +kernel
theorem dX12_build_222 : decode cX12_build 222 = .ok (.iload 4, 2) := by decide +kernel
theorem dX12_build_224 : decode cX12_build 224 = .ok (.sipush 2048, 3) := by decide +kernel
theorem dX12_build_227 : decode cX12_build 227 = .ok (.if_icmp .ge 17, 3) := by decide +kernel
theorem dX12_build_230 : decode cX12_build 230 = .ok (.aload_n 0, 1) := by decide +kernel
theorem dX12_build_231 : decode cX12_build 231 = .ok (.getfield 62, 3) := by decide +kernel
theorem dX12_build_234 : decode cX12_build 234 = .ok (.iload 4, 2) := by decide +kernel
theorem dX12_build_236 : decode cX12_build 236 = .ok (.iconst 0, 1) := by decide +kernel
theorem dX12_build_237 : decode cX12_build 237 = .ok (.iastore, 1) := by decide +kernel
theorem dX12_build_238 : decode cX12_build 238 = .ok (.iinc 4 1, 3) := by decide +kernel
theorem dX12_build_241 : decode cX12_build 241 = .ok (.goto (-19), 3) := by decide +kernel
theorem dX12_build_244 : decode cX12_build 244 = .ok (.iconst 0, 1) := by decide +kernel
theorem dX12_build_245 : decode cX12_build 245 = .ok (.istore 4, 2) := by decide +kernel
theorem dX12_build_247 : decode cX12_build 247 = .ok (.iload 4, 2) := by decide +kernel
theorem dX12_build_249 : decode cX12_build 249 = .ok (.iconst 4, 1) := by decide +kernel
theorem dX12_build_250 : decode cX12_build 250 = .ok (.if_icmp .ge 17, 3) := by decide +kernel
theorem dX12_build_253 : decode cX12_build 253 = .ok (.aload_n 0, 1) := by decide +kernel
theorem dX12_build_254 : decode cX12_build 254 = .ok (.getfield 65, 3) := by decide +kernel
theorem dX12_build_257 : decode cX12_build 257 = .ok (.iload 4, 2) := by decide +kernel
theorem dX12_build_259 : decode cX12_build 259 = .ok (.iconst 0, 1) := by decide +kernel
theorem dX12_build_260 : decode cX12_build 260 = .ok (.iastore, 1) := by decide +kernel
theorem dX12_build_261 : decode cX12_build 261 = .ok (.iinc 4 1, 3) := by decide +kernel
theorem dX12_build_264 : decode cX12_build 264 = .ok (.goto (-17), 3) := by decide +kernel
theorem dX12_build_267 : decode cX12_build 267 = .ok (.iconst 0, 1) := by decide +kernel
theorem dX12_build_268 : decode cX12_build 268 = .ok (.ireturn, 1) := by decide +kernel
