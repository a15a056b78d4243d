theorem dX0_init_0 : decode cX0_init 0 = .ok (.aload_n 0, 1) := by decide +kernel
theorem dX0_init_1 : decode cX0_init 1 = .ok (.invokespecial 3, 3) := by decide +kernel
theorem dX0_init_4 : decode cX0_init 4 = .ok (.aload_n 0, 1) := by decide +kernel
theorem dX0_init_5 : decode cX0_init 5 = .ok (.sipush 1400, 3) := by decide +kernel
theorem dX0_init_8 : decode cX0_init 8 = .ok (.newarray .int, 2) := by decide +kernel
theorem dX0_init_10 : decode cX0_init 10 = .ok (.putfield 9, 3) := by decide +kernel
theorem dX0_init_13 : decode cX0_init 13 = .ok (.aload_n 0, 1) := by decide +kernel
theorem dX0_init_14 : decode cX0_init 14 = .ok (.sipush 1400, 3) := by decide +kernel
theorem dX0_init_17 : decode cX0_init 17 = .ok (.newarray .int, 2) := by decide +kernel
theorem dX0_init_19 : decode cX0_init 19 = .ok (.putfield 15, 3) := by decide +kernel
theorem dX0_init_22 : decode cX0_init 22 = .ok (.aload_n 0, 1) := by decide +kernel
theorem dX0_init_23 : decode cX0_init 23 = .ok (.sipush 1400, 3) := by decide +kernel
theorem dX0_init_26 : decode cX0_init 26 = .ok (.newarray .int, 2) := by decide +kernel
theorem dX0_init_28 : decode cX0_init 28 = .ok (.putfield 18, 3) := by decide +kernel
theorem dX0_init_31 : decode cX0_init 31 = .ok (.aload_n 0, 1) := by decide +kernel
theorem dX0_init_32 : decode cX0_init 32 = .ok (.sipush 1400, 3) := by decide +kernel
theorem dX0_init_35 : decode cX0_init 35 = .ok (.newarray .int, 2) := by decide +kernel
theorem dX0_init_37 : decode cX0_init 37 = .ok (.putfield 21, 3) := by decide +kernel
theorem dX0_init_40 : decode cX0_init 40 = .ok (.aload_n 0, 1) := by decide +kernel
theorem dX0_init_41 : decode cX0_init 41 = .ok (.bipush 80, 2) := by decide +kernel
theorem dX0_init_43 : decode cX0_init 43 = .ok (.newarray .int, 2) := by decide +kernel
theorem dX0_init_45 : decode cX0_init 45 = .ok (.putfield 24, 3) := by decide +kernel
theorem dX0_init_48 : decode cX0_init 48 = .ok (.aload_n 0, 1) := by decide +kernel
theorem dX0_init_49 : decode cX0_init 49 = .ok (.bipush 8, 2) := by decide +kernel
theorem dX0_init_51 : decode cX0_init 51 = .ok (.newarray .int, 2) := by decide +kernel
theorem dX0_init_53 : decode cX0_init 53 = .ok (.putfield 27, 3) := by decide +kernel
theorem dX0_init_56 : decode cX0_init 56 = .ok (.return_, 1) := by decide +kernel
theorem dX0_clear_0 : decode cX0_clear 0 = .ok (.aload_n 0, 1) := by decide +kernel
theorem dX0_clear_1 : decode cX0_clear 1 = .ok (.iconst 0, 1) := by decide +kernel
theorem dX0_clear_2 : decode cX0_clear 2 = .ok (.putfield 30, 3) := by decide +kernel
theorem dX0_clear_5 : decode cX0_clear 5 = .ok (.aload_n 0, 1) := by decide +kernel
theorem dX0_clear_6 : decode cX0_clear 6 = .ok (.iconst 0, 1) := by decide +kernel
theorem dX0_clear_7 : decode cX0_clear 7 = .ok (.putfield 34, 3) := by decide +kernel
theorem dX0_clear_10 : decode cX0_clear 10 = .ok (.aload_n 0, 1) := by decide +kernel
theorem dX0_clear_11 : decode cX0_clear 11 = .ok (.iconst 0, 1) := by decide +kernel
theorem dX0_clear_12 : decode cX0_clear 12 = .ok (.putfield 37, 3) := by decide +kernel
theorem dX0_clear_15 : decode cX0_clear 15 = .ok (.aload_n 0, 1) := by decide +kernel
theorem dX0_clear_16 : decode cX0_clear 16 = .ok (.iconst 0, 1) := by decide +kernel
theorem dX0_clear_17 : decode cX0_clear 17 = .ok (.putfield 40, 3) := by decide +kernel
theorem dX0_clear_20 : decode cX0_clear 20 = .ok (.aload_n 0, 1) := by decide +kernel
theorem dX0_clear_21 : decode cX0_clear 21 = .ok (.iconst 0, 1) := by decide +kernel
theorem dX0_clear_22 : decode cX0_clear 22 = .ok (.putfield 43, 3) := by decide +kernel
theorem dX0_clear_25 : decode cX0_clear 25 = .ok (.aload_n 0, 1) := by decide +kernel
theorem dX0_clear_26 : decode cX0_clear 26 = .ok (.iconst 0, 1) := by decide +kernel
theorem dX0_clear_27 : decode cX0_clear 27 = .ok (.putfield 46, 3) := by decide +kernel
theorem dX0_clear_30 : decode cX0_clear 30 = .ok (.return_, 1) := by decide +kernel
theorem dX0_lay_0 : decode cX0_lay 0 = .ok (.aload_n 0, 1) := by decide +kernel
theorem dX0_lay_1 : decode cX0_lay 1 = .ok (.getfield 30, 3) := by decide +kernel
theorem dX0_lay_4 : decode cX0_lay 4 = .ok (.sipush 1400, 3) := by decide +kernel
theorem dX0_lay_7 : decode cX0_lay 7 = .ok (.if_icmp .lt 5, 3) := by decide +kernel
theorem dX0_lay_10 : decode cX0_lay 10 = .ok (.iconst (-1), 1) := by decide +kernel
theorem dX0_lay_11 : decode cX0_lay 11 = .ok (.ireturn, 1) := by decide +kernel
theorem dX0_lay_12 : decode cX0_lay 12 = .ok (.aload_n 0, 1) := by decide +kernel
theorem dX0_lay_13 : decode cX0_lay 13 = .ok (.getfield 9, 3) := by decide +kernel
theorem dX0_lay_16 : decode cX0_lay 16 = .ok (.aload_n 0, 1) := by decide +kernel
theorem dX0_lay_17 : decode cX0_lay 17 = .ok (.getfield 30, 3) := by decide +kernel
theorem dX0_lay_20 : decode cX0_lay 20 = .ok (.iload_n 1, 1) := by decide +kernel
theorem dX0_lay_21 : decode cX0_lay 21 = .ok (.iastore, 1) := by decide +kernel
theorem dX0_lay_22 : decode cX0_lay 22 = .ok (.aload_n 0, 1) := by decide +kernel
theorem dX0_lay_23 : decode cX0_lay 23 = .ok (.getfield 15, 3) := by decide +kernel
theorem dX0_lay_26 : decode cX0_lay 26 = .ok (.aload_n 0, 1) := by decide +kernel
theorem dX0_lay_27 : decode cX0_lay 27 = .ok (.getfield 30, 3) := by decide +kernel
theorem dX0_lay_30 : decode cX0_lay 30 = .ok (.iload_n 2, 1) := by decide +kernel
theorem dX0_lay_31 : decode cX0_lay 31 = .ok (.iastore, 1) := by decide +kernel
theorem dX0_lay_32 : decode cX0_lay 32 = .ok (.aload_n 0, 1) := by decide +kernel
theorem dX0_lay_33 : decode cX0_lay 33 = .ok (.getfield 18, 3) := by decide +kernel
theorem dX0_lay_36 : decode cX0_lay 36 = .ok (.aload_n 0, 1) := by decide +kernel
theorem dX0_lay_37 : decode cX0_lay 37 = .ok (.getfield 30, 3) := by decide +kernel
theorem dX0_lay_40 : decode cX0_lay 40 = .ok (.iload_n 3, 1) := by decide +kernel
theorem dX0_lay_41 : decode cX0_lay 41 = .ok (.iastore, 1) := by decide +kernel
theorem dX0_lay_42 : decode cX0_lay 42 = .ok (.aload_n 0, 1) := by decide +kernel
theorem dX0_lay_43 : decode cX0_lay 43 = .ok (.getfield 21, 3) := by decide +kernel
theorem dX0_lay_46 : decode cX0_lay 46 = .ok (.aload_n 0, 1) := by decide +kernel
theorem dX0_lay_47 : decode cX0_lay 47 = .ok (.getfield 30, 3) := by decide +kernel
theorem dX0_lay_50 : decode cX0_lay 50 = .ok (.iload 4, 2) := by decide +kernel
theorem dX0_lay_52 : decode cX0_lay 52 = .ok (.iastore, 1) := by decide +kernel
theorem dX0_lay_53 : decode cX0_lay 53 = .ok (.aload_n 0, 1) := by decide +kernel
theorem dX0_lay_54 : decode cX0_lay 54 = .ok (.dup, 1) := by decide +kernel
theorem dX0_lay_55 : decode cX0_lay 55 = .ok (.getfield 30, 3) := by decide +kernel
theorem dX0_lay_58 : decode cX0_lay 58 = .ok (.iconst 1, 1) := by decide +kernel
theorem dX0_lay_59 : decode cX0_lay 59 = .ok (.iadd, 1) := by decide +kernel
theorem dX0_lay_60 : decode cX0_lay 60 = .ok (.putfield 30, 3) := by decide +kernel
theorem dX0_lay_63 : decode cX0_lay 63 = .ok (.aload_n 0, 1) := by decide +kernel
theorem dX0_lay_64 : decode cX0_lay 64 = .ok (.getfield 30, 3) := by decide +kernel
theorem dX0_lay_67 : decode cX0_lay 67 = .ok (.iconst 1, 1) := by decide +kernel
theorem dX0_lay_68 : decode cX0_lay 68 = .ok (.isub, 1) := by decide +kernel
theorem dX0_lay_69 : decode cX0_lay 69 = .ok (.ireturn, 1) := by decide +kernel
theorem dX0_junction_0 : decode cX0_junction 0 = .ok (.aload_n 0, 1) := by decide +kernel
theorem dX0_junction_1 : decode cX0_junction 1 = .ok (.getfield 34, 3) := by decide +kernel
theorem dX0_junction_4 : decode cX0_junction 4 = .ok (.bipush 80, 2) := by decide +kernel
theorem dX0_junction_6 : decode cX0_junction 6 = .ok (.if_icmp .lt 5, 3) := by decide +kernel
theorem dX0_junction_9 : decode cX0_junction 9 = .ok (.iconst (-1), 1) := by decide +kernel
theorem dX0_junction_10 : decode cX0_junction 10 = .ok (.ireturn, 1) := by decide +kernel
theorem dX0_junction_11 : decode cX0_junction 11 = .ok (.aload_n 0, 1) := by decide +kernel
theorem dX0_junction_12 : decode cX0_junction 12 = .ok (.getfield 24, 3) := by decide +kernel
theorem dX0_junction_15 : decode cX0_junction 15 = .ok (.aload_n 0, 1) := by decide +kernel
theorem dX0_junction_16 : decode cX0_junction 16 = .ok (.getfield 34, 3) := by decide +kernel
theorem dX0_junction_19 : decode cX0_junction 19 = .ok (.iconst (-1), 1) := by decide +kernel
theorem dX0_junction_20 : decode cX0_junction 20 = .ok (.iastore, 1) := by decide +kernel
theorem dX0_junction_21 : decode cX0_junction 21 = .ok (.aload_n 0, 1) := by decide +kernel
theorem dX0_junction_22 : decode cX0_junction 22 = .ok (.dup, 1) := by decide +kernel
theorem dX0_junction_23 : decode cX0_junction 23 = .ok (.getfield 34, 3) := by decide +kernel
theorem dX0_junction_26 : decode cX0_junction 26 = .ok (.iconst 1, 1) := by decide +kernel
theorem dX0_junction_27 : decode cX0_junction 27 = .ok (.iadd, 1) := by decide +kernel
theorem dX0_junction_28 : decode cX0_junction 28 = .ok (.putfield 34, 3) := by decide +kernel
theorem dX0_junction_31 : decode cX0_junction 31 = .ok (.aload_n 0, 1) := by decide +kernel
theorem dX0_junction_32 : decode cX0_junction 32 = .ok (.getfield 34, 3) := by decide +kernel
theorem dX0_junction_35 : decode cX0_junction 35 = .ok (.iconst 1, 1) := by decide +kernel
theorem dX0_junction_36 : decode cX0_junction 36 = .ok (.isub, 1) := by decide +kernel
theorem dX0_junction_37 : decode cX0_junction 37 = .ok (.ireturn, 1) := by decide +kernel
theorem dX0_join_0 : decode cX0_join 0 = .ok (.iload_n 1, 1) := by decide +kernel
theorem dX0_join_1 : decode cX0_join 1 = .ok (.ifCond .lt 27, 3) := by decide +kernel
theorem dX0_join_4 : decode cX0_join 4 = .ok (.iload_n 1, 1) := by decide +kernel
theorem dX0_join_5 : decode cX0_join 5 = .ok (.aload_n 0, 1) := by decide +kernel
theorem dX0_join_6 : decode cX0_join 6 = .ok (.getfield 34, 3) := by decide +kernel
theorem dX0_join_9 : decode cX0_join 9 = .ok (.if_icmp .ge 19, 3) := by decide +kernel
theorem dX0_join_12 : decode cX0_join 12 = .ok (.iload_n 1, 1) := by decide +kernel
theorem dX0_join_13 : decode cX0_join 13 = .ok (.bipush 80, 2) := by decide +kernel
theorem dX0_join_15 : decode cX0_join 15 = .ok (.if_icmp .ge 13, 3) := by decide +kernel
theorem dX0_join_18 : decode cX0_join 18 = .ok (.aload_n 0, 1) := by decide +kernel
theorem dX0_join_19 : decode cX0_join 19 = .ok (.getfield 24, 3) := by decide +kernel
theorem dX0_join_22 : decode cX0_join 22 = .ok (.iload_n 1, 1) := by decide +kernel
theorem dX0_join_23 : decode cX0_join 23 = .ok (.aload_n 0, 1) := by decide +kernel
theorem dX0_join_24 : decode cX0_join 24 = .ok (.getfield 30, 3) := by decide +kernel
theorem dX0_join_27 : decode cX0_join 27 = .ok (.iastore, 1) := by decide +kernel
theorem dX0_join_28 : decode cX0_join 28 = .ok (.aload_n 0, 1) := by decide +kernel
theorem dX0_join_29 : decode cX0_join 29 = .ok (.bipush 7, 2) := by decide +kernel
theorem dX0_join_31 : decode cX0_join 31 = .ok (.iconst (-1), 1) := by decide +kernel
theorem dX0_join_32 : decode cX0_join 32 = .ok (.iconst (-1), 1) := by decide +kernel
theorem dX0_join_33 : decode cX0_join 33 = .ok (.iconst (-1), 1) := by decide +kernel
theorem dX0_join_34 : decode cX0_join 34 = .ok (.invokevirtual 49, 3) := by decide +kernel
theorem dX0_join_37 : decode cX0_join 37 = .ok (.pop, 1) := by decide +kernel
theorem dX0_join_38 : decode cX0_join 38 = .ok (.return_, 1) := by decide +kernel
theorem dX0_leadsTo_0 : decode cX0_leadsTo 0 = .ok (.iload_n 1, 1) := by decide +kernel
theorem dX0_leadsTo_1 : decode cX0_leadsTo 1 = .ok (.ifCond .lt 26, 3) := by decide +kernel
theorem dX0_leadsTo_4 : decode cX0_leadsTo 4 = .ok (.iload_n 1, 1) := by decide +kernel
theorem dX0_leadsTo_5 : decode cX0_leadsTo 5 = .ok (.aload_n 0, 1) := by decide +kernel
theorem dX0_leadsTo_6 : decode cX0_leadsTo 6 = .ok (.getfield 34, 3) := by decide +kernel
theorem dX0_leadsTo_9 : decode cX0_leadsTo 9 = .ok (.if_icmp .ge 18, 3) := by decide +kernel
theorem dX0_leadsTo_12 : decode cX0_leadsTo 12 = .ok (.iload_n 1, 1) := by decide +kernel
theorem dX0_leadsTo_13 : decode cX0_leadsTo 13 = .ok (.bipush 80, 2) := by decide +kernel
theorem dX0_leadsTo_15 : decode cX0_leadsTo 15 = .ok (.if_icmp .ge 12, 3) := by decide +kernel
theorem dX0_leadsTo_18 : decode cX0_leadsTo 18 = .ok (.aload_n 0, 1) := by decide +kernel
theorem dX0_leadsTo_19 : decode cX0_leadsTo 19 = .ok (.getfield 24, 3) := by decide +kernel
theorem dX0_leadsTo_22 : decode cX0_leadsTo 22 = .ok (.iload_n 1, 1) := by decide +kernel
theorem dX0_leadsTo_23 : decode cX0_leadsTo 23 = .ok (.iaload, 1) := by decide +kernel
theorem dX0_leadsTo_24 : decode cX0_leadsTo 24 = .ok (.goto 4, 3) := by decide +kernel
theorem dX0_leadsTo_27 : decode cX0_leadsTo 27 = .ok (.iconst (-1), 1) := by decide +kernel
theorem dX0_leadsTo_28 : decode cX0_leadsTo 28 = .ok (.ireturn, 1) := by decide +kernel
theorem dX0_addArray_0 : decode cX0_addArray 0 = .ok (.aload_n 0, 1) := by decide +kernel
theorem dX0_addArray_1 : decode cX0_addArray 1 = .ok (.getfield 37, 3) := by decide +kernel
theorem dX0_addArray_4 : decode cX0_addArray 4 = .ok (.bipush 8, 2) := by decide +kernel
theorem dX0_addArray_6 : decode cX0_addArray 6 = .ok (.if_icmp .ge 23, 3) := by decide +kernel
theorem dX0_addArray_9 : decode cX0_addArray 9 = .ok (.aload_n 0, 1) := by decide +kernel
theorem dX0_addArray_10 : decode cX0_addArray 10 = .ok (.getfield 27, 3) := by decide +kernel
theorem dX0_addArray_13 : decode cX0_addArray 13 = .ok (.aload_n 0, 1) := by decide +kernel
theorem dX0_addArray_14 : decode cX0_addArray 14 = .ok (.getfield 37, 3) := by decide +kernel
theorem dX0_addArray_17 : decode cX0_addArray 17 = .ok (.iload_n 1, 1) := by decide +kernel
theorem dX0_addArray_18 : decode cX0_addArray 18 = .ok (.iastore, 1) := by decide +kernel
theorem dX0_addArray_19 : decode cX0_addArray 19 = .ok (.aload_n 0, 1) := by decide +kernel
theorem dX0_addArray_20 : decode cX0_addArray 20 = .ok (.dup, 1) := by decide +kernel
theorem dX0_addArray_21 : decode cX0_addArray 21 = .ok (.getfield 37, 3) := by decide +kernel
theorem dX0_addArray_24 : decode cX0_addArray 24 = .ok (.iconst 1, 1) := by decide +kernel
theorem dX0_addArray_25 : decode cX0_addArray 25 = .ok (.iadd, 1) := by decide +kernel
theorem dX0_addArray_26 : decode cX0_addArray 26 = .ok (.putfield 37, 3) := by decide +kernel
theorem dX0_addArray_29 : decode cX0_addArray 29 = .ok (.return_, 1) := by decide +kernel
theorem dX0_cellsOf_0 : decode cX0_cellsOf 0 = .ok (.iload_n 1, 1) := by decide +kernel
theorem dX0_cellsOf_1 : decode cX0_cellsOf 1 = .ok (.ifCond .lt 26, 3) := by decide +kernel
theorem dX0_cellsOf_4 : decode cX0_cellsOf 4 = .ok (.iload_n 1, 1) := by decide +kernel
theorem dX0_cellsOf_5 : decode cX0_cellsOf 5 = .ok (.aload_n 0, 1) := by decide +kernel
theorem dX0_cellsOf_6 : decode cX0_cellsOf 6 = .ok (.getfield 37, 3) := by decide +kernel
theorem dX0_cellsOf_9 : decode cX0_cellsOf 9 = .ok (.if_icmp .ge 18, 3) := by decide +kernel
theorem dX0_cellsOf_12 : decode cX0_cellsOf 12 = .ok (.iload_n 1, 1) := by decide +kernel
theorem dX0_cellsOf_13 : decode cX0_cellsOf 13 = .ok (.bipush 8, 2) := by decide +kernel
theorem dX0_cellsOf_15 : decode cX0_cellsOf 15 = .ok (.if_icmp .ge 12, 3) := by decide +kernel
theorem dX0_cellsOf_18 : decode cX0_cellsOf 18 = .ok (.aload_n 0, 1) := by decide +kernel
theorem dX0_cellsOf_19 : decode cX0_cellsOf 19 = .ok (.getfield 27, 3) := by decide +kernel
theorem dX0_cellsOf_22 : decode cX0_cellsOf 22 = .ok (.iload_n 1, 1) := by decide +kernel
theorem dX0_cellsOf_23 : decode cX0_cellsOf 23 = .ok (.iaload, 1) := by decide +kernel
theorem dX0_cellsOf_24 : decode cX0_cellsOf 24 = .ok (.goto 4, 3) := by decide +kernel
theorem dX0_cellsOf_27 : decode cX0_cellsOf 27 = .ok (.iconst (-1), 1) := by decide +kernel
theorem dX0_cellsOf_28 : decode cX0_cellsOf 28 = .ok (.ireturn, 1) := by decide +kernel
theorem dX1_init_0 : decode cX1_init 0 = .ok (.aload_n 0, 1) := by decide +kernel
theorem dX1_init_1 : decode cX1_init 1 = .ok (.invokespecial 3, 3) := by decide +kernel
theorem dX1_init_4 : decode cX1_init 4 = .ok (.aload_n 0, 1) := by decide +kernel
theorem dX1_init_5 : decode cX1_init 5 = .ok (.sipush 186, 3) := by decide +kernel
theorem dX1_init_8 : decode cX1_init 8 = .ok (.newarray .int, 2) := by decide +kernel
theorem dX1_init_10 : decode cX1_init 10 = .ok (.putfield 9, 3) := by decide +kernel
theorem dX1_init_13 : decode cX1_init 13 = .ok (.aload_n 0, 1) := by decide +kernel
theorem dX1_init_14 : decode cX1_init 14 = .ok (.sipush 186, 3) := by decide +kernel
theorem dX1_init_17 : decode cX1_init 17 = .ok (.newarray .int, 2) := by decide +kernel
theorem dX1_init_19 : decode cX1_init 19 = .ok (.putfield 15, 3) := by decide +kernel
theorem dX1_init_22 : decode cX1_init 22 = .ok (.aload_n 0, 1) := by decide +kernel
theorem dX1_init_23 : decode cX1_init 23 = .ok (.sipush 187, 3) := by decide +kernel
theorem dX1_init_26 : decode cX1_init 26 = .ok (.newarray .int, 2) := by decide +kernel
theorem dX1_init_28 : decode cX1_init 28 = .ok (.putfield 18, 3) := by decide +kernel
theorem dX1_init_31 : decode cX1_init 31 = .ok (.aload_n 0, 1) := by decide +kernel
theorem dX1_init_32 : decode cX1_init 32 = .ok (.aload_n 1, 1) := by decide +kernel
theorem dX1_init_33 : decode cX1_init 33 = .ok (.putfield 21, 3) := by decide +kernel
theorem dX1_init_36 : decode cX1_init 36 = .ok (.aload_n 0, 1) := by decide +kernel
theorem dX1_init_37 : decode cX1_init 37 = .ok (.aload_n 2, 1) := by decide +kernel
theorem dX1_init_38 : decode cX1_init 38 = .ok (.putfield 25, 3) := by decide +kernel
theorem dX1_init_41 : decode cX1_init 41 = .ok (.aload_n 0, 1) := by decide +kernel
theorem dX1_init_42 : decode cX1_init 42 = .ok (.aload_n 3, 1) := by decide +kernel
theorem dX1_init_43 : decode cX1_init 43 = .ok (.putfield 29, 3) := by decide +kernel
theorem dX1_init_46 : decode cX1_init 46 = .ok (.return_, 1) := by decide +kernel
theorem dX1_begin_0 : decode cX1_begin 0 = .ok (.aload_n 0, 1) := by decide +kernel
theorem dX1_begin_1 : decode cX1_begin 1 = .ok (.aload_n 1, 1) := by decide +kernel
theorem dX1_begin_2 : decode cX1_begin 2 = .ok (.putfield 29, 3) := by decide +kernel
theorem dX1_begin_5 : decode cX1_begin 5 = .ok (.aload_n 0, 1) := by decide +kernel
theorem dX1_begin_6 : decode cX1_begin 6 = .ok (.iconst 0, 1) := by decide +kernel
theorem dX1_begin_7 : decode cX1_begin 7 = .ok (.putfield 33, 3) := by decide +kernel
theorem dX1_begin_10 : decode cX1_begin 10 = .ok (.return_, 1) := by decide +kernel
theorem dX1_read_0 : decode cX1_read 0 = .ok (.aload_n 0, 1) := by decide +kernel
theorem dX1_read_1 : decode cX1_read 1 = .ok (.iconst 0, 1) := by decide +kernel
theorem dX1_read_2 : decode cX1_read 2 = .ok (.putfield 37, 3) := by decide +kernel
theorem dX1_read_5 : decode cX1_read 5 = .ok (.aload_n 0, 1) := by decide +kernel
theorem dX1_read_6 : decode cX1_read 6 = .ok (.iconst 0, 1) := by decide +kernel
theorem dX1_read_7 : decode cX1_read 7 = .ok (.putfield 40, 3) := by decide +kernel
theorem dX1_read_10 : decode cX1_read 10 = .ok (.aload_n 0, 1) := by decide +kernel
theorem dX1_read_11 : decode cX1_read 11 = .ok (.iconst 1, 1) := by decide +kernel
theorem dX1_read_12 : decode cX1_read 12 = .ok (.putfield 43, 3) := by decide +kernel
theorem dX1_read_15 : decode cX1_read 15 = .ok (.iconst 0, 1) := by decide +kernel
theorem dX1_read_16 : decode cX1_read 16 = .ok (.istore_n 1, 1) := by decide +kernel
theorem dX1_read_17 : decode cX1_read 17 = .ok (.iload_n 1, 1) := by decide +kernel
theorem dX1_read_18 : decode cX1_read 18 = .ok (.sipush 2001, 3) := by decide +kernel
theorem dX1_read_21 : decode cX1_read 21 = .ok (.if_icmp .gt 85, 3) := by decide +kernel
theorem dX1_read_24 : decode cX1_read 24 = .ok (.aload_n 0, 1) := by decide +kernel
theorem dX1_read_25 : decode cX1_read 25 = .ok (.getfield 43, 3) := by decide +kernel
theorem dX1_read_28 : decode cX1_read 28 = .ok (.ifCond .eq 12, 3) := by decide +kernel
theorem dX1_read_31 : decode cX1_read 31 = .ok (.aload_n 0, 1) := by decide +kernel
theorem dX1_read_32 : decode cX1_read 32 = .ok (.invokevirtual 47, 3) := by decide +kernel
theorem dX1_read_35 : decode cX1_read 35 = .ok (.ifCond .ne 65, 3) := by decide +kernel
theorem dX1_read_38 : decode cX1_read 38 = .ok (.iconst 0, 1) := by decide +kernel
theorem dX1_read_39 : decode cX1_read 39 = .ok (.ireturn, 1) := by decide +kernel
theorem dX1_read_40 : decode cX1_read 40 = .ok (.aload_n 0, 1) := by decide +kernel
theorem dX1_read_41 : decode cX1_read 41 = .ok (.invokevirtual 51, 3) := by decide +kernel
theorem dX1_read_44 : decode cX1_read 44 = .ok (.aload_n 0, 1) := by decide +kernel
theorem dX1_read_45 : decode cX1_read 45 = .ok (.getfield 21, 3) := by decide +kernel
theorem dX1_read_48 : decode cX1_read 48 = .ok (.getfield 54, 3) := by decide +kernel
theorem dX1_read_51 : decode cX1_read 51 = .ok (.invokestatic 59, 3) := by decide +kernel
theorem dX1_read_54 : decode cX1_read 54 = .ok (.istore_n 2, 1) := by decide +kernel
theorem dX1_read_55 : decode cX1_read 55 = .ok (.aload_n 0, 1) := by decide +kernel
theorem dX1_read_56 : decode cX1_read 56 = .ok (.iload_n 2, 1) := by decide +kernel
theorem dX1_read_57 : decode cX1_read 57 = .ok (.iconst 1, 1) := by decide +kernel
theorem dX1_read_58 : decode cX1_read 58 = .ok (.invokestatic 63, 3) := by decide +kernel
theorem dX1_read_61 : decode cX1_read 61 = .ok (.invokevirtual 69, 3) := by decide +kernel
theorem dX1_read_64 : decode cX1_read 64 = .ok (.iload_n 2, 1) := by decide +kernel
theorem dX1_read_65 : decode cX1_read 65 = .ok (.ifCond .ne 12, 3) := by decide +kernel
theorem dX1_read_68 : decode cX1_read 68 = .ok (.aload_n 0, 1) := by decide +kernel
theorem dX1_read_69 : decode cX1_read 69 = .ok (.getfield 37, 3) := by decide +kernel
theorem dX1_read_72 : decode cX1_read 72 = .ok (.ifCond .ne 5, 3) := by decide +kernel
theorem dX1_read_75 : decode cX1_read 75 = .ok (.iconst 1, 1) := by decide +kernel
theorem dX1_read_76 : decode cX1_read 76 = .ok (.ireturn, 1) := by decide +kernel
theorem dX1_read_77 : decode cX1_read 77 = .ok (.iload_n 2, 1) := by decide +kernel
theorem dX1_read_78 : decode cX1_read 78 = .ok (.ifCond .le 13, 3) := by decide +kernel
theorem dX1_read_81 : decode cX1_read 81 = .ok (.aload_n 0, 1) := by decide +kernel
theorem dX1_read_82 : decode cX1_read 82 = .ok (.invokevirtual 73, 3) := by decide +kernel
theorem dX1_read_85 : decode cX1_read 85 = .ok (.ifCond .eq 13, 3) := by decide +kernel
theorem dX1_read_88 : decode cX1_read 88 = .ok (.goto 12, 3) := by decide +kernel
theorem dX1_read_91 : decode cX1_read 91 = .ok (.aload_n 0, 1) := by decide +kernel
theorem dX1_read_92 : decode cX1_read 92 = .ok (.invokevirtual 76, 3) := by decide +kernel
theorem dX1_read_95 : decode cX1_read 95 = .ok (.ifCond .ne 5, 3) := by decide +kernel
theorem dX1_read_98 : decode cX1_read 98 = .ok (.iconst 0, 1) := by decide +kernel
theorem dX1_read_99 : decode cX1_read 99 = .ok (.ireturn, 1) := by decide +kernel
theorem dX1_read_100 : decode cX1_read 100 = .ok (.iinc 1 1, 3) := by decide +kernel
theorem dX1_read_103 : decode cX1_read 103 = .ok (.goto (-86), 3) := by decide +kernel
theorem dX1_read_106 : decode cX1_read 106 = .ok (.iconst 0, 1) := by decide +kernel
theorem dX1_read_107 : decode cX1_read 107 = .ok (.ireturn, 1) := by decide +kernel
theorem dX1_result_0 : decode cX1_result 0 = .ok (.aload_n 0, 1) := by decide +kernel
theorem dX1_result_1 : decode cX1_result 1 = .ok (.invokevirtual 79, 3) := by decide +kernel
theorem dX1_result_4 : decode cX1_result 4 = .ok (.ireturn, 1) := by decide +kernel
theorem dX1_readOperand_0 : decode cX1_readOperand 0 = .ok (.aload_n 0, 1) := by decide +kernel
theorem dX1_readOperand_1 : decode cX1_readOperand 1 = .ok (.getfield 21, 3) := by decide +kernel
theorem dX1_readOperand_4 : decode cX1_readOperand 4 = .ok (.getfield 54, 3) := by decide +kernel
theorem dX1_readOperand_7 : decode cX1_readOperand 7 = .ok (.istore_n 1, 1) := by decide +kernel
theorem dX1_readOperand_8 : decode cX1_readOperand 8 = .ok (.aload_n 0, 1) := by decide +kernel
theorem dX1_readOperand_9 : decode cX1_readOperand 9 = .ok (.getfield 21, 3) := by decide +kernel
theorem dX1_readOperand_12 : decode cX1_readOperand 12 = .ok (.getfield 83, 3) := by decide +kernel
theorem dX1_readOperand_15 : decode cX1_readOperand 15 = .ok (.istore_n 2, 1) := by decide +kernel
theorem dX1_readOperand_16 : decode cX1_readOperand 16 = .ok (.aload_n 0, 1) := by decide +kernel
theorem dX1_readOperand_17 : decode cX1_readOperand 17 = .ok (.getfield 21, 3) := by decide +kernel
theorem dX1_readOperand_20 : decode cX1_readOperand 20 = .ok (.getfield 86, 3) := by decide +kernel
theorem dX1_readOperand_23 : decode cX1_readOperand 23 = .ok (.lstore_n 3, 1) := by decide +kernel
theorem dX1_readOperand_24 : decode cX1_readOperand 24 = .ok (.iload_n 1, 1) := by decide +kernel
theorem dX1_readOperand_25 : decode cX1_readOperand 25 = .ok (.lookupswitch 257 #[(2, 139), (3, 117), (33, 85), (40, 59), (45, 85), (126, 85)], 59) := by decide +kernel
theorem dX1_readOperand_84 : decode cX1_readOperand 84 = .ok (.aload_n 0, 1) := by decide +kernel
theorem dX1_readOperand_85 : decode cX1_readOperand 85 = .ok (.getfield 21, 3) := by decide +kernel
theorem dX1_readOperand_88 : decode cX1_readOperand 88 = .ok (.iload_n 1, 1) := by decide +kernel
theorem dX1_readOperand_89 : decode cX1_readOperand 89 = .ok (.invokevirtual 90, 3) := by decide +kernel
theorem dX1_readOperand_92 : decode cX1_readOperand 92 = .ok (.ifCond .eq 16, 3) := by decide +kernel
theorem dX1_readOperand_95 : decode cX1_readOperand 95 = .ok (.aload_n 0, 1) := by decide +kernel
theorem dX1_readOperand_96 : decode cX1_readOperand 96 = .ok (.iload_n 1, 1) := by decide +kernel
theorem dX1_readOperand_97 : decode cX1_readOperand 97 = .ok (.iconst (-1), 1) := by decide +kernel
theorem dX1_readOperand_98 : decode cX1_readOperand 98 = .ok (.invokevirtual 94, 3) := by decide +kernel
theorem dX1_readOperand_101 : decode cX1_readOperand 101 = .ok (.ifCond .eq 7, 3) := by decide +kernel
theorem dX1_readOperand_104 : decode cX1_readOperand 104 = .ok (.iconst 1, 1) := by decide +kernel
theorem dX1_readOperand_105 : decode cX1_readOperand 105 = .ok (.goto 4, 3) := by decide +kernel
theorem dX1_readOperand_108 : decode cX1_readOperand 108 = .ok (.iconst 0, 1) := by decide +kernel
theorem dX1_readOperand_109 : decode cX1_readOperand 109 = .ok (.ireturn, 1) := by decide +kernel
theorem dX1_readOperand_110 : decode cX1_readOperand 110 = .ok (.aload_n 0, 1) := by decide +kernel
theorem dX1_readOperand_111 : decode cX1_readOperand 111 = .ok (.iload_n 2, 1) := by decide +kernel
theorem dX1_readOperand_112 : decode cX1_readOperand 112 = .ok (.invokevirtual 98, 3) := by decide +kernel
theorem dX1_readOperand_115 : decode cX1_readOperand 115 = .ok (.aload_n 0, 1) := by decide +kernel
theorem dX1_readOperand_116 : decode cX1_readOperand 116 = .ok (.getfield 21, 3) := by decide +kernel
theorem dX1_readOperand_119 : decode cX1_readOperand 119 = .ok (.iload_n 1, 1) := by decide +kernel
theorem dX1_readOperand_120 : decode cX1_readOperand 120 = .ok (.invokevirtual 90, 3) := by decide +kernel
theorem dX1_readOperand_123 : decode cX1_readOperand 123 = .ok (.ifCond .eq 17, 3) := by decide +kernel
theorem dX1_readOperand_126 : decode cX1_readOperand 126 = .ok (.aload_n 0, 1) := by decide +kernel
theorem dX1_readOperand_127 : decode cX1_readOperand 127 = .ok (.iload_n 1, 1) := by decide +kernel
theorem dX1_readOperand_128 : decode cX1_readOperand 128 = .ok (.ineg, 1) := by decide +kernel
theorem dX1_readOperand_129 : decode cX1_readOperand 129 = .ok (.iconst (-1), 1) := by decide +kernel
theorem dX1_readOperand_130 : decode cX1_readOperand 130 = .ok (.invokevirtual 94, 3) := by decide +kernel
theorem dX1_readOperand_133 : decode cX1_readOperand 133 = .ok (.ifCond .eq 7, 3) := by decide +kernel
theorem dX1_readOperand_136 : decode cX1_readOperand 136 = .ok (.iconst 1, 1) := by decide +kernel
theorem dX1_readOperand_137 : decode cX1_readOperand 137 = .ok (.goto 4, 3) := by decide +kernel
theorem dX1_readOperand_140 : decode cX1_readOperand 140 = .ok (.iconst 0, 1) := by decide +kernel
theorem dX1_readOperand_141 : decode cX1_readOperand 141 = .ok (.ireturn, 1) := by decide +kernel
theorem dX1_readOperand_142 : decode cX1_readOperand 142 = .ok (.aload_n 0, 1) := by decide +kernel
theorem dX1_readOperand_143 : decode cX1_readOperand 143 = .ok (.iload_n 2, 1) := by decide +kernel
theorem dX1_readOperand_144 : decode cX1_readOperand 144 = .ok (.invokevirtual 98, 3) := by decide +kernel
theorem dX1_readOperand_147 : decode cX1_readOperand 147 = .ok (.aload_n 0, 1) := by decide +kernel
theorem dX1_readOperand_148 : decode cX1_readOperand 148 = .ok (.getfield 21, 3) := by decide +kernel
theorem dX1_readOperand_151 : decode cX1_readOperand 151 = .ok (.invokevirtual 101, 3) := by decide +kernel
theorem dX1_readOperand_154 : decode cX1_readOperand 154 = .ok (.aload_n 0, 1) := by decide +kernel
theorem dX1_readOperand_155 : decode cX1_readOperand 155 = .ok (.iconst 1, 1) := by decide +kernel
theorem dX1_readOperand_156 : decode cX1_readOperand 156 = .ok (.iconst (-1), 1) := by decide +kernel
theorem dX1_readOperand_157 : decode cX1_readOperand 157 = .ok (.lload_n 3, 1) := by decide +kernel
theorem dX1_readOperand_158 : decode cX1_readOperand 158 = .ok (.l2i, 1) := by decide +kernel
theorem dX1_readOperand_159 : decode cX1_readOperand 159 = .ok (.invokevirtual 104, 3) := by decide +kernel
theorem dX1_readOperand_162 : decode cX1_readOperand 162 = .ok (.iconst 1, 1) := by decide +kernel
theorem dX1_readOperand_163 : decode cX1_readOperand 163 = .ok (.ireturn, 1) := by decide +kernel
theorem dX1_readOperand_164 : decode cX1_readOperand 164 = .ok (.aload_n 0, 1) := by decide +kernel
theorem dX1_readOperand_165 : decode cX1_readOperand 165 = .ok (.getfield 21, 3) := by decide +kernel
theorem dX1_readOperand_168 : decode cX1_readOperand 168 = .ok (.invokevirtual 101, 3) := by decide +kernel
theorem dX1_readOperand_171 : decode cX1_readOperand 171 = .ok (.aload_n 0, 1) := by decide +kernel
theorem dX1_readOperand_172 : decode cX1_readOperand 172 = .ok (.getfield 21, 3) := by decide +kernel
theorem dX1_readOperand_175 : decode cX1_readOperand 175 = .ok (.getfield 54, 3) := by decide +kernel
theorem dX1_readOperand_178 : decode cX1_readOperand 178 = .ok (.bipush 91, 2) := by decide +kernel
theorem dX1_readOperand_180 : decode cX1_readOperand 180 = .ok (.if_icmp .ne 7, 3) := by decide +kernel
theorem dX1_readOperand_183 : decode cX1_readOperand 183 = .ok (.iconst 1, 1) := by decide +kernel
theorem dX1_readOperand_184 : decode cX1_readOperand 184 = .ok (.goto 4, 3) := by decide +kernel
theorem dX1_readOperand_187 : decode cX1_readOperand 187 = .ok (.iconst 0, 1) := by decide +kernel
theorem dX1_readOperand_188 : decode cX1_readOperand 188 = .ok (.istore 5, 2) := by decide +kernel
theorem dX1_readOperand_190 : decode cX1_readOperand 190 = .ok (.aload_n 0, 1) := by decide +kernel
theorem dX1_readOperand_191 : decode cX1_readOperand 191 = .ok (.getfield 25, 3) := by decide +kernel
theorem dX1_readOperand_194 : decode cX1_readOperand 194 = .ok (.lload_n 3, 1) := by decide +kernel
theorem dX1_readOperand_195 : decode cX1_readOperand 195 = .ok (.invokevirtual 108, 3) := by decide +kernel
theorem dX1_readOperand_198 : decode cX1_readOperand 198 = .ok (.istore 6, 2) := by decide +kernel
theorem dX1_readOperand_200 : decode cX1_readOperand 200 = .ok (.aload_n 0, 1) := by decide +kernel
theorem dX1_readOperand_201 : decode cX1_readOperand 201 = .ok (.getfield 21, 3) := by decide +kernel
theorem dX1_readOperand_204 : decode cX1_readOperand 204 = .ok (.aload_n 0, 1) := by decide +kernel
theorem dX1_readOperand_205 : decode cX1_readOperand 205 = .ok (.getfield 25, 3) := by decide +kernel
theorem dX1_readOperand_208 : decode cX1_readOperand 208 = .ok (.iload 6, 2) := by decide +kernel
theorem dX1_readOperand_210 : decode cX1_readOperand 210 = .ok (.iload 5, 2) := by decide +kernel
theorem dX1_readOperand_212 : decode cX1_readOperand 212 = .ok (.invokevirtual 114, 3) := by decide +kernel
theorem dX1_readOperand_215 : decode cX1_readOperand 215 = .ok (.iload_n 2, 1) := by decide +kernel
theorem dX1_readOperand_216 : decode cX1_readOperand 216 = .ok (.invokevirtual 118, 3) := by decide +kernel
theorem dX1_readOperand_219 : decode cX1_readOperand 219 = .ok (.aload_n 0, 1) := by decide +kernel
theorem dX1_readOperand_220 : decode cX1_readOperand 220 = .ok (.iload_n 2, 1) := by decide +kernel
theorem dX1_readOperand_221 : decode cX1_readOperand 221 = .ok (.invokevirtual 98, 3) := by decide +kernel
theorem dX1_readOperand_224 : decode cX1_readOperand 224 = .ok (.iload 5, 2) := by decide +kernel
theorem dX1_readOperand_226 : decode cX1_readOperand 226 = .ok (.ifCond .eq 39, 3) := by decide +kernel
theorem dX1_readOperand_229 : decode cX1_readOperand 229 = .ok (.aload_n 0, 1) := by decide +kernel
theorem dX1_readOperand_230 : decode cX1_readOperand 230 = .ok (.getfield 21, 3) := by decide +kernel
theorem dX1_readOperand_233 : decode cX1_readOperand 233 = .ok (.bipush 91, 2) := by decide +kernel
theorem dX1_readOperand_235 : decode cX1_readOperand 235 = .ok (.invokevirtual 90, 3) := by decide +kernel
theorem dX1_readOperand_238 : decode cX1_readOperand 238 = .ok (.ifCond .eq 25, 3) := by decide +kernel
theorem dX1_readOperand_241 : decode cX1_readOperand 241 = .ok (.aload_n 0, 1) := by decide +kernel
theorem dX1_readOperand_242 : decode cX1_readOperand 242 = .ok (.bipush 91, 2) := by decide +kernel
theorem dX1_readOperand_244 : decode cX1_readOperand 244 = .ok (.aload_n 0, 1) := by decide +kernel
theorem dX1_readOperand_245 : decode cX1_readOperand 245 = .ok (.getfield 25, 3) := by decide +kernel
theorem dX1_readOperand_248 : decode cX1_readOperand 248 = .ok (.iload 6, 2) := by decide +kernel
theorem dX1_readOperand_250 : decode cX1_readOperand 250 = .ok (.invokevirtual 122, 3) := by decide +kernel
theorem dX1_readOperand_253 : decode cX1_readOperand 253 = .ok (.invokevirtual 94, 3) := by decide +kernel
theorem dX1_readOperand_256 : decode cX1_readOperand 256 = .ok (.ifCond .eq 7, 3) := by decide +kernel
theorem dX1_readOperand_259 : decode cX1_readOperand 259 = .ok (.iconst 1, 1) := by decide +kernel
theorem dX1_readOperand_260 : decode cX1_readOperand 260 = .ok (.goto 4, 3) := by decide +kernel
theorem dX1_readOperand_263 : decode cX1_readOperand 263 = .ok (.iconst 0, 1) := by decide +kernel
theorem dX1_readOperand_264 : decode cX1_readOperand 264 = .ok (.ireturn, 1) := by decide +kernel
theorem dX1_readOperand_265 : decode cX1_readOperand 265 = .ok (.aload_n 0, 1) := by decide +kernel
theorem dX1_readOperand_266 : decode cX1_readOperand 266 = .ok (.iconst 2, 1) := by decide +kernel
theorem dX1_readOperand_267 : decode cX1_readOperand 267 = .ok (.iconst (-1), 1) := by decide +kernel
theorem dX1_readOperand_268 : decode cX1_readOperand 268 = .ok (.aload_n 0, 1) := by decide +kernel
theorem dX1_readOperand_269 : decode cX1_readOperand 269 = .ok (.getfield 25, 3) := by decide +kernel
theorem dX1_readOperand_272 : decode cX1_readOperand 272 = .ok (.iload 6, 2) := by decide +kernel
theorem dX1_readOperand_274 : decode cX1_readOperand 274 = .ok (.invokevirtual 122, 3) := by decide +kernel
theorem dX1_readOperand_277 : decode cX1_readOperand 277 = .ok (.invokevirtual 104, 3) := by decide +kernel
theorem dX1_readOperand_280 : decode cX1_readOperand 280 = .ok (.iconst 1, 1) := by decide +kernel
theorem dX1_readOperand_281 : decode cX1_readOperand 281 = .ok (.ireturn, 1) := by decide +kernel
theorem dX1_readOperand_282 : decode cX1_readOperand 282 = .ok (.aload_n 0, 1) := by decide +kernel
theorem dX1_readOperand_283 : decode cX1_readOperand 283 = .ok (.getfield 21, 3) := by decide +kernel
theorem dX1_readOperand_286 : decode cX1_readOperand 286 = .ok (.invokevirtual 125, 3) := by decide +kernel
theorem dX1_readOperand_289 : decode cX1_readOperand 289 = .ok (.ireturn, 1) := by decide +kernel
theorem dX1_readTwo_0 : decode cX1_readTwo 0 = .ok (.aload_n 0, 1) := by decide +kernel
theorem dX1_readTwo_1 : decode cX1_readTwo 1 = .ok (.getfield 21, 3) := by decide +kernel
theorem dX1_readTwo_4 : decode cX1_readTwo 4 = .ok (.getfield 54, 3) := by decide +kernel
theorem dX1_readTwo_7 : decode cX1_readTwo 7 = .ok (.istore_n 1, 1) := by decide +kernel
theorem dX1_readTwo_8 : decode cX1_readTwo 8 = .ok (.aload_n 0, 1) := by decide +kernel
theorem dX1_readTwo_9 : decode cX1_readTwo 9 = .ok (.aload_n 0, 1) := by decide +kernel
theorem dX1_readTwo_10 : decode cX1_readTwo 10 = .ok (.getfield 21, 3) := by decide +kernel
theorem dX1_readTwo_13 : decode cX1_readTwo 13 = .ok (.getfield 83, 3) := by decide +kernel
theorem dX1_readTwo_16 : decode cX1_readTwo 16 = .ok (.invokevirtual 98, 3) := by decide +kernel
theorem dX1_readTwo_19 : decode cX1_readTwo 19 = .ok (.aload_n 0, 1) := by decide +kernel
theorem dX1_readTwo_20 : decode cX1_readTwo 20 = .ok (.getfield 21, 3) := by decide +kernel
theorem dX1_readTwo_23 : decode cX1_readTwo 23 = .ok (.invokevirtual 101, 3) := by decide +kernel
theorem dX1_readTwo_26 : decode cX1_readTwo 26 = .ok (.aload_n 0, 1) := by decide +kernel
theorem dX1_readTwo_27 : decode cX1_readTwo 27 = .ok (.iconst 1, 1) := by decide +kernel
theorem dX1_readTwo_28 : decode cX1_readTwo 28 = .ok (.putfield 43, 3) := by decide +kernel
theorem dX1_readTwo_31 : decode cX1_readTwo 31 = .ok (.aload_n 0, 1) := by decide +kernel
theorem dX1_readTwo_32 : decode cX1_readTwo 32 = .ok (.iload_n 1, 1) := by decide +kernel
theorem dX1_readTwo_33 : decode cX1_readTwo 33 = .ok (.iconst (-1), 1) := by decide +kernel
theorem dX1_readTwo_34 : decode cX1_readTwo 34 = .ok (.invokevirtual 94, 3) := by decide +kernel
theorem dX1_readTwo_37 : decode cX1_readTwo 37 = .ok (.ireturn, 1) := by decide +kernel
theorem dX1_readClosing_0 : decode cX1_readClosing 0 = .ok (.aload_n 0, 1) := by decide +kernel
theorem dX1_readClosing_1 : decode cX1_readClosing 1 = .ok (.invokevirtual 128, 3) := by decide +kernel
theorem dX1_readClosing_4 : decode cX1_readClosing 4 = .ok (.bipush 91, 2) := by decide +kernel
theorem dX1_readClosing_6 : decode cX1_readClosing 6 = .ok (.if_icmp .ne 7, 3) := by decide +kernel
theorem dX1_readClosing_9 : decode cX1_readClosing 9 = .ok (.iconst 1, 1) := by decide +kernel
theorem dX1_readClosing_10 : decode cX1_readClosing 10 = .ok (.goto 4, 3) := by decide +kernel
theorem dX1_readClosing_13 : decode cX1_readClosing 13 = .ok (.iconst 0, 1) := by decide +kernel
theorem dX1_readClosing_14 : decode cX1_readClosing 14 = .ok (.istore_n 1, 1) := by decide +kernel
theorem dX1_readClosing_15 : decode cX1_readClosing 15 = .ok (.aload_n 0, 1) := by decide +kernel
theorem dX1_readClosing_16 : decode cX1_readClosing 16 = .ok (.getfield 21, 3) := by decide +kernel
theorem dX1_readClosing_19 : decode cX1_readClosing 19 = .ok (.iload_n 1, 1) := by decide +kernel
theorem dX1_readClosing_20 : decode cX1_readClosing 20 = .ok (.ifCond .eq 8, 3) := by decide +kernel
theorem dX1_readClosing_23 : decode cX1_readClosing 23 = .ok (.bipush 93, 2) := by decide +kernel
theorem dX1_readClosing_25 : decode cX1_readClosing 25 = .ok (.goto 5, 3) := by decide +kernel
theorem dX1_readClosing_28 : decode cX1_readClosing 28 = .ok (.bipush 41, 2) := by decide +kernel
theorem dX1_readClosing_30 : decode cX1_readClosing 30 = .ok (.invokevirtual 131, 3) := by decide +kernel
theorem dX1_readClosing_33 : decode cX1_readClosing 33 = .ok (.ifCond .ne 5, 3) := by decide +kernel
theorem dX1_readClosing_36 : decode cX1_readClosing 36 = .ok (.iconst 0, 1) := by decide +kernel
theorem dX1_readClosing_37 : decode cX1_readClosing 37 = .ok (.ireturn, 1) := by decide +kernel
theorem dX1_readClosing_38 : decode cX1_readClosing 38 = .ok (.aload_n 0, 1) := by decide +kernel
theorem dX1_readClosing_39 : decode cX1_readClosing 39 = .ok (.getfield 21, 3) := by decide +kernel
theorem dX1_readClosing_42 : decode cX1_readClosing 42 = .ok (.invokevirtual 134, 3) := by decide +kernel
theorem dX1_readClosing_45 : decode cX1_readClosing 45 = .ok (.aload_n 0, 1) := by decide +kernel
theorem dX1_readClosing_46 : decode cX1_readClosing 46 = .ok (.dup, 1) := by decide +kernel
theorem dX1_readClosing_47 : decode cX1_readClosing 47 = .ok (.getfield 37, 3) := by decide +kernel
theorem dX1_readClosing_50 : decode cX1_readClosing 50 = .ok (.iconst 1, 1) := by decide +kernel
theorem dX1_readClosing_51 : decode cX1_readClosing 51 = .ok (.isub, 1) := by decide +kernel
theorem dX1_readClosing_52 : decode cX1_readClosing 52 = .ok (.putfield 37, 3) := by decide +kernel
theorem dX1_readClosing_55 : decode cX1_readClosing 55 = .ok (.iload_n 1, 1) := by decide +kernel
theorem dX1_readClosing_56 : decode cX1_readClosing 56 = .ok (.ifCond .eq 38, 3) := by decide +kernel
theorem dX1_readClosing_59 : decode cX1_readClosing 59 = .ok (.aload_n 0, 1) := by decide +kernel
theorem dX1_readClosing_60 : decode cX1_readClosing 60 = .ok (.getfield 37, 3) := by decide +kernel
theorem dX1_readClosing_63 : decode cX1_readClosing 63 = .ok (.ifCond .lt 31, 3) := by decide +kernel
theorem dX1_readClosing_66 : decode cX1_readClosing 66 = .ok (.aload_n 0, 1) := by decide +kernel
theorem dX1_readClosing_67 : decode cX1_readClosing 67 = .ok (.getfield 37, 3) := by decide +kernel
theorem dX1_readClosing_70 : decode cX1_readClosing 70 = .ok (.sipush 186, 3) := by decide +kernel
theorem dX1_readClosing_73 : decode cX1_readClosing 73 = .ok (.if_icmp .ge 21, 3) := by decide +kernel
theorem dX1_readClosing_76 : decode cX1_readClosing 76 = .ok (.aload_n 0, 1) := by decide +kernel
theorem dX1_readClosing_77 : decode cX1_readClosing 77 = .ok (.iconst 3, 1) := by decide +kernel
theorem dX1_readClosing_78 : decode cX1_readClosing 78 = .ok (.aload_n 0, 1) := by decide +kernel
theorem dX1_readClosing_79 : decode cX1_readClosing 79 = .ok (.invokevirtual 79, 3) := by decide +kernel
theorem dX1_readClosing_82 : decode cX1_readClosing 82 = .ok (.aload_n 0, 1) := by decide +kernel
theorem dX1_readClosing_83 : decode cX1_readClosing 83 = .ok (.getfield 15, 3) := by decide +kernel
theorem dX1_readClosing_86 : decode cX1_readClosing 86 = .ok (.aload_n 0, 1) := by decide +kernel
theorem dX1_readClosing_87 : decode cX1_readClosing 87 = .ok (.getfield 37, 3) := by decide +kernel
theorem dX1_readClosing_90 : decode cX1_readClosing 90 = .ok (.iaload, 1) := by decide +kernel
theorem dX1_readClosing_91 : decode cX1_readClosing 91 = .ok (.invokevirtual 104, 3) := by decide +kernel
theorem dX1_readClosing_94 : decode cX1_readClosing 94 = .ok (.iconst 1, 1) := by decide +kernel
theorem dX1_readClosing_95 : decode cX1_readClosing 95 = .ok (.ireturn, 1) := by decide +kernel
theorem dX1_layOperand_0 : decode cX1_layOperand 0 = .ok (.aload_n 0, 1) := by decide +kernel
theorem dX1_layOperand_1 : decode cX1_layOperand 1 = .ok (.aload_n 0, 1) := by decide +kernel
theorem dX1_layOperand_2 : decode cX1_layOperand 2 = .ok (.getfield 29, 3) := by decide +kernel
theorem dX1_layOperand_5 : decode cX1_layOperand 5 = .ok (.iload_n 1, 1) := by decide +kernel
theorem dX1_layOperand_6 : decode cX1_layOperand 6 = .ok (.iload_n 2, 1) := by decide +kernel
theorem dX1_layOperand_7 : decode cX1_layOperand 7 = .ok (.iconst (-1), 1) := by decide +kernel
theorem dX1_layOperand_8 : decode cX1_layOperand 8 = .ok (.iload_n 3, 1) := by decide +kernel
theorem dX1_layOperand_9 : decode cX1_layOperand 9 = .ok (.invokevirtual 137, 3) := by decide +kernel
theorem dX1_layOperand_12 : decode cX1_layOperand 12 = .ok (.invokevirtual 143, 3) := by decide +kernel
theorem dX1_layOperand_15 : decode cX1_layOperand 15 = .ok (.aload_n 0, 1) := by decide +kernel
theorem dX1_layOperand_16 : decode cX1_layOperand 16 = .ok (.iconst 0, 1) := by decide +kernel
theorem dX1_layOperand_17 : decode cX1_layOperand 17 = .ok (.putfield 43, 3) := by decide +kernel
theorem dX1_layOperand_20 : decode cX1_layOperand 20 = .ok (.return_, 1) := by decide +kernel
theorem dX1_layOnes_0 : decode cX1_layOnes 0 = .ok (.aload_n 0, 1) := by decide +kernel
theorem dX1_layOnes_1 : decode cX1_layOnes 1 = .ok (.getfield 37, 3) := by decide +kernel
theorem dX1_layOnes_4 : decode cX1_layOnes 4 = .ok (.ifCond .le 51, 3) := by decide +kernel
theorem dX1_layOnes_7 : decode cX1_layOnes 7 = .ok (.aload_n 0, 1) := by decide +kernel
theorem dX1_layOnes_8 : decode cX1_layOnes 8 = .ok (.invokevirtual 128, 3) := by decide +kernel
theorem dX1_layOnes_11 : decode cX1_layOnes 11 = .ok (.ifCond .ge 44, 3) := by decide +kernel
theorem dX1_layOnes_14 : decode cX1_layOnes 14 = .ok (.aload_n 0, 1) := by decide +kernel
theorem dX1_layOnes_15 : decode cX1_layOnes 15 = .ok (.aload_n 0, 1) := by decide +kernel
theorem dX1_layOnes_16 : decode cX1_layOnes 16 = .ok (.getfield 29, 3) := by decide +kernel
theorem dX1_layOnes_19 : decode cX1_layOnes 19 = .ok (.aload_n 0, 1) := by decide +kernel
theorem dX1_layOnes_20 : decode cX1_layOnes 20 = .ok (.invokevirtual 128, 3) := by decide +kernel
theorem dX1_layOnes_23 : decode cX1_layOnes 23 = .ok (.aload_n 0, 1) := by decide +kernel
theorem dX1_layOnes_24 : decode cX1_layOnes 24 = .ok (.invokevirtual 79, 3) := by decide +kernel
theorem dX1_layOnes_27 : decode cX1_layOnes 27 = .ok (.iconst (-1), 1) := by decide +kernel
theorem dX1_layOnes_28 : decode cX1_layOnes 28 = .ok (.iconst (-1), 1) := by decide +kernel
theorem dX1_layOnes_29 : decode cX1_layOnes 29 = .ok (.invokevirtual 137, 3) := by decide +kernel
theorem dX1_layOnes_32 : decode cX1_layOnes 32 = .ok (.invokevirtual 143, 3) := by decide +kernel
theorem dX1_layOnes_35 : decode cX1_layOnes 35 = .ok (.aload_n 0, 1) := by decide +kernel
theorem dX1_layOnes_36 : decode cX1_layOnes 36 = .ok (.dup, 1) := by decide +kernel
theorem dX1_layOnes_37 : decode cX1_layOnes 37 = .ok (.getfield 37, 3) := by decide +kernel
theorem dX1_layOnes_40 : decode cX1_layOnes 40 = .ok (.iconst 1, 1) := by decide +kernel
theorem dX1_layOnes_41 : decode cX1_layOnes 41 = .ok (.isub, 1) := by decide +kernel
theorem dX1_layOnes_42 : decode cX1_layOnes 42 = .ok (.putfield 37, 3) := by decide +kernel
theorem dX1_layOnes_45 : decode cX1_layOnes 45 = .ok (.aload_n 0, 1) := by decide +kernel
theorem dX1_layOnes_46 : decode cX1_layOnes 46 = .ok (.getfield 21, 3) := by decide +kernel
theorem dX1_layOnes_49 : decode cX1_layOnes 49 = .ok (.invokevirtual 134, 3) := by decide +kernel
theorem dX1_layOnes_52 : decode cX1_layOnes 52 = .ok (.goto (-52), 3) := by decide +kernel
theorem dX1_layOnes_55 : decode cX1_layOnes 55 = .ok (.return_, 1) := by decide +kernel
theorem dX1_layTwos_0 : decode cX1_layTwos 0 = .ok (.aload_n 0, 1) := by decide +kernel
theorem dX1_layTwos_1 : decode cX1_layTwos 1 = .ok (.getfield 37, 3) := by decide +kernel
theorem dX1_layTwos_4 : decode cX1_layTwos 4 = .ok (.ifCond .le 55, 3) := by decide +kernel
theorem dX1_layTwos_7 : decode cX1_layTwos 7 = .ok (.aload_n 0, 1) := by decide +kernel
theorem dX1_layTwos_8 : decode cX1_layTwos 8 = .ok (.invokevirtual 128, 3) := by decide +kernel
theorem dX1_layTwos_11 : decode cX1_layTwos 11 = .ok (.invokestatic 59, 3) := by decide +kernel
theorem dX1_layTwos_14 : decode cX1_layTwos 14 = .ok (.iload_n 1, 1) := by decide +kernel
theorem dX1_layTwos_15 : decode cX1_layTwos 15 = .ok (.if_icmp .lt 44, 3) := by decide +kernel
theorem dX1_layTwos_18 : decode cX1_layTwos 18 = .ok (.aload_n 0, 1) := by decide +kernel
theorem dX1_layTwos_19 : decode cX1_layTwos 19 = .ok (.invokevirtual 79, 3) := by decide +kernel
theorem dX1_layTwos_22 : decode cX1_layTwos 22 = .ok (.istore_n 2, 1) := by decide +kernel
theorem dX1_layTwos_23 : decode cX1_layTwos 23 = .ok (.aload_n 0, 1) := by decide +kernel
theorem dX1_layTwos_24 : decode cX1_layTwos 24 = .ok (.invokevirtual 79, 3) := by decide +kernel
theorem dX1_layTwos_27 : decode cX1_layTwos 27 = .ok (.istore_n 3, 1) := by decide +kernel
theorem dX1_layTwos_28 : decode cX1_layTwos 28 = .ok (.aload_n 0, 1) := by decide +kernel
theorem dX1_layTwos_29 : decode cX1_layTwos 29 = .ok (.aload_n 0, 1) := by decide +kernel
theorem dX1_layTwos_30 : decode cX1_layTwos 30 = .ok (.getfield 29, 3) := by decide +kernel
theorem dX1_layTwos_33 : decode cX1_layTwos 33 = .ok (.aload_n 0, 1) := by decide +kernel
theorem dX1_layTwos_34 : decode cX1_layTwos 34 = .ok (.invokevirtual 128, 3) := by decide +kernel
theorem dX1_layTwos_37 : decode cX1_layTwos 37 = .ok (.iload_n 3, 1) := by decide +kernel
theorem dX1_layTwos_38 : decode cX1_layTwos 38 = .ok (.iload_n 2, 1) := by decide +kernel
theorem dX1_layTwos_39 : decode cX1_layTwos 39 = .ok (.iconst (-1), 1) := by decide +kernel
theorem dX1_layTwos_40 : decode cX1_layTwos 40 = .ok (.invokevirtual 137, 3) := by decide +kernel
theorem dX1_layTwos_43 : decode cX1_layTwos 43 = .ok (.invokevirtual 143, 3) := by decide +kernel
theorem dX1_layTwos_46 : decode cX1_layTwos 46 = .ok (.aload_n 0, 1) := by decide +kernel
theorem dX1_layTwos_47 : decode cX1_layTwos 47 = .ok (.dup, 1) := by decide +kernel
theorem dX1_layTwos_48 : decode cX1_layTwos 48 = .ok (.getfield 37, 3) := by decide +kernel
theorem dX1_layTwos_51 : decode cX1_layTwos 51 = .ok (.iconst 1, 1) := by decide +kernel
theorem dX1_layTwos_52 : decode cX1_layTwos 52 = .ok (.isub, 1) := by decide +kernel
theorem dX1_layTwos_53 : decode cX1_layTwos 53 = .ok (.putfield 37, 3) := by decide +kernel
theorem dX1_layTwos_56 : decode cX1_layTwos 56 = .ok (.goto (-56), 3) := by decide +kernel
theorem dX1_layTwos_59 : decode cX1_layTwos 59 = .ok (.return_, 1) := by decide +kernel
theorem dX1_countWorked_0 : decode cX1_countWorked 0 = .ok (.aload_n 0, 1) := by decide +kernel
theorem dX1_countWorked_1 : decode cX1_countWorked 1 = .ok (.dup, 1) := by decide +kernel
theorem dX1_countWorked_2 : decode cX1_countWorked 2 = .ok (.getfield 33, 3) := by decide +kernel
theorem dX1_countWorked_5 : decode cX1_countWorked 5 = .ok (.iconst 1, 1) := by decide +kernel
theorem dX1_countWorked_6 : decode cX1_countWorked 6 = .ok (.iadd, 1) := by decide +kernel
theorem dX1_countWorked_7 : decode cX1_countWorked 7 = .ok (.putfield 33, 3) := by decide +kernel
theorem dX1_countWorked_10 : decode cX1_countWorked 10 = .ok (.aload_n 0, 1) := by decide +kernel
theorem dX1_countWorked_11 : decode cX1_countWorked 11 = .ok (.getfield 21, 3) := by decide +kernel
theorem dX1_countWorked_14 : decode cX1_countWorked 14 = .ok (.aload_n 0, 1) := by decide +kernel
theorem dX1_countWorked_15 : decode cX1_countWorked 15 = .ok (.getfield 33, 3) := by decide +kernel
theorem dX1_countWorked_18 : decode cX1_countWorked 18 = .ok (.sipush 400, 3) := by decide +kernel
theorem dX1_countWorked_21 : decode cX1_countWorked 21 = .ok (.if_icmp .le 8, 3) := by decide +kernel
theorem dX1_countWorked_24 : decode cX1_countWorked 24 = .ok (.bipush 6, 2) := by decide +kernel
theorem dX1_countWorked_26 : decode cX1_countWorked 26 = .ok (.goto 4, 3) := by decide +kernel
theorem dX1_countWorked_29 : decode cX1_countWorked 29 = .ok (.iconst 0, 1) := by decide +kernel
theorem dX1_countWorked_30 : decode cX1_countWorked 30 = .ok (.iload_n 1, 1) := by decide +kernel
theorem dX1_countWorked_31 : decode cX1_countWorked 31 = .ok (.invokevirtual 118, 3) := by decide +kernel
theorem dX1_countWorked_34 : decode cX1_countWorked 34 = .ok (.return_, 1) := by decide +kernel
theorem dX1_await_0 : decode cX1_await 0 = .ok (.aload_n 0, 1) := by decide +kernel
theorem dX1_await_1 : decode cX1_await 1 = .ok (.getfield 37, 3) := by decide +kernel
theorem dX1_await_4 : decode cX1_await 4 = .ok (.ifCond .lt 13, 3) := by decide +kernel
theorem dX1_await_7 : decode cX1_await 7 = .ok (.aload_n 0, 1) := by decide +kernel
theorem dX1_await_8 : decode cX1_await 8 = .ok (.getfield 37, 3) := by decide +kernel
theorem dX1_await_11 : decode cX1_await 11 = .ok (.sipush 186, 3) := by decide +kernel
theorem dX1_await_14 : decode cX1_await 14 = .ok (.if_icmp .lt 11, 3) := by decide +kernel
theorem dX1_await_17 : decode cX1_await 17 = .ok (.aload_n 0, 1) := by decide +kernel
theorem dX1_await_18 : decode cX1_await 18 = .ok (.getfield 21, 3) := by decide +kernel
theorem dX1_await_21 : decode cX1_await 21 = .ok (.invokevirtual 125, 3) := by decide +kernel
theorem dX1_await_24 : decode cX1_await 24 = .ok (.ireturn, 1) := by decide +kernel
theorem dX1_await_25 : decode cX1_await 25 = .ok (.aload_n 0, 1) := by decide +kernel
theorem dX1_await_26 : decode cX1_await 26 = .ok (.getfield 9, 3) := by decide +kernel
theorem dX1_await_29 : decode cX1_await 29 = .ok (.aload_n 0, 1) := by decide +kernel
theorem dX1_await_30 : decode cX1_await 30 = .ok (.getfield 37, 3) := by decide +kernel
theorem dX1_await_33 : decode cX1_await 33 = .ok (.iload_n 1, 1) := by decide +kernel
theorem dX1_await_34 : decode cX1_await 34 = .ok (.iastore, 1) := by decide +kernel
theorem dX1_await_35 : decode cX1_await 35 = .ok (.aload_n 0, 1) := by decide +kernel
theorem dX1_await_36 : decode cX1_await 36 = .ok (.getfield 15, 3) := by decide +kernel
theorem dX1_await_39 : decode cX1_await 39 = .ok (.aload_n 0, 1) := by decide +kernel
theorem dX1_await_40 : decode cX1_await 40 = .ok (.getfield 37, 3) := by decide +kernel
theorem dX1_await_43 : decode cX1_await 43 = .ok (.iload_n 2, 1) := by decide +kernel
theorem dX1_await_44 : decode cX1_await 44 = .ok (.iastore, 1) := by decide +kernel
theorem dX1_await_45 : decode cX1_await 45 = .ok (.aload_n 0, 1) := by decide +kernel
theorem dX1_await_46 : decode cX1_await 46 = .ok (.dup, 1) := by decide +kernel
theorem dX1_await_47 : decode cX1_await 47 = .ok (.getfield 37, 3) := by decide +kernel
theorem dX1_await_50 : decode cX1_await 50 = .ok (.iconst 1, 1) := by decide +kernel
theorem dX1_await_51 : decode cX1_await 51 = .ok (.iadd, 1) := by decide +kernel
theorem dX1_await_52 : decode cX1_await 52 = .ok (.putfield 37, 3) := by decide +kernel
theorem dX1_await_55 : decode cX1_await 55 = .ok (.iconst 1, 1) := by decide +kernel
theorem dX1_await_56 : decode cX1_await 56 = .ok (.ireturn, 1) := by decide +kernel
theorem dX1_lastWaiting_0 : decode cX1_lastWaiting 0 = .ok (.aload_n 0, 1) := by decide +kernel
theorem dX1_lastWaiting_1 : decode cX1_lastWaiting 1 = .ok (.getfield 37, 3) := by decide +kernel
theorem dX1_lastWaiting_4 : decode cX1_lastWaiting 4 = .ok (.ifCond .le 27, 3) := by decide +kernel
theorem dX1_lastWaiting_7 : decode cX1_lastWaiting 7 = .ok (.aload_n 0, 1) := by decide +kernel
theorem dX1_lastWaiting_8 : decode cX1_lastWaiting 8 = .ok (.getfield 37, 3) := by decide +kernel
theorem dX1_lastWaiting_11 : decode cX1_lastWaiting 11 = .ok (.sipush 186, 3) := by decide +kernel
theorem dX1_lastWaiting_14 : decode cX1_lastWaiting 14 = .ok (.if_icmp .gt 17, 3) := by decide +kernel
theorem dX1_lastWaiting_17 : decode cX1_lastWaiting 17 = .ok (.aload_n 0, 1) := by decide +kernel
theorem dX1_lastWaiting_18 : decode cX1_lastWaiting 18 = .ok (.getfield 9, 3) := by decide +kernel
theorem dX1_lastWaiting_21 : decode cX1_lastWaiting 21 = .ok (.aload_n 0, 1) := by decide +kernel
theorem dX1_lastWaiting_22 : decode cX1_lastWaiting 22 = .ok (.getfield 37, 3) := by decide +kernel
theorem dX1_lastWaiting_25 : decode cX1_lastWaiting 25 = .ok (.iconst 1, 1) := by decide +kernel
theorem dX1_lastWaiting_26 : decode cX1_lastWaiting 26 = .ok (.isub, 1) := by decide +kernel
theorem dX1_lastWaiting_27 : decode cX1_lastWaiting 27 = .ok (.iaload, 1) := by decide +kernel
theorem dX1_lastWaiting_28 : decode cX1_lastWaiting 28 = .ok (.goto 4, 3) := by decide +kernel
theorem dX1_lastWaiting_31 : decode cX1_lastWaiting 31 = .ok (.iconst 0, 1) := by decide +kernel
theorem dX1_lastWaiting_32 : decode cX1_lastWaiting 32 = .ok (.ireturn, 1) := by decide +kernel
theorem dX1_push_0 : decode cX1_push 0 = .ok (.aload_n 0, 1) := by decide +kernel
theorem dX1_push_1 : decode cX1_push 1 = .ok (.getfield 40, 3) := by decide +kernel
theorem dX1_push_4 : decode cX1_push 4 = .ok (.ifCond .lt 33, 3) := by decide +kernel
theorem dX1_push_7 : decode cX1_push 7 = .ok (.aload_n 0, 1) := by decide +kernel
theorem dX1_push_8 : decode cX1_push 8 = .ok (.getfield 40, 3) := by decide +kernel
theorem dX1_push_11 : decode cX1_push 11 = .ok (.sipush 186, 3) := by decide +kernel
theorem dX1_push_14 : decode cX1_push 14 = .ok (.if_icmp .gt 23, 3) := by decide +kernel
theorem dX1_push_17 : decode cX1_push 17 = .ok (.aload_n 0, 1) := by decide +kernel
theorem dX1_push_18 : decode cX1_push 18 = .ok (.getfield 18, 3) := by decide +kernel
theorem dX1_push_21 : decode cX1_push 21 = .ok (.aload_n 0, 1) := by decide +kernel
theorem dX1_push_22 : decode cX1_push 22 = .ok (.getfield 40, 3) := by decide +kernel
theorem dX1_push_25 : decode cX1_push 25 = .ok (.iload_n 1, 1) := by decide +kernel
theorem dX1_push_26 : decode cX1_push 26 = .ok (.iastore, 1) := by decide +kernel
theorem dX1_push_27 : decode cX1_push 27 = .ok (.aload_n 0, 1) := by decide +kernel
theorem dX1_push_28 : decode cX1_push 28 = .ok (.dup, 1) := by decide +kernel
theorem dX1_push_29 : decode cX1_push 29 = .ok (.getfield 40, 3) := by decide +kernel
theorem dX1_push_32 : decode cX1_push 32 = .ok (.iconst 1, 1) := by decide +kernel
theorem dX1_push_33 : decode cX1_push 33 = .ok (.iadd, 1) := by decide +kernel
theorem dX1_push_34 : decode cX1_push 34 = .ok (.putfield 40, 3) := by decide +kernel
theorem dX1_push_37 : decode cX1_push 37 = .ok (.return_, 1) := by decide +kernel
theorem dX1_pop_0 : decode cX1_pop 0 = .ok (.aload_n 0, 1) := by decide +kernel
theorem dX1_pop_1 : decode cX1_pop 1 = .ok (.getfield 40, 3) := by decide +kernel
theorem dX1_pop_4 : decode cX1_pop 4 = .ok (.ifCond .le 13, 3) := by decide +kernel
theorem dX1_pop_7 : decode cX1_pop 7 = .ok (.aload_n 0, 1) := by decide +kernel
theorem dX1_pop_8 : decode cX1_pop 8 = .ok (.getfield 40, 3) := by decide +kernel
theorem dX1_pop_11 : decode cX1_pop 11 = .ok (.sipush 187, 3) := by decide +kernel
theorem dX1_pop_14 : decode cX1_pop 14 = .ok (.if_icmp .le 5, 3) := by decide +kernel
theorem dX1_pop_17 : decode cX1_pop 17 = .ok (.iconst (-1), 1) := by decide +kernel
theorem dX1_pop_18 : decode cX1_pop 18 = .ok (.ireturn, 1) := by decide +kernel
theorem dX1_pop_19 : decode cX1_pop 19 = .ok (.aload_n 0, 1) := by decide +kernel
theorem dX1_pop_20 : decode cX1_pop 20 = .ok (.dup, 1) := by decide +kernel
theorem dX1_pop_21 : decode cX1_pop 21 = .ok (.getfield 40, 3) := by decide +kernel
theorem dX1_pop_24 : decode cX1_pop 24 = .ok (.iconst 1, 1) := by decide +kernel
theorem dX1_pop_25 : decode cX1_pop 25 = .ok (.isub, 1) := by decide +kernel
theorem dX1_pop_26 : decode cX1_pop 26 = .ok (.putfield 40, 3) := by decide +kernel
theorem dX1_pop_29 : decode cX1_pop 29 = .ok (.aload_n 0, 1) := by decide +kernel
theorem dX1_pop_30 : decode cX1_pop 30 = .ok (.getfield 18, 3) := by decide +kernel
theorem dX1_pop_33 : decode cX1_pop 33 = .ok (.aload_n 0, 1) := by decide +kernel
theorem dX1_pop_34 : decode cX1_pop 34 = .ok (.getfield 40, 3) := by decide +kernel
theorem dX1_pop_37 : decode cX1_pop 37 = .ok (.iaload, 1) := by decide +kernel
theorem dX1_pop_38 : decode cX1_pop 38 = .ok (.ireturn, 1) := by decide +kernel
theorem dX1_levelOf_0 : decode cX1_levelOf 0 = .ok (.iload_n 0, 1) := by decide +kernel
theorem dX1_levelOf_1 : decode cX1_levelOf 1 = .ok (.lookupswitch 180 #[(37, 177), (38, 163), (42, 177), (43, 174), (45, 174), (47, 177), (60, 168), (62, 168), (94, 161), (124, 159), (8509, 165), (9766, 157), (15420, 171), (15421, 168), (15677, 165), (15933, 168), (15934, 171), (31868, 155)], 155) := by decide +kernel
theorem dX1_levelOf_156 : decode cX1_levelOf 156 = .ok (.iconst 1, 1) := by decide +kernel
theorem dX1_levelOf_157 : decode cX1_levelOf 157 = .ok (.ireturn, 1) := by decide +kernel
theorem dX1_levelOf_158 : decode cX1_levelOf 158 = .ok (.iconst 2, 1) := by decide +kernel
theorem dX1_levelOf_159 : decode cX1_levelOf 159 = .ok (.ireturn, 1) := by decide +kernel
theorem dX1_levelOf_160 : decode cX1_levelOf 160 = .ok (.iconst 3, 1) := by decide +kernel
theorem dX1_levelOf_161 : decode cX1_levelOf 161 = .ok (.ireturn, 1) := by decide +kernel
theorem dX1_levelOf_162 : decode cX1_levelOf 162 = .ok (.iconst 4, 1) := by decide +kernel
theorem dX1_levelOf_163 : decode cX1_levelOf 163 = .ok (.ireturn, 1) := by decide +kernel
theorem dX1_levelOf_164 : decode cX1_levelOf 164 = .ok (.iconst 5, 1) := by decide +kernel
theorem dX1_levelOf_165 : decode cX1_levelOf 165 = .ok (.ireturn, 1) := by decide +kernel
theorem dX1_levelOf_166 : decode cX1_levelOf 166 = .ok (.bipush 6, 2) := by decide +kernel
theorem dX1_levelOf_168 : decode cX1_levelOf 168 = .ok (.ireturn, 1) := by decide +kernel
theorem dX1_levelOf_169 : decode cX1_levelOf 169 = .ok (.bipush 7, 2) := by decide +kernel
theorem dX1_levelOf_171 : decode cX1_levelOf 171 = .ok (.ireturn, 1) := by decide +kernel
theorem dX1_levelOf_172 : decode cX1_levelOf 172 = .ok (.bipush 8, 2) := by decide +kernel
theorem dX1_levelOf_174 : decode cX1_levelOf 174 = .ok (.ireturn, 1) := by decide +kernel
theorem dX1_levelOf_175 : decode cX1_levelOf 175 = .ok (.bipush 9, 2) := by decide +kernel
theorem dX1_levelOf_177 : decode cX1_levelOf 177 = .ok (.ireturn, 1) := by decide +kernel
theorem dX1_levelOf_178 : decode cX1_levelOf 178 = .ok (.bipush 10, 2) := by decide +kernel
theorem dX1_levelOf_180 : decode cX1_levelOf 180 = .ok (.ireturn, 1) := by decide +kernel
theorem dX1_levelOf_181 : decode cX1_levelOf 181 = .ok (.iconst 0, 1) := by decide +kernel
theorem dX1_levelOf_182 : decode cX1_levelOf 182 = .ok (.ireturn, 1) := by decide +kernel
theorem dX2_init_0 : decode cX2_init 0 = .ok (.aload_n 0, 1) := by decide +kernel
theorem dX2_init_1 : decode cX2_init 1 = .ok (.invokespecial 3, 3) := by decide +kernel
theorem dX2_init_4 : decode cX2_init 4 = .ok (.aload_n 0, 1) := by decide +kernel
theorem dX2_init_5 : decode cX2_init 5 = .ok (.new 9, 3) := by decide +kernel
theorem dX2_init_8 : decode cX2_init 8 = .ok (.dup, 1) := by decide +kernel
theorem dX2_init_9 : decode cX2_init 9 = .ok (.aload_n 1, 1) := by decide +kernel
theorem dX2_init_10 : decode cX2_init 10 = .ok (.invokespecial 11, 3) := by decide +kernel
theorem dX2_init_13 : decode cX2_init 13 = .ok (.putfield 14, 3) := by decide +kernel
theorem dX2_init_16 : decode cX2_init 16 = .ok (.aload_n 0, 1) := by decide +kernel
theorem dX2_init_17 : decode cX2_init 17 = .ok (.new 20, 3) := by decide +kernel
theorem dX2_init_20 : decode cX2_init 20 = .ok (.dup, 1) := by decide +kernel
theorem dX2_init_21 : decode cX2_init 21 = .ok (.invokespecial 22, 3) := by decide +kernel
theorem dX2_init_24 : decode cX2_init 24 = .ok (.putfield 23, 3) := by decide +kernel
theorem dX2_init_27 : decode cX2_init 27 = .ok (.aload_n 0, 1) := by decide +kernel
theorem dX2_init_28 : decode cX2_init 28 = .ok (.new 27, 3) := by decide +kernel
theorem dX2_init_31 : decode cX2_init 31 = .ok (.dup, 1) := by decide +kernel
theorem dX2_init_32 : decode cX2_init 32 = .ok (.aload_n 0, 1) := by decide +kernel
theorem dX2_init_33 : decode cX2_init 33 = .ok (.getfield 14, 3) := by decide +kernel
theorem dX2_init_36 : decode cX2_init 36 = .ok (.aload_n 0, 1) := by decide +kernel
theorem dX2_init_37 : decode cX2_init 37 = .ok (.getfield 23, 3) := by decide +kernel
theorem dX2_init_40 : decode cX2_init 40 = .ok (.aload_n 2, 1) := by decide +kernel
theorem dX2_init_41 : decode cX2_init 41 = .ok (.invokespecial 29, 3) := by decide +kernel
theorem dX2_init_44 : decode cX2_init 44 = .ok (.putfield 32, 3) := by decide +kernel
theorem dX2_init_47 : decode cX2_init 47 = .ok (.aload_n 0, 1) := by decide +kernel
theorem dX2_init_48 : decode cX2_init 48 = .ok (.aload_n 2, 1) := by decide +kernel
theorem dX2_init_49 : decode cX2_init 49 = .ok (.putfield 36, 3) := by decide +kernel
theorem dX2_init_52 : decode cX2_init 52 = .ok (.return_, 1) := by decide +kernel
theorem dX2_faultKind_0 : decode cX2_faultKind 0 = .ok (.aload_n 0, 1) := by decide +kernel
theorem dX2_faultKind_1 : decode cX2_faultKind 1 = .ok (.getfield 14, 3) := by decide +kernel
theorem dX2_faultKind_4 : decode cX2_faultKind 4 = .ok (.getfield 40, 3) := by decide +kernel
theorem dX2_faultKind_7 : decode cX2_faultKind 7 = .ok (.ireturn, 1) := by decide +kernel
theorem dX2_faultPlace_0 : decode cX2_faultPlace 0 = .ok (.aload_n 0, 1) := by decide +kernel
theorem dX2_faultPlace_1 : decode cX2_faultPlace 1 = .ok (.getfield 14, 3) := by decide +kernel
theorem dX2_faultPlace_4 : decode cX2_faultPlace 4 = .ok (.getfield 44, 3) := by decide +kernel
theorem dX2_faultPlace_7 : decode cX2_faultPlace 7 = .ok (.ireturn, 1) := by decide +kernel
theorem dX2_make_0 : decode cX2_make 0 = .ok (.aload_n 0, 1) := by decide +kernel
theorem dX2_make_1 : decode cX2_make 1 = .ok (.aload_n 1, 1) := by decide +kernel
theorem dX2_make_2 : decode cX2_make 2 = .ok (.putfield 36, 3) := by decide +kernel
theorem dX2_make_5 : decode cX2_make 5 = .ok (.aload_n 0, 1) := by decide +kernel
theorem dX2_make_6 : decode cX2_make 6 = .ok (.getfield 36, 3) := by decide +kernel
theorem dX2_make_9 : decode cX2_make 9 = .ok (.invokevirtual 47, 3) := by decide +kernel
theorem dX2_make_12 : decode cX2_make 12 = .ok (.aload_n 0, 1) := by decide +kernel
theorem dX2_make_13 : decode cX2_make 13 = .ok (.getfield 14, 3) := by decide +kernel
theorem dX2_make_16 : decode cX2_make 16 = .ok (.invokevirtual 52, 3) := by decide +kernel
theorem dX2_make_19 : decode cX2_make 19 = .ok (.aload_n 0, 1) := by decide +kernel
theorem dX2_make_20 : decode cX2_make 20 = .ok (.getfield 23, 3) := by decide +kernel
theorem dX2_make_23 : decode cX2_make 23 = .ok (.iconst 0, 1) := by decide +kernel
theorem dX2_make_24 : decode cX2_make 24 = .ok (.putfield 55, 3) := by decide +kernel
theorem dX2_make_27 : decode cX2_make 27 = .ok (.aload_n 0, 1) := by decide +kernel
theorem dX2_make_28 : decode cX2_make 28 = .ok (.getfield 32, 3) := by decide +kernel
theorem dX2_make_31 : decode cX2_make 31 = .ok (.aload_n 0, 1) := by decide +kernel
theorem dX2_make_32 : decode cX2_make 32 = .ok (.getfield 36, 3) := by decide +kernel
theorem dX2_make_35 : decode cX2_make 35 = .ok (.invokevirtual 58, 3) := by decide +kernel
theorem dX2_make_38 : decode cX2_make 38 = .ok (.aload_n 0, 1) := by decide +kernel
theorem dX2_make_39 : decode cX2_make 39 = .ok (.iconst (-1), 1) := by decide +kernel
theorem dX2_make_40 : decode cX2_make 40 = .ok (.putfield 61, 3) := by decide +kernel
theorem dX2_make_43 : decode cX2_make 43 = .ok (.aload_n 0, 1) := by decide +kernel
theorem dX2_make_44 : decode cX2_make 44 = .ok (.iconst (-1), 1) := by decide +kernel
theorem dX2_make_45 : decode cX2_make 45 = .ok (.putfield 64, 3) := by decide +kernel
theorem dX2_make_48 : decode cX2_make 48 = .ok (.aload_n 0, 1) := by decide +kernel
theorem dX2_make_49 : decode cX2_make 49 = .ok (.invokevirtual 67, 3) := by decide +kernel
theorem dX2_make_52 : decode cX2_make 52 = .ok (.ifCond .eq 71, 3) := by decide +kernel
theorem dX2_make_55 : decode cX2_make 55 = .ok (.aload_n 0, 1) := by decide +kernel
theorem dX2_make_56 : decode cX2_make 56 = .ok (.invokevirtual 71, 3) := by decide +kernel
theorem dX2_make_59 : decode cX2_make 59 = .ok (.ifCond .eq 64, 3) := by decide +kernel
theorem dX2_make_62 : decode cX2_make 62 = .ok (.aload_n 0, 1) := by decide +kernel
theorem dX2_make_63 : decode cX2_make 63 = .ok (.getfield 36, 3) := by decide +kernel
theorem dX2_make_66 : decode cX2_make 66 = .ok (.bipush 7, 2) := by decide +kernel
theorem dX2_make_68 : decode cX2_make 68 = .ok (.iconst (-1), 1) := by decide +kernel
theorem dX2_make_69 : decode cX2_make 69 = .ok (.iconst (-1), 1) := by decide +kernel
theorem dX2_make_70 : decode cX2_make 70 = .ok (.iconst (-1), 1) := by decide +kernel
theorem dX2_make_71 : decode cX2_make 71 = .ok (.invokevirtual 74, 3) := by decide +kernel
theorem dX2_make_74 : decode cX2_make 74 = .ok (.pop, 1) := by decide +kernel
theorem dX2_make_75 : decode cX2_make 75 = .ok (.aload_n 0, 1) := by decide +kernel
theorem dX2_make_76 : decode cX2_make 76 = .ok (.invokevirtual 78, 3) := by decide +kernel
theorem dX2_make_79 : decode cX2_make 79 = .ok (.ifCond .eq 21, 3) := by decide +kernel
theorem dX2_make_82 : decode cX2_make 82 = .ok (.aload_n 0, 1) := by decide +kernel
theorem dX2_make_83 : decode cX2_make 83 = .ok (.getfield 14, 3) := by decide +kernel
theorem dX2_make_86 : decode cX2_make 86 = .ok (.getfield 81, 3) := by decide +kernel
theorem dX2_make_89 : decode cX2_make 89 = .ok (.ifCond .eq 11, 3) := by decide +kernel
theorem dX2_make_92 : decode cX2_make 92 = .ok (.aload_n 0, 1) := by decide +kernel
theorem dX2_make_93 : decode cX2_make 93 = .ok (.getfield 14, 3) := by decide +kernel
theorem dX2_make_96 : decode cX2_make 96 = .ok (.invokevirtual 84, 3) := by decide +kernel
theorem dX2_make_99 : decode cX2_make 99 = .ok (.pop, 1) := by decide +kernel
theorem dX2_make_100 : decode cX2_make 100 = .ok (.aload_n 0, 1) := by decide +kernel
theorem dX2_make_101 : decode cX2_make 101 = .ok (.getfield 36, 3) := by decide +kernel
theorem dX2_make_104 : decode cX2_make 104 = .ok (.bipush 9, 2) := by decide +kernel
theorem dX2_make_106 : decode cX2_make 106 = .ok (.aload_n 0, 1) := by decide +kernel
theorem dX2_make_107 : decode cX2_make 107 = .ok (.getfield 36, 3) := by decide +kernel
theorem dX2_make_110 : decode cX2_make 110 = .ok (.iconst 1, 1) := by decide +kernel
theorem dX2_make_111 : decode cX2_make 111 = .ok (.iconst (-1), 1) := by decide +kernel
theorem dX2_make_112 : decode cX2_make 112 = .ok (.iconst (-1), 1) := by decide +kernel
theorem dX2_make_113 : decode cX2_make 113 = .ok (.iconst 0, 1) := by decide +kernel
theorem dX2_make_114 : decode cX2_make 114 = .ok (.invokevirtual 74, 3) := by decide +kernel
theorem dX2_make_117 : decode cX2_make 117 = .ok (.iconst (-1), 1) := by decide +kernel
theorem dX2_make_118 : decode cX2_make 118 = .ok (.iconst (-1), 1) := by decide +kernel
theorem dX2_make_119 : decode cX2_make 119 = .ok (.invokevirtual 74, 3) := by decide +kernel
theorem dX2_make_122 : decode cX2_make 122 = .ok (.pop, 1) := by decide +kernel
theorem dX2_make_123 : decode cX2_make 123 = .ok (.return_, 1) := by decide +kernel
theorem dX2_readArrays_0 : decode cX2_readArrays 0 = .ok (.iconst 0, 1) := by decide +kernel
theorem dX2_readArrays_1 : decode cX2_readArrays 1 = .ok (.istore_n 1, 1) := by decide +kernel
theorem dX2_readArrays_2 : decode cX2_readArrays 2 = .ok (.iload_n 1, 1) := by decide +kernel
theorem dX2_readArrays_3 : decode cX2_readArrays 3 = .ok (.sipush 2001, 3) := by decide +kernel
theorem dX2_readArrays_6 : decode cX2_readArrays 6 = .ok (.if_icmp .ge 113, 3) := by decide +kernel
theorem dX2_readArrays_9 : decode cX2_readArrays 9 = .ok (.aload_n 0, 1) := by decide +kernel
theorem dX2_readArrays_10 : decode cX2_readArrays 10 = .ok (.getfield 14, 3) := by decide +kernel
theorem dX2_readArrays_13 : decode cX2_readArrays 13 = .ok (.iconst 4, 1) := by decide +kernel
theorem dX2_readArrays_14 : decode cX2_readArrays 14 = .ok (.invokevirtual 87, 3) := by decide +kernel
theorem dX2_readArrays_17 : decode cX2_readArrays 17 = .ok (.ifCond .eq 10, 3) := by decide +kernel
theorem dX2_readArrays_20 : decode cX2_readArrays 20 = .ok (.aload_n 0, 1) := by decide +kernel
theorem dX2_readArrays_21 : decode cX2_readArrays 21 = .ok (.invokevirtual 91, 3) := by decide +kernel
theorem dX2_readArrays_24 : decode cX2_readArrays 24 = .ok (.ifCond .ne 5, 3) := by decide +kernel
theorem dX2_readArrays_27 : decode cX2_readArrays 27 = .ok (.iconst 0, 1) := by decide +kernel
theorem dX2_readArrays_28 : decode cX2_readArrays 28 = .ok (.ireturn, 1) := by decide +kernel
theorem dX2_readArrays_29 : decode cX2_readArrays 29 = .ok (.aload_n 0, 1) := by decide +kernel
theorem dX2_readArrays_30 : decode cX2_readArrays 30 = .ok (.getfield 14, 3) := by decide +kernel
theorem dX2_readArrays_33 : decode cX2_readArrays 33 = .ok (.getfield 81, 3) := by decide +kernel
theorem dX2_readArrays_36 : decode cX2_readArrays 36 = .ok (.bipush 91, 2) := by decide +kernel
theorem dX2_readArrays_38 : decode cX2_readArrays 38 = .ok (.if_icmp .eq 18, 3) := by decide +kernel
theorem dX2_readArrays_41 : decode cX2_readArrays 41 = .ok (.aload_n 0, 1) := by decide +kernel
theorem dX2_readArrays_42 : decode cX2_readArrays 42 = .ok (.getfield 23, 3) := by decide +kernel
theorem dX2_readArrays_45 : decode cX2_readArrays 45 = .ok (.aload_n 0, 1) := by decide +kernel
theorem dX2_readArrays_46 : decode cX2_readArrays 46 = .ok (.getfield 94, 3) := by decide +kernel
theorem dX2_readArrays_49 : decode cX2_readArrays 49 = .ok (.iconst 2, 1) := by decide +kernel
theorem dX2_readArrays_50 : decode cX2_readArrays 50 = .ok (.iconst 0, 1) := by decide +kernel
theorem dX2_readArrays_51 : decode cX2_readArrays 51 = .ok (.invokevirtual 98, 3) := by decide +kernel
theorem dX2_readArrays_54 : decode cX2_readArrays 54 = .ok (.iconst 1, 1) := by decide +kernel
theorem dX2_readArrays_55 : decode cX2_readArrays 55 = .ok (.ireturn, 1) := by decide +kernel
theorem dX2_readArrays_56 : decode cX2_readArrays 56 = .ok (.aload_n 0, 1) := by decide +kernel
theorem dX2_readArrays_57 : decode cX2_readArrays 57 = .ok (.getfield 14, 3) := by decide +kernel
theorem dX2_readArrays_60 : decode cX2_readArrays 60 = .ok (.aload_n 0, 1) := by decide +kernel
theorem dX2_readArrays_61 : decode cX2_readArrays 61 = .ok (.getfield 36, 3) := by decide +kernel
theorem dX2_readArrays_64 : decode cX2_readArrays 64 = .ok (.getfield 102, 3) := by decide +kernel
theorem dX2_readArrays_67 : decode cX2_readArrays 67 = .ok (.bipush 8, 2) := by decide +kernel
theorem dX2_readArrays_69 : decode cX2_readArrays 69 = .ok (.if_icmp .lt 8, 3) := by decide +kernel
theorem dX2_readArrays_72 : decode cX2_readArrays 72 = .ok (.bipush 6, 2) := by decide +kernel
theorem dX2_readArrays_74 : decode cX2_readArrays 74 = .ok (.goto 4, 3) := by decide +kernel
theorem dX2_readArrays_77 : decode cX2_readArrays 77 = .ok (.iconst 0, 1) := by decide +kernel
theorem dX2_readArrays_78 : decode cX2_readArrays 78 = .ok (.aload_n 0, 1) := by decide +kernel
theorem dX2_readArrays_79 : decode cX2_readArrays 79 = .ok (.getfield 105, 3) := by decide +kernel
theorem dX2_readArrays_82 : decode cX2_readArrays 82 = .ok (.invokevirtual 108, 3) := by decide +kernel
theorem dX2_readArrays_85 : decode cX2_readArrays 85 = .ok (.aload_n 0, 1) := by decide +kernel
theorem dX2_readArrays_86 : decode cX2_readArrays 86 = .ok (.getfield 23, 3) := by decide +kernel
theorem dX2_readArrays_89 : decode cX2_readArrays 89 = .ok (.aload_n 0, 1) := by decide +kernel
theorem dX2_readArrays_90 : decode cX2_readArrays 90 = .ok (.getfield 94, 3) := by decide +kernel
theorem dX2_readArrays_93 : decode cX2_readArrays 93 = .ok (.iconst 1, 1) := by decide +kernel
theorem dX2_readArrays_94 : decode cX2_readArrays 94 = .ok (.aload_n 0, 1) := by decide +kernel
theorem dX2_readArrays_95 : decode cX2_readArrays 95 = .ok (.getfield 36, 3) := by decide +kernel
theorem dX2_readArrays_98 : decode cX2_readArrays 98 = .ok (.getfield 102, 3) := by decide +kernel
theorem dX2_readArrays_101 : decode cX2_readArrays 101 = .ok (.invokevirtual 98, 3) := by decide +kernel
theorem dX2_readArrays_104 : decode cX2_readArrays 104 = .ok (.aload_n 0, 1) := by decide +kernel
theorem dX2_readArrays_105 : decode cX2_readArrays 105 = .ok (.invokevirtual 112, 3) := by decide +kernel
theorem dX2_readArrays_108 : decode cX2_readArrays 108 = .ok (.ifCond .ne 5, 3) := by decide +kernel
theorem dX2_readArrays_111 : decode cX2_readArrays 111 = .ok (.iconst 0, 1) := by decide +kernel
theorem dX2_readArrays_112 : decode cX2_readArrays 112 = .ok (.ireturn, 1) := by decide +kernel
theorem dX2_readArrays_113 : decode cX2_readArrays 113 = .ok (.iinc 1 1, 3) := by decide +kernel
theorem dX2_readArrays_116 : decode cX2_readArrays 116 = .ok (.goto (-114), 3) := by decide +kernel
theorem dX2_readArrays_119 : decode cX2_readArrays 119 = .ok (.iconst 0, 1) := by decide +kernel
theorem dX2_readArrays_120 : decode cX2_readArrays 120 = .ok (.ireturn, 1) := by decide +kernel
theorem dX2_readCells_0 : decode cX2_readCells 0 = .ok (.aload_n 0, 1) := by decide +kernel
theorem dX2_readCells_1 : decode cX2_readCells 1 = .ok (.getfield 14, 3) := by decide +kernel
theorem dX2_readCells_4 : decode cX2_readCells 4 = .ok (.bipush 91, 2) := by decide +kernel
theorem dX2_readCells_6 : decode cX2_readCells 6 = .ok (.invokevirtual 115, 3) := by decide +kernel
theorem dX2_readCells_9 : decode cX2_readCells 9 = .ok (.ifCond .ne 5, 3) := by decide +kernel
theorem dX2_readCells_12 : decode cX2_readCells 12 = .ok (.iconst 0, 1) := by decide +kernel
theorem dX2_readCells_13 : decode cX2_readCells 13 = .ok (.ireturn, 1) := by decide +kernel
theorem dX2_readCells_14 : decode cX2_readCells 14 = .ok (.aload_n 0, 1) := by decide +kernel
theorem dX2_readCells_15 : decode cX2_readCells 15 = .ok (.getfield 14, 3) := by decide +kernel
theorem dX2_readCells_18 : decode cX2_readCells 18 = .ok (.getfield 118, 3) := by decide +kernel
theorem dX2_readCells_21 : decode cX2_readCells 21 = .ok (.lstore_n 1, 1) := by decide +kernel
theorem dX2_readCells_22 : decode cX2_readCells 22 = .ok (.aload_n 0, 1) := by decide +kernel
theorem dX2_readCells_23 : decode cX2_readCells 23 = .ok (.getfield 14, 3) := by decide +kernel
theorem dX2_readCells_26 : decode cX2_readCells 26 = .ok (.getfield 121, 3) := by decide +kernel
theorem dX2_readCells_29 : decode cX2_readCells 29 = .ok (.istore_n 3, 1) := by decide +kernel
theorem dX2_readCells_30 : decode cX2_readCells 30 = .ok (.aload_n 0, 1) := by decide +kernel
theorem dX2_readCells_31 : decode cX2_readCells 31 = .ok (.getfield 14, 3) := by decide +kernel
theorem dX2_readCells_34 : decode cX2_readCells 34 = .ok (.iconst 3, 1) := by decide +kernel
theorem dX2_readCells_35 : decode cX2_readCells 35 = .ok (.invokevirtual 87, 3) := by decide +kernel
theorem dX2_readCells_38 : decode cX2_readCells 38 = .ok (.ifCond .ne 5, 3) := by decide +kernel
theorem dX2_readCells_41 : decode cX2_readCells 41 = .ok (.iconst 0, 1) := by decide +kernel
theorem dX2_readCells_42 : decode cX2_readCells 42 = .ok (.ireturn, 1) := by decide +kernel
theorem dX2_readCells_43 : decode cX2_readCells 43 = .ok (.aload_n 0, 1) := by decide +kernel
theorem dX2_readCells_44 : decode cX2_readCells 44 = .ok (.getfield 14, 3) := by decide +kernel
theorem dX2_readCells_47 : decode cX2_readCells 47 = .ok (.lload_n 1, 1) := by decide +kernel
theorem dX2_readCells_48 : decode cX2_readCells 48 = .ok (.lconst 1, 1) := by decide +kernel
theorem dX2_readCells_49 : decode cX2_readCells 49 = .ok (.lcmp, 1) := by decide +kernel
theorem dX2_readCells_50 : decode cX2_readCells 50 = .ok (.ifCond .lt 11, 3) := by decide +kernel
theorem dX2_readCells_53 : decode cX2_readCells 53 = .ok (.lload_n 1, 1) := by decide +kernel
theorem dX2_readCells_54 : decode cX2_readCells 54 = .ok (.ldc2_w 124, 3) := by decide +kernel
theorem dX2_readCells_57 : decode cX2_readCells 57 = .ok (.lcmp, 1) := by decide +kernel
theorem dX2_readCells_58 : decode cX2_readCells 58 = .ok (.ifCond .le 8, 3) := by decide +kernel
theorem dX2_readCells_61 : decode cX2_readCells 61 = .ok (.bipush 6, 2) := by decide +kernel
theorem dX2_readCells_63 : decode cX2_readCells 63 = .ok (.goto 4, 3) := by decide +kernel
theorem dX2_readCells_66 : decode cX2_readCells 66 = .ok (.iconst 0, 1) := by decide +kernel
theorem dX2_readCells_67 : decode cX2_readCells 67 = .ok (.iload_n 3, 1) := by decide +kernel
theorem dX2_readCells_68 : decode cX2_readCells 68 = .ok (.invokevirtual 108, 3) := by decide +kernel
theorem dX2_readCells_71 : decode cX2_readCells 71 = .ok (.aload_n 0, 1) := by decide +kernel
theorem dX2_readCells_72 : decode cX2_readCells 72 = .ok (.getfield 36, 3) := by decide +kernel
theorem dX2_readCells_75 : decode cX2_readCells 75 = .ok (.lload_n 1, 1) := by decide +kernel
theorem dX2_readCells_76 : decode cX2_readCells 76 = .ok (.l2i, 1) := by decide +kernel
theorem dX2_readCells_77 : decode cX2_readCells 77 = .ok (.invokevirtual 126, 3) := by decide +kernel
theorem dX2_readCells_80 : decode cX2_readCells 80 = .ok (.aload_n 0, 1) := by decide +kernel
theorem dX2_readCells_81 : decode cX2_readCells 81 = .ok (.getfield 14, 3) := by decide +kernel
theorem dX2_readCells_84 : decode cX2_readCells 84 = .ok (.invokevirtual 130, 3) := by decide +kernel
theorem dX2_readCells_87 : decode cX2_readCells 87 = .ok (.aload_n 0, 1) := by decide +kernel
theorem dX2_readCells_88 : decode cX2_readCells 88 = .ok (.getfield 14, 3) := by decide +kernel
theorem dX2_readCells_91 : decode cX2_readCells 91 = .ok (.bipush 93, 2) := by decide +kernel
theorem dX2_readCells_93 : decode cX2_readCells 93 = .ok (.invokevirtual 87, 3) := by decide +kernel
theorem dX2_readCells_96 : decode cX2_readCells 96 = .ok (.ifCond .eq 19, 3) := by decide +kernel
theorem dX2_readCells_99 : decode cX2_readCells 99 = .ok (.aload_n 0, 1) := by decide +kernel
theorem dX2_readCells_100 : decode cX2_readCells 100 = .ok (.getfield 14, 3) := by decide +kernel
theorem dX2_readCells_103 : decode cX2_readCells 103 = .ok (.bipush 59, 2) := by decide +kernel
theorem dX2_readCells_105 : decode cX2_readCells 105 = .ok (.invokevirtual 87, 3) := by decide +kernel
theorem dX2_readCells_108 : decode cX2_readCells 108 = .ok (.ifCond .eq 7, 3) := by decide +kernel
theorem dX2_readCells_111 : decode cX2_readCells 111 = .ok (.iconst 1, 1) := by decide +kernel
theorem dX2_readCells_112 : decode cX2_readCells 112 = .ok (.goto 4, 3) := by decide +kernel
theorem dX2_readCells_115 : decode cX2_readCells 115 = .ok (.iconst 0, 1) := by decide +kernel
theorem dX2_readCells_116 : decode cX2_readCells 116 = .ok (.ireturn, 1) := by decide +kernel
theorem dX2_readParameters_0 : decode cX2_readParameters 0 = .ok (.aload_n 0, 1) := by decide +kernel
theorem dX2_readParameters_1 : decode cX2_readParameters 1 = .ok (.getfield 14, 3) := by decide +kernel
theorem dX2_readParameters_4 : decode cX2_readParameters 4 = .ok (.bipush 40, 2) := by decide +kernel
theorem dX2_readParameters_6 : decode cX2_readParameters 6 = .ok (.invokevirtual 115, 3) := by decide +kernel
theorem dX2_readParameters_9 : decode cX2_readParameters 9 = .ok (.ifCond .ne 5, 3) := by decide +kernel
theorem dX2_readParameters_12 : decode cX2_readParameters 12 = .ok (.iconst 0, 1) := by decide +kernel
theorem dX2_readParameters_13 : decode cX2_readParameters 13 = .ok (.ireturn, 1) := by decide +kernel
theorem dX2_readParameters_14 : decode cX2_readParameters 14 = .ok (.aload_n 0, 1) := by decide +kernel
theorem dX2_readParameters_15 : decode cX2_readParameters 15 = .ok (.getfield 14, 3) := by decide +kernel
theorem dX2_readParameters_18 : decode cX2_readParameters 18 = .ok (.getfield 81, 3) := by decide +kernel
theorem dX2_readParameters_21 : decode cX2_readParameters 21 = .ok (.bipush 41, 2) := by decide +kernel
theorem dX2_readParameters_23 : decode cX2_readParameters 23 = .ok (.if_icmp .eq 7, 3) := by decide +kernel
theorem dX2_readParameters_26 : decode cX2_readParameters 26 = .ok (.iconst 1, 1) := by decide +kernel
theorem dX2_readParameters_27 : decode cX2_readParameters 27 = .ok (.goto 4, 3) := by decide +kernel
theorem dX2_readParameters_30 : decode cX2_readParameters 30 = .ok (.iconst 0, 1) := by decide +kernel
theorem dX2_readParameters_31 : decode cX2_readParameters 31 = .ok (.istore_n 1, 1) := by decide +kernel
theorem dX2_readParameters_32 : decode cX2_readParameters 32 = .ok (.iconst 0, 1) := by decide +kernel
theorem dX2_readParameters_33 : decode cX2_readParameters 33 = .ok (.istore_n 2, 1) := by decide +kernel
theorem dX2_readParameters_34 : decode cX2_readParameters 34 = .ok (.iload_n 2, 1) := by decide +kernel
theorem dX2_readParameters_35 : decode cX2_readParameters 35 = .ok (.sipush 2001, 3) := by decide +kernel
theorem dX2_readParameters_38 : decode cX2_readParameters 38 = .ok (.if_icmp .ge 135, 3) := by decide +kernel
theorem dX2_readParameters_41 : decode cX2_readParameters 41 = .ok (.iload_n 1, 1) := by decide +kernel
theorem dX2_readParameters_42 : decode cX2_readParameters 42 = .ok (.ifCond .eq 131, 3) := by decide +kernel
theorem dX2_readParameters_45 : decode cX2_readParameters 45 = .ok (.aload_n 0, 1) := by decide +kernel
theorem dX2_readParameters_46 : decode cX2_readParameters 46 = .ok (.getfield 14, 3) := by decide +kernel
theorem dX2_readParameters_49 : decode cX2_readParameters 49 = .ok (.iconst 4, 1) := by decide +kernel
theorem dX2_readParameters_50 : decode cX2_readParameters 50 = .ok (.invokevirtual 87, 3) := by decide +kernel
theorem dX2_readParameters_53 : decode cX2_readParameters 53 = .ok (.ifCond .eq 10, 3) := by decide +kernel
theorem dX2_readParameters_56 : decode cX2_readParameters 56 = .ok (.aload_n 0, 1) := by decide +kernel
theorem dX2_readParameters_57 : decode cX2_readParameters 57 = .ok (.invokevirtual 91, 3) := by decide +kernel
theorem dX2_readParameters_60 : decode cX2_readParameters 60 = .ok (.ifCond .ne 5, 3) := by decide +kernel
theorem dX2_readParameters_63 : decode cX2_readParameters 63 = .ok (.iconst 0, 1) := by decide +kernel
theorem dX2_readParameters_64 : decode cX2_readParameters 64 = .ok (.ireturn, 1) := by decide +kernel
theorem dX2_readParameters_65 : decode cX2_readParameters 65 = .ok (.aload_n 0, 1) := by decide +kernel
theorem dX2_readParameters_66 : decode cX2_readParameters 66 = .ok (.getfield 14, 3) := by decide +kernel
theorem dX2_readParameters_69 : decode cX2_readParameters 69 = .ok (.aload_n 0, 1) := by decide +kernel
theorem dX2_readParameters_70 : decode cX2_readParameters 70 = .ok (.getfield 36, 3) := by decide +kernel
theorem dX2_readParameters_73 : decode cX2_readParameters 73 = .ok (.getfield 133, 3) := by decide +kernel
theorem dX2_readParameters_76 : decode cX2_readParameters 76 = .ok (.iconst 4, 1) := by decide +kernel
theorem dX2_readParameters_77 : decode cX2_readParameters 77 = .ok (.if_icmp .lt 8, 3) := by decide +kernel
theorem dX2_readParameters_80 : decode cX2_readParameters 80 = .ok (.bipush 6, 2) := by decide +kernel
theorem dX2_readParameters_82 : decode cX2_readParameters 82 = .ok (.goto 4, 3) := by decide +kernel
theorem dX2_readParameters_85 : decode cX2_readParameters 85 = .ok (.iconst 0, 1) := by decide +kernel
theorem dX2_readParameters_86 : decode cX2_readParameters 86 = .ok (.aload_n 0, 1) := by decide +kernel
theorem dX2_readParameters_87 : decode cX2_readParameters 87 = .ok (.getfield 105, 3) := by decide +kernel
theorem dX2_readParameters_90 : decode cX2_readParameters 90 = .ok (.invokevirtual 108, 3) := by decide +kernel
theorem dX2_readParameters_93 : decode cX2_readParameters 93 = .ok (.aload_n 0, 1) := by decide +kernel
theorem dX2_readParameters_94 : decode cX2_readParameters 94 = .ok (.getfield 23, 3) := by decide +kernel
theorem dX2_readParameters_97 : decode cX2_readParameters 97 = .ok (.aload_n 0, 1) := by decide +kernel
theorem dX2_readParameters_98 : decode cX2_readParameters 98 = .ok (.getfield 94, 3) := by decide +kernel
theorem dX2_readParameters_101 : decode cX2_readParameters 101 = .ok (.iconst 3, 1) := by decide +kernel
theorem dX2_readParameters_102 : decode cX2_readParameters 102 = .ok (.aload_n 0, 1) := by decide +kernel
theorem dX2_readParameters_103 : decode cX2_readParameters 103 = .ok (.getfield 36, 3) := by decide +kernel
theorem dX2_readParameters_106 : decode cX2_readParameters 106 = .ok (.getfield 136, 3) := by decide +kernel
theorem dX2_readParameters_109 : decode cX2_readParameters 109 = .ok (.invokevirtual 98, 3) := by decide +kernel
theorem dX2_readParameters_112 : decode cX2_readParameters 112 = .ok (.aload_n 0, 1) := by decide +kernel
theorem dX2_readParameters_113 : decode cX2_readParameters 113 = .ok (.getfield 36, 3) := by decide +kernel
theorem dX2_readParameters_116 : decode cX2_readParameters 116 = .ok (.dup, 1) := by decide +kernel
theorem dX2_readParameters_117 : decode cX2_readParameters 117 = .ok (.getfield 133, 3) := by decide +kernel
theorem dX2_readParameters_120 : decode cX2_readParameters 120 = .ok (.iconst 1, 1) := by decide +kernel
theorem dX2_readParameters_121 : decode cX2_readParameters 121 = .ok (.iadd, 1) := by decide +kernel
theorem dX2_readParameters_122 : decode cX2_readParameters 122 = .ok (.putfield 133, 3) := by decide +kernel
theorem dX2_readParameters_125 : decode cX2_readParameters 125 = .ok (.aload_n 0, 1) := by decide +kernel
theorem dX2_readParameters_126 : decode cX2_readParameters 126 = .ok (.getfield 36, 3) := by decide +kernel
theorem dX2_readParameters_129 : decode cX2_readParameters 129 = .ok (.dup, 1) := by decide +kernel
theorem dX2_readParameters_130 : decode cX2_readParameters 130 = .ok (.getfield 136, 3) := by decide +kernel
theorem dX2_readParameters_133 : decode cX2_readParameters 133 = .ok (.iconst 1, 1) := by decide +kernel
theorem dX2_readParameters_134 : decode cX2_readParameters 134 = .ok (.iadd, 1) := by decide +kernel
theorem dX2_readParameters_135 : decode cX2_readParameters 135 = .ok (.putfield 136, 3) := by decide +kernel
theorem dX2_readParameters_138 : decode cX2_readParameters 138 = .ok (.aload_n 0, 1) := by decide +kernel
theorem dX2_readParameters_139 : decode cX2_readParameters 139 = .ok (.getfield 14, 3) := by decide +kernel
theorem dX2_readParameters_142 : decode cX2_readParameters 142 = .ok (.getfield 81, 3) := by decide +kernel
theorem dX2_readParameters_145 : decode cX2_readParameters 145 = .ok (.bipush 44, 2) := by decide +kernel
theorem dX2_readParameters_147 : decode cX2_readParameters 147 = .ok (.if_icmp .ne 7, 3) := by decide +kernel
theorem dX2_readParameters_150 : decode cX2_readParameters 150 = .ok (.iconst 1, 1) := by decide +kernel
theorem dX2_readParameters_151 : decode cX2_readParameters 151 = .ok (.goto 4, 3) := by decide +kernel
theorem dX2_readParameters_154 : decode cX2_readParameters 154 = .ok (.iconst 0, 1) := by decide +kernel
theorem dX2_readParameters_155 : decode cX2_readParameters 155 = .ok (.istore_n 1, 1) := by decide +kernel
theorem dX2_readParameters_156 : decode cX2_readParameters 156 = .ok (.iload_n 1, 1) := by decide +kernel
theorem dX2_readParameters_157 : decode cX2_readParameters 157 = .ok (.ifCond .eq 10, 3) := by decide +kernel
theorem dX2_readParameters_160 : decode cX2_readParameters 160 = .ok (.aload_n 0, 1) := by decide +kernel
theorem dX2_readParameters_161 : decode cX2_readParameters 161 = .ok (.getfield 14, 3) := by decide +kernel
theorem dX2_readParameters_164 : decode cX2_readParameters 164 = .ok (.invokevirtual 139, 3) := by decide +kernel
theorem dX2_readParameters_167 : decode cX2_readParameters 167 = .ok (.iinc 2 1, 3) := by decide +kernel
theorem dX2_readParameters_170 : decode cX2_readParameters 170 = .ok (.goto (-136), 3) := by decide +kernel
theorem dX2_readParameters_173 : decode cX2_readParameters 173 = .ok (.aload_n 0, 1) := by decide +kernel
theorem dX2_readParameters_174 : decode cX2_readParameters 174 = .ok (.getfield 14, 3) := by decide +kernel
theorem dX2_readParameters_177 : decode cX2_readParameters 177 = .ok (.invokevirtual 130, 3) := by decide +kernel
theorem dX2_readParameters_180 : decode cX2_readParameters 180 = .ok (.aload_n 0, 1) := by decide +kernel
theorem dX2_readParameters_181 : decode cX2_readParameters 181 = .ok (.getfield 14, 3) := by decide +kernel
theorem dX2_readParameters_184 : decode cX2_readParameters 184 = .ok (.bipush 41, 2) := by decide +kernel
theorem dX2_readParameters_186 : decode cX2_readParameters 186 = .ok (.invokevirtual 87, 3) := by decide +kernel
theorem dX2_readParameters_189 : decode cX2_readParameters 189 = .ok (.ireturn, 1) := by decide +kernel
theorem dX2_readNewName_0 : decode cX2_readNewName 0 = .ok (.aload_n 0, 1) := by decide +kernel
theorem dX2_readNewName_1 : decode cX2_readNewName 1 = .ok (.aload_n 0, 1) := by decide +kernel
theorem dX2_readNewName_2 : decode cX2_readNewName 2 = .ok (.getfield 14, 3) := by decide +kernel
theorem dX2_readNewName_5 : decode cX2_readNewName 5 = .ok (.getfield 118, 3) := by decide +kernel
theorem dX2_readNewName_8 : decode cX2_readNewName 8 = .ok (.putfield 94, 3) := by decide +kernel
theorem dX2_readNewName_11 : decode cX2_readNewName 11 = .ok (.aload_n 0, 1) := by decide +kernel
theorem dX2_readNewName_12 : decode cX2_readNewName 12 = .ok (.aload_n 0, 1) := by decide +kernel
theorem dX2_readNewName_13 : decode cX2_readNewName 13 = .ok (.getfield 14, 3) := by decide +kernel
theorem dX2_readNewName_16 : decode cX2_readNewName 16 = .ok (.getfield 121, 3) := by decide +kernel
theorem dX2_readNewName_19 : decode cX2_readNewName 19 = .ok (.putfield 105, 3) := by decide +kernel
theorem dX2_readNewName_22 : decode cX2_readNewName 22 = .ok (.aload_n 0, 1) := by decide +kernel
theorem dX2_readNewName_23 : decode cX2_readNewName 23 = .ok (.getfield 14, 3) := by decide +kernel
theorem dX2_readNewName_26 : decode cX2_readNewName 26 = .ok (.iconst 2, 1) := by decide +kernel
theorem dX2_readNewName_27 : decode cX2_readNewName 27 = .ok (.invokevirtual 87, 3) := by decide +kernel
theorem dX2_readNewName_30 : decode cX2_readNewName 30 = .ok (.ifCond .ne 5, 3) := by decide +kernel
theorem dX2_readNewName_33 : decode cX2_readNewName 33 = .ok (.iconst 0, 1) := by decide +kernel
theorem dX2_readNewName_34 : decode cX2_readNewName 34 = .ok (.ireturn, 1) := by decide +kernel
theorem dX2_readNewName_35 : decode cX2_readNewName 35 = .ok (.aload_n 0, 1) := by decide +kernel
theorem dX2_readNewName_36 : decode cX2_readNewName 36 = .ok (.getfield 14, 3) := by decide +kernel
theorem dX2_readNewName_39 : decode cX2_readNewName 39 = .ok (.aload_n 0, 1) := by decide +kernel
theorem dX2_readNewName_40 : decode cX2_readNewName 40 = .ok (.getfield 23, 3) := by decide +kernel
theorem dX2_readNewName_43 : decode cX2_readNewName 43 = .ok (.aload_n 0, 1) := by decide +kernel
theorem dX2_readNewName_44 : decode cX2_readNewName 44 = .ok (.getfield 94, 3) := by decide +kernel
theorem dX2_readNewName_47 : decode cX2_readNewName 47 = .ok (.invokevirtual 142, 3) := by decide +kernel
theorem dX2_readNewName_50 : decode cX2_readNewName 50 = .ok (.aload_n 0, 1) := by decide +kernel
theorem dX2_readNewName_51 : decode cX2_readNewName 51 = .ok (.getfield 105, 3) := by decide +kernel
theorem dX2_readNewName_54 : decode cX2_readNewName 54 = .ok (.invokevirtual 108, 3) := by decide +kernel
theorem dX2_readNewName_57 : decode cX2_readNewName 57 = .ok (.iconst 1, 1) := by decide +kernel
theorem dX2_readNewName_58 : decode cX2_readNewName 58 = .ok (.ireturn, 1) := by decide +kernel
theorem dX2_readBlock_0 : decode cX2_readBlock 0 = .ok (.aload_n 0, 1) := by decide +kernel
theorem dX2_readBlock_1 : decode cX2_readBlock 1 = .ok (.getfield 14, 3) := by decide +kernel
theorem dX2_readBlock_4 : decode cX2_readBlock 4 = .ok (.bipush 123, 2) := by decide +kernel
theorem dX2_readBlock_6 : decode cX2_readBlock 6 = .ok (.invokevirtual 115, 3) := by decide +kernel
theorem dX2_readBlock_9 : decode cX2_readBlock 9 = .ok (.ifCond .ne 5, 3) := by decide +kernel
theorem dX2_readBlock_12 : decode cX2_readBlock 12 = .ok (.iconst 0, 1) := by decide +kernel
theorem dX2_readBlock_13 : decode cX2_readBlock 13 = .ok (.ireturn, 1) := by decide +kernel
theorem dX2_readBlock_14 : decode cX2_readBlock 14 = .ok (.aload_n 0, 1) := by decide +kernel
theorem dX2_readBlock_15 : decode cX2_readBlock 15 = .ok (.getfield 23, 3) := by decide +kernel
theorem dX2_readBlock_18 : decode cX2_readBlock 18 = .ok (.getfield 55, 3) := by decide +kernel
theorem dX2_readBlock_21 : decode cX2_readBlock 21 = .ok (.istore_n 1, 1) := by decide +kernel
theorem dX2_readBlock_22 : decode cX2_readBlock 22 = .ok (.iconst 0, 1) := by decide +kernel
theorem dX2_readBlock_23 : decode cX2_readBlock 23 = .ok (.istore_n 2, 1) := by decide +kernel
theorem dX2_readBlock_24 : decode cX2_readBlock 24 = .ok (.iload_n 2, 1) := by decide +kernel
theorem dX2_readBlock_25 : decode cX2_readBlock 25 = .ok (.sipush 2001, 3) := by decide +kernel
theorem dX2_readBlock_28 : decode cX2_readBlock 28 = .ok (.if_icmp .ge 30, 3) := by decide +kernel
theorem dX2_readBlock_31 : decode cX2_readBlock 31 = .ok (.aload_n 0, 1) := by decide +kernel
theorem dX2_readBlock_32 : decode cX2_readBlock 32 = .ok (.getfield 14, 3) := by decide +kernel
theorem dX2_readBlock_35 : decode cX2_readBlock 35 = .ok (.getfield 81, 3) := by decide +kernel
theorem dX2_readBlock_38 : decode cX2_readBlock 38 = .ok (.bipush 125, 2) := by decide +kernel
theorem dX2_readBlock_40 : decode cX2_readBlock 40 = .ok (.if_icmp .eq 18, 3) := by decide +kernel
theorem dX2_readBlock_43 : decode cX2_readBlock 43 = .ok (.aload_n 0, 1) := by decide +kernel
theorem dX2_readBlock_44 : decode cX2_readBlock 44 = .ok (.invokevirtual 146, 3) := by decide +kernel
theorem dX2_readBlock_47 : decode cX2_readBlock 47 = .ok (.ifCond .ne 5, 3) := by decide +kernel
theorem dX2_readBlock_50 : decode cX2_readBlock 50 = .ok (.iconst 0, 1) := by decide +kernel
theorem dX2_readBlock_51 : decode cX2_readBlock 51 = .ok (.ireturn, 1) := by decide +kernel
theorem dX2_readBlock_52 : decode cX2_readBlock 52 = .ok (.iinc 2 1, 3) := by decide +kernel
theorem dX2_readBlock_55 : decode cX2_readBlock 55 = .ok (.goto (-31), 3) := by decide +kernel
theorem dX2_readBlock_58 : decode cX2_readBlock 58 = .ok (.aload_n 0, 1) := by decide +kernel
theorem dX2_readBlock_59 : decode cX2_readBlock 59 = .ok (.getfield 23, 3) := by decide +kernel
theorem dX2_readBlock_62 : decode cX2_readBlock 62 = .ok (.iload_n 1, 1) := by decide +kernel
theorem dX2_readBlock_63 : decode cX2_readBlock 63 = .ok (.putfield 55, 3) := by decide +kernel
theorem dX2_readBlock_66 : decode cX2_readBlock 66 = .ok (.aload_n 0, 1) := by decide +kernel
theorem dX2_readBlock_67 : decode cX2_readBlock 67 = .ok (.getfield 14, 3) := by decide +kernel
theorem dX2_readBlock_70 : decode cX2_readBlock 70 = .ok (.invokevirtual 130, 3) := by decide +kernel
theorem dX2_readBlock_73 : decode cX2_readBlock 73 = .ok (.aload_n 0, 1) := by decide +kernel
theorem dX2_readBlock_74 : decode cX2_readBlock 74 = .ok (.getfield 14, 3) := by decide +kernel
theorem dX2_readBlock_77 : decode cX2_readBlock 77 = .ok (.bipush 125, 2) := by decide +kernel
theorem dX2_readBlock_79 : decode cX2_readBlock 79 = .ok (.invokevirtual 87, 3) := by decide +kernel
theorem dX2_readBlock_82 : decode cX2_readBlock 82 = .ok (.ireturn, 1) := by decide +kernel
theorem dX2_readStatement_0 : decode cX2_readStatement 0 = .ok (.aload_n 0, 1) := by decide +kernel
theorem dX2_readStatement_1 : decode cX2_readStatement 1 = .ok (.getfield 14, 3) := by decide +kernel
theorem dX2_readStatement_4 : decode cX2_readStatement 4 = .ok (.getfield 81, 3) := by decide +kernel
theorem dX2_readStatement_7 : decode cX2_readStatement 7 = .ok (.lookupswitch 121 #[(2, 78), (4, 73), (5, 83), (7, 88), (8, 93), (9, 102), (10, 111), (123, 116)], 73) := by decide +kernel
theorem dX2_readStatement_80 : decode cX2_readStatement 80 = .ok (.aload_n 0, 1) := by decide +kernel
theorem dX2_readStatement_81 : decode cX2_readStatement 81 = .ok (.invokevirtual 149, 3) := by decide +kernel
theorem dX2_readStatement_84 : decode cX2_readStatement 84 = .ok (.ireturn, 1) := by decide +kernel
theorem dX2_readStatement_85 : decode cX2_readStatement 85 = .ok (.aload_n 0, 1) := by decide +kernel
theorem dX2_readStatement_86 : decode cX2_readStatement 86 = .ok (.invokevirtual 152, 3) := by decide +kernel
theorem dX2_readStatement_89 : decode cX2_readStatement 89 = .ok (.ireturn, 1) := by decide +kernel
theorem dX2_readStatement_90 : decode cX2_readStatement 90 = .ok (.aload_n 0, 1) := by decide +kernel
theorem dX2_readStatement_91 : decode cX2_readStatement 91 = .ok (.invokevirtual 155, 3) := by decide +kernel
theorem dX2_readStatement_94 : decode cX2_readStatement 94 = .ok (.ireturn, 1) := by decide +kernel
theorem dX2_readStatement_95 : decode cX2_readStatement 95 = .ok (.aload_n 0, 1) := by decide +kernel
theorem dX2_readStatement_96 : decode cX2_readStatement 96 = .ok (.invokevirtual 158, 3) := by decide +kernel
theorem dX2_readStatement_99 : decode cX2_readStatement 99 = .ok (.ireturn, 1) := by decide +kernel
theorem dX2_readStatement_100 : decode cX2_readStatement 100 = .ok (.aload_n 0, 1) := by decide +kernel
theorem dX2_readStatement_101 : decode cX2_readStatement 101 = .ok (.aload_n 0, 1) := by decide +kernel
theorem dX2_readStatement_102 : decode cX2_readStatement 102 = .ok (.getfield 64, 3) := by decide +kernel
theorem dX2_readStatement_105 : decode cX2_readStatement 105 = .ok (.invokevirtual 161, 3) := by decide +kernel
theorem dX2_readStatement_108 : decode cX2_readStatement 108 = .ok (.ireturn, 1) := by decide +kernel
theorem dX2_readStatement_109 : decode cX2_readStatement 109 = .ok (.aload_n 0, 1) := by decide +kernel
theorem dX2_readStatement_110 : decode cX2_readStatement 110 = .ok (.aload_n 0, 1) := by decide +kernel
theorem dX2_readStatement_111 : decode cX2_readStatement 111 = .ok (.getfield 61, 3) := by decide +kernel
theorem dX2_readStatement_114 : decode cX2_readStatement 114 = .ok (.invokevirtual 161, 3) := by decide +kernel
theorem dX2_readStatement_117 : decode cX2_readStatement 117 = .ok (.ireturn, 1) := by decide +kernel
theorem dX2_readStatement_118 : decode cX2_readStatement 118 = .ok (.aload_n 0, 1) := by decide +kernel
theorem dX2_readStatement_119 : decode cX2_readStatement 119 = .ok (.invokevirtual 164, 3) := by decide +kernel
theorem dX2_readStatement_122 : decode cX2_readStatement 122 = .ok (.ireturn, 1) := by decide +kernel
theorem dX2_readStatement_123 : decode cX2_readStatement 123 = .ok (.aload_n 0, 1) := by decide +kernel
theorem dX2_readStatement_124 : decode cX2_readStatement 124 = .ok (.invokevirtual 78, 3) := by decide +kernel
theorem dX2_readStatement_127 : decode cX2_readStatement 127 = .ok (.ireturn, 1) := by decide +kernel
theorem dX2_readStatement_128 : decode cX2_readStatement 128 = .ok (.aload_n 0, 1) := by decide +kernel
theorem dX2_readStatement_129 : decode cX2_readStatement 129 = .ok (.getfield 14, 3) := by decide +kernel
theorem dX2_readStatement_132 : decode cX2_readStatement 132 = .ok (.invokevirtual 84, 3) := by decide +kernel
theorem dX2_readStatement_135 : decode cX2_readStatement 135 = .ok (.ireturn, 1) := by decide +kernel
theorem dX2_readTelling_0 : decode cX2_readTelling 0 = .ok (.aload_n 0, 1) := by decide +kernel
theorem dX2_readTelling_1 : decode cX2_readTelling 1 = .ok (.getfield 14, 3) := by decide +kernel
theorem dX2_readTelling_4 : decode cX2_readTelling 4 = .ok (.invokevirtual 139, 3) := by decide +kernel
theorem dX2_readTelling_7 : decode cX2_readTelling 7 = .ok (.aload_n 0, 1) := by decide +kernel
theorem dX2_readTelling_8 : decode cX2_readTelling 8 = .ok (.invokevirtual 91, 3) := by decide +kernel
theorem dX2_readTelling_11 : decode cX2_readTelling 11 = .ok (.ifCond .ne 5, 3) := by decide +kernel
theorem dX2_readTelling_14 : decode cX2_readTelling 14 = .ok (.iconst 0, 1) := by decide +kernel
theorem dX2_readTelling_15 : decode cX2_readTelling 15 = .ok (.ireturn, 1) := by decide +kernel
theorem dX2_readTelling_16 : decode cX2_readTelling 16 = .ok (.aload_n 0, 1) := by decide +kernel
theorem dX2_readTelling_17 : decode cX2_readTelling 17 = .ok (.getfield 14, 3) := by decide +kernel
theorem dX2_readTelling_20 : decode cX2_readTelling 20 = .ok (.aload_n 0, 1) := by decide +kernel
theorem dX2_readTelling_21 : decode cX2_readTelling 21 = .ok (.getfield 36, 3) := by decide +kernel
theorem dX2_readTelling_24 : decode cX2_readTelling 24 = .ok (.getfield 136, 3) := by decide +kernel
theorem dX2_readTelling_27 : decode cX2_readTelling 27 = .ok (.bipush 16, 2) := by decide +kernel
theorem dX2_readTelling_29 : decode cX2_readTelling 29 = .ok (.if_icmp .lt 8, 3) := by decide +kernel
theorem dX2_readTelling_32 : decode cX2_readTelling 32 = .ok (.bipush 6, 2) := by decide +kernel
theorem dX2_readTelling_34 : decode cX2_readTelling 34 = .ok (.goto 4, 3) := by decide +kernel
theorem dX2_readTelling_37 : decode cX2_readTelling 37 = .ok (.iconst 0, 1) := by decide +kernel
theorem dX2_readTelling_38 : decode cX2_readTelling 38 = .ok (.aload_n 0, 1) := by decide +kernel
theorem dX2_readTelling_39 : decode cX2_readTelling 39 = .ok (.getfield 105, 3) := by decide +kernel
theorem dX2_readTelling_42 : decode cX2_readTelling 42 = .ok (.invokevirtual 108, 3) := by decide +kernel
theorem dX2_readTelling_45 : decode cX2_readTelling 45 = .ok (.aload_n 0, 1) := by decide +kernel
theorem dX2_readTelling_46 : decode cX2_readTelling 46 = .ok (.getfield 36, 3) := by decide +kernel
theorem dX2_readTelling_49 : decode cX2_readTelling 49 = .ok (.getfield 136, 3) := by decide +kernel
theorem dX2_readTelling_52 : decode cX2_readTelling 52 = .ok (.istore_n 1, 1) := by decide +kernel
theorem dX2_readTelling_53 : decode cX2_readTelling 53 = .ok (.aload_n 0, 1) := by decide +kernel
theorem dX2_readTelling_54 : decode cX2_readTelling 54 = .ok (.getfield 36, 3) := by decide +kernel
theorem dX2_readTelling_57 : decode cX2_readTelling 57 = .ok (.dup, 1) := by decide +kernel
theorem dX2_readTelling_58 : decode cX2_readTelling 58 = .ok (.getfield 136, 3) := by decide +kernel
theorem dX2_readTelling_61 : decode cX2_readTelling 61 = .ok (.iconst 1, 1) := by decide +kernel
theorem dX2_readTelling_62 : decode cX2_readTelling 62 = .ok (.iadd, 1) := by decide +kernel
theorem dX2_readTelling_63 : decode cX2_readTelling 63 = .ok (.putfield 136, 3) := by decide +kernel
theorem dX2_readTelling_66 : decode cX2_readTelling 66 = .ok (.aload_n 0, 1) := by decide +kernel
theorem dX2_readTelling_67 : decode cX2_readTelling 67 = .ok (.getfield 14, 3) := by decide +kernel
theorem dX2_readTelling_70 : decode cX2_readTelling 70 = .ok (.bipush 61, 2) := by decide +kernel
theorem dX2_readTelling_72 : decode cX2_readTelling 72 = .ok (.invokevirtual 87, 3) := by decide +kernel
theorem dX2_readTelling_75 : decode cX2_readTelling 75 = .ok (.ifCond .eq 25, 3) := by decide +kernel
theorem dX2_readTelling_78 : decode cX2_readTelling 78 = .ok (.aload_n 0, 1) := by decide +kernel
theorem dX2_readTelling_79 : decode cX2_readTelling 79 = .ok (.getfield 32, 3) := by decide +kernel
theorem dX2_readTelling_82 : decode cX2_readTelling 82 = .ok (.invokevirtual 167, 3) := by decide +kernel
theorem dX2_readTelling_85 : decode cX2_readTelling 85 = .ok (.ifCond .eq 15, 3) := by decide +kernel
theorem dX2_readTelling_88 : decode cX2_readTelling 88 = .ok (.aload_n 0, 1) := by decide +kernel
theorem dX2_readTelling_89 : decode cX2_readTelling 89 = .ok (.getfield 14, 3) := by decide +kernel
theorem dX2_readTelling_92 : decode cX2_readTelling 92 = .ok (.bipush 59, 2) := by decide +kernel
theorem dX2_readTelling_94 : decode cX2_readTelling 94 = .ok (.invokevirtual 87, 3) := by decide +kernel
theorem dX2_readTelling_97 : decode cX2_readTelling 97 = .ok (.ifCond .ne 5, 3) := by decide +kernel
theorem dX2_readTelling_100 : decode cX2_readTelling 100 = .ok (.iconst 0, 1) := by decide +kernel
theorem dX2_readTelling_101 : decode cX2_readTelling 101 = .ok (.ireturn, 1) := by decide +kernel
theorem dX2_readTelling_102 : decode cX2_readTelling 102 = .ok (.aload_n 0, 1) := by decide +kernel
theorem dX2_readTelling_103 : decode cX2_readTelling 103 = .ok (.getfield 36, 3) := by decide +kernel
theorem dX2_readTelling_106 : decode cX2_readTelling 106 = .ok (.iconst 4, 1) := by decide +kernel
theorem dX2_readTelling_107 : decode cX2_readTelling 107 = .ok (.aload_n 0, 1) := by decide +kernel
theorem dX2_readTelling_108 : decode cX2_readTelling 108 = .ok (.getfield 32, 3) := by decide +kernel
theorem dX2_readTelling_111 : decode cX2_readTelling 111 = .ok (.invokevirtual 170, 3) := by decide +kernel
theorem dX2_readTelling_114 : decode cX2_readTelling 114 = .ok (.iconst (-1), 1) := by decide +kernel
theorem dX2_readTelling_115 : decode cX2_readTelling 115 = .ok (.iload_n 1, 1) := by decide +kernel
theorem dX2_readTelling_116 : decode cX2_readTelling 116 = .ok (.invokevirtual 74, 3) := by decide +kernel
theorem dX2_readTelling_119 : decode cX2_readTelling 119 = .ok (.pop, 1) := by decide +kernel
theorem dX2_readTelling_120 : decode cX2_readTelling 120 = .ok (.aload_n 0, 1) := by decide +kernel
theorem dX2_readTelling_121 : decode cX2_readTelling 121 = .ok (.getfield 23, 3) := by decide +kernel
theorem dX2_readTelling_124 : decode cX2_readTelling 124 = .ok (.aload_n 0, 1) := by decide +kernel
theorem dX2_readTelling_125 : decode cX2_readTelling 125 = .ok (.getfield 94, 3) := by decide +kernel
theorem dX2_readTelling_128 : decode cX2_readTelling 128 = .ok (.iconst 3, 1) := by decide +kernel
theorem dX2_readTelling_129 : decode cX2_readTelling 129 = .ok (.iload_n 1, 1) := by decide +kernel
theorem dX2_readTelling_130 : decode cX2_readTelling 130 = .ok (.invokevirtual 98, 3) := by decide +kernel
theorem dX2_readTelling_133 : decode cX2_readTelling 133 = .ok (.iconst 1, 1) := by decide +kernel
theorem dX2_readTelling_134 : decode cX2_readTelling 134 = .ok (.ireturn, 1) := by decide +kernel
theorem dX2_readSetting_0 : decode cX2_readSetting 0 = .ok (.aload_n 0, 1) := by decide +kernel
theorem dX2_readSetting_1 : decode cX2_readSetting 1 = .ok (.getfield 23, 3) := by decide +kernel
theorem dX2_readSetting_4 : decode cX2_readSetting 4 = .ok (.aload_n 0, 1) := by decide +kernel
theorem dX2_readSetting_5 : decode cX2_readSetting 5 = .ok (.getfield 14, 3) := by decide +kernel
theorem dX2_readSetting_8 : decode cX2_readSetting 8 = .ok (.getfield 118, 3) := by decide +kernel
theorem dX2_readSetting_11 : decode cX2_readSetting 11 = .ok (.invokevirtual 174, 3) := by decide +kernel
theorem dX2_readSetting_14 : decode cX2_readSetting 14 = .ok (.istore_n 1, 1) := by decide +kernel
theorem dX2_readSetting_15 : decode cX2_readSetting 15 = .ok (.aload_n 0, 1) := by decide +kernel
theorem dX2_readSetting_16 : decode cX2_readSetting 16 = .ok (.getfield 14, 3) := by decide +kernel
theorem dX2_readSetting_19 : decode cX2_readSetting 19 = .ok (.getfield 121, 3) := by decide +kernel
theorem dX2_readSetting_22 : decode cX2_readSetting 22 = .ok (.istore_n 2, 1) := by decide +kernel
theorem dX2_readSetting_23 : decode cX2_readSetting 23 = .ok (.aload_n 0, 1) := by decide +kernel
theorem dX2_readSetting_24 : decode cX2_readSetting 24 = .ok (.getfield 14, 3) := by decide +kernel
theorem dX2_readSetting_27 : decode cX2_readSetting 27 = .ok (.invokevirtual 139, 3) := by decide +kernel
theorem dX2_readSetting_30 : decode cX2_readSetting 30 = .ok (.aload_n 0, 1) := by decide +kernel
theorem dX2_readSetting_31 : decode cX2_readSetting 31 = .ok (.getfield 14, 3) := by decide +kernel
theorem dX2_readSetting_34 : decode cX2_readSetting 34 = .ok (.getfield 81, 3) := by decide +kernel
theorem dX2_readSetting_37 : decode cX2_readSetting 37 = .ok (.bipush 91, 2) := by decide +kernel
theorem dX2_readSetting_39 : decode cX2_readSetting 39 = .ok (.if_icmp .ne 7, 3) := by decide +kernel
theorem dX2_readSetting_42 : decode cX2_readSetting 42 = .ok (.iconst 1, 1) := by decide +kernel
theorem dX2_readSetting_43 : decode cX2_readSetting 43 = .ok (.goto 4, 3) := by decide +kernel
theorem dX2_readSetting_46 : decode cX2_readSetting 46 = .ok (.iconst 0, 1) := by decide +kernel
theorem dX2_readSetting_47 : decode cX2_readSetting 47 = .ok (.istore_n 3, 1) := by decide +kernel
theorem dX2_readSetting_48 : decode cX2_readSetting 48 = .ok (.aload_n 0, 1) := by decide +kernel
theorem dX2_readSetting_49 : decode cX2_readSetting 49 = .ok (.getfield 14, 3) := by decide +kernel
theorem dX2_readSetting_52 : decode cX2_readSetting 52 = .ok (.aload_n 0, 1) := by decide +kernel
theorem dX2_readSetting_53 : decode cX2_readSetting 53 = .ok (.getfield 23, 3) := by decide +kernel
theorem dX2_readSetting_56 : decode cX2_readSetting 56 = .ok (.iload_n 1, 1) := by decide +kernel
theorem dX2_readSetting_57 : decode cX2_readSetting 57 = .ok (.iload_n 3, 1) := by decide +kernel
theorem dX2_readSetting_58 : decode cX2_readSetting 58 = .ok (.invokevirtual 177, 3) := by decide +kernel
theorem dX2_readSetting_61 : decode cX2_readSetting 61 = .ok (.iload_n 2, 1) := by decide +kernel
theorem dX2_readSetting_62 : decode cX2_readSetting 62 = .ok (.invokevirtual 108, 3) := by decide +kernel
theorem dX2_readSetting_65 : decode cX2_readSetting 65 = .ok (.iconst (-1), 1) := by decide +kernel
theorem dX2_readSetting_66 : decode cX2_readSetting 66 = .ok (.istore 4, 2) := by decide +kernel
theorem dX2_readSetting_68 : decode cX2_readSetting 68 = .ok (.iload_n 3, 1) := by decide +kernel
theorem dX2_readSetting_69 : decode cX2_readSetting 69 = .ok (.ifCond .eq 55, 3) := by decide +kernel
theorem dX2_readSetting_72 : decode cX2_readSetting 72 = .ok (.aload_n 0, 1) := by decide +kernel
theorem dX2_readSetting_73 : decode cX2_readSetting 73 = .ok (.getfield 14, 3) := by decide +kernel
theorem dX2_readSetting_76 : decode cX2_readSetting 76 = .ok (.bipush 91, 2) := by decide +kernel
theorem dX2_readSetting_78 : decode cX2_readSetting 78 = .ok (.invokevirtual 115, 3) := by decide +kernel
theorem dX2_readSetting_81 : decode cX2_readSetting 81 = .ok (.ifCond .eq 25, 3) := by decide +kernel
theorem dX2_readSetting_84 : decode cX2_readSetting 84 = .ok (.aload_n 0, 1) := by decide +kernel
theorem dX2_readSetting_85 : decode cX2_readSetting 85 = .ok (.getfield 32, 3) := by decide +kernel
theorem dX2_readSetting_88 : decode cX2_readSetting 88 = .ok (.invokevirtual 167, 3) := by decide +kernel
theorem dX2_readSetting_91 : decode cX2_readSetting 91 = .ok (.ifCond .eq 15, 3) := by decide +kernel
theorem dX2_readSetting_94 : decode cX2_readSetting 94 = .ok (.aload_n 0, 1) := by decide +kernel
theorem dX2_readSetting_95 : decode cX2_readSetting 95 = .ok (.getfield 14, 3) := by decide +kernel
theorem dX2_readSetting_98 : decode cX2_readSetting 98 = .ok (.bipush 93, 2) := by decide +kernel
theorem dX2_readSetting_100 : decode cX2_readSetting 100 = .ok (.invokevirtual 87, 3) := by decide +kernel
theorem dX2_readSetting_103 : decode cX2_readSetting 103 = .ok (.ifCond .ne 5, 3) := by decide +kernel
theorem dX2_readSetting_106 : decode cX2_readSetting 106 = .ok (.iconst 0, 1) := by decide +kernel
theorem dX2_readSetting_107 : decode cX2_readSetting 107 = .ok (.ireturn, 1) := by decide +kernel
theorem dX2_readSetting_108 : decode cX2_readSetting 108 = .ok (.aload_n 0, 1) := by decide +kernel
theorem dX2_readSetting_109 : decode cX2_readSetting 109 = .ok (.getfield 14, 3) := by decide +kernel
theorem dX2_readSetting_112 : decode cX2_readSetting 112 = .ok (.invokevirtual 130, 3) := by decide +kernel
theorem dX2_readSetting_115 : decode cX2_readSetting 115 = .ok (.aload_n 0, 1) := by decide +kernel
theorem dX2_readSetting_116 : decode cX2_readSetting 116 = .ok (.getfield 32, 3) := by decide +kernel
theorem dX2_readSetting_119 : decode cX2_readSetting 119 = .ok (.invokevirtual 170, 3) := by decide +kernel
theorem dX2_readSetting_122 : decode cX2_readSetting 122 = .ok (.istore 4, 2) := by decide +kernel
theorem dX2_readSetting_124 : decode cX2_readSetting 124 = .ok (.aload_n 0, 1) := by decide +kernel
theorem dX2_readSetting_125 : decode cX2_readSetting 125 = .ok (.getfield 14, 3) := by decide +kernel
theorem dX2_readSetting_128 : decode cX2_readSetting 128 = .ok (.bipush 61, 2) := by decide +kernel
theorem dX2_readSetting_130 : decode cX2_readSetting 130 = .ok (.invokevirtual 87, 3) := by decide +kernel
theorem dX2_readSetting_133 : decode cX2_readSetting 133 = .ok (.ifCond .eq 25, 3) := by decide +kernel
theorem dX2_readSetting_136 : decode cX2_readSetting 136 = .ok (.aload_n 0, 1) := by decide +kernel
theorem dX2_readSetting_137 : decode cX2_readSetting 137 = .ok (.getfield 32, 3) := by decide +kernel
theorem dX2_readSetting_140 : decode cX2_readSetting 140 = .ok (.invokevirtual 167, 3) := by decide +kernel
theorem dX2_readSetting_143 : decode cX2_readSetting 143 = .ok (.ifCond .eq 15, 3) := by decide +kernel
theorem dX2_readSetting_146 : decode cX2_readSetting 146 = .ok (.aload_n 0, 1) := by decide +kernel
theorem dX2_readSetting_147 : decode cX2_readSetting 147 = .ok (.getfield 14, 3) := by decide +kernel
theorem dX2_readSetting_150 : decode cX2_readSetting 150 = .ok (.bipush 59, 2) := by decide +kernel
theorem dX2_readSetting_152 : decode cX2_readSetting 152 = .ok (.invokevirtual 87, 3) := by decide +kernel
theorem dX2_readSetting_155 : decode cX2_readSetting 155 = .ok (.ifCond .ne 5, 3) := by decide +kernel
theorem dX2_readSetting_158 : decode cX2_readSetting 158 = .ok (.iconst 0, 1) := by decide +kernel
theorem dX2_readSetting_159 : decode cX2_readSetting 159 = .ok (.ireturn, 1) := by decide +kernel
theorem dX2_readSetting_160 : decode cX2_readSetting 160 = .ok (.aload_n 0, 1) := by decide +kernel
theorem dX2_readSetting_161 : decode cX2_readSetting 161 = .ok (.getfield 32, 3) := by decide +kernel
theorem dX2_readSetting_164 : decode cX2_readSetting 164 = .ok (.invokevirtual 170, 3) := by decide +kernel
theorem dX2_readSetting_167 : decode cX2_readSetting 167 = .ok (.istore 5, 2) := by decide +kernel
theorem dX2_readSetting_169 : decode cX2_readSetting 169 = .ok (.iload_n 3, 1) := by decide +kernel
theorem dX2_readSetting_170 : decode cX2_readSetting 170 = .ok (.ifCond .eq 27, 3) := by decide +kernel
theorem dX2_readSetting_173 : decode cX2_readSetting 173 = .ok (.aload_n 0, 1) := by decide +kernel
theorem dX2_readSetting_174 : decode cX2_readSetting 174 = .ok (.getfield 36, 3) := by decide +kernel
theorem dX2_readSetting_177 : decode cX2_readSetting 177 = .ok (.iconst 5, 1) := by decide +kernel
theorem dX2_readSetting_178 : decode cX2_readSetting 178 = .ok (.iload 4, 2) := by decide +kernel
theorem dX2_readSetting_180 : decode cX2_readSetting 180 = .ok (.iload 5, 2) := by decide +kernel
theorem dX2_readSetting_182 : decode cX2_readSetting 182 = .ok (.aload_n 0, 1) := by decide +kernel
theorem dX2_readSetting_183 : decode cX2_readSetting 183 = .ok (.getfield 23, 3) := by decide +kernel
theorem dX2_readSetting_186 : decode cX2_readSetting 186 = .ok (.iload_n 1, 1) := by decide +kernel
theorem dX2_readSetting_187 : decode cX2_readSetting 187 = .ok (.invokevirtual 181, 3) := by decide +kernel
theorem dX2_readSetting_190 : decode cX2_readSetting 190 = .ok (.invokevirtual 74, 3) := by decide +kernel
theorem dX2_readSetting_193 : decode cX2_readSetting 193 = .ok (.pop, 1) := by decide +kernel
theorem dX2_readSetting_194 : decode cX2_readSetting 194 = .ok (.goto 23, 3) := by decide +kernel
theorem dX2_readSetting_197 : decode cX2_readSetting 197 = .ok (.aload_n 0, 1) := by decide +kernel
theorem dX2_readSetting_198 : decode cX2_readSetting 198 = .ok (.getfield 36, 3) := by decide +kernel
theorem dX2_readSetting_201 : decode cX2_readSetting 201 = .ok (.iconst 4, 1) := by decide +kernel
theorem dX2_readSetting_202 : decode cX2_readSetting 202 = .ok (.iload 5, 2) := by decide +kernel
theorem dX2_readSetting_204 : decode cX2_readSetting 204 = .ok (.iconst (-1), 1) := by decide +kernel
theorem dX2_readSetting_205 : decode cX2_readSetting 205 = .ok (.aload_n 0, 1) := by decide +kernel
theorem dX2_readSetting_206 : decode cX2_readSetting 206 = .ok (.getfield 23, 3) := by decide +kernel
theorem dX2_readSetting_209 : decode cX2_readSetting 209 = .ok (.iload_n 1, 1) := by decide +kernel
theorem dX2_readSetting_210 : decode cX2_readSetting 210 = .ok (.invokevirtual 181, 3) := by decide +kernel
theorem dX2_readSetting_213 : decode cX2_readSetting 213 = .ok (.invokevirtual 74, 3) := by decide +kernel
theorem dX2_readSetting_216 : decode cX2_readSetting 216 = .ok (.pop, 1) := by decide +kernel
theorem dX2_readSetting_217 : decode cX2_readSetting 217 = .ok (.iconst 1, 1) := by decide +kernel
theorem dX2_readSetting_218 : decode cX2_readSetting 218 = .ok (.ireturn, 1) := by decide +kernel
theorem dX2_readIf_0 : decode cX2_readIf 0 = .ok (.aload_n 0, 1) := by decide +kernel
theorem dX2_readIf_1 : decode cX2_readIf 1 = .ok (.invokevirtual 185, 3) := by decide +kernel
theorem dX2_readIf_4 : decode cX2_readIf 4 = .ok (.aload_n 0, 1) := by decide +kernel
theorem dX2_readIf_5 : decode cX2_readIf 5 = .ok (.getfield 14, 3) := by decide +kernel
theorem dX2_readIf_8 : decode cX2_readIf 8 = .ok (.iconst 5, 1) := by decide +kernel
theorem dX2_readIf_9 : decode cX2_readIf 9 = .ok (.invokevirtual 115, 3) := by decide +kernel
theorem dX2_readIf_12 : decode cX2_readIf 12 = .ok (.ifCond .eq 10, 3) := by decide +kernel
theorem dX2_readIf_15 : decode cX2_readIf 15 = .ok (.aload_n 0, 1) := by decide +kernel
theorem dX2_readIf_16 : decode cX2_readIf 16 = .ok (.invokevirtual 188, 3) := by decide +kernel
theorem dX2_readIf_19 : decode cX2_readIf 19 = .ok (.ifCond .ne 5, 3) := by decide +kernel
theorem dX2_readIf_22 : decode cX2_readIf 22 = .ok (.iconst 0, 1) := by decide +kernel
theorem dX2_readIf_23 : decode cX2_readIf 23 = .ok (.ireturn, 1) := by decide +kernel
theorem dX2_readIf_24 : decode cX2_readIf 24 = .ok (.aload_n 0, 1) := by decide +kernel
theorem dX2_readIf_25 : decode cX2_readIf 25 = .ok (.getfield 36, 3) := by decide +kernel
theorem dX2_readIf_28 : decode cX2_readIf 28 = .ok (.invokevirtual 191, 3) := by decide +kernel
theorem dX2_readIf_31 : decode cX2_readIf 31 = .ok (.istore_n 1, 1) := by decide +kernel
theorem dX2_readIf_32 : decode cX2_readIf 32 = .ok (.aload_n 0, 1) := by decide +kernel
theorem dX2_readIf_33 : decode cX2_readIf 33 = .ok (.getfield 36, 3) := by decide +kernel
theorem dX2_readIf_36 : decode cX2_readIf 36 = .ok (.bipush 6, 2) := by decide +kernel
theorem dX2_readIf_38 : decode cX2_readIf 38 = .ok (.aload_n 0, 1) := by decide +kernel
theorem dX2_readIf_39 : decode cX2_readIf 39 = .ok (.getfield 32, 3) := by decide +kernel
theorem dX2_readIf_42 : decode cX2_readIf 42 = .ok (.invokevirtual 170, 3) := by decide +kernel
theorem dX2_readIf_45 : decode cX2_readIf 45 = .ok (.iconst (-1), 1) := by decide +kernel
theorem dX2_readIf_46 : decode cX2_readIf 46 = .ok (.iload_n 1, 1) := by decide +kernel
theorem dX2_readIf_47 : decode cX2_readIf 47 = .ok (.invokevirtual 74, 3) := by decide +kernel
theorem dX2_readIf_50 : decode cX2_readIf 50 = .ok (.pop, 1) := by decide +kernel
theorem dX2_readIf_51 : decode cX2_readIf 51 = .ok (.aload_n 0, 1) := by decide +kernel
theorem dX2_readIf_52 : decode cX2_readIf 52 = .ok (.getfield 36, 3) := by decide +kernel
theorem dX2_readIf_55 : decode cX2_readIf 55 = .ok (.bipush 7, 2) := by decide +kernel
theorem dX2_readIf_57 : decode cX2_readIf 57 = .ok (.iconst (-1), 1) := by decide +kernel
theorem dX2_readIf_58 : decode cX2_readIf 58 = .ok (.iconst (-1), 1) := by decide +kernel
theorem dX2_readIf_59 : decode cX2_readIf 59 = .ok (.iconst (-1), 1) := by decide +kernel
theorem dX2_readIf_60 : decode cX2_readIf 60 = .ok (.invokevirtual 74, 3) := by decide +kernel
theorem dX2_readIf_63 : decode cX2_readIf 63 = .ok (.pop, 1) := by decide +kernel
theorem dX2_readIf_64 : decode cX2_readIf 64 = .ok (.aload_n 0, 1) := by decide +kernel
theorem dX2_readIf_65 : decode cX2_readIf 65 = .ok (.invokevirtual 194, 3) := by decide +kernel
theorem dX2_readIf_68 : decode cX2_readIf 68 = .ok (.ifCond .ne 5, 3) := by decide +kernel
theorem dX2_readIf_71 : decode cX2_readIf 71 = .ok (.iconst 0, 1) := by decide +kernel
theorem dX2_readIf_72 : decode cX2_readIf 72 = .ok (.ireturn, 1) := by decide +kernel
theorem dX2_readIf_73 : decode cX2_readIf 73 = .ok (.aload_n 0, 1) := by decide +kernel
theorem dX2_readIf_74 : decode cX2_readIf 74 = .ok (.getfield 14, 3) := by decide +kernel
theorem dX2_readIf_77 : decode cX2_readIf 77 = .ok (.getfield 81, 3) := by decide +kernel
theorem dX2_readIf_80 : decode cX2_readIf 80 = .ok (.bipush 6, 2) := by decide +kernel
theorem dX2_readIf_82 : decode cX2_readIf 82 = .ok (.if_icmp .ne 59, 3) := by decide +kernel
theorem dX2_readIf_85 : decode cX2_readIf 85 = .ok (.aload_n 0, 1) := by decide +kernel
theorem dX2_readIf_86 : decode cX2_readIf 86 = .ok (.getfield 36, 3) := by decide +kernel
theorem dX2_readIf_89 : decode cX2_readIf 89 = .ok (.invokevirtual 191, 3) := by decide +kernel
theorem dX2_readIf_92 : decode cX2_readIf 92 = .ok (.istore_n 2, 1) := by decide +kernel
theorem dX2_readIf_93 : decode cX2_readIf 93 = .ok (.aload_n 0, 1) := by decide +kernel
theorem dX2_readIf_94 : decode cX2_readIf 94 = .ok (.getfield 36, 3) := by decide +kernel
theorem dX2_readIf_97 : decode cX2_readIf 97 = .ok (.bipush 8, 2) := by decide +kernel
theorem dX2_readIf_99 : decode cX2_readIf 99 = .ok (.iconst (-1), 1) := by decide +kernel
theorem dX2_readIf_100 : decode cX2_readIf 100 = .ok (.iconst (-1), 1) := by decide +kernel
theorem dX2_readIf_101 : decode cX2_readIf 101 = .ok (.iload_n 2, 1) := by decide +kernel
theorem dX2_readIf_102 : decode cX2_readIf 102 = .ok (.invokevirtual 74, 3) := by decide +kernel
theorem dX2_readIf_105 : decode cX2_readIf 105 = .ok (.pop, 1) := by decide +kernel
theorem dX2_readIf_106 : decode cX2_readIf 106 = .ok (.aload_n 0, 1) := by decide +kernel
theorem dX2_readIf_107 : decode cX2_readIf 107 = .ok (.getfield 36, 3) := by decide +kernel
theorem dX2_readIf_110 : decode cX2_readIf 110 = .ok (.iload_n 1, 1) := by decide +kernel
theorem dX2_readIf_111 : decode cX2_readIf 111 = .ok (.invokevirtual 197, 3) := by decide +kernel
theorem dX2_readIf_114 : decode cX2_readIf 114 = .ok (.aload_n 0, 1) := by decide +kernel
theorem dX2_readIf_115 : decode cX2_readIf 115 = .ok (.getfield 14, 3) := by decide +kernel
theorem dX2_readIf_118 : decode cX2_readIf 118 = .ok (.invokevirtual 139, 3) := by decide +kernel
theorem dX2_readIf_121 : decode cX2_readIf 121 = .ok (.aload_n 0, 1) := by decide +kernel
theorem dX2_readIf_122 : decode cX2_readIf 122 = .ok (.invokevirtual 194, 3) := by decide +kernel
theorem dX2_readIf_125 : decode cX2_readIf 125 = .ok (.ifCond .ne 5, 3) := by decide +kernel
theorem dX2_readIf_128 : decode cX2_readIf 128 = .ok (.iconst 0, 1) := by decide +kernel
theorem dX2_readIf_129 : decode cX2_readIf 129 = .ok (.ireturn, 1) := by decide +kernel
theorem dX2_readIf_130 : decode cX2_readIf 130 = .ok (.aload_n 0, 1) := by decide +kernel
theorem dX2_readIf_131 : decode cX2_readIf 131 = .ok (.getfield 36, 3) := by decide +kernel
theorem dX2_readIf_134 : decode cX2_readIf 134 = .ok (.iload_n 2, 1) := by decide +kernel
theorem dX2_readIf_135 : decode cX2_readIf 135 = .ok (.invokevirtual 197, 3) := by decide +kernel
theorem dX2_readIf_138 : decode cX2_readIf 138 = .ok (.goto 11, 3) := by decide +kernel
theorem dX2_readIf_141 : decode cX2_readIf 141 = .ok (.aload_n 0, 1) := by decide +kernel
theorem dX2_readIf_142 : decode cX2_readIf 142 = .ok (.getfield 36, 3) := by decide +kernel
theorem dX2_readIf_145 : decode cX2_readIf 145 = .ok (.iload_n 1, 1) := by decide +kernel
theorem dX2_readIf_146 : decode cX2_readIf 146 = .ok (.invokevirtual 197, 3) := by decide +kernel
theorem dX2_readIf_149 : decode cX2_readIf 149 = .ok (.aload_n 0, 1) := by decide +kernel
theorem dX2_readIf_150 : decode cX2_readIf 150 = .ok (.getfield 14, 3) := by decide +kernel
theorem dX2_readIf_153 : decode cX2_readIf 153 = .ok (.invokevirtual 130, 3) := by decide +kernel
theorem dX2_readIf_156 : decode cX2_readIf 156 = .ok (.iconst 1, 1) := by decide +kernel
theorem dX2_readIf_157 : decode cX2_readIf 157 = .ok (.ireturn, 1) := by decide +kernel
theorem dX2_readWhile_0 : decode cX2_readWhile 0 = .ok (.aload_n 0, 1) := by decide +kernel
theorem dX2_readWhile_1 : decode cX2_readWhile 1 = .ok (.invokevirtual 185, 3) := by decide +kernel
theorem dX2_readWhile_4 : decode cX2_readWhile 4 = .ok (.aload_n 0, 1) := by decide +kernel
theorem dX2_readWhile_5 : decode cX2_readWhile 5 = .ok (.getfield 14, 3) := by decide +kernel
theorem dX2_readWhile_8 : decode cX2_readWhile 8 = .ok (.bipush 7, 2) := by decide +kernel
theorem dX2_readWhile_10 : decode cX2_readWhile 10 = .ok (.invokevirtual 115, 3) := by decide +kernel
theorem dX2_readWhile_13 : decode cX2_readWhile 13 = .ok (.ifCond .ne 5, 3) := by decide +kernel
theorem dX2_readWhile_16 : decode cX2_readWhile 16 = .ok (.iconst 0, 1) := by decide +kernel
theorem dX2_readWhile_17 : decode cX2_readWhile 17 = .ok (.ireturn, 1) := by decide +kernel
theorem dX2_readWhile_18 : decode cX2_readWhile 18 = .ok (.aload_n 0, 1) := by decide +kernel
theorem dX2_readWhile_19 : decode cX2_readWhile 19 = .ok (.getfield 61, 3) := by decide +kernel
theorem dX2_readWhile_22 : decode cX2_readWhile 22 = .ok (.istore_n 1, 1) := by decide +kernel
theorem dX2_readWhile_23 : decode cX2_readWhile 23 = .ok (.aload_n 0, 1) := by decide +kernel
theorem dX2_readWhile_24 : decode cX2_readWhile 24 = .ok (.getfield 64, 3) := by decide +kernel
theorem dX2_readWhile_27 : decode cX2_readWhile 27 = .ok (.istore_n 2, 1) := by decide +kernel
theorem dX2_readWhile_28 : decode cX2_readWhile 28 = .ok (.aload_n 0, 1) := by decide +kernel
theorem dX2_readWhile_29 : decode cX2_readWhile 29 = .ok (.getfield 36, 3) := by decide +kernel
theorem dX2_readWhile_32 : decode cX2_readWhile 32 = .ok (.invokevirtual 191, 3) := by decide +kernel
theorem dX2_readWhile_35 : decode cX2_readWhile 35 = .ok (.istore_n 3, 1) := by decide +kernel
theorem dX2_readWhile_36 : decode cX2_readWhile 36 = .ok (.aload_n 0, 1) := by decide +kernel
theorem dX2_readWhile_37 : decode cX2_readWhile 37 = .ok (.getfield 36, 3) := by decide +kernel
theorem dX2_readWhile_40 : decode cX2_readWhile 40 = .ok (.invokevirtual 191, 3) := by decide +kernel
theorem dX2_readWhile_43 : decode cX2_readWhile 43 = .ok (.istore 4, 2) := by decide +kernel
theorem dX2_readWhile_45 : decode cX2_readWhile 45 = .ok (.aload_n 0, 1) := by decide +kernel
theorem dX2_readWhile_46 : decode cX2_readWhile 46 = .ok (.getfield 36, 3) := by decide +kernel
theorem dX2_readWhile_49 : decode cX2_readWhile 49 = .ok (.iload_n 3, 1) := by decide +kernel
theorem dX2_readWhile_50 : decode cX2_readWhile 50 = .ok (.invokevirtual 197, 3) := by decide +kernel
theorem dX2_readWhile_53 : decode cX2_readWhile 53 = .ok (.aload_n 0, 1) := by decide +kernel
theorem dX2_readWhile_54 : decode cX2_readWhile 54 = .ok (.invokevirtual 188, 3) := by decide +kernel
theorem dX2_readWhile_57 : decode cX2_readWhile 57 = .ok (.ifCond .ne 5, 3) := by decide +kernel
theorem dX2_readWhile_60 : decode cX2_readWhile 60 = .ok (.iconst 0, 1) := by decide +kernel
theorem dX2_readWhile_61 : decode cX2_readWhile 61 = .ok (.ireturn, 1) := by decide +kernel
theorem dX2_readWhile_62 : decode cX2_readWhile 62 = .ok (.aload_n 0, 1) := by decide +kernel
theorem dX2_readWhile_63 : decode cX2_readWhile 63 = .ok (.getfield 36, 3) := by decide +kernel
theorem dX2_readWhile_66 : decode cX2_readWhile 66 = .ok (.bipush 6, 2) := by decide +kernel
theorem dX2_readWhile_68 : decode cX2_readWhile 68 = .ok (.aload_n 0, 1) := by decide +kernel
theorem dX2_readWhile_69 : decode cX2_readWhile 69 = .ok (.getfield 32, 3) := by decide +kernel
theorem dX2_readWhile_72 : decode cX2_readWhile 72 = .ok (.invokevirtual 170, 3) := by decide +kernel
theorem dX2_readWhile_75 : decode cX2_readWhile 75 = .ok (.iconst (-1), 1) := by decide +kernel
theorem dX2_readWhile_76 : decode cX2_readWhile 76 = .ok (.iload 4, 2) := by decide +kernel
theorem dX2_readWhile_78 : decode cX2_readWhile 78 = .ok (.invokevirtual 74, 3) := by decide +kernel
theorem dX2_readWhile_81 : decode cX2_readWhile 81 = .ok (.pop, 1) := by decide +kernel
theorem dX2_readWhile_82 : decode cX2_readWhile 82 = .ok (.aload_n 0, 1) := by decide +kernel
theorem dX2_readWhile_83 : decode cX2_readWhile 83 = .ok (.getfield 36, 3) := by decide +kernel
theorem dX2_readWhile_86 : decode cX2_readWhile 86 = .ok (.bipush 7, 2) := by decide +kernel
theorem dX2_readWhile_88 : decode cX2_readWhile 88 = .ok (.iconst (-1), 1) := by decide +kernel
theorem dX2_readWhile_89 : decode cX2_readWhile 89 = .ok (.iconst (-1), 1) := by decide +kernel
theorem dX2_readWhile_90 : decode cX2_readWhile 90 = .ok (.iconst (-1), 1) := by decide +kernel
theorem dX2_readWhile_91 : decode cX2_readWhile 91 = .ok (.invokevirtual 74, 3) := by decide +kernel
theorem dX2_readWhile_94 : decode cX2_readWhile 94 = .ok (.pop, 1) := by decide +kernel
theorem dX2_readWhile_95 : decode cX2_readWhile 95 = .ok (.aload_n 0, 1) := by decide +kernel
theorem dX2_readWhile_96 : decode cX2_readWhile 96 = .ok (.iload_n 3, 1) := by decide +kernel
theorem dX2_readWhile_97 : decode cX2_readWhile 97 = .ok (.putfield 61, 3) := by decide +kernel
theorem dX2_readWhile_100 : decode cX2_readWhile 100 = .ok (.aload_n 0, 1) := by decide +kernel
theorem dX2_readWhile_101 : decode cX2_readWhile 101 = .ok (.iload 4, 2) := by decide +kernel
theorem dX2_readWhile_103 : decode cX2_readWhile 103 = .ok (.putfield 64, 3) := by decide +kernel
theorem dX2_readWhile_106 : decode cX2_readWhile 106 = .ok (.aload_n 0, 1) := by decide +kernel
theorem dX2_readWhile_107 : decode cX2_readWhile 107 = .ok (.invokevirtual 194, 3) := by decide +kernel
theorem dX2_readWhile_110 : decode cX2_readWhile 110 = .ok (.ifCond .ne 5, 3) := by decide +kernel
theorem dX2_readWhile_113 : decode cX2_readWhile 113 = .ok (.iconst 0, 1) := by decide +kernel
theorem dX2_readWhile_114 : decode cX2_readWhile 114 = .ok (.ireturn, 1) := by decide +kernel
theorem dX2_readWhile_115 : decode cX2_readWhile 115 = .ok (.aload_n 0, 1) := by decide +kernel
theorem dX2_readWhile_116 : decode cX2_readWhile 116 = .ok (.iload_n 1, 1) := by decide +kernel
theorem dX2_readWhile_117 : decode cX2_readWhile 117 = .ok (.putfield 61, 3) := by decide +kernel
theorem dX2_readWhile_120 : decode cX2_readWhile 120 = .ok (.aload_n 0, 1) := by decide +kernel
theorem dX2_readWhile_121 : decode cX2_readWhile 121 = .ok (.iload_n 2, 1) := by decide +kernel
theorem dX2_readWhile_122 : decode cX2_readWhile 122 = .ok (.putfield 64, 3) := by decide +kernel
theorem dX2_readWhile_125 : decode cX2_readWhile 125 = .ok (.aload_n 0, 1) := by decide +kernel
theorem dX2_readWhile_126 : decode cX2_readWhile 126 = .ok (.getfield 36, 3) := by decide +kernel
theorem dX2_readWhile_129 : decode cX2_readWhile 129 = .ok (.bipush 8, 2) := by decide +kernel
theorem dX2_readWhile_131 : decode cX2_readWhile 131 = .ok (.iconst (-1), 1) := by decide +kernel
theorem dX2_readWhile_132 : decode cX2_readWhile 132 = .ok (.iconst (-1), 1) := by decide +kernel
theorem dX2_readWhile_133 : decode cX2_readWhile 133 = .ok (.iload_n 3, 1) := by decide +kernel
theorem dX2_readWhile_134 : decode cX2_readWhile 134 = .ok (.invokevirtual 74, 3) := by decide +kernel
theorem dX2_readWhile_137 : decode cX2_readWhile 137 = .ok (.pop, 1) := by decide +kernel
theorem dX2_readWhile_138 : decode cX2_readWhile 138 = .ok (.aload_n 0, 1) := by decide +kernel
theorem dX2_readWhile_139 : decode cX2_readWhile 139 = .ok (.getfield 36, 3) := by decide +kernel
theorem dX2_readWhile_142 : decode cX2_readWhile 142 = .ok (.iload 4, 2) := by decide +kernel
theorem dX2_readWhile_144 : decode cX2_readWhile 144 = .ok (.invokevirtual 197, 3) := by decide +kernel
theorem dX2_readWhile_147 : decode cX2_readWhile 147 = .ok (.aload_n 0, 1) := by decide +kernel
theorem dX2_readWhile_148 : decode cX2_readWhile 148 = .ok (.getfield 14, 3) := by decide +kernel
theorem dX2_readWhile_151 : decode cX2_readWhile 151 = .ok (.invokevirtual 130, 3) := by decide +kernel
theorem dX2_readWhile_154 : decode cX2_readWhile 154 = .ok (.iconst 1, 1) := by decide +kernel
theorem dX2_readWhile_155 : decode cX2_readWhile 155 = .ok (.ireturn, 1) := by decide +kernel
theorem dX2_countBranching_0 : decode cX2_countBranching 0 = .ok (.aload_n 0, 1) := by decide +kernel
theorem dX2_countBranching_1 : decode cX2_countBranching 1 = .ok (.getfield 14, 3) := by decide +kernel
theorem dX2_countBranching_4 : decode cX2_countBranching 4 = .ok (.aload_n 0, 1) := by decide +kernel
theorem dX2_countBranching_5 : decode cX2_countBranching 5 = .ok (.getfield 36, 3) := by decide +kernel
theorem dX2_countBranching_8 : decode cX2_countBranching 8 = .ok (.getfield 200, 3) := by decide +kernel
theorem dX2_countBranching_11 : decode cX2_countBranching 11 = .ok (.bipush 40, 2) := by decide +kernel
theorem dX2_countBranching_13 : decode cX2_countBranching 13 = .ok (.if_icmp .lt 8, 3) := by decide +kernel
theorem dX2_countBranching_16 : decode cX2_countBranching 16 = .ok (.bipush 6, 2) := by decide +kernel
theorem dX2_countBranching_18 : decode cX2_countBranching 18 = .ok (.goto 4, 3) := by decide +kernel
theorem dX2_countBranching_21 : decode cX2_countBranching 21 = .ok (.iconst 0, 1) := by decide +kernel
theorem dX2_countBranching_22 : decode cX2_countBranching 22 = .ok (.aload_n 0, 1) := by decide +kernel
theorem dX2_countBranching_23 : decode cX2_countBranching 23 = .ok (.getfield 14, 3) := by decide +kernel
theorem dX2_countBranching_26 : decode cX2_countBranching 26 = .ok (.getfield 121, 3) := by decide +kernel
theorem dX2_countBranching_29 : decode cX2_countBranching 29 = .ok (.invokevirtual 108, 3) := by decide +kernel
theorem dX2_countBranching_32 : decode cX2_countBranching 32 = .ok (.aload_n 0, 1) := by decide +kernel
theorem dX2_countBranching_33 : decode cX2_countBranching 33 = .ok (.getfield 36, 3) := by decide +kernel
theorem dX2_countBranching_36 : decode cX2_countBranching 36 = .ok (.dup, 1) := by decide +kernel
theorem dX2_countBranching_37 : decode cX2_countBranching 37 = .ok (.getfield 200, 3) := by decide +kernel
theorem dX2_countBranching_40 : decode cX2_countBranching 40 = .ok (.iconst 1, 1) := by decide +kernel
theorem dX2_countBranching_41 : decode cX2_countBranching 41 = .ok (.iadd, 1) := by decide +kernel
theorem dX2_countBranching_42 : decode cX2_countBranching 42 = .ok (.putfield 200, 3) := by decide +kernel
theorem dX2_countBranching_45 : decode cX2_countBranching 45 = .ok (.return_, 1) := by decide +kernel
theorem dX2_readCondition_0 : decode cX2_readCondition 0 = .ok (.aload_n 0, 1) := by decide +kernel
theorem dX2_readCondition_1 : decode cX2_readCondition 1 = .ok (.getfield 14, 3) := by decide +kernel
theorem dX2_readCondition_4 : decode cX2_readCondition 4 = .ok (.bipush 40, 2) := by decide +kernel
theorem dX2_readCondition_6 : decode cX2_readCondition 6 = .ok (.invokevirtual 115, 3) := by decide +kernel
theorem dX2_readCondition_9 : decode cX2_readCondition 9 = .ok (.ifCond .eq 13, 3) := by decide +kernel
theorem dX2_readCondition_12 : decode cX2_readCondition 12 = .ok (.aload_n 0, 1) := by decide +kernel
theorem dX2_readCondition_13 : decode cX2_readCondition 13 = .ok (.getfield 32, 3) := by decide +kernel
theorem dX2_readCondition_16 : decode cX2_readCondition 16 = .ok (.invokevirtual 167, 3) := by decide +kernel
theorem dX2_readCondition_19 : decode cX2_readCondition 19 = .ok (.ifCond .ne 5, 3) := by decide +kernel
theorem dX2_readCondition_22 : decode cX2_readCondition 22 = .ok (.iconst 0, 1) := by decide +kernel
theorem dX2_readCondition_23 : decode cX2_readCondition 23 = .ok (.ireturn, 1) := by decide +kernel
theorem dX2_readCondition_24 : decode cX2_readCondition 24 = .ok (.aload_n 0, 1) := by decide +kernel
theorem dX2_readCondition_25 : decode cX2_readCondition 25 = .ok (.getfield 14, 3) := by decide +kernel
theorem dX2_readCondition_28 : decode cX2_readCondition 28 = .ok (.invokevirtual 130, 3) := by decide +kernel
theorem dX2_readCondition_31 : decode cX2_readCondition 31 = .ok (.aload_n 0, 1) := by decide +kernel
theorem dX2_readCondition_32 : decode cX2_readCondition 32 = .ok (.getfield 14, 3) := by decide +kernel
theorem dX2_readCondition_35 : decode cX2_readCondition 35 = .ok (.bipush 41, 2) := by decide +kernel
theorem dX2_readCondition_37 : decode cX2_readCondition 37 = .ok (.invokevirtual 87, 3) := by decide +kernel
theorem dX2_readCondition_40 : decode cX2_readCondition 40 = .ok (.ireturn, 1) := by decide +kernel
theorem dX2_readBody_0 : decode cX2_readBody 0 = .ok (.aload_n 0, 1) := by decide +kernel
theorem dX2_readBody_1 : decode cX2_readBody 1 = .ok (.getfield 23, 3) := by decide +kernel
theorem dX2_readBody_4 : decode cX2_readBody 4 = .ok (.getfield 55, 3) := by decide +kernel
theorem dX2_readBody_7 : decode cX2_readBody 7 = .ok (.istore_n 1, 1) := by decide +kernel
theorem dX2_readBody_8 : decode cX2_readBody 8 = .ok (.aload_n 0, 1) := by decide +kernel
theorem dX2_readBody_9 : decode cX2_readBody 9 = .ok (.invokevirtual 146, 3) := by decide +kernel
theorem dX2_readBody_12 : decode cX2_readBody 12 = .ok (.istore_n 2, 1) := by decide +kernel
theorem dX2_readBody_13 : decode cX2_readBody 13 = .ok (.aload_n 0, 1) := by decide +kernel
theorem dX2_readBody_14 : decode cX2_readBody 14 = .ok (.getfield 23, 3) := by decide +kernel
theorem dX2_readBody_17 : decode cX2_readBody 17 = .ok (.iload_n 1, 1) := by decide +kernel
theorem dX2_readBody_18 : decode cX2_readBody 18 = .ok (.putfield 55, 3) := by decide +kernel
theorem dX2_readBody_21 : decode cX2_readBody 21 = .ok (.iload_n 2, 1) := by decide +kernel
theorem dX2_readBody_22 : decode cX2_readBody 22 = .ok (.ireturn, 1) := by decide +kernel
theorem dX2_readLeap_0 : decode cX2_readLeap 0 = .ok (.aload_n 0, 1) := by decide +kernel
theorem dX2_readLeap_1 : decode cX2_readLeap 1 = .ok (.getfield 14, 3) := by decide +kernel
theorem dX2_readLeap_4 : decode cX2_readLeap 4 = .ok (.iload_n 1, 1) := by decide +kernel
theorem dX2_readLeap_5 : decode cX2_readLeap 5 = .ok (.iconst (-1), 1) := by decide +kernel
theorem dX2_readLeap_6 : decode cX2_readLeap 6 = .ok (.if_icmp .ne 7, 3) := by decide +kernel
theorem dX2_readLeap_9 : decode cX2_readLeap 9 = .ok (.iconst 5, 1) := by decide +kernel
theorem dX2_readLeap_10 : decode cX2_readLeap 10 = .ok (.goto 4, 3) := by decide +kernel
theorem dX2_readLeap_13 : decode cX2_readLeap 13 = .ok (.iconst 0, 1) := by decide +kernel
theorem dX2_readLeap_14 : decode cX2_readLeap 14 = .ok (.aload_n 0, 1) := by decide +kernel
theorem dX2_readLeap_15 : decode cX2_readLeap 15 = .ok (.getfield 14, 3) := by decide +kernel
theorem dX2_readLeap_18 : decode cX2_readLeap 18 = .ok (.getfield 121, 3) := by decide +kernel
theorem dX2_readLeap_21 : decode cX2_readLeap 21 = .ok (.invokevirtual 108, 3) := by decide +kernel
theorem dX2_readLeap_24 : decode cX2_readLeap 24 = .ok (.aload_n 0, 1) := by decide +kernel
theorem dX2_readLeap_25 : decode cX2_readLeap 25 = .ok (.getfield 36, 3) := by decide +kernel
theorem dX2_readLeap_28 : decode cX2_readLeap 28 = .ok (.bipush 8, 2) := by decide +kernel
theorem dX2_readLeap_30 : decode cX2_readLeap 30 = .ok (.iconst (-1), 1) := by decide +kernel
theorem dX2_readLeap_31 : decode cX2_readLeap 31 = .ok (.iconst (-1), 1) := by decide +kernel
theorem dX2_readLeap_32 : decode cX2_readLeap 32 = .ok (.iload_n 1, 1) := by decide +kernel
theorem dX2_readLeap_33 : decode cX2_readLeap 33 = .ok (.invokevirtual 74, 3) := by decide +kernel
theorem dX2_readLeap_36 : decode cX2_readLeap 36 = .ok (.pop, 1) := by decide +kernel
theorem dX2_readLeap_37 : decode cX2_readLeap 37 = .ok (.aload_n 0, 1) := by decide +kernel
theorem dX2_readLeap_38 : decode cX2_readLeap 38 = .ok (.getfield 14, 3) := by decide +kernel
theorem dX2_readLeap_41 : decode cX2_readLeap 41 = .ok (.invokevirtual 139, 3) := by decide +kernel
theorem dX2_readLeap_44 : decode cX2_readLeap 44 = .ok (.aload_n 0, 1) := by decide +kernel
theorem dX2_readLeap_45 : decode cX2_readLeap 45 = .ok (.getfield 14, 3) := by decide +kernel
theorem dX2_readLeap_48 : decode cX2_readLeap 48 = .ok (.bipush 59, 2) := by decide +kernel
theorem dX2_readLeap_50 : decode cX2_readLeap 50 = .ok (.invokevirtual 87, 3) := by decide +kernel
theorem dX2_readLeap_53 : decode cX2_readLeap 53 = .ok (.ireturn, 1) := by decide +kernel
theorem dX2_readReturn_0 : decode cX2_readReturn 0 = .ok (.aload_n 0, 1) := by decide +kernel
theorem dX2_readReturn_1 : decode cX2_readReturn 1 = .ok (.getfield 14, 3) := by decide +kernel
theorem dX2_readReturn_4 : decode cX2_readReturn 4 = .ok (.invokevirtual 139, 3) := by decide +kernel
theorem dX2_readReturn_7 : decode cX2_readReturn 7 = .ok (.aload_n 0, 1) := by decide +kernel
theorem dX2_readReturn_8 : decode cX2_readReturn 8 = .ok (.getfield 32, 3) := by decide +kernel
theorem dX2_readReturn_11 : decode cX2_readReturn 11 = .ok (.invokevirtual 167, 3) := by decide +kernel
theorem dX2_readReturn_14 : decode cX2_readReturn 14 = .ok (.ifCond .eq 15, 3) := by decide +kernel
theorem dX2_readReturn_17 : decode cX2_readReturn 17 = .ok (.aload_n 0, 1) := by decide +kernel
theorem dX2_readReturn_18 : decode cX2_readReturn 18 = .ok (.getfield 14, 3) := by decide +kernel
theorem dX2_readReturn_21 : decode cX2_readReturn 21 = .ok (.bipush 59, 2) := by decide +kernel
theorem dX2_readReturn_23 : decode cX2_readReturn 23 = .ok (.invokevirtual 87, 3) := by decide +kernel
theorem dX2_readReturn_26 : decode cX2_readReturn 26 = .ok (.ifCond .ne 5, 3) := by decide +kernel
theorem dX2_readReturn_29 : decode cX2_readReturn 29 = .ok (.iconst 0, 1) := by decide +kernel
theorem dX2_readReturn_30 : decode cX2_readReturn 30 = .ok (.ireturn, 1) := by decide +kernel
theorem dX2_readReturn_31 : decode cX2_readReturn 31 = .ok (.aload_n 0, 1) := by decide +kernel
theorem dX2_readReturn_32 : decode cX2_readReturn 32 = .ok (.getfield 36, 3) := by decide +kernel
theorem dX2_readReturn_35 : decode cX2_readReturn 35 = .ok (.bipush 9, 2) := by decide +kernel
theorem dX2_readReturn_37 : decode cX2_readReturn 37 = .ok (.aload_n 0, 1) := by decide +kernel
theorem dX2_readReturn_38 : decode cX2_readReturn 38 = .ok (.getfield 32, 3) := by decide +kernel
theorem dX2_readReturn_41 : decode cX2_readReturn 41 = .ok (.invokevirtual 170, 3) := by decide +kernel
theorem dX2_readReturn_44 : decode cX2_readReturn 44 = .ok (.iconst (-1), 1) := by decide +kernel
theorem dX2_readReturn_45 : decode cX2_readReturn 45 = .ok (.iconst (-1), 1) := by decide +kernel
theorem dX2_readReturn_46 : decode cX2_readReturn 46 = .ok (.invokevirtual 74, 3) := by decide +kernel
theorem dX2_readReturn_49 : decode cX2_readReturn 49 = .ok (.pop, 1) := by decide +kernel
theorem dX2_readReturn_50 : decode cX2_readReturn 50 = .ok (.iconst 1, 1) := by decide +kernel
theorem dX2_readReturn_51 : decode cX2_readReturn 51 = .ok (.ireturn, 1) := by decide +kernel
theorem dX3_init_0 : decode cX3_init 0 = .ok (.aload_n 0, 1) := by decide +kernel
theorem dX3_init_1 : decode cX3_init 1 = .ok (.invokespecial 3, 3) := by decide +kernel
theorem dX3_init_4 : decode cX3_init 4 = .ok (.aload_n 0, 1) := by decide +kernel
theorem dX3_init_5 : decode cX3_init 5 = .ok (.sipush 2048, 3) := by decide +kernel
theorem dX3_init_8 : decode cX3_init 8 = .ok (.newarray .int, 2) := by decide +kernel
theorem dX3_init_10 : decode cX3_init 10 = .ok (.putfield 9, 3) := by decide +kernel
theorem dX3_init_13 : decode cX3_init 13 = .ok (.aload_n 0, 1) := by decide +kernel
theorem dX3_init_14 : decode cX3_init 14 = .ok (.bipush 32, 2) := by decide +kernel
theorem dX3_init_16 : decode cX3_init 16 = .ok (.newarray .int, 2) := by decide +kernel
theorem dX3_init_18 : decode cX3_init 18 = .ok (.putfield 15, 3) := by decide +kernel
theorem dX3_init_21 : decode cX3_init 21 = .ok (.aload_n 0, 1) := by decide +kernel
theorem dX3_init_22 : decode cX3_init 22 = .ok (.sipush 200, 3) := by decide +kernel
theorem dX3_init_25 : decode cX3_init 25 = .ok (.newarray .int, 2) := by decide +kernel
theorem dX3_init_27 : decode cX3_init 27 = .ok (.putfield 18, 3) := by decide +kernel
theorem dX3_init_30 : decode cX3_init 30 = .ok (.aload_n 0, 1) := by decide +kernel
theorem dX3_init_31 : decode cX3_init 31 = .ok (.sipush 200, 3) := by decide +kernel
theorem dX3_init_34 : decode cX3_init 34 = .ok (.newarray .int, 2) := by decide +kernel
theorem dX3_init_36 : decode cX3_init 36 = .ok (.putfield 21, 3) := by decide +kernel
theorem dX3_init_39 : decode cX3_init 39 = .ok (.aload_n 0, 1) := by decide +kernel
theorem dX3_init_40 : decode cX3_init 40 = .ok (.sipush 200, 3) := by decide +kernel
theorem dX3_init_43 : decode cX3_init 43 = .ok (.newarray .int, 2) := by decide +kernel
theorem dX3_init_45 : decode cX3_init 45 = .ok (.putfield 24, 3) := by decide +kernel
theorem dX3_init_48 : decode cX3_init 48 = .ok (.return_, 1) := by decide +kernel
theorem dX3_clear_0 : decode cX3_clear 0 = .ok (.aload_n 0, 1) := by decide +kernel
theorem dX3_clear_1 : decode cX3_clear 1 = .ok (.getfield 9, 3) := by decide +kernel
theorem dX3_clear_4 : decode cX3_clear 4 = .ok (.iconst 0, 1) := by decide +kernel
theorem dX3_clear_5 : decode cX3_clear 5 = .ok (.invokestatic 27, 3) := by decide +kernel
theorem dX3_clear_8 : decode cX3_clear 8 = .ok (.return_, 1) := by decide +kernel
theorem dX3_begin_0 : decode cX3_begin 0 = .ok (.aload_n 0, 1) := by decide +kernel
theorem dX3_begin_1 : decode cX3_begin 1 = .ok (.iconst 0, 1) := by decide +kernel
theorem dX3_begin_2 : decode cX3_begin 2 = .ok (.putfield 33, 3) := by decide +kernel
theorem dX3_begin_5 : decode cX3_begin 5 = .ok (.aload_n 0, 1) := by decide +kernel
theorem dX3_begin_6 : decode cX3_begin 6 = .ok (.iconst 0, 1) := by decide +kernel
theorem dX3_begin_7 : decode cX3_begin 7 = .ok (.putfield 37, 3) := by decide +kernel
theorem dX3_begin_10 : decode cX3_begin 10 = .ok (.aload_n 0, 1) := by decide +kernel
theorem dX3_begin_11 : decode cX3_begin 11 = .ok (.iconst 0, 1) := by decide +kernel
theorem dX3_begin_12 : decode cX3_begin 12 = .ok (.putfield 40, 3) := by decide +kernel
theorem dX3_begin_15 : decode cX3_begin 15 = .ok (.return_, 1) := by decide +kernel
theorem dX3_addRow_0 : decode cX3_addRow 0 = .ok (.aload_n 0, 1) := by decide +kernel
theorem dX3_addRow_1 : decode cX3_addRow 1 = .ok (.getfield 43, 3) := by decide +kernel
theorem dX3_addRow_4 : decode cX3_addRow 4 = .ok (.bipush 32, 2) := by decide +kernel
theorem dX3_addRow_6 : decode cX3_addRow 6 = .ok (.if_icmp .ge 23, 3) := by decide +kernel
theorem dX3_addRow_9 : decode cX3_addRow 9 = .ok (.aload_n 0, 1) := by decide +kernel
theorem dX3_addRow_10 : decode cX3_addRow 10 = .ok (.getfield 15, 3) := by decide +kernel
theorem dX3_addRow_13 : decode cX3_addRow 13 = .ok (.aload_n 0, 1) := by decide +kernel
theorem dX3_addRow_14 : decode cX3_addRow 14 = .ok (.getfield 43, 3) := by decide +kernel
theorem dX3_addRow_17 : decode cX3_addRow 17 = .ok (.iload_n 1, 1) := by decide +kernel
theorem dX3_addRow_18 : decode cX3_addRow 18 = .ok (.iastore, 1) := by decide +kernel
theorem dX3_addRow_19 : decode cX3_addRow 19 = .ok (.aload_n 0, 1) := by decide +kernel
theorem dX3_addRow_20 : decode cX3_addRow 20 = .ok (.dup, 1) := by decide +kernel
theorem dX3_addRow_21 : decode cX3_addRow 21 = .ok (.getfield 43, 3) := by decide +kernel
theorem dX3_addRow_24 : decode cX3_addRow 24 = .ok (.iconst 1, 1) := by decide +kernel
theorem dX3_addRow_25 : decode cX3_addRow 25 = .ok (.iadd, 1) := by decide +kernel
theorem dX3_addRow_26 : decode cX3_addRow 26 = .ok (.putfield 43, 3) := by decide +kernel
theorem dX3_addRow_29 : decode cX3_addRow 29 = .ok (.return_, 1) := by decide +kernel
theorem dX3_look_0 : decode cX3_look 0 = .ok (.iload_n 1, 1) := by decide +kernel
theorem dX3_look_1 : decode cX3_look 1 = .ok (.iload_n 2, 1) := by decide +kernel
theorem dX3_look_2 : decode cX3_look 2 = .ok (.invokestatic 46, 3) := by decide +kernel
theorem dX3_look_5 : decode cX3_look 5 = .ok (.ifCond .eq 18, 3) := by decide +kernel
theorem dX3_look_8 : decode cX3_look 8 = .ok (.aload_n 0, 1) := by decide +kernel
theorem dX3_look_9 : decode cX3_look 9 = .ok (.getfield 9, 3) := by decide +kernel
theorem dX3_look_12 : decode cX3_look 12 = .ok (.iload_n 1, 1) := by decide +kernel
theorem dX3_look_13 : decode cX3_look 13 = .ok (.sipush 256, 3) := by decide +kernel
theorem dX3_look_16 : decode cX3_look 16 = .ok (.imul, 1) := by decide +kernel
theorem dX3_look_17 : decode cX3_look 17 = .ok (.iload_n 2, 1) := by decide +kernel
theorem dX3_look_18 : decode cX3_look 18 = .ok (.iadd, 1) := by decide +kernel
theorem dX3_look_19 : decode cX3_look 19 = .ok (.iaload, 1) := by decide +kernel
theorem dX3_look_20 : decode cX3_look 20 = .ok (.goto 4, 3) := by decide +kernel
theorem dX3_look_23 : decode cX3_look 23 = .ok (.iconst 0, 1) := by decide +kernel
theorem dX3_look_24 : decode cX3_look 24 = .ok (.ireturn, 1) := by decide +kernel
theorem dX3_put_0 : decode cX3_put 0 = .ok (.iload_n 1, 1) := by decide +kernel
theorem dX3_put_1 : decode cX3_put 1 = .ok (.iload_n 2, 1) := by decide +kernel
theorem dX3_put_2 : decode cX3_put 2 = .ok (.invokestatic 46, 3) := by decide +kernel
theorem dX3_put_5 : decode cX3_put 5 = .ok (.ifCond .eq 16, 3) := by decide +kernel
theorem dX3_put_8 : decode cX3_put 8 = .ok (.aload_n 0, 1) := by decide +kernel
theorem dX3_put_9 : decode cX3_put 9 = .ok (.getfield 9, 3) := by decide +kernel
theorem dX3_put_12 : decode cX3_put 12 = .ok (.iload_n 1, 1) := by decide +kernel
theorem dX3_put_13 : decode cX3_put 13 = .ok (.sipush 256, 3) := by decide +kernel
theorem dX3_put_16 : decode cX3_put 16 = .ok (.imul, 1) := by decide +kernel
theorem dX3_put_17 : decode cX3_put 17 = .ok (.iload_n 2, 1) := by decide +kernel
theorem dX3_put_18 : decode cX3_put 18 = .ok (.iadd, 1) := by decide +kernel
theorem dX3_put_19 : decode cX3_put 19 = .ok (.iload_n 3, 1) := by decide +kernel
theorem dX3_put_20 : decode cX3_put 20 = .ok (.iastore, 1) := by decide +kernel
theorem dX3_put_21 : decode cX3_put 21 = .ok (.return_, 1) := by decide +kernel
theorem dX3_fetch_0 : decode cX3_fetch 0 = .ok (.aload_n 0, 1) := by decide +kernel
theorem dX3_fetch_1 : decode cX3_fetch 1 = .ok (.dup, 1) := by decide +kernel
theorem dX3_fetch_2 : decode cX3_fetch 2 = .ok (.getfield 33, 3) := by decide +kernel
theorem dX3_fetch_5 : decode cX3_fetch 5 = .ok (.iconst 1, 1) := by decide +kernel
theorem dX3_fetch_6 : decode cX3_fetch 6 = .ok (.iadd, 1) := by decide +kernel
theorem dX3_fetch_7 : decode cX3_fetch 7 = .ok (.putfield 33, 3) := by decide +kernel
theorem dX3_fetch_10 : decode cX3_fetch 10 = .ok (.aload_n 0, 1) := by decide +kernel
theorem dX3_fetch_11 : decode cX3_fetch 11 = .ok (.iload_n 1, 1) := by decide +kernel
theorem dX3_fetch_12 : decode cX3_fetch 12 = .ok (.iload_n 2, 1) := by decide +kernel
theorem dX3_fetch_13 : decode cX3_fetch 13 = .ok (.invokevirtual 50, 3) := by decide +kernel
theorem dX3_fetch_16 : decode cX3_fetch 16 = .ok (.ireturn, 1) := by decide +kernel
theorem dX3_store_0 : decode cX3_store 0 = .ok (.aload_n 0, 1) := by decide +kernel
theorem dX3_store_1 : decode cX3_store 1 = .ok (.getfield 37, 3) := by decide +kernel
theorem dX3_store_4 : decode cX3_store 4 = .ok (.sipush 200, 3) := by decide +kernel
theorem dX3_store_7 : decode cX3_store 7 = .ok (.if_icmp .ge 33, 3) := by decide +kernel
theorem dX3_store_10 : decode cX3_store 10 = .ok (.aload_n 0, 1) := by decide +kernel
theorem dX3_store_11 : decode cX3_store 11 = .ok (.getfield 18, 3) := by decide +kernel
theorem dX3_store_14 : decode cX3_store 14 = .ok (.aload_n 0, 1) := by decide +kernel
theorem dX3_store_15 : decode cX3_store 15 = .ok (.getfield 37, 3) := by decide +kernel
theorem dX3_store_18 : decode cX3_store 18 = .ok (.iload_n 1, 1) := by decide +kernel
theorem dX3_store_19 : decode cX3_store 19 = .ok (.iastore, 1) := by decide +kernel
theorem dX3_store_20 : decode cX3_store 20 = .ok (.aload_n 0, 1) := by decide +kernel
theorem dX3_store_21 : decode cX3_store 21 = .ok (.getfield 21, 3) := by decide +kernel
theorem dX3_store_24 : decode cX3_store 24 = .ok (.aload_n 0, 1) := by decide +kernel
theorem dX3_store_25 : decode cX3_store 25 = .ok (.getfield 37, 3) := by decide +kernel
theorem dX3_store_28 : decode cX3_store 28 = .ok (.iload_n 2, 1) := by decide +kernel
theorem dX3_store_29 : decode cX3_store 29 = .ok (.iastore, 1) := by decide +kernel
theorem dX3_store_30 : decode cX3_store 30 = .ok (.aload_n 0, 1) := by decide +kernel
theorem dX3_store_31 : decode cX3_store 31 = .ok (.getfield 24, 3) := by decide +kernel
theorem dX3_store_34 : decode cX3_store 34 = .ok (.aload_n 0, 1) := by decide +kernel
theorem dX3_store_35 : decode cX3_store 35 = .ok (.getfield 37, 3) := by decide +kernel
theorem dX3_store_38 : decode cX3_store 38 = .ok (.iload_n 3, 1) := by decide +kernel
theorem dX3_store_39 : decode cX3_store 39 = .ok (.iastore, 1) := by decide +kernel
theorem dX3_store_40 : decode cX3_store 40 = .ok (.aload_n 0, 1) := by decide +kernel
theorem dX3_store_41 : decode cX3_store 41 = .ok (.dup, 1) := by decide +kernel
theorem dX3_store_42 : decode cX3_store 42 = .ok (.getfield 37, 3) := by decide +kernel
theorem dX3_store_45 : decode cX3_store 45 = .ok (.iconst 1, 1) := by decide +kernel
theorem dX3_store_46 : decode cX3_store 46 = .ok (.iadd, 1) := by decide +kernel
theorem dX3_store_47 : decode cX3_store 47 = .ok (.putfield 37, 3) := by decide +kernel
theorem dX3_store_50 : decode cX3_store 50 = .ok (.aload_n 0, 1) := by decide +kernel
theorem dX3_store_51 : decode cX3_store 51 = .ok (.iload_n 1, 1) := by decide +kernel
theorem dX3_store_52 : decode cX3_store 52 = .ok (.iload_n 2, 1) := by decide +kernel
theorem dX3_store_53 : decode cX3_store 53 = .ok (.iload_n 3, 1) := by decide +kernel
theorem dX3_store_54 : decode cX3_store 54 = .ok (.invokevirtual 54, 3) := by decide +kernel
theorem dX3_store_57 : decode cX3_store 57 = .ok (.return_, 1) := by decide +kernel
theorem dX3_ask_0 : decode cX3_ask 0 = .ok (.iload_n 1, 1) := by decide +kernel
theorem dX3_ask_1 : decode cX3_ask 1 = .ok (.aload_n 0, 1) := by decide +kernel
theorem dX3_ask_2 : decode cX3_ask 2 = .ok (.getfield 40, 3) := by decide +kernel
theorem dX3_ask_5 : decode cX3_ask 5 = .ok (.if_icmp .ge 13, 3) := by decide +kernel
theorem dX3_ask_8 : decode cX3_ask 8 = .ok (.aload_n 0, 1) := by decide +kernel
theorem dX3_ask_9 : decode cX3_ask 9 = .ok (.dup, 1) := by decide +kernel
theorem dX3_ask_10 : decode cX3_ask 10 = .ok (.getfield 58, 3) := by decide +kernel
theorem dX3_ask_13 : decode cX3_ask 13 = .ok (.iconst 1, 1) := by decide +kernel
theorem dX3_ask_14 : decode cX3_ask 14 = .ok (.iadd, 1) := by decide +kernel
theorem dX3_ask_15 : decode cX3_ask 15 = .ok (.putfield 58, 3) := by decide +kernel
theorem dX3_ask_18 : decode cX3_ask 18 = .ok (.aload_n 0, 1) := by decide +kernel
theorem dX3_ask_19 : decode cX3_ask 19 = .ok (.getfield 43, 3) := by decide +kernel
theorem dX3_ask_22 : decode cX3_ask 22 = .ok (.ifCond .le 20, 3) := by decide +kernel
theorem dX3_ask_25 : decode cX3_ask 25 = .ok (.aload_n 0, 1) := by decide +kernel
theorem dX3_ask_26 : decode cX3_ask 26 = .ok (.getfield 33, 3) := by decide +kernel
theorem dX3_ask_29 : decode cX3_ask 29 = .ok (.aload_n 0, 1) := by decide +kernel
theorem dX3_ask_30 : decode cX3_ask 30 = .ok (.getfield 37, 3) := by decide +kernel
theorem dX3_ask_33 : decode cX3_ask 33 = .ok (.iadd, 1) := by decide +kernel
theorem dX3_ask_34 : decode cX3_ask 34 = .ok (.aload_n 0, 1) := by decide +kernel
theorem dX3_ask_35 : decode cX3_ask 35 = .ok (.getfield 43, 3) := by decide +kernel
theorem dX3_ask_38 : decode cX3_ask 38 = .ok (.irem, 1) := by decide +kernel
theorem dX3_ask_39 : decode cX3_ask 39 = .ok (.goto 4, 3) := by decide +kernel
theorem dX3_ask_42 : decode cX3_ask 42 = .ok (.iconst (-1), 1) := by decide +kernel
theorem dX3_ask_43 : decode cX3_ask 43 = .ok (.istore_n 2, 1) := by decide +kernel
theorem dX3_ask_44 : decode cX3_ask 44 = .ok (.iload_n 2, 1) := by decide +kernel
theorem dX3_ask_45 : decode cX3_ask 45 = .ok (.ifCond .lt 18, 3) := by decide +kernel
theorem dX3_ask_48 : decode cX3_ask 48 = .ok (.iload_n 2, 1) := by decide +kernel
theorem dX3_ask_49 : decode cX3_ask 49 = .ok (.bipush 32, 2) := by decide +kernel
theorem dX3_ask_51 : decode cX3_ask 51 = .ok (.if_icmp .ge 12, 3) := by decide +kernel
theorem dX3_ask_54 : decode cX3_ask 54 = .ok (.aload_n 0, 1) := by decide +kernel
theorem dX3_ask_55 : decode cX3_ask 55 = .ok (.getfield 15, 3) := by decide +kernel
theorem dX3_ask_58 : decode cX3_ask 58 = .ok (.iload_n 2, 1) := by decide +kernel
theorem dX3_ask_59 : decode cX3_ask 59 = .ok (.iaload, 1) := by decide +kernel
theorem dX3_ask_60 : decode cX3_ask 60 = .ok (.goto 4, 3) := by decide +kernel
theorem dX3_ask_63 : decode cX3_ask 63 = .ok (.iconst 1, 1) := by decide +kernel
theorem dX3_ask_64 : decode cX3_ask 64 = .ok (.istore_n 3, 1) := by decide +kernel
theorem dX3_ask_65 : decode cX3_ask 65 = .ok (.aload_n 0, 1) := by decide +kernel
theorem dX3_ask_66 : decode cX3_ask 66 = .ok (.iload_n 1, 1) := by decide +kernel
theorem dX3_ask_67 : decode cX3_ask 67 = .ok (.iload_n 3, 1) := by decide +kernel
theorem dX3_ask_68 : decode cX3_ask 68 = .ok (.iadd, 1) := by decide +kernel
theorem dX3_ask_69 : decode cX3_ask 69 = .ok (.putfield 40, 3) := by decide +kernel
theorem dX3_ask_72 : decode cX3_ask 72 = .ok (.iload_n 3, 1) := by decide +kernel
theorem dX3_ask_73 : decode cX3_ask 73 = .ok (.ireturn, 1) := by decide +kernel
theorem dX3_isThere_0 : decode cX3_isThere 0 = .ok (.iload_n 0, 1) := by decide +kernel
theorem dX3_isThere_1 : decode cX3_isThere 1 = .ok (.ifCond .lt 24, 3) := by decide +kernel
theorem dX3_isThere_4 : decode cX3_isThere 4 = .ok (.iload_n 0, 1) := by decide +kernel
theorem dX3_isThere_5 : decode cX3_isThere 5 = .ok (.bipush 8, 2) := by decide +kernel
theorem dX3_isThere_7 : decode cX3_isThere 7 = .ok (.if_icmp .ge 18, 3) := by decide +kernel
theorem dX3_isThere_10 : decode cX3_isThere 10 = .ok (.iload_n 1, 1) := by decide +kernel
theorem dX3_isThere_11 : decode cX3_isThere 11 = .ok (.ifCond .lt 14, 3) := by decide +kernel
theorem dX3_isThere_14 : decode cX3_isThere 14 = .ok (.iload_n 1, 1) := by decide +kernel
theorem dX3_isThere_15 : decode cX3_isThere 15 = .ok (.sipush 256, 3) := by decide +kernel
theorem dX3_isThere_18 : decode cX3_isThere 18 = .ok (.if_icmp .ge 7, 3) := by decide +kernel
theorem dX3_isThere_21 : decode cX3_isThere 21 = .ok (.iconst 1, 1) := by decide +kernel
theorem dX3_isThere_22 : decode cX3_isThere 22 = .ok (.goto 4, 3) := by decide +kernel
theorem dX3_isThere_25 : decode cX3_isThere 25 = .ok (.iconst 0, 1) := by decide +kernel
theorem dX3_isThere_26 : decode cX3_isThere 26 = .ok (.ireturn, 1) := by decide +kernel
theorem dX4_init_0 : decode cX4_init 0 = .ok (.aload_n 0, 1) := by decide +kernel
theorem dX4_init_1 : decode cX4_init 1 = .ok (.invokespecial 3, 3) := by decide +kernel
theorem dX4_init_4 : decode cX4_init 4 = .ok (.aload_n 0, 1) := by decide +kernel
theorem dX4_init_5 : decode cX4_init 5 = .ok (.aload_n 1, 1) := by decide +kernel
theorem dX4_init_6 : decode cX4_init 6 = .ok (.putfield 9, 3) := by decide +kernel
theorem dX4_init_9 : decode cX4_init 9 = .ok (.return_, 1) := by decide +kernel
theorem dX4_begin_0 : decode cX4_begin 0 = .ok (.aload_n 0, 1) := by decide +kernel
theorem dX4_begin_1 : decode cX4_begin 1 = .ok (.iconst 0, 1) := by decide +kernel
theorem dX4_begin_2 : decode cX4_begin 2 = .ok (.putfield 15, 3) := by decide +kernel
theorem dX4_begin_5 : decode cX4_begin 5 = .ok (.aload_n 0, 1) := by decide +kernel
theorem dX4_begin_6 : decode cX4_begin 6 = .ok (.iconst 0, 1) := by decide +kernel
theorem dX4_begin_7 : decode cX4_begin 7 = .ok (.putfield 19, 3) := by decide +kernel
theorem dX4_begin_10 : decode cX4_begin 10 = .ok (.aload_n 0, 1) := by decide +kernel
theorem dX4_begin_11 : decode cX4_begin 11 = .ok (.iconst (-1), 1) := by decide +kernel
theorem dX4_begin_12 : decode cX4_begin 12 = .ok (.putfield 22, 3) := by decide +kernel
theorem dX4_begin_15 : decode cX4_begin 15 = .ok (.aload_n 0, 1) := by decide +kernel
theorem dX4_begin_16 : decode cX4_begin 16 = .ok (.iconst (-1), 1) := by decide +kernel
theorem dX4_begin_17 : decode cX4_begin 17 = .ok (.putfield 25, 3) := by decide +kernel
theorem dX4_begin_20 : decode cX4_begin 20 = .ok (.aload_n 0, 1) := by decide +kernel
theorem dX4_begin_21 : decode cX4_begin 21 = .ok (.invokevirtual 28, 3) := by decide +kernel
theorem dX4_begin_24 : decode cX4_begin 24 = .ok (.return_, 1) := by decide +kernel
theorem dX4_advance_0 : decode cX4_advance 0 = .ok (.aload_n 0, 1) := by decide +kernel
theorem dX4_advance_1 : decode cX4_advance 1 = .ok (.getfield 25, 3) := by decide +kernel
theorem dX4_advance_4 : decode cX4_advance 4 = .ok (.iconst 1, 1) := by decide +kernel
theorem dX4_advance_5 : decode cX4_advance 5 = .ok (.iadd, 1) := by decide +kernel
theorem dX4_advance_6 : decode cX4_advance 6 = .ok (.aload_n 0, 1) := by decide +kernel
theorem dX4_advance_7 : decode cX4_advance 7 = .ok (.getfield 9, 3) := by decide +kernel
theorem dX4_advance_10 : decode cX4_advance 10 = .ok (.getfield 31, 3) := by decide +kernel
theorem dX4_advance_13 : decode cX4_advance 13 = .ok (.if_icmp .ge 73, 3) := by decide +kernel
theorem dX4_advance_16 : decode cX4_advance 16 = .ok (.aload_n 0, 1) := by decide +kernel
theorem dX4_advance_17 : decode cX4_advance 17 = .ok (.getfield 25, 3) := by decide +kernel
theorem dX4_advance_20 : decode cX4_advance 20 = .ok (.iconst 1, 1) := by decide +kernel
theorem dX4_advance_21 : decode cX4_advance 21 = .ok (.iadd, 1) := by decide +kernel
theorem dX4_advance_22 : decode cX4_advance 22 = .ok (.sipush 2001, 3) := by decide +kernel
theorem dX4_advance_25 : decode cX4_advance 25 = .ok (.if_icmp .ge 61, 3) := by decide +kernel
theorem dX4_advance_28 : decode cX4_advance 28 = .ok (.aload_n 0, 1) := by decide +kernel
theorem dX4_advance_29 : decode cX4_advance 29 = .ok (.dup, 1) := by decide +kernel
theorem dX4_advance_30 : decode cX4_advance 30 = .ok (.getfield 25, 3) := by decide +kernel
theorem dX4_advance_33 : decode cX4_advance 33 = .ok (.iconst 1, 1) := by decide +kernel
theorem dX4_advance_34 : decode cX4_advance 34 = .ok (.iadd, 1) := by decide +kernel
theorem dX4_advance_35 : decode cX4_advance 35 = .ok (.putfield 25, 3) := by decide +kernel
theorem dX4_advance_38 : decode cX4_advance 38 = .ok (.aload_n 0, 1) := by decide +kernel
theorem dX4_advance_39 : decode cX4_advance 39 = .ok (.aload_n 0, 1) := by decide +kernel
theorem dX4_advance_40 : decode cX4_advance 40 = .ok (.getfield 9, 3) := by decide +kernel
theorem dX4_advance_43 : decode cX4_advance 43 = .ok (.getfield 36, 3) := by decide +kernel
theorem dX4_advance_46 : decode cX4_advance 46 = .ok (.aload_n 0, 1) := by decide +kernel
theorem dX4_advance_47 : decode cX4_advance 47 = .ok (.getfield 25, 3) := by decide +kernel
theorem dX4_advance_50 : decode cX4_advance 50 = .ok (.iaload, 1) := by decide +kernel
theorem dX4_advance_51 : decode cX4_advance 51 = .ok (.putfield 40, 3) := by decide +kernel
theorem dX4_advance_54 : decode cX4_advance 54 = .ok (.aload_n 0, 1) := by decide +kernel
theorem dX4_advance_55 : decode cX4_advance 55 = .ok (.aload_n 0, 1) := by decide +kernel
theorem dX4_advance_56 : decode cX4_advance 56 = .ok (.getfield 9, 3) := by decide +kernel
theorem dX4_advance_59 : decode cX4_advance 59 = .ok (.getfield 43, 3) := by decide +kernel
theorem dX4_advance_62 : decode cX4_advance 62 = .ok (.aload_n 0, 1) := by decide +kernel
theorem dX4_advance_63 : decode cX4_advance 63 = .ok (.getfield 25, 3) := by decide +kernel
theorem dX4_advance_66 : decode cX4_advance 66 = .ok (.iaload, 1) := by decide +kernel
theorem dX4_advance_67 : decode cX4_advance 67 = .ok (.putfield 46, 3) := by decide +kernel
theorem dX4_advance_70 : decode cX4_advance 70 = .ok (.aload_n 0, 1) := by decide +kernel
theorem dX4_advance_71 : decode cX4_advance 71 = .ok (.aload_n 0, 1) := by decide +kernel
theorem dX4_advance_72 : decode cX4_advance 72 = .ok (.getfield 9, 3) := by decide +kernel
theorem dX4_advance_75 : decode cX4_advance 75 = .ok (.getfield 49, 3) := by decide +kernel
theorem dX4_advance_78 : decode cX4_advance 78 = .ok (.aload_n 0, 1) := by decide +kernel
theorem dX4_advance_79 : decode cX4_advance 79 = .ok (.getfield 25, 3) := by decide +kernel
theorem dX4_advance_82 : decode cX4_advance 82 = .ok (.laload, 1) := by decide +kernel
theorem dX4_advance_83 : decode cX4_advance 83 = .ok (.putfield 53, 3) := by decide +kernel
theorem dX4_advance_86 : decode cX4_advance 86 = .ok (.return_, 1) := by decide +kernel
theorem dX4_pass_0 : decode cX4_pass 0 = .ok (.aload_n 0, 1) := by decide +kernel
theorem dX4_pass_1 : decode cX4_pass 1 = .ok (.getfield 40, 3) := by decide +kernel
theorem dX4_pass_4 : decode cX4_pass 4 = .ok (.iload_n 1, 1) := by decide +kernel
theorem dX4_pass_5 : decode cX4_pass 5 = .ok (.if_icmp .eq 8, 3) := by decide +kernel
theorem dX4_pass_8 : decode cX4_pass 8 = .ok (.aload_n 0, 1) := by decide +kernel
theorem dX4_pass_9 : decode cX4_pass 9 = .ok (.invokevirtual 57, 3) := by decide +kernel
theorem dX4_pass_12 : decode cX4_pass 12 = .ok (.ireturn, 1) := by decide +kernel
theorem dX4_pass_13 : decode cX4_pass 13 = .ok (.aload_n 0, 1) := by decide +kernel
theorem dX4_pass_14 : decode cX4_pass 14 = .ok (.invokevirtual 28, 3) := by decide +kernel
theorem dX4_pass_17 : decode cX4_pass 17 = .ok (.iconst 1, 1) := by decide +kernel
theorem dX4_pass_18 : decode cX4_pass 18 = .ok (.ireturn, 1) := by decide +kernel
theorem dX4_enter_0 : decode cX4_enter 0 = .ok (.aload_n 0, 1) := by decide +kernel
theorem dX4_enter_1 : decode cX4_enter 1 = .ok (.getfield 40, 3) := by decide +kernel
theorem dX4_enter_4 : decode cX4_enter 4 = .ok (.iload_n 1, 1) := by decide +kernel
theorem dX4_enter_5 : decode cX4_enter 5 = .ok (.if_icmp .eq 8, 3) := by decide +kernel
theorem dX4_enter_8 : decode cX4_enter 8 = .ok (.aload_n 0, 1) := by decide +kernel
theorem dX4_enter_9 : decode cX4_enter 9 = .ok (.invokevirtual 57, 3) := by decide +kernel
theorem dX4_enter_12 : decode cX4_enter 12 = .ok (.ireturn, 1) := by decide +kernel
theorem dX4_enter_13 : decode cX4_enter 13 = .ok (.aload_n 0, 1) := by decide +kernel
theorem dX4_enter_14 : decode cX4_enter 14 = .ok (.getfield 15, 3) := by decide +kernel
theorem dX4_enter_17 : decode cX4_enter 17 = .ok (.bipush 16, 2) := by decide +kernel
theorem dX4_enter_19 : decode cX4_enter 19 = .ok (.if_icmp .lt 19, 3) := by decide +kernel
theorem dX4_enter_22 : decode cX4_enter 22 = .ok (.aload_n 0, 1) := by decide +kernel
theorem dX4_enter_23 : decode cX4_enter 23 = .ok (.bipush 7, 2) := by decide +kernel
theorem dX4_enter_25 : decode cX4_enter 25 = .ok (.putfield 19, 3) := by decide +kernel
theorem dX4_enter_28 : decode cX4_enter 28 = .ok (.aload_n 0, 1) := by decide +kernel
theorem dX4_enter_29 : decode cX4_enter 29 = .ok (.aload_n 0, 1) := by decide +kernel
theorem dX4_enter_30 : decode cX4_enter 30 = .ok (.getfield 46, 3) := by decide +kernel
theorem dX4_enter_33 : decode cX4_enter 33 = .ok (.putfield 22, 3) := by decide +kernel
theorem dX4_enter_36 : decode cX4_enter 36 = .ok (.iconst 0, 1) := by decide +kernel
theorem dX4_enter_37 : decode cX4_enter 37 = .ok (.ireturn, 1) := by decide +kernel
theorem dX4_enter_38 : decode cX4_enter 38 = .ok (.aload_n 0, 1) := by decide +kernel
theorem dX4_enter_39 : decode cX4_enter 39 = .ok (.dup, 1) := by decide +kernel
theorem dX4_enter_40 : decode cX4_enter 40 = .ok (.getfield 15, 3) := by decide +kernel
theorem dX4_enter_43 : decode cX4_enter 43 = .ok (.iconst 1, 1) := by decide +kernel
theorem dX4_enter_44 : decode cX4_enter 44 = .ok (.iadd, 1) := by decide +kernel
theorem dX4_enter_45 : decode cX4_enter 45 = .ok (.putfield 15, 3) := by decide +kernel
theorem dX4_enter_48 : decode cX4_enter 48 = .ok (.aload_n 0, 1) := by decide +kernel
theorem dX4_enter_49 : decode cX4_enter 49 = .ok (.invokevirtual 28, 3) := by decide +kernel
theorem dX4_enter_52 : decode cX4_enter 52 = .ok (.iconst 1, 1) := by decide +kernel
theorem dX4_enter_53 : decode cX4_enter 53 = .ok (.ireturn, 1) := by decide +kernel
theorem dX4_leave_0 : decode cX4_leave 0 = .ok (.aload_n 0, 1) := by decide +kernel
theorem dX4_leave_1 : decode cX4_leave 1 = .ok (.dup, 1) := by decide +kernel
theorem dX4_leave_2 : decode cX4_leave 2 = .ok (.getfield 15, 3) := by decide +kernel
theorem dX4_leave_5 : decode cX4_leave 5 = .ok (.iconst 1, 1) := by decide +kernel
theorem dX4_leave_6 : decode cX4_leave 6 = .ok (.isub, 1) := by decide +kernel
theorem dX4_leave_7 : decode cX4_leave 7 = .ok (.putfield 15, 3) := by decide +kernel
theorem dX4_leave_10 : decode cX4_leave 10 = .ok (.return_, 1) := by decide +kernel
theorem dX4_refuse_0 : decode cX4_refuse 0 = .ok (.aload_n 0, 1) := by decide +kernel
theorem dX4_refuse_1 : decode cX4_refuse 1 = .ok (.iconst 1, 1) := by decide +kernel
theorem dX4_refuse_2 : decode cX4_refuse 2 = .ok (.putfield 19, 3) := by decide +kernel
theorem dX4_refuse_5 : decode cX4_refuse 5 = .ok (.aload_n 0, 1) := by decide +kernel
theorem dX4_refuse_6 : decode cX4_refuse 6 = .ok (.aload_n 0, 1) := by decide +kernel
theorem dX4_refuse_7 : decode cX4_refuse 7 = .ok (.getfield 46, 3) := by decide +kernel
theorem dX4_refuse_10 : decode cX4_refuse 10 = .ok (.putfield 22, 3) := by decide +kernel
theorem dX4_refuse_13 : decode cX4_refuse 13 = .ok (.iconst 0, 1) := by decide +kernel
theorem dX4_refuse_14 : decode cX4_refuse 14 = .ok (.ireturn, 1) := by decide +kernel
theorem dX4_blame_0 : decode cX4_blame 0 = .ok (.aload_n 0, 1) := by decide +kernel
theorem dX4_blame_1 : decode cX4_blame 1 = .ok (.getfield 19, 3) := by decide +kernel
theorem dX4_blame_4 : decode cX4_blame 4 = .ok (.ifCond .ne 17, 3) := by decide +kernel
theorem dX4_blame_7 : decode cX4_blame 7 = .ok (.iload_n 1, 1) := by decide +kernel
theorem dX4_blame_8 : decode cX4_blame 8 = .ok (.ifCond .eq 13, 3) := by decide +kernel
theorem dX4_blame_11 : decode cX4_blame 11 = .ok (.aload_n 0, 1) := by decide +kernel
theorem dX4_blame_12 : decode cX4_blame 12 = .ok (.iload_n 1, 1) := by decide +kernel
theorem dX4_blame_13 : decode cX4_blame 13 = .ok (.putfield 19, 3) := by decide +kernel
theorem dX4_blame_16 : decode cX4_blame 16 = .ok (.aload_n 0, 1) := by decide +kernel
theorem dX4_blame_17 : decode cX4_blame 17 = .ok (.iload_n 2, 1) := by decide +kernel
theorem dX4_blame_18 : decode cX4_blame 18 = .ok (.putfield 22, 3) := by decide +kernel
theorem dX4_blame_21 : decode cX4_blame 21 = .ok (.return_, 1) := by decide +kernel
theorem dX5_init_0 : decode cX5_init 0 = .ok (.aload_n 0, 1) := by decide +kernel
theorem dX5_init_1 : decode cX5_init 1 = .ok (.invokespecial 3, 3) := by decide +kernel
theorem dX5_init_4 : decode cX5_init 4 = .ok (.aload_n 0, 1) := by decide +kernel
theorem dX5_init_5 : decode cX5_init 5 = .ok (.bipush 25, 2) := by decide +kernel
theorem dX5_init_7 : decode cX5_init 7 = .ok (.newarray .long, 2) := by decide +kernel
theorem dX5_init_9 : decode cX5_init 9 = .ok (.putfield 9, 3) := by decide +kernel
theorem dX5_init_12 : decode cX5_init 12 = .ok (.aload_n 0, 1) := by decide +kernel
theorem dX5_init_13 : decode cX5_init 13 = .ok (.bipush 25, 2) := by decide +kernel
theorem dX5_init_15 : decode cX5_init 15 = .ok (.newarray .int, 2) := by decide +kernel
theorem dX5_init_17 : decode cX5_init 17 = .ok (.putfield 15, 3) := by decide +kernel
theorem dX5_init_20 : decode cX5_init 20 = .ok (.aload_n 0, 1) := by decide +kernel
theorem dX5_init_21 : decode cX5_init 21 = .ok (.bipush 25, 2) := by decide +kernel
theorem dX5_init_23 : decode cX5_init 23 = .ok (.newarray .int, 2) := by decide +kernel
theorem dX5_init_25 : decode cX5_init 25 = .ok (.putfield 19, 3) := by decide +kernel
theorem dX5_init_28 : decode cX5_init 28 = .ok (.return_, 1) := by decide +kernel
theorem dX5_tell_0 : decode cX5_tell 0 = .ok (.aload_n 0, 1) := by decide +kernel
theorem dX5_tell_1 : decode cX5_tell 1 = .ok (.getfield 22, 3) := by decide +kernel
theorem dX5_tell_4 : decode cX5_tell 4 = .ok (.bipush 25, 2) := by decide +kernel
theorem dX5_tell_6 : decode cX5_tell 6 = .ok (.if_icmp .ge 44, 3) := by decide +kernel
theorem dX5_tell_9 : decode cX5_tell 9 = .ok (.aload_n 0, 1) := by decide +kernel
theorem dX5_tell_10 : decode cX5_tell 10 = .ok (.getfield 9, 3) := by decide +kernel
theorem dX5_tell_13 : decode cX5_tell 13 = .ok (.aload_n 0, 1) := by decide +kernel
theorem dX5_tell_14 : decode cX5_tell 14 = .ok (.getfield 22, 3) := by decide +kernel
theorem dX5_tell_17 : decode cX5_tell 17 = .ok (.lload_n 1, 1) := by decide +kernel
theorem dX5_tell_18 : decode cX5_tell 18 = .ok (.lastore, 1) := by decide +kernel
theorem dX5_tell_19 : decode cX5_tell 19 = .ok (.aload_n 0, 1) := by decide +kernel
theorem dX5_tell_20 : decode cX5_tell 20 = .ok (.getfield 15, 3) := by decide +kernel
theorem dX5_tell_23 : decode cX5_tell 23 = .ok (.aload_n 0, 1) := by decide +kernel
theorem dX5_tell_24 : decode cX5_tell 24 = .ok (.getfield 22, 3) := by decide +kernel
theorem dX5_tell_27 : decode cX5_tell 27 = .ok (.iload_n 3, 1) := by decide +kernel
theorem dX5_tell_28 : decode cX5_tell 28 = .ok (.iastore, 1) := by decide +kernel
theorem dX5_tell_29 : decode cX5_tell 29 = .ok (.aload_n 0, 1) := by decide +kernel
theorem dX5_tell_30 : decode cX5_tell 30 = .ok (.getfield 19, 3) := by decide +kernel
theorem dX5_tell_33 : decode cX5_tell 33 = .ok (.aload_n 0, 1) := by decide +kernel
theorem dX5_tell_34 : decode cX5_tell 34 = .ok (.getfield 22, 3) := by decide +kernel
theorem dX5_tell_37 : decode cX5_tell 37 = .ok (.iload 4, 2) := by decide +kernel
theorem dX5_tell_39 : decode cX5_tell 39 = .ok (.iastore, 1) := by decide +kernel
theorem dX5_tell_40 : decode cX5_tell 40 = .ok (.aload_n 0, 1) := by decide +kernel
theorem dX5_tell_41 : decode cX5_tell 41 = .ok (.dup, 1) := by decide +kernel
theorem dX5_tell_42 : decode cX5_tell 42 = .ok (.getfield 22, 3) := by decide +kernel
theorem dX5_tell_45 : decode cX5_tell 45 = .ok (.iconst 1, 1) := by decide +kernel
theorem dX5_tell_46 : decode cX5_tell 46 = .ok (.iadd, 1) := by decide +kernel
theorem dX5_tell_47 : decode cX5_tell 47 = .ok (.putfield 22, 3) := by decide +kernel
theorem dX5_tell_50 : decode cX5_tell 50 = .ok (.return_, 1) := by decide +kernel
theorem dX5_find_0 : decode cX5_find 0 = .ok (.iconst 0, 1) := by decide +kernel
theorem dX5_find_1 : decode cX5_find 1 = .ok (.istore_n 3, 1) := by decide +kernel
theorem dX5_find_2 : decode cX5_find 2 = .ok (.iload_n 3, 1) := by decide +kernel
theorem dX5_find_3 : decode cX5_find 3 = .ok (.aload_n 0, 1) := by decide +kernel
theorem dX5_find_4 : decode cX5_find 4 = .ok (.getfield 22, 3) := by decide +kernel
theorem dX5_find_7 : decode cX5_find 7 = .ok (.if_icmp .ge 28, 3) := by decide +kernel
theorem dX5_find_10 : decode cX5_find 10 = .ok (.iload_n 3, 1) := by decide +kernel
theorem dX5_find_11 : decode cX5_find 11 = .ok (.bipush 25, 2) := by decide +kernel
theorem dX5_find_13 : decode cX5_find 13 = .ok (.if_icmp .ge 22, 3) := by decide +kernel
theorem dX5_find_16 : decode cX5_find 16 = .ok (.aload_n 0, 1) := by decide +kernel
theorem dX5_find_17 : decode cX5_find 17 = .ok (.getfield 9, 3) := by decide +kernel
theorem dX5_find_20 : decode cX5_find 20 = .ok (.iload_n 3, 1) := by decide +kernel
theorem dX5_find_21 : decode cX5_find 21 = .ok (.laload, 1) := by decide +kernel
theorem dX5_find_22 : decode cX5_find 22 = .ok (.lload_n 1, 1) := by decide +kernel
theorem dX5_find_23 : decode cX5_find 23 = .ok (.lcmp, 1) := by decide +kernel
theorem dX5_find_24 : decode cX5_find 24 = .ok (.ifCond .ne 5, 3) := by decide +kernel
theorem dX5_find_27 : decode cX5_find 27 = .ok (.iload_n 3, 1) := by decide +kernel
theorem dX5_find_28 : decode cX5_find 28 = .ok (.ireturn, 1) := by decide +kernel
theorem dX5_find_29 : decode cX5_find 29 = .ok (.iinc 3 1, 3) := by decide +kernel
theorem dX5_find_32 : decode cX5_find 32 = .ok (.goto (-30), 3) := by decide +kernel
theorem dX5_find_35 : decode cX5_find 35 = .ok (.iconst (-1), 1) := by decide +kernel
theorem dX5_find_36 : decode cX5_find 36 = .ok (.ireturn, 1) := by decide +kernel
theorem dX5_numberOf_0 : decode cX5_numberOf 0 = .ok (.iload_n 1, 1) := by decide +kernel
theorem dX5_numberOf_1 : decode cX5_numberOf 1 = .ok (.ifCond .lt 26, 3) := by decide +kernel
theorem dX5_numberOf_4 : decode cX5_numberOf 4 = .ok (.iload_n 1, 1) := by decide +kernel
theorem dX5_numberOf_5 : decode cX5_numberOf 5 = .ok (.aload_n 0, 1) := by decide +kernel
theorem dX5_numberOf_6 : decode cX5_numberOf 6 = .ok (.getfield 22, 3) := by decide +kernel
theorem dX5_numberOf_9 : decode cX5_numberOf 9 = .ok (.if_icmp .ge 18, 3) := by decide +kernel
theorem dX5_numberOf_12 : decode cX5_numberOf 12 = .ok (.iload_n 1, 1) := by decide +kernel
theorem dX5_numberOf_13 : decode cX5_numberOf 13 = .ok (.bipush 25, 2) := by decide +kernel
theorem dX5_numberOf_15 : decode cX5_numberOf 15 = .ok (.if_icmp .ge 12, 3) := by decide +kernel
theorem dX5_numberOf_18 : decode cX5_numberOf 18 = .ok (.aload_n 0, 1) := by decide +kernel
theorem dX5_numberOf_19 : decode cX5_numberOf 19 = .ok (.getfield 19, 3) := by decide +kernel
theorem dX5_numberOf_22 : decode cX5_numberOf 22 = .ok (.iload_n 1, 1) := by decide +kernel
theorem dX5_numberOf_23 : decode cX5_numberOf 23 = .ok (.iaload, 1) := by decide +kernel
theorem dX5_numberOf_24 : decode cX5_numberOf 24 = .ok (.goto 4, 3) := by decide +kernel
theorem dX5_numberOf_27 : decode cX5_numberOf 27 = .ok (.iconst (-1), 1) := by decide +kernel
theorem dX5_numberOf_28 : decode cX5_numberOf 28 = .ok (.ireturn, 1) := by decide +kernel
theorem dX5_faultOfTelling_0 : decode cX5_faultOfTelling 0 = .ok (.aload_n 0, 1) := by decide +kernel
theorem dX5_faultOfTelling_1 : decode cX5_faultOfTelling 1 = .ok (.lload_n 1, 1) := by decide +kernel
theorem dX5_faultOfTelling_2 : decode cX5_faultOfTelling 2 = .ok (.invokevirtual 26, 3) := by decide +kernel
theorem dX5_faultOfTelling_5 : decode cX5_faultOfTelling 5 = .ok (.iconst (-1), 1) := by decide +kernel
theorem dX5_faultOfTelling_6 : decode cX5_faultOfTelling 6 = .ok (.if_icmp .ne 7, 3) := by decide +kernel
theorem dX5_faultOfTelling_9 : decode cX5_faultOfTelling 9 = .ok (.iconst 0, 1) := by decide +kernel
theorem dX5_faultOfTelling_10 : decode cX5_faultOfTelling 10 = .ok (.goto 4, 3) := by decide +kernel
theorem dX5_faultOfTelling_13 : decode cX5_faultOfTelling 13 = .ok (.iconst 2, 1) := by decide +kernel
theorem dX5_faultOfTelling_14 : decode cX5_faultOfTelling 14 = .ok (.ireturn, 1) := by decide +kernel
theorem dX5_faultOfUse_0 : decode cX5_faultOfUse 0 = .ok (.iload_n 1, 1) := by decide +kernel
theorem dX5_faultOfUse_1 : decode cX5_faultOfUse 1 = .ok (.ifCond .lt 17, 3) := by decide +kernel
theorem dX5_faultOfUse_4 : decode cX5_faultOfUse 4 = .ok (.iload_n 1, 1) := by decide +kernel
theorem dX5_faultOfUse_5 : decode cX5_faultOfUse 5 = .ok (.aload_n 0, 1) := by decide +kernel
theorem dX5_faultOfUse_6 : decode cX5_faultOfUse 6 = .ok (.getfield 22, 3) := by decide +kernel
theorem dX5_faultOfUse_9 : decode cX5_faultOfUse 9 = .ok (.if_icmp .ge 9, 3) := by decide +kernel
theorem dX5_faultOfUse_12 : decode cX5_faultOfUse 12 = .ok (.iload_n 1, 1) := by decide +kernel
theorem dX5_faultOfUse_13 : decode cX5_faultOfUse 13 = .ok (.bipush 25, 2) := by decide +kernel
theorem dX5_faultOfUse_15 : decode cX5_faultOfUse 15 = .ok (.if_icmp .lt 5, 3) := by decide +kernel
theorem dX5_faultOfUse_18 : decode cX5_faultOfUse 18 = .ok (.iconst 3, 1) := by decide +kernel
theorem dX5_faultOfUse_19 : decode cX5_faultOfUse 19 = .ok (.ireturn, 1) := by decide +kernel
theorem dX5_faultOfUse_20 : decode cX5_faultOfUse 20 = .ok (.aload_n 0, 1) := by decide +kernel
theorem dX5_faultOfUse_21 : decode cX5_faultOfUse 21 = .ok (.getfield 15, 3) := by decide +kernel
theorem dX5_faultOfUse_24 : decode cX5_faultOfUse 24 = .ok (.iload_n 1, 1) := by decide +kernel
theorem dX5_faultOfUse_25 : decode cX5_faultOfUse 25 = .ok (.iaload, 1) := by decide +kernel
theorem dX5_faultOfUse_26 : decode cX5_faultOfUse 26 = .ok (.iload_n 2, 1) := by decide +kernel
theorem dX5_faultOfUse_27 : decode cX5_faultOfUse 27 = .ok (.ifCond .eq 7, 3) := by decide +kernel
theorem dX5_faultOfUse_30 : decode cX5_faultOfUse 30 = .ok (.iconst 1, 1) := by decide +kernel
theorem dX5_faultOfUse_31 : decode cX5_faultOfUse 31 = .ok (.goto 4, 3) := by decide +kernel
theorem dX5_faultOfUse_34 : decode cX5_faultOfUse 34 = .ok (.iconst 3, 1) := by decide +kernel
theorem dX5_faultOfUse_35 : decode cX5_faultOfUse 35 = .ok (.if_icmp .ne 7, 3) := by decide +kernel
theorem dX5_faultOfUse_38 : decode cX5_faultOfUse 38 = .ok (.iconst 0, 1) := by decide +kernel
theorem dX5_faultOfUse_39 : decode cX5_faultOfUse 39 = .ok (.goto 4, 3) := by decide +kernel
theorem dX5_faultOfUse_42 : decode cX5_faultOfUse 42 = .ok (.iconst 4, 1) := by decide +kernel
theorem dX5_faultOfUse_43 : decode cX5_faultOfUse 43 = .ok (.ireturn, 1) := by decide +kernel
theorem dX6_init_0 : decode cX6_init 0 = .ok (.aload_n 0, 1) := by decide +kernel
theorem dX6_init_1 : decode cX6_init 1 = .ok (.invokespecial 1, 3) := by decide +kernel
theorem dX6_init_4 : decode cX6_init 4 = .ok (.return_, 1) := by decide +kernel
theorem dX6_take_0 : decode cX6_take 0 = .ok (.iconst 0, 1) := by decide +kernel
theorem dX6_take_1 : decode cX6_take 1 = .ok (.istore_n 2, 1) := by decide +kernel
theorem dX6_take_2 : decode cX6_take 2 = .ok (.iload_n 2, 1) := by decide +kernel
theorem dX6_take_3 : decode cX6_take 3 = .ok (.bipush 64, 2) := by decide +kernel
theorem dX6_take_5 : decode cX6_take 5 = .ok (.if_icmp .ge 27, 3) := by decide +kernel
theorem dX6_take_8 : decode cX6_take 8 = .ok (.aload_n 0, 1) := by decide +kernel
theorem dX6_take_9 : decode cX6_take 9 = .ok (.getfield 7, 3) := by decide +kernel
theorem dX6_take_12 : decode cX6_take 12 = .ok (.iload_n 1, 1) := by decide +kernel
theorem dX6_take_13 : decode cX6_take 13 = .ok (.iload_n 2, 1) := by decide +kernel
theorem dX6_take_14 : decode cX6_take 14 = .ok (.iadd, 1) := by decide +kernel
theorem dX6_take_15 : decode cX6_take 15 = .ok (.bipush 64, 2) := by decide +kernel
theorem dX6_take_17 : decode cX6_take 17 = .ok (.irem, 1) := by decide +kernel
theorem dX6_take_18 : decode cX6_take 18 = .ok (.lushr, 1) := by decide +kernel
theorem dX6_take_19 : decode cX6_take 19 = .ok (.lconst 1, 1) := by decide +kernel
theorem dX6_take_20 : decode cX6_take 20 = .ok (.land, 1) := by decide +kernel
theorem dX6_take_21 : decode cX6_take 21 = .ok (.lconst 1, 1) := by decide +kernel
theorem dX6_take_22 : decode cX6_take 22 = .ok (.lcmp, 1) := by decide +kernel
theorem dX6_take_23 : decode cX6_take 23 = .ok (.ifCond .ne 9, 3) := by decide +kernel
theorem dX6_take_26 : decode cX6_take 26 = .ok (.iinc 2 1, 3) := by decide +kernel
theorem dX6_take_29 : decode cX6_take 29 = .ok (.goto (-27), 3) := by decide +kernel
theorem dX6_take_32 : decode cX6_take 32 = .ok (.aload_n 0, 1) := by decide +kernel
theorem dX6_take_33 : decode cX6_take 33 = .ok (.dup, 1) := by decide +kernel
theorem dX6_take_34 : decode cX6_take 34 = .ok (.getfield 13, 3) := by decide +kernel
theorem dX6_take_37 : decode cX6_take 37 = .ok (.iconst 1, 1) := by decide +kernel
theorem dX6_take_38 : decode cX6_take 38 = .ok (.iadd, 1) := by decide +kernel
theorem dX6_take_39 : decode cX6_take 39 = .ok (.putfield 13, 3) := by decide +kernel
theorem dX6_take_42 : decode cX6_take 42 = .ok (.iload_n 2, 1) := by decide +kernel
theorem dX6_take_43 : decode cX6_take 43 = .ok (.iconst 1, 1) := by decide +kernel
theorem dX6_take_44 : decode cX6_take 44 = .ok (.iadd, 1) := by decide +kernel
theorem dX6_take_45 : decode cX6_take 45 = .ok (.ireturn, 1) := by decide +kernel
theorem dX7_init_0 : decode cX7_init 0 = .ok (.aload_n 0, 1) := by decide +kernel
theorem dX7_init_1 : decode cX7_init 1 = .ok (.invokespecial 3, 3) := by decide +kernel
theorem dX7_init_4 : decode cX7_init 4 = .ok (.aload_n 0, 1) := by decide +kernel
theorem dX7_init_5 : decode cX7_init 5 = .ok (.sipush 2000, 3) := by decide +kernel
theorem dX7_init_8 : decode cX7_init 8 = .ok (.newarray .byte, 2) := by decide +kernel
theorem dX7_init_10 : decode cX7_init 10 = .ok (.putfield 9, 3) := by decide +kernel
theorem dX7_init_13 : decode cX7_init 13 = .ok (.return_, 1) := by decide +kernel
theorem dX7_add_0 : decode cX7_add 0 = .ok (.bipush 24, 2) := by decide +kernel
theorem dX7_add_2 : decode cX7_add 2 = .ok (.istore_n 2, 1) := by decide +kernel
theorem dX7_add_3 : decode cX7_add 3 = .ok (.iload_n 2, 1) := by decide +kernel
theorem dX7_add_4 : decode cX7_add 4 = .ok (.ifCond .lt 42, 3) := by decide +kernel
theorem dX7_add_7 : decode cX7_add 7 = .ok (.aload_n 0, 1) := by decide +kernel
theorem dX7_add_8 : decode cX7_add 8 = .ok (.getfield 15, 3) := by decide +kernel
theorem dX7_add_11 : decode cX7_add 11 = .ok (.sipush 2000, 3) := by decide +kernel
theorem dX7_add_14 : decode cX7_add 14 = .ok (.if_icmp .ge 32, 3) := by decide +kernel
theorem dX7_add_17 : decode cX7_add 17 = .ok (.aload_n 0, 1) := by decide +kernel
theorem dX7_add_18 : decode cX7_add 18 = .ok (.getfield 9, 3) := by decide +kernel
theorem dX7_add_21 : decode cX7_add 21 = .ok (.aload_n 0, 1) := by decide +kernel
theorem dX7_add_22 : decode cX7_add 22 = .ok (.getfield 15, 3) := by decide +kernel
theorem dX7_add_25 : decode cX7_add 25 = .ok (.iload_n 1, 1) := by decide +kernel
theorem dX7_add_26 : decode cX7_add 26 = .ok (.iload_n 2, 1) := by decide +kernel
theorem dX7_add_27 : decode cX7_add 27 = .ok (.ishr, 1) := by decide +kernel
theorem dX7_add_28 : decode cX7_add 28 = .ok (.i2b, 1) := by decide +kernel
theorem dX7_add_29 : decode cX7_add 29 = .ok (.bastore, 1) := by decide +kernel
theorem dX7_add_30 : decode cX7_add 30 = .ok (.aload_n 0, 1) := by decide +kernel
theorem dX7_add_31 : decode cX7_add 31 = .ok (.dup, 1) := by decide +kernel
theorem dX7_add_32 : decode cX7_add 32 = .ok (.getfield 15, 3) := by decide +kernel
theorem dX7_add_35 : decode cX7_add 35 = .ok (.iconst 1, 1) := by decide +kernel
theorem dX7_add_36 : decode cX7_add 36 = .ok (.iadd, 1) := by decide +kernel
theorem dX7_add_37 : decode cX7_add 37 = .ok (.putfield 15, 3) := by decide +kernel
theorem dX7_add_40 : decode cX7_add 40 = .ok (.iinc 2 (-8), 3) := by decide +kernel
theorem dX7_add_43 : decode cX7_add 43 = .ok (.goto (-40), 3) := by decide +kernel
theorem dX7_add_46 : decode cX7_add 46 = .ok (.return_, 1) := by decide +kernel
