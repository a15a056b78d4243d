theorem dX12_fault_0 : decode cX12_fault 0 = .ok (.aload_n 0, 1) := by decide +kernel
theorem dX12_fault_1 : decode cX12_fault 1 = .ok (.iconst 0, 1) := by decide +kernel
theorem dX12_fault_2 : decode cX12_fault 2 = .ok (.putfield 83, 3) := by decide +kernel
theorem dX12_fault_5 : decode cX12_fault 5 = .ok (.iload_n 1, 1) := by decide +kernel
theorem dX12_fault_6 : decode cX12_fault 6 = .ok (.ifCond .ne 10, 3) := by decide +kernel
theorem dX12_fault_9 : decode cX12_fault 9 = .ok (.aload_n 0, 1) := by decide +kernel
theorem dX12_fault_10 : decode cX12_fault 10 = .ok (.getfield 333, 3) := by decide +kernel
theorem dX12_fault_13 : decode cX12_fault 13 = .ok (.goto 16, 3) := by decide +kernel
theorem dX12_fault_16 : decode cX12_fault 16 = .ok (.iload_n 1, 1) := by decide +kernel
theorem dX12_fault_17 : decode cX12_fault 17 = .ok (.iconst 1, 1) := by decide +kernel
theorem dX12_fault_18 : decode cX12_fault 18 = .ok (.if_icmp .ne 10, 3) := by decide +kernel
theorem dX12_fault_21 : decode cX12_fault 21 = .ok (.aload_n 0, 1) := by decide +kernel
theorem dX12_fault_22 : decode cX12_fault 22 = .ok (.getfield 13, 3) := by decide +kernel
theorem dX12_fault_25 : decode cX12_fault 25 = .ok (.goto 4, 3) := by decide +kernel
theorem dX12_fault_28 : decode cX12_fault 28 = .ok (.iconst (-1), 1) := by decide +kernel
theorem dX12_fault_29 : decode cX12_fault 29 = .ok (.ireturn, 1) := by decide +kernel
theorem dX12_give_0 : decode cX12_give 0 = .ok (.aload_n 0, 1) := by decide +kernel
theorem dX12_give_1 : decode cX12_give 1 = .ok (.aload_n 0, 1) := by decide +kernel
theorem dX12_give_2 : decode cX12_give 2 = .ok (.getfield 336, 3) := by decide +kernel
theorem dX12_give_5 : decode cX12_give 5 = .ok (.ifCond .eq 18, 3) := by decide +kernel
theorem dX12_give_8 : decode cX12_give 8 = .ok (.iload_n 1, 1) := by decide +kernel
theorem dX12_give_9 : decode cX12_give 9 = .ok (.ifCond .lt 14, 3) := by decide +kernel
theorem dX12_give_12 : decode cX12_give 12 = .ok (.iload_n 1, 1) := by decide +kernel
theorem dX12_give_13 : decode cX12_give 13 = .ok (.aload_n 0, 1) := by decide +kernel
theorem dX12_give_14 : decode cX12_give 14 = .ok (.getfield 46, 3) := by decide +kernel
theorem dX12_give_17 : decode cX12_give 17 = .ok (.getfield 231, 3) := by decide +kernel
theorem dX12_give_20 : decode cX12_give 20 = .ok (.if_icmp .lt 7, 3) := by decide +kernel
theorem dX12_give_23 : decode cX12_give 23 = .ok (.iconst 1, 1) := by decide +kernel
theorem dX12_give_24 : decode cX12_give 24 = .ok (.goto 4, 3) := by decide +kernel
theorem dX12_give_27 : decode cX12_give 27 = .ok (.iconst 0, 1) := by decide +kernel
theorem dX12_give_28 : decode cX12_give 28 = .ok (.putfield 83, 3) := by decide +kernel
theorem dX12_give_31 : decode cX12_give 31 = .ok (.aload_n 0, 1) := by decide +kernel
theorem dX12_give_32 : decode cX12_give 32 = .ok (.getfield 83, 3) := by decide +kernel
theorem dX12_give_35 : decode cX12_give 35 = .ok (.ifCond .le 5, 3) := by decide +kernel
theorem dX12_give_38 : decode cX12_give 38 = .ok (.iconst 0, 1) := by decide +kernel
theorem dX12_give_39 : decode cX12_give 39 = .ok (.ireturn, 1) := by decide +kernel
theorem dX12_give_40 : decode cX12_give 40 = .ok (.aload_n 0, 1) := by decide +kernel
theorem dX12_give_41 : decode cX12_give 41 = .ok (.getfield 65, 3) := by decide +kernel
theorem dX12_give_44 : decode cX12_give 44 = .ok (.iload_n 1, 1) := by decide +kernel
theorem dX12_give_45 : decode cX12_give 45 = .ok (.iaload, 1) := by decide +kernel
theorem dX12_give_46 : decode cX12_give 46 = .ok (.istore_n 3, 1) := by decide +kernel
theorem dX12_give_47 : decode cX12_give 47 = .ok (.aload_n 0, 1) := by decide +kernel
theorem dX12_give_48 : decode cX12_give 48 = .ok (.getfield 65, 3) := by decide +kernel
theorem dX12_give_51 : decode cX12_give 51 = .ok (.iload_n 1, 1) := by decide +kernel
theorem dX12_give_52 : decode cX12_give 52 = .ok (.iload_n 2, 1) := by decide +kernel
theorem dX12_give_53 : decode cX12_give 53 = .ok (.iastore, 1) := by decide +kernel
theorem dX12_give_54 : decode cX12_give 54 = .ok (.iload_n 3, 1) := by decide +kernel
theorem dX12_give_55 : decode cX12_give 55 = .ok (.ireturn, 1) := by decide +kernel
theorem dX12_isCell_0 : decode cX12_isCell 0 = .ok (.aload_n 0, 1) := by decide +kernel
theorem dX12_isCell_1 : decode cX12_isCell 1 = .ok (.getfield 336, 3) := by decide +kernel
theorem dX12_isCell_4 : decode cX12_isCell 4 = .ok (.ifCond .eq 39, 3) := by decide +kernel
theorem dX12_isCell_7 : decode cX12_isCell 7 = .ok (.iload_n 1, 1) := by decide +kernel
theorem dX12_isCell_8 : decode cX12_isCell 8 = .ok (.ifCond .lt 35, 3) := by decide +kernel
theorem dX12_isCell_11 : decode cX12_isCell 11 = .ok (.iload_n 1, 1) := by decide +kernel
theorem dX12_isCell_12 : decode cX12_isCell 12 = .ok (.aload_n 0, 1) := by decide +kernel
theorem dX12_isCell_13 : decode cX12_isCell 13 = .ok (.getfield 46, 3) := by decide +kernel
theorem dX12_isCell_16 : decode cX12_isCell 16 = .ok (.getfield 225, 3) := by decide +kernel
theorem dX12_isCell_19 : decode cX12_isCell 19 = .ok (.if_icmp .ge 24, 3) := by decide +kernel
theorem dX12_isCell_22 : decode cX12_isCell 22 = .ok (.iload_n 2, 1) := by decide +kernel
theorem dX12_isCell_23 : decode cX12_isCell 23 = .ok (.ifCond .lt 20, 3) := by decide +kernel
theorem dX12_isCell_26 : decode cX12_isCell 26 = .ok (.iload_n 2, 1) := by decide +kernel
theorem dX12_isCell_27 : decode cX12_isCell 27 = .ok (.aload_n 0, 1) := by decide +kernel
theorem dX12_isCell_28 : decode cX12_isCell 28 = .ok (.getfield 46, 3) := by decide +kernel
theorem dX12_isCell_31 : decode cX12_isCell 31 = .ok (.getfield 228, 3) := by decide +kernel
theorem dX12_isCell_34 : decode cX12_isCell 34 = .ok (.iload_n 1, 1) := by decide +kernel
theorem dX12_isCell_35 : decode cX12_isCell 35 = .ok (.iaload, 1) := by decide +kernel
theorem dX12_isCell_36 : decode cX12_isCell 36 = .ok (.if_icmp .ge 7, 3) := by decide +kernel
theorem dX12_isCell_39 : decode cX12_isCell 39 = .ok (.iconst 1, 1) := by decide +kernel
theorem dX12_isCell_40 : decode cX12_isCell 40 = .ok (.goto 4, 3) := by decide +kernel
theorem dX12_isCell_43 : decode cX12_isCell 43 = .ok (.iconst 0, 1) := by decide +kernel
theorem dX12_isCell_44 : decode cX12_isCell 44 = .ok (.ireturn, 1) := by decide +kernel
theorem dX12_poke_0 : decode cX12_poke 0 = .ok (.aload_n 0, 1) := by decide +kernel
theorem dX12_poke_1 : decode cX12_poke 1 = .ok (.aload_n 0, 1) := by decide +kernel
theorem dX12_poke_2 : decode cX12_poke 2 = .ok (.iload_n 1, 1) := by decide +kernel
theorem dX12_poke_3 : decode cX12_poke 3 = .ok (.iload_n 2, 1) := by decide +kernel
theorem dX12_poke_4 : decode cX12_poke 4 = .ok (.invokevirtual 343, 3) := by decide +kernel
theorem dX12_poke_7 : decode cX12_poke 7 = .ok (.ifCond .eq 7, 3) := by decide +kernel
theorem dX12_poke_10 : decode cX12_poke 10 = .ok (.iconst 0, 1) := by decide +kernel
theorem dX12_poke_11 : decode cX12_poke 11 = .ok (.goto 4, 3) := by decide +kernel
theorem dX12_poke_14 : decode cX12_poke 14 = .ok (.iconst 1, 1) := by decide +kernel
theorem dX12_poke_15 : decode cX12_poke 15 = .ok (.putfield 83, 3) := by decide +kernel
theorem dX12_poke_18 : decode cX12_poke 18 = .ok (.aload_n 0, 1) := by decide +kernel
theorem dX12_poke_19 : decode cX12_poke 19 = .ok (.getfield 83, 3) := by decide +kernel
theorem dX12_poke_22 : decode cX12_poke 22 = .ok (.ifCond .le 5, 3) := by decide +kernel
theorem dX12_poke_25 : decode cX12_poke 25 = .ok (.iconst 0, 1) := by decide +kernel
theorem dX12_poke_26 : decode cX12_poke 26 = .ok (.ireturn, 1) := by decide +kernel
theorem dX12_poke_27 : decode cX12_poke 27 = .ok (.aload_n 0, 1) := by decide +kernel
theorem dX12_poke_28 : decode cX12_poke 28 = .ok (.getfield 62, 3) := by decide +kernel
theorem dX12_poke_31 : decode cX12_poke 31 = .ok (.sipush 256, 3) := by decide +kernel
theorem dX12_poke_34 : decode cX12_poke 34 = .ok (.iload_n 1, 1) := by decide +kernel
theorem dX12_poke_35 : decode cX12_poke 35 = .ok (.imul, 1) := by decide +kernel
theorem dX12_poke_36 : decode cX12_poke 36 = .ok (.iload_n 2, 1) := by decide +kernel
theorem dX12_poke_37 : decode cX12_poke 37 = .ok (.iadd, 1) := by decide +kernel
theorem dX12_poke_38 : decode cX12_poke 38 = .ok (.iaload, 1) := by decide +kernel
theorem dX12_poke_39 : decode cX12_poke 39 = .ok (.istore 4, 2) := by decide +kernel
theorem dX12_poke_41 : decode cX12_poke 41 = .ok (.aload_n 0, 1) := by decide +kernel
theorem dX12_poke_42 : decode cX12_poke 42 = .ok (.getfield 62, 3) := by decide +kernel
theorem dX12_poke_45 : decode cX12_poke 45 = .ok (.sipush 256, 3) := by decide +kernel
theorem dX12_poke_48 : decode cX12_poke 48 = .ok (.iload_n 1, 1) := by decide +kernel
theorem dX12_poke_49 : decode cX12_poke 49 = .ok (.imul, 1) := by decide +kernel
theorem dX12_poke_50 : decode cX12_poke 50 = .ok (.iload_n 2, 1) := by decide +kernel
theorem dX12_poke_51 : decode cX12_poke 51 = .ok (.iadd, 1) := by decide +kernel
theorem dX12_poke_52 : decode cX12_poke 52 = .ok (.iload_n 3, 1) := by decide +kernel
theorem dX12_poke_53 : decode cX12_poke 53 = .ok (.iastore, 1) := by decide +kernel
theorem dX12_poke_54 : decode cX12_poke 54 = .ok (.iload 4, 2) := by decide +kernel
theorem dX12_poke_56 : decode cX12_poke 56 = .ok (.ireturn, 1) := by decide +kernel
theorem dX12_cell_0 : decode cX12_cell 0 = .ok (.aload_n 0, 1) := by decide +kernel
theorem dX12_cell_1 : decode cX12_cell 1 = .ok (.aload_n 0, 1) := by decide +kernel
theorem dX12_cell_2 : decode cX12_cell 2 = .ok (.iload_n 1, 1) := by decide +kernel
theorem dX12_cell_3 : decode cX12_cell 3 = .ok (.iload_n 2, 1) := by decide +kernel
theorem dX12_cell_4 : decode cX12_cell 4 = .ok (.invokevirtual 343, 3) := by decide +kernel
theorem dX12_cell_7 : decode cX12_cell 7 = .ok (.ifCond .eq 7, 3) := by decide +kernel
theorem dX12_cell_10 : decode cX12_cell 10 = .ok (.iconst 0, 1) := by decide +kernel
theorem dX12_cell_11 : decode cX12_cell 11 = .ok (.goto 4, 3) := by decide +kernel
theorem dX12_cell_14 : decode cX12_cell 14 = .ok (.iconst 1, 1) := by decide +kernel
theorem dX12_cell_15 : decode cX12_cell 15 = .ok (.putfield 83, 3) := by decide +kernel
theorem dX12_cell_18 : decode cX12_cell 18 = .ok (.aload_n 0, 1) := by decide +kernel
theorem dX12_cell_19 : decode cX12_cell 19 = .ok (.getfield 83, 3) := by decide +kernel
theorem dX12_cell_22 : decode cX12_cell 22 = .ok (.ifCond .le 7, 3) := by decide +kernel
theorem dX12_cell_25 : decode cX12_cell 25 = .ok (.iconst 0, 1) := by decide +kernel
theorem dX12_cell_26 : decode cX12_cell 26 = .ok (.goto 15, 3) := by decide +kernel
theorem dX12_cell_29 : decode cX12_cell 29 = .ok (.aload_n 0, 1) := by decide +kernel
theorem dX12_cell_30 : decode cX12_cell 30 = .ok (.getfield 62, 3) := by decide +kernel
theorem dX12_cell_33 : decode cX12_cell 33 = .ok (.sipush 256, 3) := by decide +kernel
theorem dX12_cell_36 : decode cX12_cell 36 = .ok (.iload_n 1, 1) := by decide +kernel
theorem dX12_cell_37 : decode cX12_cell 37 = .ok (.imul, 1) := by decide +kernel
theorem dX12_cell_38 : decode cX12_cell 38 = .ok (.iload_n 2, 1) := by decide +kernel
theorem dX12_cell_39 : decode cX12_cell 39 = .ok (.iadd, 1) := by decide +kernel
theorem dX12_cell_40 : decode cX12_cell 40 = .ok (.iaload, 1) := by decide +kernel
theorem dX12_cell_41 : decode cX12_cell 41 = .ok (.ireturn, 1) := by decide +kernel
theorem dX12_latency_0 : decode cX12_latency 0 = .ok (.aload_n 0, 1) := by decide +kernel
theorem dX12_latency_1 : decode cX12_latency 1 = .ok (.iconst 0, 1) := by decide +kernel
theorem dX12_latency_2 : decode cX12_latency 2 = .ok (.putfield 83, 3) := by decide +kernel
theorem dX12_latency_5 : decode cX12_latency 5 = .ok (.iload_n 1, 1) := by decide +kernel
theorem dX12_latency_6 : decode cX12_latency 6 = .ok (.iconst 1, 1) := by decide +kernel
theorem dX12_latency_7 : decode cX12_latency 7 = .ok (.if_icmp .lt 18, 3) := by decide +kernel
theorem dX12_latency_10 : decode cX12_latency 10 = .ok (.iload_n 1, 1) := by decide +kernel
theorem dX12_latency_11 : decode cX12_latency 11 = .ok (.bipush 64, 2) := by decide +kernel
theorem dX12_latency_13 : decode cX12_latency 13 = .ok (.if_icmp .gt 12, 3) := by decide +kernel
theorem dX12_latency_16 : decode cX12_latency 16 = .ok (.aload_n 0, 1) := by decide +kernel
theorem dX12_latency_17 : decode cX12_latency 17 = .ok (.getfield 346, 3) := by decide +kernel
theorem dX12_latency_20 : decode cX12_latency 20 = .ok (.bipush 32, 2) := by decide +kernel
theorem dX12_latency_22 : decode cX12_latency 22 = .ok (.if_icmp .ne 5, 3) := by decide +kernel
theorem dX12_latency_25 : decode cX12_latency 25 = .ok (.iconst (-1), 1) := by decide +kernel
theorem dX12_latency_26 : decode cX12_latency 26 = .ok (.ireturn, 1) := by decide +kernel
theorem dX12_latency_27 : decode cX12_latency 27 = .ok (.aload_n 0, 1) := by decide +kernel
theorem dX12_latency_28 : decode cX12_latency 28 = .ok (.getfield 17, 3) := by decide +kernel
theorem dX12_latency_31 : decode cX12_latency 31 = .ok (.aload_n 0, 1) := by decide +kernel
theorem dX12_latency_32 : decode cX12_latency 32 = .ok (.getfield 346, 3) := by decide +kernel
theorem dX12_latency_35 : decode cX12_latency 35 = .ok (.iload_n 1, 1) := by decide +kernel
theorem dX12_latency_36 : decode cX12_latency 36 = .ok (.iastore, 1) := by decide +kernel
theorem dX12_latency_37 : decode cX12_latency 37 = .ok (.aload_n 0, 1) := by decide +kernel
theorem dX12_latency_38 : decode cX12_latency 38 = .ok (.dup, 1) := by decide +kernel
theorem dX12_latency_39 : decode cX12_latency 39 = .ok (.getfield 346, 3) := by decide +kernel
theorem dX12_latency_42 : decode cX12_latency 42 = .ok (.iconst 1, 1) := by decide +kernel
theorem dX12_latency_43 : decode cX12_latency 43 = .ok (.iadd, 1) := by decide +kernel
theorem dX12_latency_44 : decode cX12_latency 44 = .ok (.putfield 346, 3) := by decide +kernel
theorem dX12_latency_47 : decode cX12_latency 47 = .ok (.aload_n 0, 1) := by decide +kernel
theorem dX12_latency_48 : decode cX12_latency 48 = .ok (.getfield 346, 3) := by decide +kernel
theorem dX12_latency_51 : decode cX12_latency 51 = .ok (.ireturn, 1) := by decide +kernel
theorem dX12_free_0 : decode cX12_free 0 = .ok (.aload_n 0, 1) := by decide +kernel
theorem dX12_free_1 : decode cX12_free 1 = .ok (.iconst 0, 1) := by decide +kernel
theorem dX12_free_2 : decode cX12_free 2 = .ok (.putfield 83, 3) := by decide +kernel
theorem dX12_free_5 : decode cX12_free 5 = .ok (.aload_n 0, 1) := by decide +kernel
theorem dX12_free_6 : decode cX12_free 6 = .ok (.getfield 346, 3) := by decide +kernel
theorem dX12_free_9 : decode cX12_free 9 = .ok (.istore_n 1, 1) := by decide +kernel
theorem dX12_free_10 : decode cX12_free 10 = .ok (.aload_n 0, 1) := by decide +kernel
theorem dX12_free_11 : decode cX12_free 11 = .ok (.iconst 0, 1) := by decide +kernel
theorem dX12_free_12 : decode cX12_free 12 = .ok (.putfield 346, 3) := by decide +kernel
theorem dX12_free_15 : decode cX12_free 15 = .ok (.iload_n 1, 1) := by decide +kernel
theorem dX12_free_16 : decode cX12_free 16 = .ok (.ireturn, 1) := by decide +kernel
theorem dX12_stall_0 : decode cX12_stall 0 = .ok (.aload_n 0, 1) := by decide +kernel
theorem dX12_stall_1 : decode cX12_stall 1 = .ok (.iconst 0, 1) := by decide +kernel
theorem dX12_stall_2 : decode cX12_stall 2 = .ok (.putfield 83, 3) := by decide +kernel
theorem dX12_stall_5 : decode cX12_stall 5 = .ok (.aload_n 0, 1) := by decide +kernel
theorem dX12_stall_6 : decode cX12_stall 6 = .ok (.getfield 349, 3) := by decide +kernel
theorem dX12_stall_9 : decode cX12_stall 9 = .ok (.lstore_n 3, 1) := by decide +kernel
theorem dX12_stall_10 : decode cX12_stall 10 = .ok (.aload_n 0, 1) := by decide +kernel
theorem dX12_stall_11 : decode cX12_stall 11 = .ok (.lload_n 1, 1) := by decide +kernel
theorem dX12_stall_12 : decode cX12_stall 12 = .ok (.ldc2_w 353, 3) := by decide +kernel
theorem dX12_stall_15 : decode cX12_stall 15 = .ok (.lcmp, 1) := by decide +kernel
theorem dX12_stall_16 : decode cX12_stall 16 = .ok (.ifCond .ne 7, 3) := by decide +kernel
theorem dX12_stall_19 : decode cX12_stall 19 = .ok (.lconst 0, 1) := by decide +kernel
theorem dX12_stall_20 : decode cX12_stall 20 = .ok (.goto 4, 3) := by decide +kernel
theorem dX12_stall_23 : decode cX12_stall 23 = .ok (.lload_n 1, 1) := by decide +kernel
theorem dX12_stall_24 : decode cX12_stall 24 = .ok (.putfield 349, 3) := by decide +kernel
theorem dX12_stall_27 : decode cX12_stall 27 = .ok (.lload_n 3, 1) := by decide +kernel
theorem dX12_stall_28 : decode cX12_stall 28 = .ok (.lreturn, 1) := by decide +kernel
theorem dX12_divided_0 : decode cX12_divided 0 = .ok (.iload_n 1, 1) := by decide +kernel
theorem dX12_divided_1 : decode cX12_divided 1 = .ok (.ifCond .ne 7, 3) := by decide +kernel
theorem dX12_divided_4 : decode cX12_divided 4 = .ok (.iconst (-1), 1) := by decide +kernel
theorem dX12_divided_5 : decode cX12_divided 5 = .ok (.goto 16, 3) := by decide +kernel
theorem dX12_divided_8 : decode cX12_divided 8 = .ok (.iload_n 1, 1) := by decide +kernel
theorem dX12_divided_9 : decode cX12_divided 9 = .ok (.iconst (-1), 1) := by decide +kernel
theorem dX12_divided_10 : decode cX12_divided 10 = .ok (.if_icmp .ne 8, 3) := by decide +kernel
theorem dX12_divided_13 : decode cX12_divided 13 = .ok (.iload_n 0, 1) := by decide +kernel
theorem dX12_divided_14 : decode cX12_divided 14 = .ok (.ineg, 1) := by decide +kernel
theorem dX12_divided_15 : decode cX12_divided 15 = .ok (.goto 6, 3) := by decide +kernel
theorem dX12_divided_18 : decode cX12_divided 18 = .ok (.iload_n 0, 1) := by decide +kernel
theorem dX12_divided_19 : decode cX12_divided 19 = .ok (.iload_n 1, 1) := by decide +kernel
theorem dX12_divided_20 : decode cX12_divided 20 = .ok (.idiv, 1) := by decide +kernel
theorem dX12_divided_21 : decode cX12_divided 21 = .ok (.ireturn, 1) := by decide +kernel
theorem dX12_rest_0 : decode cX12_rest 0 = .ok (.iload_n 1, 1) := by decide +kernel
theorem dX12_rest_1 : decode cX12_rest 1 = .ok (.ifCond .ne 7, 3) := by decide +kernel
theorem dX12_rest_4 : decode cX12_rest 4 = .ok (.iload_n 0, 1) := by decide +kernel
theorem dX12_rest_5 : decode cX12_rest 5 = .ok (.goto 15, 3) := by decide +kernel
theorem dX12_rest_8 : decode cX12_rest 8 = .ok (.iload_n 1, 1) := by decide +kernel
theorem dX12_rest_9 : decode cX12_rest 9 = .ok (.iconst (-1), 1) := by decide +kernel
theorem dX12_rest_10 : decode cX12_rest 10 = .ok (.if_icmp .ne 7, 3) := by decide +kernel
theorem dX12_rest_13 : decode cX12_rest 13 = .ok (.iconst 0, 1) := by decide +kernel
theorem dX12_rest_14 : decode cX12_rest 14 = .ok (.goto 6, 3) := by decide +kernel
theorem dX12_rest_17 : decode cX12_rest 17 = .ok (.iload_n 0, 1) := by decide +kernel
theorem dX12_rest_18 : decode cX12_rest 18 = .ok (.iload_n 1, 1) := by decide +kernel
theorem dX12_rest_19 : decode cX12_rest 19 = .ok (.irem, 1) := by decide +kernel
theorem dX12_rest_20 : decode cX12_rest 20 = .ok (.ireturn, 1) := by decide +kernel
theorem dX12_truth_0 : decode cX12_truth 0 = .ok (.iload_n 0, 1) := by decide +kernel
theorem dX12_truth_1 : decode cX12_truth 1 = .ok (.ifCond .eq 7, 3) := by decide +kernel
theorem dX12_truth_4 : decode cX12_truth 4 = .ok (.iconst 1, 1) := by decide +kernel
theorem dX12_truth_5 : decode cX12_truth 5 = .ok (.goto 4, 3) := by decide +kernel
theorem dX12_truth_8 : decode cX12_truth 8 = .ok (.iconst 0, 1) := by decide +kernel
theorem dX12_truth_9 : decode cX12_truth 9 = .ok (.ireturn, 1) := by decide +kernel
theorem dX12_works_0 : decode cX12_works 0 = .ok (.iload_n 0, 1) := by decide +kernel
theorem dX12_works_1 : decode cX12_works 1 = .ok (.lookupswitch 321 #[(38, 201), (42, 311), (43, 303), (45, 307), (47, 315), (60, 233), (62, 247), (94, 197), (124, 193), (8509, 219), (9766, 170), (15420, 289), (15421, 261), (15677, 205), (15933, 275), (15934, 296), (31868, 147)], 147) := by decide +kernel
theorem dX12_works_148 : decode cX12_works 148 = .ok (.iload_n 1, 1) := by decide +kernel
theorem dX12_works_149 : decode cX12_works 149 = .ok (.ifCond .eq 7, 3) := by decide +kernel
theorem dX12_works_152 : decode cX12_works 152 = .ok (.iconst 1, 1) := by decide +kernel
theorem dX12_works_153 : decode cX12_works 153 = .ok (.goto 4, 3) := by decide +kernel
theorem dX12_works_156 : decode cX12_works 156 = .ok (.iconst 0, 1) := by decide +kernel
theorem dX12_works_157 : decode cX12_works 157 = .ok (.iload_n 2, 1) := by decide +kernel
theorem dX12_works_158 : decode cX12_works 158 = .ok (.ifCond .eq 7, 3) := by decide +kernel
theorem dX12_works_161 : decode cX12_works 161 = .ok (.iconst 1, 1) := by decide +kernel
theorem dX12_works_162 : decode cX12_works 162 = .ok (.goto 4, 3) := by decide +kernel
theorem dX12_works_165 : decode cX12_works 165 = .ok (.iconst 0, 1) := by decide +kernel
theorem dX12_works_166 : decode cX12_works 166 = .ok (.ior, 1) := by decide +kernel
theorem dX12_works_167 : decode cX12_works 167 = .ok (.invokestatic 355, 3) := by decide +kernel
theorem dX12_works_170 : decode cX12_works 170 = .ok (.ireturn, 1) := by decide +kernel
theorem dX12_works_171 : decode cX12_works 171 = .ok (.iload_n 1, 1) := by decide +kernel
theorem dX12_works_172 : decode cX12_works 172 = .ok (.ifCond .eq 7, 3) := by decide +kernel
theorem dX12_works_175 : decode cX12_works 175 = .ok (.iconst 1, 1) := by decide +kernel
theorem dX12_works_176 : decode cX12_works 176 = .ok (.goto 4, 3) := by decide +kernel
theorem dX12_works_179 : decode cX12_works 179 = .ok (.iconst 0, 1) := by decide +kernel
theorem dX12_works_180 : decode cX12_works 180 = .ok (.iload_n 2, 1) := by decide +kernel
theorem dX12_works_181 : decode cX12_works 181 = .ok (.ifCond .eq 7, 3) := by decide +kernel
theorem dX12_works_184 : decode cX12_works 184 = .ok (.iconst 1, 1) := by decide +kernel
theorem dX12_works_185 : decode cX12_works 185 = .ok (.goto 4, 3) := by decide +kernel
theorem dX12_works_188 : decode cX12_works 188 = .ok (.iconst 0, 1) := by decide +kernel
theorem dX12_works_189 : decode cX12_works 189 = .ok (.iand, 1) := by decide +kernel
theorem dX12_works_190 : decode cX12_works 190 = .ok (.invokestatic 355, 3) := by decide +kernel
theorem dX12_works_193 : decode cX12_works 193 = .ok (.ireturn, 1) := by decide +kernel
theorem dX12_works_194 : decode cX12_works 194 = .ok (.iload_n 1, 1) := by decide +kernel
theorem dX12_works_195 : decode cX12_works 195 = .ok (.iload_n 2, 1) := by decide +kernel
theorem dX12_works_196 : decode cX12_works 196 = .ok (.ior, 1) := by decide +kernel
theorem dX12_works_197 : decode cX12_works 197 = .ok (.ireturn, 1) := by decide +kernel
theorem dX12_works_198 : decode cX12_works 198 = .ok (.iload_n 1, 1) := by decide +kernel
theorem dX12_works_199 : decode cX12_works 199 = .ok (.iload_n 2, 1) := by decide +kernel
theorem dX12_works_200 : decode cX12_works 200 = .ok (.ixor, 1) := by decide +kernel
theorem dX12_works_201 : decode cX12_works 201 = .ok (.ireturn, 1) := by decide +kernel
theorem dX12_works_202 : decode cX12_works 202 = .ok (.iload_n 1, 1) := by decide +kernel
theorem dX12_works_203 : decode cX12_works 203 = .ok (.iload_n 2, 1) := by decide +kernel
theorem dX12_works_204 : decode cX12_works 204 = .ok (.iand, 1) := by decide +kernel
theorem dX12_works_205 : decode cX12_works 205 = .ok (.ireturn, 1) := by decide +kernel
theorem dX12_works_206 : decode cX12_works 206 = .ok (.iload_n 1, 1) := by decide +kernel
theorem dX12_works_207 : decode cX12_works 207 = .ok (.iload_n 2, 1) := by decide +kernel
theorem dX12_works_208 : decode cX12_works 208 = .ok (.if_icmp .ne 7, 3) := by decide +kernel
theorem dX12_works_211 : decode cX12_works 211 = .ok (.iconst 1, 1) := by decide +kernel
theorem dX12_works_212 : decode cX12_works 212 = .ok (.goto 4, 3) := by decide +kernel
theorem dX12_works_215 : decode cX12_works 215 = .ok (.iconst 0, 1) := by decide +kernel
theorem dX12_works_216 : decode cX12_works 216 = .ok (.invokestatic 355, 3) := by decide +kernel
theorem dX12_works_219 : decode cX12_works 219 = .ok (.ireturn, 1) := by decide +kernel
theorem dX12_works_220 : decode cX12_works 220 = .ok (.iload_n 1, 1) := by decide +kernel
theorem dX12_works_221 : decode cX12_works 221 = .ok (.iload_n 2, 1) := by decide +kernel
theorem dX12_works_222 : decode cX12_works 222 = .ok (.if_icmp .eq 7, 3) := by decide +kernel
theorem dX12_works_225 : decode cX12_works 225 = .ok (.iconst 1, 1) := by decide +kernel
theorem dX12_works_226 : decode cX12_works 226 = .ok (.goto 4, 3) := by decide +kernel
theorem dX12_works_229 : decode cX12_works 229 = .ok (.iconst 0, 1) := by decide +kernel
theorem dX12_works_230 : decode cX12_works 230 = .ok (.invokestatic 355, 3) := by decide +kernel
theorem dX12_works_233 : decode cX12_works 233 = .ok (.ireturn, 1) := by decide +kernel
theorem dX12_works_234 : decode cX12_works 234 = .ok (.iload_n 1, 1) := by decide +kernel
theorem dX12_works_235 : decode cX12_works 235 = .ok (.iload_n 2, 1) := by decide +kernel
theorem dX12_works_236 : decode cX12_works 236 = .ok (.if_icmp .ge 7, 3) := by decide +kernel
theorem dX12_works_239 : decode cX12_works 239 = .ok (.iconst 1, 1) := by decide +kernel
theorem dX12_works_240 : decode cX12_works 240 = .ok (.goto 4, 3) := by decide +kernel
theorem dX12_works_243 : decode cX12_works 243 = .ok (.iconst 0, 1) := by decide +kernel
theorem dX12_works_244 : decode cX12_works 244 = .ok (.invokestatic 355, 3) := by decide +kernel
theorem dX12_works_247 : decode cX12_works 247 = .ok (.ireturn, 1) := by decide +kernel
theorem dX12_works_248 : decode cX12_works 248 = .ok (.iload_n 1, 1) := by decide +kernel
theorem dX12_works_249 : decode cX12_works 249 = .ok (.iload_n 2, 1) := by decide +kernel
theorem dX12_works_250 : decode cX12_works 250 = .ok (.if_icmp .le 7, 3) := by decide +kernel
theorem dX12_works_253 : decode cX12_works 253 = .ok (.iconst 1, 1) := by decide +kernel
theorem dX12_works_254 : decode cX12_works 254 = .ok (.goto 4, 3) := by decide +kernel
theorem dX12_works_257 : decode cX12_works 257 = .ok (.iconst 0, 1) := by decide +kernel
theorem dX12_works_258 : decode cX12_works 258 = .ok (.invokestatic 355, 3) := by decide +kernel
theorem dX12_works_261 : decode cX12_works 261 = .ok (.ireturn, 1) := by decide +kernel
theorem dX12_works_262 : decode cX12_works 262 = .ok (.iload_n 1, 1) := by decide +kernel
theorem dX12_works_263 : decode cX12_works 263 = .ok (.iload_n 2, 1) := by decide +kernel
theorem dX12_works_264 : decode cX12_works 264 = .ok (.if_icmp .gt 7, 3) := by decide +kernel
theorem dX12_works_267 : decode cX12_works 267 = .ok (.iconst 1, 1) := by decide +kernel
theorem dX12_works_268 : decode cX12_works 268 = .ok (.goto 4, 3) := by decide +kernel
theorem dX12_works_271 : decode cX12_works 271 = .ok (.iconst 0, 1) := by decide +kernel
theorem dX12_works_272 : decode cX12_works 272 = .ok (.invokestatic 355, 3) := by decide +kernel
theorem dX12_works_275 : decode cX12_works 275 = .ok (.ireturn, 1) := by decide +kernel
theorem dX12_works_276 : decode cX12_works 276 = .ok (.iload_n 1, 1) := by decide +kernel
theorem dX12_works_277 : decode cX12_works 277 = .ok (.iload_n 2, 1) := by decide +kernel
theorem dX12_works_278 : decode cX12_works 278 = .ok (.if_icmp .lt 7, 3) := by decide +kernel
theorem dX12_works_281 : decode cX12_works 281 = .ok (.iconst 1, 1) := by decide +kernel
theorem dX12_works_282 : decode cX12_works 282 = .ok (.goto 4, 3) := by decide +kernel
theorem dX12_works_285 : decode cX12_works 285 = .ok (.iconst 0, 1) := by decide +kernel
theorem dX12_works_286 : decode cX12_works 286 = .ok (.invokestatic 355, 3) := by decide +kernel
theorem dX12_works_289 : decode cX12_works 289 = .ok (.ireturn, 1) := by decide +kernel
theorem dX12_works_290 : decode cX12_works 290 = .ok (.iload_n 1, 1) := by decide +kernel
theorem dX12_works_291 : decode cX12_works 291 = .ok (.iload_n 2, 1) := by decide +kernel
theorem dX12_works_292 : decode cX12_works 292 = .ok (.bipush 31, 2) := by decide +kernel
theorem dX12_works_294 : decode cX12_works 294 = .ok (.iand, 1) := by decide +kernel
theorem dX12_works_295 : decode cX12_works 295 = .ok (.ishl, 1) := by decide +kernel
theorem dX12_works_296 : decode cX12_works 296 = .ok (.ireturn, 1) := by decide +kernel
theorem dX12_works_297 : decode cX12_works 297 = .ok (.iload_n 1, 1) := by decide +kernel
theorem dX12_works_298 : decode cX12_works 298 = .ok (.iload_n 2, 1) := by decide +kernel
theorem dX12_works_299 : decode cX12_works 299 = .ok (.bipush 31, 2) := by decide +kernel
theorem dX12_works_301 : decode cX12_works 301 = .ok (.iand, 1) := by decide +kernel
theorem dX12_works_302 : decode cX12_works 302 = .ok (.ishr, 1) := by decide +kernel
theorem dX12_works_303 : decode cX12_works 303 = .ok (.ireturn, 1) := by decide +kernel
theorem dX12_works_304 : decode cX12_works 304 = .ok (.iload_n 1, 1) := by decide +kernel
theorem dX12_works_305 : decode cX12_works 305 = .ok (.iload_n 2, 1) := by decide +kernel
theorem dX12_works_306 : decode cX12_works 306 = .ok (.iadd, 1) := by decide +kernel
theorem dX12_works_307 : decode cX12_works 307 = .ok (.ireturn, 1) := by decide +kernel
theorem dX12_works_308 : decode cX12_works 308 = .ok (.iload_n 1, 1) := by decide +kernel
theorem dX12_works_309 : decode cX12_works 309 = .ok (.iload_n 2, 1) := by decide +kernel
theorem dX12_works_310 : decode cX12_works 310 = .ok (.isub, 1) := by decide +kernel
theorem dX12_works_311 : decode cX12_works 311 = .ok (.ireturn, 1) := by decide +kernel
theorem dX12_works_312 : decode cX12_works 312 = .ok (.iload_n 1, 1) := by decide +kernel
theorem dX12_works_313 : decode cX12_works 313 = .ok (.iload_n 2, 1) := by decide +kernel
theorem dX12_works_314 : decode cX12_works 314 = .ok (.imul, 1) := by decide +kernel
theorem dX12_works_315 : decode cX12_works 315 = .ok (.ireturn, 1) := by decide +kernel
theorem dX12_works_316 : decode cX12_works 316 = .ok (.iload_n 1, 1) := by decide +kernel
theorem dX12_works_317 : decode cX12_works 317 = .ok (.iload_n 2, 1) := by decide +kernel
theorem dX12_works_318 : decode cX12_works 318 = .ok (.invokestatic 359, 3) := by decide +kernel
theorem dX12_works_321 : decode cX12_works 321 = .ok (.ireturn, 1) := by decide +kernel
theorem dX12_works_322 : decode cX12_works 322 = .ok (.iload_n 1, 1) := by decide +kernel
theorem dX12_works_323 : decode cX12_works 323 = .ok (.iload_n 2, 1) := by decide +kernel
theorem dX12_works_324 : decode cX12_works 324 = .ok (.invokestatic 362, 3) := by decide +kernel
theorem dX12_works_327 : decode cX12_works 327 = .ok (.ireturn, 1) := by decide +kernel
theorem dX12_placeOf_0 : decode cX12_placeOf 0 = .ok (.aload_n 0, 1) := by decide +kernel
theorem dX12_placeOf_1 : decode cX12_placeOf 1 = .ok (.getfield 46, 3) := by decide +kernel
theorem dX12_placeOf_4 : decode cX12_placeOf 4 = .ok (.getfield 228, 3) := by decide +kernel
theorem dX12_placeOf_7 : decode cX12_placeOf 7 = .ok (.iload_n 1, 1) := by decide +kernel
theorem dX12_placeOf_8 : decode cX12_placeOf 8 = .ok (.iaload, 1) := by decide +kernel
theorem dX12_placeOf_9 : decode cX12_placeOf 9 = .ok (.istore_n 3, 1) := by decide +kernel
theorem dX12_placeOf_10 : decode cX12_placeOf 10 = .ok (.sipush 256, 3) := by decide +kernel
theorem dX12_placeOf_13 : decode cX12_placeOf 13 = .ok (.iload_n 1, 1) := by decide +kernel
theorem dX12_placeOf_14 : decode cX12_placeOf 14 = .ok (.imul, 1) := by decide +kernel
theorem dX12_placeOf_15 : decode cX12_placeOf 15 = .ok (.iload_n 2, 1) := by decide +kernel
theorem dX12_placeOf_16 : decode cX12_placeOf 16 = .ok (.iload_n 3, 1) := by decide +kernel
theorem dX12_placeOf_17 : decode cX12_placeOf 17 = .ok (.irem, 1) := by decide +kernel
theorem dX12_placeOf_18 : decode cX12_placeOf 18 = .ok (.iload_n 3, 1) := by decide +kernel
theorem dX12_placeOf_19 : decode cX12_placeOf 19 = .ok (.iadd, 1) := by decide +kernel
theorem dX12_placeOf_20 : decode cX12_placeOf 20 = .ok (.iload_n 3, 1) := by decide +kernel
theorem dX12_placeOf_21 : decode cX12_placeOf 21 = .ok (.irem, 1) := by decide +kernel
theorem dX12_placeOf_22 : decode cX12_placeOf 22 = .ok (.iadd, 1) := by decide +kernel
theorem dX12_placeOf_23 : decode cX12_placeOf 23 = .ok (.ireturn, 1) := by decide +kernel
theorem dX12_tells_0 : decode cX12_tells 0 = .ok (.iconst 0, 1) := by decide +kernel
theorem dX12_tells_1 : decode cX12_tells 1 = .ok (.istore_n 2, 1) := by decide +kernel
theorem dX12_tells_2 : decode cX12_tells 2 = .ok (.iload_n 1, 1) := by decide +kernel
theorem dX12_tells_3 : decode cX12_tells 3 = .ok (.istore_n 3, 1) := by decide +kernel
theorem dX12_tells_4 : decode cX12_tells 4 = .ok (.iload_n 3, 1) := by decide +kernel
theorem dX12_tells_5 : decode cX12_tells 5 = .ok (.aload_n 0, 1) := by decide +kernel
theorem dX12_tells_6 : decode cX12_tells 6 = .ok (.getfield 77, 3) := by decide +kernel
theorem dX12_tells_9 : decode cX12_tells 9 = .ok (.iload_n 1, 1) := by decide +kernel
theorem dX12_tells_10 : decode cX12_tells 10 = .ok (.iaload, 1) := by decide +kernel
theorem dX12_tells_11 : decode cX12_tells 11 = .ok (.if_icmp .ge 245, 3) := by decide +kernel
theorem dX12_tells_14 : decode cX12_tells 14 = .ok (.aload_n 0, 1) := by decide +kernel
theorem dX12_tells_15 : decode cX12_tells 15 = .ok (.getfield 46, 3) := by decide +kernel
theorem dX12_tells_18 : decode cX12_tells 18 = .ok (.getfield 307, 3) := by decide +kernel
theorem dX12_tells_21 : decode cX12_tells 21 = .ok (.iload_n 3, 1) := by decide +kernel
theorem dX12_tells_22 : decode cX12_tells 22 = .ok (.iaload, 1) := by decide +kernel
theorem dX12_tells_23 : decode cX12_tells 23 = .ok (.istore 4, 2) := by decide +kernel
theorem dX12_tells_25 : decode cX12_tells 25 = .ok (.aload_n 0, 1) := by decide +kernel
theorem dX12_tells_26 : decode cX12_tells 26 = .ok (.getfield 46, 3) := by decide +kernel
theorem dX12_tells_29 : decode cX12_tells 29 = .ok (.getfield 304, 3) := by decide +kernel
theorem dX12_tells_32 : decode cX12_tells 32 = .ok (.iload_n 3, 1) := by decide +kernel
theorem dX12_tells_33 : decode cX12_tells 33 = .ok (.iaload, 1) := by decide +kernel
theorem dX12_tells_34 : decode cX12_tells 34 = .ok (.tableswitch 186 0 6 #[42, 56, 75, 186, 115, 135, 165], 42) := by decide +kernel
theorem dX12_tells_76 : decode cX12_tells 76 = .ok (.aload_n 0, 1) := by decide +kernel
theorem dX12_tells_77 : decode cX12_tells 77 = .ok (.getfield 74, 3) := by decide +kernel
theorem dX12_tells_80 : decode cX12_tells 80 = .ok (.iload_n 2, 1) := by decide +kernel
theorem dX12_tells_81 : decode cX12_tells 81 = .ok (.iload 4, 2) := by decide +kernel
theorem dX12_tells_83 : decode cX12_tells 83 = .ok (.iastore, 1) := by decide +kernel
theorem dX12_tells_84 : decode cX12_tells 84 = .ok (.iinc 2 1, 3) := by decide +kernel
theorem dX12_tells_87 : decode cX12_tells 87 = .ok (.goto 163, 3) := by decide +kernel
theorem dX12_tells_90 : decode cX12_tells 90 = .ok (.aload_n 0, 1) := by decide +kernel
theorem dX12_tells_91 : decode cX12_tells 91 = .ok (.getfield 74, 3) := by decide +kernel
theorem dX12_tells_94 : decode cX12_tells 94 = .ok (.iload_n 2, 1) := by decide +kernel
theorem dX12_tells_95 : decode cX12_tells 95 = .ok (.aload_n 0, 1) := by decide +kernel
theorem dX12_tells_96 : decode cX12_tells 96 = .ok (.getfield 68, 3) := by decide +kernel
theorem dX12_tells_99 : decode cX12_tells 99 = .ok (.iload 4, 2) := by decide +kernel
theorem dX12_tells_101 : decode cX12_tells 101 = .ok (.iaload, 1) := by decide +kernel
theorem dX12_tells_102 : decode cX12_tells 102 = .ok (.iastore, 1) := by decide +kernel
theorem dX12_tells_103 : decode cX12_tells 103 = .ok (.iinc 2 1, 3) := by decide +kernel
theorem dX12_tells_106 : decode cX12_tells 106 = .ok (.goto 144, 3) := by decide +kernel
theorem dX12_tells_109 : decode cX12_tells 109 = .ok (.aload_n 0, 1) := by decide +kernel
theorem dX12_tells_110 : decode cX12_tells 110 = .ok (.getfield 74, 3) := by decide +kernel
theorem dX12_tells_113 : decode cX12_tells 113 = .ok (.iload_n 2, 1) := by decide +kernel
theorem dX12_tells_114 : decode cX12_tells 114 = .ok (.iconst 1, 1) := by decide +kernel
theorem dX12_tells_115 : decode cX12_tells 115 = .ok (.isub, 1) := by decide +kernel
theorem dX12_tells_116 : decode cX12_tells 116 = .ok (.aload_n 0, 1) := by decide +kernel
theorem dX12_tells_117 : decode cX12_tells 117 = .ok (.getfield 62, 3) := by decide +kernel
theorem dX12_tells_120 : decode cX12_tells 120 = .ok (.aload_n 0, 1) := by decide +kernel
theorem dX12_tells_121 : decode cX12_tells 121 = .ok (.iload 4, 2) := by decide +kernel
theorem dX12_tells_123 : decode cX12_tells 123 = .ok (.aload_n 0, 1) := by decide +kernel
theorem dX12_tells_124 : decode cX12_tells 124 = .ok (.getfield 74, 3) := by decide +kernel
theorem dX12_tells_127 : decode cX12_tells 127 = .ok (.iload_n 2, 1) := by decide +kernel
theorem dX12_tells_128 : decode cX12_tells 128 = .ok (.iconst 1, 1) := by decide +kernel
theorem dX12_tells_129 : decode cX12_tells 129 = .ok (.isub, 1) := by decide +kernel
theorem dX12_tells_130 : decode cX12_tells 130 = .ok (.iaload, 1) := by decide +kernel
theorem dX12_tells_131 : decode cX12_tells 131 = .ok (.invokevirtual 365, 3) := by decide +kernel
theorem dX12_tells_134 : decode cX12_tells 134 = .ok (.iaload, 1) := by decide +kernel
theorem dX12_tells_135 : decode cX12_tells 135 = .ok (.iastore, 1) := by decide +kernel
theorem dX12_tells_136 : decode cX12_tells 136 = .ok (.aload_n 0, 1) := by decide +kernel
theorem dX12_tells_137 : decode cX12_tells 137 = .ok (.dup, 1) := by decide +kernel
theorem dX12_tells_138 : decode cX12_tells 138 = .ok (.getfield 368, 3) := by decide +kernel
theorem dX12_tells_141 : decode cX12_tells 141 = .ok (.iconst 1, 1) := by decide +kernel
theorem dX12_tells_142 : decode cX12_tells 142 = .ok (.iadd, 1) := by decide +kernel
theorem dX12_tells_143 : decode cX12_tells 143 = .ok (.putfield 368, 3) := by decide +kernel
theorem dX12_tells_146 : decode cX12_tells 146 = .ok (.goto 104, 3) := by decide +kernel
theorem dX12_tells_149 : decode cX12_tells 149 = .ok (.aload_n 0, 1) := by decide +kernel
theorem dX12_tells_150 : decode cX12_tells 150 = .ok (.getfield 74, 3) := by decide +kernel
theorem dX12_tells_153 : decode cX12_tells 153 = .ok (.iload_n 2, 1) := by decide +kernel
theorem dX12_tells_154 : decode cX12_tells 154 = .ok (.iconst 1, 1) := by decide +kernel
theorem dX12_tells_155 : decode cX12_tells 155 = .ok (.isub, 1) := by decide +kernel
theorem dX12_tells_156 : decode cX12_tells 156 = .ok (.aload_n 0, 1) := by decide +kernel
theorem dX12_tells_157 : decode cX12_tells 157 = .ok (.getfield 74, 3) := by decide +kernel
theorem dX12_tells_160 : decode cX12_tells 160 = .ok (.iload_n 2, 1) := by decide +kernel
theorem dX12_tells_161 : decode cX12_tells 161 = .ok (.iconst 1, 1) := by decide +kernel
theorem dX12_tells_162 : decode cX12_tells 162 = .ok (.isub, 1) := by decide +kernel
theorem dX12_tells_163 : decode cX12_tells 163 = .ok (.iaload, 1) := by decide +kernel
theorem dX12_tells_164 : decode cX12_tells 164 = .ok (.ineg, 1) := by decide +kernel
theorem dX12_tells_165 : decode cX12_tells 165 = .ok (.iastore, 1) := by decide +kernel
theorem dX12_tells_166 : decode cX12_tells 166 = .ok (.goto 84, 3) := by decide +kernel
theorem dX12_tells_169 : decode cX12_tells 169 = .ok (.aload_n 0, 1) := by decide +kernel
theorem dX12_tells_170 : decode cX12_tells 170 = .ok (.getfield 74, 3) := by decide +kernel
theorem dX12_tells_173 : decode cX12_tells 173 = .ok (.iload_n 2, 1) := by decide +kernel
theorem dX12_tells_174 : decode cX12_tells 174 = .ok (.iconst 1, 1) := by decide +kernel
theorem dX12_tells_175 : decode cX12_tells 175 = .ok (.isub, 1) := by decide +kernel
theorem dX12_tells_176 : decode cX12_tells 176 = .ok (.aload_n 0, 1) := by decide +kernel
theorem dX12_tells_177 : decode cX12_tells 177 = .ok (.getfield 74, 3) := by decide +kernel
theorem dX12_tells_180 : decode cX12_tells 180 = .ok (.iload_n 2, 1) := by decide +kernel
theorem dX12_tells_181 : decode cX12_tells 181 = .ok (.iconst 1, 1) := by decide +kernel
theorem dX12_tells_182 : decode cX12_tells 182 = .ok (.isub, 1) := by decide +kernel
theorem dX12_tells_183 : decode cX12_tells 183 = .ok (.iaload, 1) := by decide +kernel
theorem dX12_tells_184 : decode cX12_tells 184 = .ok (.ifCond .ne 7, 3) := by decide +kernel
theorem dX12_tells_187 : decode cX12_tells 187 = .ok (.iconst 1, 1) := by decide +kernel
theorem dX12_tells_188 : decode cX12_tells 188 = .ok (.goto 4, 3) := by decide +kernel
theorem dX12_tells_191 : decode cX12_tells 191 = .ok (.iconst 0, 1) := by decide +kernel
theorem dX12_tells_192 : decode cX12_tells 192 = .ok (.invokestatic 355, 3) := by decide +kernel
theorem dX12_tells_195 : decode cX12_tells 195 = .ok (.iastore, 1) := by decide +kernel
theorem dX12_tells_196 : decode cX12_tells 196 = .ok (.goto 54, 3) := by decide +kernel
theorem dX12_tells_199 : decode cX12_tells 199 = .ok (.aload_n 0, 1) := by decide +kernel
theorem dX12_tells_200 : decode cX12_tells 200 = .ok (.getfield 74, 3) := by decide +kernel
theorem dX12_tells_203 : decode cX12_tells 203 = .ok (.iload_n 2, 1) := by decide +kernel
theorem dX12_tells_204 : decode cX12_tells 204 = .ok (.iconst 1, 1) := by decide +kernel
theorem dX12_tells_205 : decode cX12_tells 205 = .ok (.isub, 1) := by decide +kernel
theorem dX12_tells_206 : decode cX12_tells 206 = .ok (.aload_n 0, 1) := by decide +kernel
theorem dX12_tells_207 : decode cX12_tells 207 = .ok (.getfield 74, 3) := by decide +kernel
theorem dX12_tells_210 : decode cX12_tells 210 = .ok (.iload_n 2, 1) := by decide +kernel
theorem dX12_tells_211 : decode cX12_tells 211 = .ok (.iconst 1, 1) := by decide +kernel
theorem dX12_tells_212 : decode cX12_tells 212 = .ok (.isub, 1) := by decide +kernel
theorem dX12_tells_213 : decode cX12_tells 213 = .ok (.iaload, 1) := by decide +kernel
theorem dX12_tells_214 : decode cX12_tells 214 = .ok (.iconst (-1), 1) := by decide +kernel
theorem dX12_tells_215 : decode cX12_tells 215 = .ok (.ixor, 1) := by decide +kernel
theorem dX12_tells_216 : decode cX12_tells 216 = .ok (.iastore, 1) := by decide +kernel
theorem dX12_tells_217 : decode cX12_tells 217 = .ok (.goto 33, 3) := by decide +kernel
theorem dX12_tells_220 : decode cX12_tells 220 = .ok (.iinc 2 (-1), 3) := by decide +kernel
theorem dX12_tells_223 : decode cX12_tells 223 = .ok (.aload_n 0, 1) := by decide +kernel
theorem dX12_tells_224 : decode cX12_tells 224 = .ok (.getfield 74, 3) := by decide +kernel
theorem dX12_tells_227 : decode cX12_tells 227 = .ok (.iload_n 2, 1) := by decide +kernel
theorem dX12_tells_228 : decode cX12_tells 228 = .ok (.iconst 1, 1) := by decide +kernel
theorem dX12_tells_229 : decode cX12_tells 229 = .ok (.isub, 1) := by decide +kernel
theorem dX12_tells_230 : decode cX12_tells 230 = .ok (.iload 4, 2) := by decide +kernel
theorem dX12_tells_232 : decode cX12_tells 232 = .ok (.aload_n 0, 1) := by decide +kernel
theorem dX12_tells_233 : decode cX12_tells 233 = .ok (.getfield 74, 3) := by decide +kernel
theorem dX12_tells_236 : decode cX12_tells 236 = .ok (.iload_n 2, 1) := by decide +kernel
theorem dX12_tells_237 : decode cX12_tells 237 = .ok (.iconst 1, 1) := by decide +kernel
theorem dX12_tells_238 : decode cX12_tells 238 = .ok (.isub, 1) := by decide +kernel
theorem dX12_tells_239 : decode cX12_tells 239 = .ok (.iaload, 1) := by decide +kernel
theorem dX12_tells_240 : decode cX12_tells 240 = .ok (.aload_n 0, 1) := by decide +kernel
theorem dX12_tells_241 : decode cX12_tells 241 = .ok (.getfield 74, 3) := by decide +kernel
theorem dX12_tells_244 : decode cX12_tells 244 = .ok (.iload_n 2, 1) := by decide +kernel
theorem dX12_tells_245 : decode cX12_tells 245 = .ok (.iaload, 1) := by decide +kernel
theorem dX12_tells_246 : decode cX12_tells 246 = .ok (.invokestatic 371, 3) := by decide +kernel
theorem dX12_tells_249 : decode cX12_tells 249 = .ok (.iastore, 1) := by decide +kernel
theorem dX12_tells_250 : decode cX12_tells 250 = .ok (.iinc 3 1, 3) := by decide +kernel
theorem dX12_tells_253 : decode cX12_tells 253 = .ok (.goto (-249), 3) := by decide +kernel
theorem dX12_tells_256 : decode cX12_tells 256 = .ok (.aload_n 0, 1) := by decide +kernel
theorem dX12_tells_257 : decode cX12_tells 257 = .ok (.getfield 74, 3) := by decide +kernel
theorem dX12_tells_260 : decode cX12_tells 260 = .ok (.iconst 0, 1) := by decide +kernel
theorem dX12_tells_261 : decode cX12_tells 261 = .ok (.iaload, 1) := by decide +kernel
theorem dX12_tells_262 : decode cX12_tells 262 = .ok (.ireturn, 1) := by decide +kernel
theorem dX12_begins_0 : decode cX12_begins 0 = .ok (.aload_n 0, 1) := by decide +kernel
theorem dX12_begins_1 : decode cX12_begins 1 = .ok (.getfield 375, 3) := by decide +kernel
theorem dX12_begins_4 : decode cX12_begins 4 = .ok (.aload_n 0, 1) := by decide +kernel
theorem dX12_begins_5 : decode cX12_begins 5 = .ok (.getfield 378, 3) := by decide +kernel
theorem dX12_begins_8 : decode cX12_begins 8 = .ok (.if_icmp .ne 5, 3) := by decide +kernel
theorem dX12_begins_11 : decode cX12_begins 11 = .ok (.iconst 0, 1) := by decide +kernel
theorem dX12_begins_12 : decode cX12_begins 12 = .ok (.ireturn, 1) := by decide +kernel
theorem dX12_begins_13 : decode cX12_begins 13 = .ok (.aload_n 0, 1) := by decide +kernel
theorem dX12_begins_14 : decode cX12_begins 14 = .ok (.dup, 1) := by decide +kernel
theorem dX12_begins_15 : decode cX12_begins 15 = .ok (.getfield 375, 3) := by decide +kernel
theorem dX12_begins_18 : decode cX12_begins 18 = .ok (.iconst 1, 1) := by decide +kernel
theorem dX12_begins_19 : decode cX12_begins 19 = .ok (.iadd, 1) := by decide +kernel
theorem dX12_begins_20 : decode cX12_begins 20 = .ok (.putfield 375, 3) := by decide +kernel
theorem dX12_begins_23 : decode cX12_begins 23 = .ok (.iconst 1, 1) := by decide +kernel
theorem dX12_begins_24 : decode cX12_begins 24 = .ok (.ireturn, 1) := by decide +kernel
theorem dX12_goes_0 : decode cX12_goes 0 = .ok (.iload_n 1, 1) := by decide +kernel
theorem dX12_goes_1 : decode cX12_goes 1 = .ok (.istore_n 2, 1) := by decide +kernel
theorem dX12_goes_2 : decode cX12_goes 2 = .ok (.iload_n 2, 1) := by decide +kernel
theorem dX12_goes_3 : decode cX12_goes 3 = .ok (.iconst (-1), 1) := by decide +kernel
theorem dX12_goes_4 : decode cX12_goes 4 = .ok (.if_icmp .eq 28, 3) := by decide +kernel
theorem dX12_goes_7 : decode cX12_goes 7 = .ok (.aload_n 0, 1) := by decide +kernel
theorem dX12_goes_8 : decode cX12_goes 8 = .ok (.iload_n 2, 1) := by decide +kernel
theorem dX12_goes_9 : decode cX12_goes 9 = .ok (.invokevirtual 381, 3) := by decide +kernel
theorem dX12_goes_12 : decode cX12_goes 12 = .ok (.istore_n 3, 1) := by decide +kernel
theorem dX12_goes_13 : decode cX12_goes 13 = .ok (.iload_n 3, 1) := by decide +kernel
theorem dX12_goes_14 : decode cX12_goes 14 = .ok (.ifCond .eq 5, 3) := by decide +kernel
theorem dX12_goes_17 : decode cX12_goes 17 = .ok (.iload_n 3, 1) := by decide +kernel
theorem dX12_goes_18 : decode cX12_goes 18 = .ok (.ireturn, 1) := by decide +kernel
theorem dX12_goes_19 : decode cX12_goes 19 = .ok (.aload_n 0, 1) := by decide +kernel
theorem dX12_goes_20 : decode cX12_goes 20 = .ok (.getfield 46, 3) := by decide +kernel
theorem dX12_goes_23 : decode cX12_goes 23 = .ok (.getfield 243, 3) := by decide +kernel
theorem dX12_goes_26 : decode cX12_goes 26 = .ok (.iload_n 2, 1) := by decide +kernel
theorem dX12_goes_27 : decode cX12_goes 27 = .ok (.iaload, 1) := by decide +kernel
theorem dX12_goes_28 : decode cX12_goes 28 = .ok (.istore_n 2, 1) := by decide +kernel
theorem dX12_goes_29 : decode cX12_goes 29 = .ok (.goto (-27), 3) := by decide +kernel
theorem dX12_goes_32 : decode cX12_goes 32 = .ok (.iconst 0, 1) := by decide +kernel
theorem dX12_goes_33 : decode cX12_goes 33 = .ok (.ireturn, 1) := by decide +kernel
theorem dX12_goesOne_0 : decode cX12_goesOne 0 = .ok (.aload_n 0, 1) := by decide +kernel
theorem dX12_goesOne_1 : decode cX12_goesOne 1 = .ok (.getfield 46, 3) := by decide +kernel
theorem dX12_goesOne_4 : decode cX12_goesOne 4 = .ok (.getfield 249, 3) := by decide +kernel
theorem dX12_goesOne_7 : decode cX12_goesOne 7 = .ok (.iload_n 1, 1) := by decide +kernel
theorem dX12_goesOne_8 : decode cX12_goesOne 8 = .ok (.iaload, 1) := by decide +kernel
theorem dX12_goesOne_9 : decode cX12_goesOne 9 = .ok (.tableswitch 114 0 6 #[43, 72, 79, 85, 91, 93, 95], 43) := by decide +kernel
theorem dX12_goesOne_52 : decode cX12_goesOne 52 = .ok (.aload_n 0, 1) := by decide +kernel
theorem dX12_goesOne_53 : decode cX12_goesOne 53 = .ok (.getfield 68, 3) := by decide +kernel
theorem dX12_goesOne_56 : decode cX12_goesOne 56 = .ok (.aload_n 0, 1) := by decide +kernel
theorem dX12_goesOne_57 : decode cX12_goesOne 57 = .ok (.getfield 46, 3) := by decide +kernel
theorem dX12_goesOne_60 : decode cX12_goesOne 60 = .ok (.getfield 252, 3) := by decide +kernel
theorem dX12_goesOne_63 : decode cX12_goesOne 63 = .ok (.iload_n 1, 1) := by decide +kernel
theorem dX12_goesOne_64 : decode cX12_goesOne 64 = .ok (.iaload, 1) := by decide +kernel
theorem dX12_goesOne_65 : decode cX12_goesOne 65 = .ok (.aload_n 0, 1) := by decide +kernel
theorem dX12_goesOne_66 : decode cX12_goesOne 66 = .ok (.aload_n 0, 1) := by decide +kernel
theorem dX12_goesOne_67 : decode cX12_goesOne 67 = .ok (.getfield 46, 3) := by decide +kernel
theorem dX12_goesOne_70 : decode cX12_goesOne 70 = .ok (.getfield 264, 3) := by decide +kernel
theorem dX12_goesOne_73 : decode cX12_goesOne 73 = .ok (.iload_n 1, 1) := by decide +kernel
theorem dX12_goesOne_74 : decode cX12_goesOne 74 = .ok (.iaload, 1) := by decide +kernel
theorem dX12_goesOne_75 : decode cX12_goesOne 75 = .ok (.invokevirtual 384, 3) := by decide +kernel
theorem dX12_goesOne_78 : decode cX12_goesOne 78 = .ok (.iastore, 1) := by decide +kernel
theorem dX12_goesOne_79 : decode cX12_goesOne 79 = .ok (.iconst 0, 1) := by decide +kernel
theorem dX12_goesOne_80 : decode cX12_goesOne 80 = .ok (.ireturn, 1) := by decide +kernel
theorem dX12_goesOne_81 : decode cX12_goesOne 81 = .ok (.aload_n 0, 1) := by decide +kernel
theorem dX12_goesOne_82 : decode cX12_goesOne 82 = .ok (.iload_n 1, 1) := by decide +kernel
theorem dX12_goesOne_83 : decode cX12_goesOne 83 = .ok (.invokevirtual 387, 3) := by decide +kernel
theorem dX12_goesOne_86 : decode cX12_goesOne 86 = .ok (.iconst 0, 1) := by decide +kernel
theorem dX12_goesOne_87 : decode cX12_goesOne 87 = .ok (.ireturn, 1) := by decide +kernel
theorem dX12_goesOne_88 : decode cX12_goesOne 88 = .ok (.aload_n 0, 1) := by decide +kernel
theorem dX12_goesOne_89 : decode cX12_goesOne 89 = .ok (.iload_n 1, 1) := by decide +kernel
theorem dX12_goesOne_90 : decode cX12_goesOne 90 = .ok (.invokevirtual 390, 3) := by decide +kernel
theorem dX12_goesOne_93 : decode cX12_goesOne 93 = .ok (.ireturn, 1) := by decide +kernel
theorem dX12_goesOne_94 : decode cX12_goesOne 94 = .ok (.aload_n 0, 1) := by decide +kernel
theorem dX12_goesOne_95 : decode cX12_goesOne 95 = .ok (.iload_n 1, 1) := by decide +kernel
theorem dX12_goesOne_96 : decode cX12_goesOne 96 = .ok (.invokevirtual 393, 3) := by decide +kernel
theorem dX12_goesOne_99 : decode cX12_goesOne 99 = .ok (.ireturn, 1) := by decide +kernel
theorem dX12_goesOne_100 : decode cX12_goesOne 100 = .ok (.iconst 1, 1) := by decide +kernel
theorem dX12_goesOne_101 : decode cX12_goesOne 101 = .ok (.ireturn, 1) := by decide +kernel
theorem dX12_goesOne_102 : decode cX12_goesOne 102 = .ok (.iconst 2, 1) := by decide +kernel
theorem dX12_goesOne_103 : decode cX12_goesOne 103 = .ok (.ireturn, 1) := by decide +kernel
theorem dX12_goesOne_104 : decode cX12_goesOne 104 = .ok (.aload_n 0, 1) := by decide +kernel
theorem dX12_goesOne_105 : decode cX12_goesOne 105 = .ok (.aload_n 0, 1) := by decide +kernel
theorem dX12_goesOne_106 : decode cX12_goesOne 106 = .ok (.aload_n 0, 1) := by decide +kernel
theorem dX12_goesOne_107 : decode cX12_goesOne 107 = .ok (.getfield 46, 3) := by decide +kernel
theorem dX12_goesOne_110 : decode cX12_goesOne 110 = .ok (.getfield 264, 3) := by decide +kernel
theorem dX12_goesOne_113 : decode cX12_goesOne 113 = .ok (.iload_n 1, 1) := by decide +kernel
theorem dX12_goesOne_114 : decode cX12_goesOne 114 = .ok (.iaload, 1) := by decide +kernel
theorem dX12_goesOne_115 : decode cX12_goesOne 115 = .ok (.invokevirtual 384, 3) := by decide +kernel
theorem dX12_goesOne_118 : decode cX12_goesOne 118 = .ok (.putfield 396, 3) := by decide +kernel
theorem dX12_goesOne_121 : decode cX12_goesOne 121 = .ok (.iconst 3, 1) := by decide +kernel
theorem dX12_goesOne_122 : decode cX12_goesOne 122 = .ok (.ireturn, 1) := by decide +kernel
theorem dX12_goesOne_123 : decode cX12_goesOne 123 = .ok (.aload_n 0, 1) := by decide +kernel
theorem dX12_goesOne_124 : decode cX12_goesOne 124 = .ok (.aload_n 0, 1) := by decide +kernel
theorem dX12_goesOne_125 : decode cX12_goesOne 125 = .ok (.getfield 46, 3) := by decide +kernel
theorem dX12_goesOne_128 : decode cX12_goesOne 128 = .ok (.getfield 255, 3) := by decide +kernel
theorem dX12_goesOne_131 : decode cX12_goesOne 131 = .ok (.iload_n 1, 1) := by decide +kernel
theorem dX12_goesOne_132 : decode cX12_goesOne 132 = .ok (.iaload, 1) := by decide +kernel
theorem dX12_goesOne_133 : decode cX12_goesOne 133 = .ok (.invokevirtual 399, 3) := by decide +kernel
theorem dX12_goesOne_136 : decode cX12_goesOne 136 = .ok (.ireturn, 1) := by decide +kernel
theorem dX12_stores_0 : decode cX12_stores 0 = .ok (.aload_n 0, 1) := by decide +kernel
theorem dX12_stores_1 : decode cX12_stores 1 = .ok (.getfield 46, 3) := by decide +kernel
theorem dX12_stores_4 : decode cX12_stores 4 = .ok (.getfield 252, 3) := by decide +kernel
theorem dX12_stores_7 : decode cX12_stores 7 = .ok (.iload_n 1, 1) := by decide +kernel
theorem dX12_stores_8 : decode cX12_stores 8 = .ok (.iaload, 1) := by decide +kernel
theorem dX12_stores_9 : decode cX12_stores 9 = .ok (.istore_n 2, 1) := by decide +kernel
theorem dX12_stores_10 : decode cX12_stores 10 = .ok (.aload_n 0, 1) := by decide +kernel
theorem dX12_stores_11 : decode cX12_stores 11 = .ok (.iload_n 2, 1) := by decide +kernel
theorem dX12_stores_12 : decode cX12_stores 12 = .ok (.aload_n 0, 1) := by decide +kernel
theorem dX12_stores_13 : decode cX12_stores 13 = .ok (.aload_n 0, 1) := by decide +kernel
theorem dX12_stores_14 : decode cX12_stores 14 = .ok (.getfield 46, 3) := by decide +kernel
theorem dX12_stores_17 : decode cX12_stores 17 = .ok (.getfield 264, 3) := by decide +kernel
theorem dX12_stores_20 : decode cX12_stores 20 = .ok (.iload_n 1, 1) := by decide +kernel
theorem dX12_stores_21 : decode cX12_stores 21 = .ok (.iaload, 1) := by decide +kernel
theorem dX12_stores_22 : decode cX12_stores 22 = .ok (.invokevirtual 384, 3) := by decide +kernel
theorem dX12_stores_25 : decode cX12_stores 25 = .ok (.invokevirtual 365, 3) := by decide +kernel
theorem dX12_stores_28 : decode cX12_stores 28 = .ok (.istore_n 3, 1) := by decide +kernel
theorem dX12_stores_29 : decode cX12_stores 29 = .ok (.aload_n 0, 1) := by decide +kernel
theorem dX12_stores_30 : decode cX12_stores 30 = .ok (.aload_n 0, 1) := by decide +kernel
theorem dX12_stores_31 : decode cX12_stores 31 = .ok (.getfield 46, 3) := by decide +kernel
theorem dX12_stores_34 : decode cX12_stores 34 = .ok (.getfield 286, 3) := by decide +kernel
theorem dX12_stores_37 : decode cX12_stores 37 = .ok (.iload_n 1, 1) := by decide +kernel
theorem dX12_stores_38 : decode cX12_stores 38 = .ok (.iaload, 1) := by decide +kernel
theorem dX12_stores_39 : decode cX12_stores 39 = .ok (.invokevirtual 384, 3) := by decide +kernel
theorem dX12_stores_42 : decode cX12_stores 42 = .ok (.istore 4, 2) := by decide +kernel
theorem dX12_stores_44 : decode cX12_stores 44 = .ok (.aload_n 0, 1) := by decide +kernel
theorem dX12_stores_45 : decode cX12_stores 45 = .ok (.getfield 62, 3) := by decide +kernel
theorem dX12_stores_48 : decode cX12_stores 48 = .ok (.iload_n 3, 1) := by decide +kernel
theorem dX12_stores_49 : decode cX12_stores 49 = .ok (.iload 4, 2) := by decide +kernel
theorem dX12_stores_51 : decode cX12_stores 51 = .ok (.iastore, 1) := by decide +kernel
theorem dX12_stores_52 : decode cX12_stores 52 = .ok (.aload_n 0, 1) := by decide +kernel
theorem dX12_stores_53 : decode cX12_stores 53 = .ok (.getfield 402, 3) := by decide +kernel
theorem dX12_stores_56 : decode cX12_stores 56 = .ok (.sipush 200, 3) := by decide +kernel
theorem dX12_stores_59 : decode cX12_stores 59 = .ok (.if_icmp .ge 50, 3) := by decide +kernel
theorem dX12_stores_62 : decode cX12_stores 62 = .ok (.aload_n 0, 1) := by decide +kernel
theorem dX12_stores_63 : decode cX12_stores 63 = .ok (.getfield 71, 3) := by decide +kernel
theorem dX12_stores_66 : decode cX12_stores 66 = .ok (.iconst 3, 1) := by decide +kernel
theorem dX12_stores_67 : decode cX12_stores 67 = .ok (.aload_n 0, 1) := by decide +kernel
theorem dX12_stores_68 : decode cX12_stores 68 = .ok (.getfield 402, 3) := by decide +kernel
theorem dX12_stores_71 : decode cX12_stores 71 = .ok (.imul, 1) := by decide +kernel
theorem dX12_stores_72 : decode cX12_stores 72 = .ok (.iload_n 2, 1) := by decide +kernel
theorem dX12_stores_73 : decode cX12_stores 73 = .ok (.iastore, 1) := by decide +kernel
theorem dX12_stores_74 : decode cX12_stores 74 = .ok (.aload_n 0, 1) := by decide +kernel
theorem dX12_stores_75 : decode cX12_stores 75 = .ok (.getfield 71, 3) := by decide +kernel
theorem dX12_stores_78 : decode cX12_stores 78 = .ok (.iconst 3, 1) := by decide +kernel
theorem dX12_stores_79 : decode cX12_stores 79 = .ok (.aload_n 0, 1) := by decide +kernel
theorem dX12_stores_80 : decode cX12_stores 80 = .ok (.getfield 402, 3) := by decide +kernel
theorem dX12_stores_83 : decode cX12_stores 83 = .ok (.imul, 1) := by decide +kernel
theorem dX12_stores_84 : decode cX12_stores 84 = .ok (.iconst 1, 1) := by decide +kernel
theorem dX12_stores_85 : decode cX12_stores 85 = .ok (.iadd, 1) := by decide +kernel
theorem dX12_stores_86 : decode cX12_stores 86 = .ok (.iload_n 3, 1) := by decide +kernel
theorem dX12_stores_87 : decode cX12_stores 87 = .ok (.sipush 256, 3) := by decide +kernel
theorem dX12_stores_90 : decode cX12_stores 90 = .ok (.iload_n 2, 1) := by decide +kernel
theorem dX12_stores_91 : decode cX12_stores 91 = .ok (.imul, 1) := by decide +kernel
theorem dX12_stores_92 : decode cX12_stores 92 = .ok (.isub, 1) := by decide +kernel
theorem dX12_stores_93 : decode cX12_stores 93 = .ok (.iastore, 1) := by decide +kernel
theorem dX12_stores_94 : decode cX12_stores 94 = .ok (.aload_n 0, 1) := by decide +kernel
theorem dX12_stores_95 : decode cX12_stores 95 = .ok (.getfield 71, 3) := by decide +kernel
theorem dX12_stores_98 : decode cX12_stores 98 = .ok (.iconst 3, 1) := by decide +kernel
theorem dX12_stores_99 : decode cX12_stores 99 = .ok (.aload_n 0, 1) := by decide +kernel
theorem dX12_stores_100 : decode cX12_stores 100 = .ok (.getfield 402, 3) := by decide +kernel
theorem dX12_stores_103 : decode cX12_stores 103 = .ok (.imul, 1) := by decide +kernel
theorem dX12_stores_104 : decode cX12_stores 104 = .ok (.iconst 2, 1) := by decide +kernel
theorem dX12_stores_105 : decode cX12_stores 105 = .ok (.iadd, 1) := by decide +kernel
theorem dX12_stores_106 : decode cX12_stores 106 = .ok (.iload 4, 2) := by decide +kernel
theorem dX12_stores_108 : decode cX12_stores 108 = .ok (.iastore, 1) := by decide +kernel
theorem dX12_stores_109 : decode cX12_stores 109 = .ok (.aload_n 0, 1) := by decide +kernel
theorem dX12_stores_110 : decode cX12_stores 110 = .ok (.dup, 1) := by decide +kernel
theorem dX12_stores_111 : decode cX12_stores 111 = .ok (.getfield 402, 3) := by decide +kernel
theorem dX12_stores_114 : decode cX12_stores 114 = .ok (.iconst 1, 1) := by decide +kernel
theorem dX12_stores_115 : decode cX12_stores 115 = .ok (.iadd, 1) := by decide +kernel
theorem dX12_stores_116 : decode cX12_stores 116 = .ok (.putfield 402, 3) := by decide +kernel
theorem dX12_stores_119 : decode cX12_stores 119 = .ok (.return_, 1) := by decide +kernel
theorem dX12_goesIf_0 : decode cX12_goesIf 0 = .ok (.aload_n 0, 1) := by decide +kernel
theorem dX12_goesIf_1 : decode cX12_goesIf 1 = .ok (.aload_n 0, 1) := by decide +kernel
theorem dX12_goesIf_2 : decode cX12_goesIf 2 = .ok (.getfield 46, 3) := by decide +kernel
theorem dX12_goesIf_5 : decode cX12_goesIf 5 = .ok (.getfield 264, 3) := by decide +kernel
theorem dX12_goesIf_8 : decode cX12_goesIf 8 = .ok (.iload_n 1, 1) := by decide +kernel
theorem dX12_goesIf_9 : decode cX12_goesIf 9 = .ok (.iaload, 1) := by decide +kernel
theorem dX12_goesIf_10 : decode cX12_goesIf 10 = .ok (.invokevirtual 384, 3) := by decide +kernel
theorem dX12_goesIf_13 : decode cX12_goesIf 13 = .ok (.ifCond .eq 15, 3) := by decide +kernel
theorem dX12_goesIf_16 : decode cX12_goesIf 16 = .ok (.aload_n 0, 1) := by decide +kernel
theorem dX12_goesIf_17 : decode cX12_goesIf 17 = .ok (.getfield 46, 3) := by decide +kernel
theorem dX12_goesIf_20 : decode cX12_goesIf 20 = .ok (.getfield 255, 3) := by decide +kernel
theorem dX12_goesIf_23 : decode cX12_goesIf 23 = .ok (.iload_n 1, 1) := by decide +kernel
theorem dX12_goesIf_24 : decode cX12_goesIf 24 = .ok (.iaload, 1) := by decide +kernel
theorem dX12_goesIf_25 : decode cX12_goesIf 25 = .ok (.goto 12, 3) := by decide +kernel
theorem dX12_goesIf_28 : decode cX12_goesIf 28 = .ok (.aload_n 0, 1) := by decide +kernel
theorem dX12_goesIf_29 : decode cX12_goesIf 29 = .ok (.getfield 46, 3) := by decide +kernel
theorem dX12_goesIf_32 : decode cX12_goesIf 32 = .ok (.getfield 258, 3) := by decide +kernel
theorem dX12_goesIf_35 : decode cX12_goesIf 35 = .ok (.iload_n 1, 1) := by decide +kernel
theorem dX12_goesIf_36 : decode cX12_goesIf 36 = .ok (.iaload, 1) := by decide +kernel
theorem dX12_goesIf_37 : decode cX12_goesIf 37 = .ok (.istore_n 2, 1) := by decide +kernel
theorem dX12_goesIf_38 : decode cX12_goesIf 38 = .ok (.iload_n 2, 1) := by decide +kernel
theorem dX12_goesIf_39 : decode cX12_goesIf 39 = .ok (.iconst (-1), 1) := by decide +kernel
theorem dX12_goesIf_40 : decode cX12_goesIf 40 = .ok (.if_icmp .eq 24, 3) := by decide +kernel
theorem dX12_goesIf_43 : decode cX12_goesIf 43 = .ok (.aload_n 0, 1) := by decide +kernel
theorem dX12_goesIf_44 : decode cX12_goesIf 44 = .ok (.invokevirtual 405, 3) := by decide +kernel
theorem dX12_goesIf_47 : decode cX12_goesIf 47 = .ok (.ifCond .ne 5, 3) := by decide +kernel
theorem dX12_goesIf_50 : decode cX12_goesIf 50 = .ok (.iconst 4, 1) := by decide +kernel
theorem dX12_goesIf_51 : decode cX12_goesIf 51 = .ok (.ireturn, 1) := by decide +kernel
theorem dX12_goesIf_52 : decode cX12_goesIf 52 = .ok (.aload_n 0, 1) := by decide +kernel
theorem dX12_goesIf_53 : decode cX12_goesIf 53 = .ok (.iload_n 2, 1) := by decide +kernel
theorem dX12_goesIf_54 : decode cX12_goesIf 54 = .ok (.invokevirtual 381, 3) := by decide +kernel
theorem dX12_goesIf_57 : decode cX12_goesIf 57 = .ok (.istore_n 3, 1) := by decide +kernel
theorem dX12_goesIf_58 : decode cX12_goesIf 58 = .ok (.iload_n 3, 1) := by decide +kernel
theorem dX12_goesIf_59 : decode cX12_goesIf 59 = .ok (.ifCond .eq 5, 3) := by decide +kernel
theorem dX12_goesIf_62 : decode cX12_goesIf 62 = .ok (.iload_n 3, 1) := by decide +kernel
theorem dX12_goesIf_63 : decode cX12_goesIf 63 = .ok (.ireturn, 1) := by decide +kernel
theorem dX12_goesIf_64 : decode cX12_goesIf 64 = .ok (.aload_n 0, 1) := by decide +kernel
theorem dX12_goesIf_65 : decode cX12_goesIf 65 = .ok (.invokevirtual 405, 3) := by decide +kernel
theorem dX12_goesIf_68 : decode cX12_goesIf 68 = .ok (.ifCond .eq 7, 3) := by decide +kernel
theorem dX12_goesIf_71 : decode cX12_goesIf 71 = .ok (.iconst 0, 1) := by decide +kernel
theorem dX12_goesIf_72 : decode cX12_goesIf 72 = .ok (.goto 4, 3) := by decide +kernel
theorem dX12_goesIf_75 : decode cX12_goesIf 75 = .ok (.iconst 4, 1) := by decide +kernel
theorem dX12_goesIf_76 : decode cX12_goesIf 76 = .ok (.ireturn, 1) := by decide +kernel
theorem dX12_goesWhile_0 : decode cX12_goesWhile 0 = .ok (.aload_n 0, 1) := by decide +kernel
theorem dX12_goesWhile_1 : decode cX12_goesWhile 1 = .ok (.invokevirtual 405, 3) := by decide +kernel
theorem dX12_goesWhile_4 : decode cX12_goesWhile 4 = .ok (.ifCond .ne 5, 3) := by decide +kernel
theorem dX12_goesWhile_7 : decode cX12_goesWhile 7 = .ok (.iconst 4, 1) := by decide +kernel
theorem dX12_goesWhile_8 : decode cX12_goesWhile 8 = .ok (.ireturn, 1) := by decide +kernel
theorem dX12_goesWhile_9 : decode cX12_goesWhile 9 = .ok (.aload_n 0, 1) := by decide +kernel
theorem dX12_goesWhile_10 : decode cX12_goesWhile 10 = .ok (.aload_n 0, 1) := by decide +kernel
theorem dX12_goesWhile_11 : decode cX12_goesWhile 11 = .ok (.getfield 46, 3) := by decide +kernel
theorem dX12_goesWhile_14 : decode cX12_goesWhile 14 = .ok (.getfield 264, 3) := by decide +kernel
theorem dX12_goesWhile_17 : decode cX12_goesWhile 17 = .ok (.iload_n 1, 1) := by decide +kernel
theorem dX12_goesWhile_18 : decode cX12_goesWhile 18 = .ok (.iaload, 1) := by decide +kernel
theorem dX12_goesWhile_19 : decode cX12_goesWhile 19 = .ok (.invokevirtual 384, 3) := by decide +kernel
theorem dX12_goesWhile_22 : decode cX12_goesWhile 22 = .ok (.ifCond .ne 16, 3) := by decide +kernel
theorem dX12_goesWhile_25 : decode cX12_goesWhile 25 = .ok (.aload_n 0, 1) := by decide +kernel
theorem dX12_goesWhile_26 : decode cX12_goesWhile 26 = .ok (.invokevirtual 405, 3) := by decide +kernel
theorem dX12_goesWhile_29 : decode cX12_goesWhile 29 = .ok (.ifCond .eq 7, 3) := by decide +kernel
theorem dX12_goesWhile_32 : decode cX12_goesWhile 32 = .ok (.iconst 0, 1) := by decide +kernel
theorem dX12_goesWhile_33 : decode cX12_goesWhile 33 = .ok (.goto 4, 3) := by decide +kernel
theorem dX12_goesWhile_36 : decode cX12_goesWhile 36 = .ok (.iconst 4, 1) := by decide +kernel
theorem dX12_goesWhile_37 : decode cX12_goesWhile 37 = .ok (.ireturn, 1) := by decide +kernel
theorem dX12_goesWhile_38 : decode cX12_goesWhile 38 = .ok (.aload_n 0, 1) := by decide +kernel
theorem dX12_goesWhile_39 : decode cX12_goesWhile 39 = .ok (.invokevirtual 405, 3) := by decide +kernel
theorem dX12_goesWhile_42 : decode cX12_goesWhile 42 = .ok (.ifCond .ne 5, 3) := by decide +kernel
theorem dX12_goesWhile_45 : decode cX12_goesWhile 45 = .ok (.iconst 4, 1) := by decide +kernel
theorem dX12_goesWhile_46 : decode cX12_goesWhile 46 = .ok (.ireturn, 1) := by decide +kernel
theorem dX12_goesWhile_47 : decode cX12_goesWhile 47 = .ok (.aload_n 0, 1) := by decide +kernel
theorem dX12_goesWhile_48 : decode cX12_goesWhile 48 = .ok (.aload_n 0, 1) := by decide +kernel
theorem dX12_goesWhile_49 : decode cX12_goesWhile 49 = .ok (.getfield 46, 3) := by decide +kernel
theorem dX12_goesWhile_52 : decode cX12_goesWhile 52 = .ok (.getfield 255, 3) := by decide +kernel
theorem dX12_goesWhile_55 : decode cX12_goesWhile 55 = .ok (.iload_n 1, 1) := by decide +kernel
theorem dX12_goesWhile_56 : decode cX12_goesWhile 56 = .ok (.iaload, 1) := by decide +kernel
theorem dX12_goesWhile_57 : decode cX12_goesWhile 57 = .ok (.invokevirtual 381, 3) := by decide +kernel
theorem dX12_goesWhile_60 : decode cX12_goesWhile 60 = .ok (.istore_n 2, 1) := by decide +kernel
theorem dX12_goesWhile_61 : decode cX12_goesWhile 61 = .ok (.iload_n 2, 1) := by decide +kernel
theorem dX12_goesWhile_62 : decode cX12_goesWhile 62 = .ok (.iconst 1, 1) := by decide +kernel
theorem dX12_goesWhile_63 : decode cX12_goesWhile 63 = .ok (.if_icmp .ne 16, 3) := by decide +kernel
theorem dX12_goesWhile_66 : decode cX12_goesWhile 66 = .ok (.aload_n 0, 1) := by decide +kernel
theorem dX12_goesWhile_67 : decode cX12_goesWhile 67 = .ok (.invokevirtual 405, 3) := by decide +kernel
theorem dX12_goesWhile_70 : decode cX12_goesWhile 70 = .ok (.ifCond .eq 7, 3) := by decide +kernel
theorem dX12_goesWhile_73 : decode cX12_goesWhile 73 = .ok (.iconst 0, 1) := by decide +kernel
theorem dX12_goesWhile_74 : decode cX12_goesWhile 74 = .ok (.goto 4, 3) := by decide +kernel
theorem dX12_goesWhile_77 : decode cX12_goesWhile 77 = .ok (.iconst 4, 1) := by decide +kernel
theorem dX12_goesWhile_78 : decode cX12_goesWhile 78 = .ok (.ireturn, 1) := by decide +kernel
theorem dX12_goesWhile_79 : decode cX12_goesWhile 79 = .ok (.iload_n 2, 1) := by decide +kernel
theorem dX12_goesWhile_80 : decode cX12_goesWhile 80 = .ok (.iconst 3, 1) := by decide +kernel
theorem dX12_goesWhile_81 : decode cX12_goesWhile 81 = .ok (.if_icmp .eq 8, 3) := by decide +kernel
theorem dX12_goesWhile_84 : decode cX12_goesWhile 84 = .ok (.iload_n 2, 1) := by decide +kernel
theorem dX12_goesWhile_85 : decode cX12_goesWhile 85 = .ok (.iconst 4, 1) := by decide +kernel
theorem dX12_goesWhile_86 : decode cX12_goesWhile 86 = .ok (.if_icmp .ne 5, 3) := by decide +kernel
theorem dX12_goesWhile_89 : decode cX12_goesWhile 89 = .ok (.iload_n 2, 1) := by decide +kernel
theorem dX12_goesWhile_90 : decode cX12_goesWhile 90 = .ok (.ireturn, 1) := by decide +kernel
theorem dX12_goesWhile_91 : decode cX12_goesWhile 91 = .ok (.goto (-91), 3) := by decide +kernel
theorem dX12_run_0 : decode cX12_run 0 = .ok (.aload_n 0, 1) := by decide +kernel
theorem dX12_run_1 : decode cX12_run 1 = .ok (.iconst 0, 1) := by decide +kernel
theorem dX12_run_2 : decode cX12_run 2 = .ok (.putfield 83, 3) := by decide +kernel
theorem dX12_run_5 : decode cX12_run 5 = .ok (.aload_n 0, 1) := by decide +kernel
theorem dX12_run_6 : decode cX12_run 6 = .ok (.getfield 336, 3) := by decide +kernel
theorem dX12_run_9 : decode cX12_run 9 = .ok (.ifCond .eq 15, 3) := by decide +kernel
theorem dX12_run_12 : decode cX12_run 12 = .ok (.iload_n 1, 1) := by decide +kernel
theorem dX12_run_13 : decode cX12_run 13 = .ok (.iconst 1, 1) := by decide +kernel
theorem dX12_run_14 : decode cX12_run 14 = .ok (.if_icmp .lt 10, 3) := by decide +kernel
theorem dX12_run_17 : decode cX12_run 17 = .ok (.iload_n 1, 1) := by decide +kernel
theorem dX12_run_18 : decode cX12_run 18 = .ok (.sipush 3000, 3) := by decide +kernel
theorem dX12_run_21 : decode cX12_run 21 = .ok (.if_icmp .le 5, 3) := by decide +kernel
theorem dX12_run_24 : decode cX12_run 24 = .ok (.iconst (-1), 1) := by decide +kernel
theorem dX12_run_25 : decode cX12_run 25 = .ok (.ireturn, 1) := by decide +kernel
theorem dX12_run_26 : decode cX12_run 26 = .ok (.aload_n 0, 1) := by decide +kernel
theorem dX12_run_27 : decode cX12_run 27 = .ok (.iconst 1, 1) := by decide +kernel
theorem dX12_run_28 : decode cX12_run 28 = .ok (.putfield 340, 3) := by decide +kernel
theorem dX12_run_31 : decode cX12_run 31 = .ok (.aload_n 0, 1) := by decide +kernel
theorem dX12_run_32 : decode cX12_run 32 = .ok (.iload_n 1, 1) := by decide +kernel
theorem dX12_run_33 : decode cX12_run 33 = .ok (.putfield 378, 3) := by decide +kernel
theorem dX12_run_36 : decode cX12_run 36 = .ok (.aload_n 0, 1) := by decide +kernel
theorem dX12_run_37 : decode cX12_run 37 = .ok (.iconst 0, 1) := by decide +kernel
theorem dX12_run_38 : decode cX12_run 38 = .ok (.putfield 375, 3) := by decide +kernel
theorem dX12_run_41 : decode cX12_run 41 = .ok (.aload_n 0, 1) := by decide +kernel
theorem dX12_run_42 : decode cX12_run 42 = .ok (.iconst 0, 1) := by decide +kernel
theorem dX12_run_43 : decode cX12_run 43 = .ok (.putfield 368, 3) := by decide +kernel
theorem dX12_run_46 : decode cX12_run 46 = .ok (.aload_n 0, 1) := by decide +kernel
theorem dX12_run_47 : decode cX12_run 47 = .ok (.iconst 0, 1) := by decide +kernel
theorem dX12_run_48 : decode cX12_run 48 = .ok (.putfield 402, 3) := by decide +kernel
theorem dX12_run_51 : decode cX12_run 51 = .ok (.aload_n 0, 1) := by decide +kernel
theorem dX12_run_52 : decode cX12_run 52 = .ok (.iconst 0, 1) := by decide +kernel
theorem dX12_run_53 : decode cX12_run 53 = .ok (.putfield 396, 3) := by decide +kernel
theorem dX12_run_56 : decode cX12_run 56 = .ok (.iconst 0, 1) := by decide +kernel
theorem dX12_run_57 : decode cX12_run 57 = .ok (.istore_n 2, 1) := by decide +kernel
theorem dX12_run_58 : decode cX12_run 58 = .ok (.iload_n 2, 1) := by decide +kernel
theorem dX12_run_59 : decode cX12_run 59 = .ok (.aload_n 0, 1) := by decide +kernel
theorem dX12_run_60 : decode cX12_run 60 = .ok (.getfield 46, 3) := by decide +kernel
theorem dX12_run_63 : decode cX12_run 63 = .ok (.getfield 231, 3) := by decide +kernel
theorem dX12_run_66 : decode cX12_run 66 = .ok (.if_icmp .ge 21, 3) := by decide +kernel
theorem dX12_run_69 : decode cX12_run 69 = .ok (.aload_n 0, 1) := by decide +kernel
theorem dX12_run_70 : decode cX12_run 70 = .ok (.getfield 68, 3) := by decide +kernel
theorem dX12_run_73 : decode cX12_run 73 = .ok (.iload_n 2, 1) := by decide +kernel
theorem dX12_run_74 : decode cX12_run 74 = .ok (.aload_n 0, 1) := by decide +kernel
theorem dX12_run_75 : decode cX12_run 75 = .ok (.getfield 65, 3) := by decide +kernel
theorem dX12_run_78 : decode cX12_run 78 = .ok (.iload_n 2, 1) := by decide +kernel
theorem dX12_run_79 : decode cX12_run 79 = .ok (.iaload, 1) := by decide +kernel
theorem dX12_run_80 : decode cX12_run 80 = .ok (.iastore, 1) := by decide +kernel
theorem dX12_run_81 : decode cX12_run 81 = .ok (.iinc 2 1, 3) := by decide +kernel
theorem dX12_run_84 : decode cX12_run 84 = .ok (.goto (-26), 3) := by decide +kernel
theorem dX12_run_87 : decode cX12_run 87 = .ok (.aload_n 0, 1) := by decide +kernel
theorem dX12_run_88 : decode cX12_run 88 = .ok (.invokevirtual 405, 3) := by decide +kernel
theorem dX12_run_91 : decode cX12_run 91 = .ok (.pop, 1) := by decide +kernel
theorem dX12_run_92 : decode cX12_run 92 = .ok (.aload_n 0, 1) := by decide +kernel
theorem dX12_run_93 : decode cX12_run 93 = .ok (.aload_n 0, 1) := by decide +kernel
theorem dX12_run_94 : decode cX12_run 94 = .ok (.aload_n 0, 1) := by decide +kernel
theorem dX12_run_95 : decode cX12_run 95 = .ok (.getfield 46, 3) := by decide +kernel
theorem dX12_run_98 : decode cX12_run 98 = .ok (.getfield 222, 3) := by decide +kernel
theorem dX12_run_101 : decode cX12_run 101 = .ok (.invokevirtual 399, 3) := by decide +kernel
theorem dX12_run_104 : decode cX12_run 104 = .ok (.iconst 4, 1) := by decide +kernel
theorem dX12_run_105 : decode cX12_run 105 = .ok (.if_icmp .ne 7, 3) := by decide +kernel
theorem dX12_run_108 : decode cX12_run 108 = .ok (.iconst 1, 1) := by decide +kernel
theorem dX12_run_109 : decode cX12_run 109 = .ok (.goto 4, 3) := by decide +kernel
theorem dX12_run_112 : decode cX12_run 112 = .ok (.iconst 0, 1) := by decide +kernel
theorem dX12_run_113 : decode cX12_run 113 = .ok (.putfield 409, 3) := by decide +kernel
theorem dX12_run_116 : decode cX12_run 116 = .ok (.aload_n 0, 1) := by decide +kernel
theorem dX12_run_117 : decode cX12_run 117 = .ok (.getfield 409, 3) := by decide +kernel
theorem dX12_run_120 : decode cX12_run 120 = .ok (.iconst 1, 1) := by decide +kernel
theorem dX12_run_121 : decode cX12_run 121 = .ok (.if_icmp .ne 8, 3) := by decide +kernel
theorem dX12_run_124 : decode cX12_run 124 = .ok (.aload_n 0, 1) := by decide +kernel
theorem dX12_run_125 : decode cX12_run 125 = .ok (.iconst 0, 1) := by decide +kernel
theorem dX12_run_126 : decode cX12_run 126 = .ok (.putfield 396, 3) := by decide +kernel
theorem dX12_run_129 : decode cX12_run 129 = .ok (.aload_n 0, 1) := by decide +kernel
theorem dX12_run_130 : decode cX12_run 130 = .ok (.getfield 409, 3) := by decide +kernel
theorem dX12_run_133 : decode cX12_run 133 = .ok (.ireturn, 1) := by decide +kernel
theorem dX12_told__0 : decode cX12_told_ 0 = .ok (.aload_n 0, 1) := by decide +kernel
theorem dX12_told__1 : decode cX12_told_ 1 = .ok (.iconst 0, 1) := by decide +kernel
theorem dX12_told__2 : decode cX12_told_ 2 = .ok (.putfield 83, 3) := by decide +kernel
theorem dX12_told__5 : decode cX12_told_ 5 = .ok (.iload_n 1, 1) := by decide +kernel
theorem dX12_told__6 : decode cX12_told_ 6 = .ok (.tableswitch 138 0 5 #[38, 54, 70, 86, 102, 118], 38) := by decide +kernel
theorem dX12_told__44 : decode cX12_told_ 44 = .ok (.aload_n 0, 1) := by decide +kernel
theorem dX12_told__45 : decode cX12_told_ 45 = .ok (.getfield 340, 3) := by decide +kernel
theorem dX12_told__48 : decode cX12_told_ 48 = .ok (.ifCond .eq 10, 3) := by decide +kernel
theorem dX12_told__51 : decode cX12_told_ 51 = .ok (.aload_n 0, 1) := by decide +kernel
theorem dX12_told__52 : decode cX12_told_ 52 = .ok (.getfield 409, 3) := by decide +kernel
theorem dX12_told__55 : decode cX12_told_ 55 = .ok (.goto 4, 3) := by decide +kernel
theorem dX12_told__58 : decode cX12_told_ 58 = .ok (.iconst (-1), 1) := by decide +kernel
theorem dX12_told__59 : decode cX12_told_ 59 = .ok (.ireturn, 1) := by decide +kernel
theorem dX12_told__60 : decode cX12_told_ 60 = .ok (.aload_n 0, 1) := by decide +kernel
theorem dX12_told__61 : decode cX12_told_ 61 = .ok (.getfield 340, 3) := by decide +kernel
theorem dX12_told__64 : decode cX12_told_ 64 = .ok (.ifCond .eq 10, 3) := by decide +kernel
theorem dX12_told__67 : decode cX12_told_ 67 = .ok (.aload_n 0, 1) := by decide +kernel
theorem dX12_told__68 : decode cX12_told_ 68 = .ok (.getfield 396, 3) := by decide +kernel
theorem dX12_told__71 : decode cX12_told_ 71 = .ok (.goto 4, 3) := by decide +kernel
theorem dX12_told__74 : decode cX12_told_ 74 = .ok (.iconst 0, 1) := by decide +kernel
theorem dX12_told__75 : decode cX12_told_ 75 = .ok (.ireturn, 1) := by decide +kernel
theorem dX12_told__76 : decode cX12_told_ 76 = .ok (.aload_n 0, 1) := by decide +kernel
theorem dX12_told__77 : decode cX12_told_ 77 = .ok (.getfield 340, 3) := by decide +kernel
theorem dX12_told__80 : decode cX12_told_ 80 = .ok (.ifCond .eq 10, 3) := by decide +kernel
theorem dX12_told__83 : decode cX12_told_ 83 = .ok (.aload_n 0, 1) := by decide +kernel
theorem dX12_told__84 : decode cX12_told_ 84 = .ok (.getfield 375, 3) := by decide +kernel
theorem dX12_told__87 : decode cX12_told_ 87 = .ok (.goto 4, 3) := by decide +kernel
theorem dX12_told__90 : decode cX12_told_ 90 = .ok (.iconst 0, 1) := by decide +kernel
theorem dX12_told__91 : decode cX12_told_ 91 = .ok (.ireturn, 1) := by decide +kernel
theorem dX12_told__92 : decode cX12_told_ 92 = .ok (.aload_n 0, 1) := by decide +kernel
theorem dX12_told__93 : decode cX12_told_ 93 = .ok (.getfield 340, 3) := by decide +kernel
theorem dX12_told__96 : decode cX12_told_ 96 = .ok (.ifCond .eq 10, 3) := by decide +kernel
theorem dX12_told__99 : decode cX12_told_ 99 = .ok (.aload_n 0, 1) := by decide +kernel
theorem dX12_told__100 : decode cX12_told_ 100 = .ok (.getfield 368, 3) := by decide +kernel
theorem dX12_told__103 : decode cX12_told_ 103 = .ok (.goto 4, 3) := by decide +kernel
theorem dX12_told__106 : decode cX12_told_ 106 = .ok (.iconst 0, 1) := by decide +kernel
theorem dX12_told__107 : decode cX12_told_ 107 = .ok (.ireturn, 1) := by decide +kernel
theorem dX12_told__108 : decode cX12_told_ 108 = .ok (.aload_n 0, 1) := by decide +kernel
theorem dX12_told__109 : decode cX12_told_ 109 = .ok (.getfield 340, 3) := by decide +kernel
theorem dX12_told__112 : decode cX12_told_ 112 = .ok (.ifCond .eq 10, 3) := by decide +kernel
theorem dX12_told__115 : decode cX12_told_ 115 = .ok (.aload_n 0, 1) := by decide +kernel
theorem dX12_told__116 : decode cX12_told_ 116 = .ok (.getfield 402, 3) := by decide +kernel
theorem dX12_told__119 : decode cX12_told_ 119 = .ok (.goto 4, 3) := by decide +kernel
theorem dX12_told__122 : decode cX12_told_ 122 = .ok (.iconst 0, 1) := by decide +kernel
theorem dX12_told__123 : decode cX12_told_ 123 = .ok (.ireturn, 1) := by decide +kernel
theorem dX12_told__124 : decode cX12_told_ 124 = .ok (.aload_n 0, 1) := by decide +kernel
theorem dX12_told__125 : decode cX12_told_ 125 = .ok (.getfield 340, 3) := by decide +kernel
theorem dX12_told__128 : decode cX12_told_ 128 = .ok (.ifCond .eq 14, 3) := by decide +kernel
theorem dX12_told__131 : decode cX12_told_ 131 = .ok (.aload_n 0, 1) := by decide +kernel
theorem dX12_told__132 : decode cX12_told_ 132 = .ok (.getfield 409, 3) := by decide +kernel
theorem dX12_told__135 : decode cX12_told_ 135 = .ok (.ifCond .ne 7, 3) := by decide +kernel
theorem dX12_told__138 : decode cX12_told_ 138 = .ok (.iconst 1, 1) := by decide +kernel
theorem dX12_told__139 : decode cX12_told_ 139 = .ok (.goto 4, 3) := by decide +kernel
theorem dX12_told__142 : decode cX12_told_ 142 = .ok (.iconst 0, 1) := by decide +kernel
theorem dX12_told__143 : decode cX12_told_ 143 = .ok (.ireturn, 1) := by decide +kernel
theorem dX12_told__144 : decode cX12_told_ 144 = .ok (.iconst (-1), 1) := by decide +kernel
theorem dX12_told__145 : decode cX12_told_ 145 = .ok (.ireturn, 1) := by decide +kernel
theorem dX12_write_0 : decode cX12_write 0 = .ok (.aload_n 0, 1) := by decide +kernel
theorem dX12_write_1 : decode cX12_write 1 = .ok (.aload_n 0, 1) := by decide +kernel
theorem dX12_write_2 : decode cX12_write 2 = .ok (.getfield 340, 3) := by decide +kernel
theorem dX12_write_5 : decode cX12_write 5 = .ok (.ifCond .eq 21, 3) := by decide +kernel
theorem dX12_write_8 : decode cX12_write 8 = .ok (.iload_n 1, 1) := by decide +kernel
theorem dX12_write_9 : decode cX12_write 9 = .ok (.ifCond .lt 17, 3) := by decide +kernel
theorem dX12_write_12 : decode cX12_write 12 = .ok (.iload_n 1, 1) := by decide +kernel
theorem dX12_write_13 : decode cX12_write 13 = .ok (.aload_n 0, 1) := by decide +kernel
theorem dX12_write_14 : decode cX12_write 14 = .ok (.getfield 402, 3) := by decide +kernel
theorem dX12_write_17 : decode cX12_write 17 = .ok (.sipush 200, 3) := by decide +kernel
theorem dX12_write_20 : decode cX12_write 20 = .ok (.invokestatic 412, 3) := by decide +kernel
theorem dX12_write_23 : decode cX12_write 23 = .ok (.if_icmp .lt 7, 3) := by decide +kernel
theorem dX12_write_26 : decode cX12_write 26 = .ok (.iconst 1, 1) := by decide +kernel
theorem dX12_write_27 : decode cX12_write 27 = .ok (.goto 4, 3) := by decide +kernel
theorem dX12_write_30 : decode cX12_write 30 = .ok (.iconst 0, 1) := by decide +kernel
theorem dX12_write_31 : decode cX12_write 31 = .ok (.putfield 83, 3) := by decide +kernel
theorem dX12_write_34 : decode cX12_write 34 = .ok (.aload_n 0, 1) := by decide +kernel
theorem dX12_write_35 : decode cX12_write 35 = .ok (.getfield 83, 3) := by decide +kernel
theorem dX12_write_38 : decode cX12_write 38 = .ok (.ifCond .le 5, 3) := by decide +kernel
theorem dX12_write_41 : decode cX12_write 41 = .ok (.iconst 0, 1) := by decide +kernel
theorem dX12_write_42 : decode cX12_write 42 = .ok (.ireturn, 1) := by decide +kernel
theorem dX12_write_43 : decode cX12_write 43 = .ok (.iload_n 2, 1) := by decide +kernel
theorem dX12_write_44 : decode cX12_write 44 = .ok (.ifCond .lt 8, 3) := by decide +kernel
theorem dX12_write_47 : decode cX12_write 47 = .ok (.iload_n 2, 1) := by decide +kernel
theorem dX12_write_48 : decode cX12_write 48 = .ok (.iconst 2, 1) := by decide +kernel
theorem dX12_write_49 : decode cX12_write 49 = .ok (.if_icmp .le 7, 3) := by decide +kernel
theorem dX12_write_52 : decode cX12_write 52 = .ok (.iconst (-1), 1) := by decide +kernel
theorem dX12_write_53 : decode cX12_write 53 = .ok (.goto 13, 3) := by decide +kernel
theorem dX12_write_56 : decode cX12_write 56 = .ok (.aload_n 0, 1) := by decide +kernel
theorem dX12_write_57 : decode cX12_write 57 = .ok (.getfield 71, 3) := by decide +kernel
theorem dX12_write_60 : decode cX12_write 60 = .ok (.iconst 3, 1) := by decide +kernel
theorem dX12_write_61 : decode cX12_write 61 = .ok (.iload_n 1, 1) := by decide +kernel
theorem dX12_write_62 : decode cX12_write 62 = .ok (.imul, 1) := by decide +kernel
theorem dX12_write_63 : decode cX12_write 63 = .ok (.iload_n 2, 1) := by decide +kernel
theorem dX12_write_64 : decode cX12_write 64 = .ok (.iadd, 1) := by decide +kernel
theorem dX12_write_65 : decode cX12_write 65 = .ok (.iaload, 1) := by decide +kernel
theorem dX12_write_66 : decode cX12_write 66 = .ok (.ireturn, 1) := by decide +kernel
theorem dX12_count_0 : decode cX12_count 0 = .ok (.aload_n 0, 1) := by decide +kernel
theorem dX12_count_1 : decode cX12_count 1 = .ok (.iconst 0, 1) := by decide +kernel
theorem dX12_count_2 : decode cX12_count 2 = .ok (.putfield 83, 3) := by decide +kernel
theorem dX12_count_5 : decode cX12_count 5 = .ok (.iload_n 1, 1) := by decide +kernel
theorem dX12_count_6 : decode cX12_count 6 = .ok (.tableswitch 159 0 10 #[58, 63, 76, 95, 114, 133, 152, 157, 157, 157, 157], 58) := by decide +kernel
theorem dX12_count_64 : decode cX12_count 64 = .ok (.aload_n 0, 1) := by decide +kernel
theorem dX12_count_65 : decode cX12_count 65 = .ok (.getfield 86, 3) := by decide +kernel
theorem dX12_count_68 : decode cX12_count 68 = .ok (.ireturn, 1) := by decide +kernel
theorem dX12_count_69 : decode cX12_count 69 = .ok (.aload_n 0, 1) := by decide +kernel
theorem dX12_count_70 : decode cX12_count 70 = .ok (.getfield 336, 3) := by decide +kernel
theorem dX12_count_73 : decode cX12_count 73 = .ok (.ifCond .eq 7, 3) := by decide +kernel
theorem dX12_count_76 : decode cX12_count 76 = .ok (.iconst 1, 1) := by decide +kernel
theorem dX12_count_77 : decode cX12_count 77 = .ok (.goto 4, 3) := by decide +kernel
theorem dX12_count_80 : decode cX12_count 80 = .ok (.iconst 0, 1) := by decide +kernel
theorem dX12_count_81 : decode cX12_count 81 = .ok (.ireturn, 1) := by decide +kernel
theorem dX12_count_82 : decode cX12_count 82 = .ok (.aload_n 0, 1) := by decide +kernel
theorem dX12_count_83 : decode cX12_count 83 = .ok (.getfield 336, 3) := by decide +kernel
theorem dX12_count_86 : decode cX12_count 86 = .ok (.ifCond .eq 13, 3) := by decide +kernel
theorem dX12_count_89 : decode cX12_count 89 = .ok (.aload_n 0, 1) := by decide +kernel
theorem dX12_count_90 : decode cX12_count 90 = .ok (.getfield 46, 3) := by decide +kernel
theorem dX12_count_93 : decode cX12_count 93 = .ok (.getfield 225, 3) := by decide +kernel
theorem dX12_count_96 : decode cX12_count 96 = .ok (.goto 4, 3) := by decide +kernel
theorem dX12_count_99 : decode cX12_count 99 = .ok (.iconst 0, 1) := by decide +kernel
theorem dX12_count_100 : decode cX12_count 100 = .ok (.ireturn, 1) := by decide +kernel
theorem dX12_count_101 : decode cX12_count 101 = .ok (.aload_n 0, 1) := by decide +kernel
theorem dX12_count_102 : decode cX12_count 102 = .ok (.getfield 336, 3) := by decide +kernel
theorem dX12_count_105 : decode cX12_count 105 = .ok (.ifCond .eq 13, 3) := by decide +kernel
theorem dX12_count_108 : decode cX12_count 108 = .ok (.aload_n 0, 1) := by decide +kernel
theorem dX12_count_109 : decode cX12_count 109 = .ok (.getfield 46, 3) := by decide +kernel
theorem dX12_count_112 : decode cX12_count 112 = .ok (.getfield 231, 3) := by decide +kernel
theorem dX12_count_115 : decode cX12_count 115 = .ok (.goto 4, 3) := by decide +kernel
theorem dX12_count_118 : decode cX12_count 118 = .ok (.iconst 0, 1) := by decide +kernel
theorem dX12_count_119 : decode cX12_count 119 = .ok (.ireturn, 1) := by decide +kernel
theorem dX12_count_120 : decode cX12_count 120 = .ok (.aload_n 0, 1) := by decide +kernel
theorem dX12_count_121 : decode cX12_count 121 = .ok (.getfield 336, 3) := by decide +kernel
theorem dX12_count_124 : decode cX12_count 124 = .ok (.ifCond .eq 13, 3) := by decide +kernel
theorem dX12_count_127 : decode cX12_count 127 = .ok (.aload_n 0, 1) := by decide +kernel
theorem dX12_count_128 : decode cX12_count 128 = .ok (.getfield 46, 3) := by decide +kernel
theorem dX12_count_131 : decode cX12_count 131 = .ok (.getfield 237, 3) := by decide +kernel
theorem dX12_count_134 : decode cX12_count 134 = .ok (.goto 4, 3) := by decide +kernel
theorem dX12_count_137 : decode cX12_count 137 = .ok (.iconst 0, 1) := by decide +kernel
theorem dX12_count_138 : decode cX12_count 138 = .ok (.ireturn, 1) := by decide +kernel
theorem dX12_count_139 : decode cX12_count 139 = .ok (.aload_n 0, 1) := by decide +kernel
theorem dX12_count_140 : decode cX12_count 140 = .ok (.getfield 336, 3) := by decide +kernel
theorem dX12_count_143 : decode cX12_count 143 = .ok (.ifCond .eq 13, 3) := by decide +kernel
theorem dX12_count_146 : decode cX12_count 146 = .ok (.aload_n 0, 1) := by decide +kernel
theorem dX12_count_147 : decode cX12_count 147 = .ok (.getfield 46, 3) := by decide +kernel
theorem dX12_count_150 : decode cX12_count 150 = .ok (.getfield 289, 3) := by decide +kernel
theorem dX12_count_153 : decode cX12_count 153 = .ok (.goto 4, 3) := by decide +kernel
theorem dX12_count_156 : decode cX12_count 156 = .ok (.iconst 0, 1) := by decide +kernel
theorem dX12_count_157 : decode cX12_count 157 = .ok (.ireturn, 1) := by decide +kernel
theorem dX12_count_158 : decode cX12_count 158 = .ok (.aload_n 0, 1) := by decide +kernel
theorem dX12_count_159 : decode cX12_count 159 = .ok (.getfield 346, 3) := by decide +kernel
theorem dX12_count_162 : decode cX12_count 162 = .ok (.ireturn, 1) := by decide +kernel
theorem dX12_count_163 : decode cX12_count 163 = .ok (.iconst 0, 1) := by decide +kernel
theorem dX12_count_164 : decode cX12_count 164 = .ok (.ireturn, 1) := by decide +kernel
theorem dX12_count_165 : decode cX12_count 165 = .ok (.iconst (-1), 1) := by decide +kernel
theorem dX12_count_166 : decode cX12_count 166 = .ok (.ireturn, 1) := by decide +kernel
theorem dX12_size_0 : decode cX12_size 0 = .ok (.aload_n 0, 1) := by decide +kernel
theorem dX12_size_1 : decode cX12_size 1 = .ok (.iconst 0, 1) := by decide +kernel
theorem dX12_size_2 : decode cX12_size 2 = .ok (.putfield 83, 3) := by decide +kernel
theorem dX12_size_5 : decode cX12_size 5 = .ok (.aload_n 0, 1) := by decide +kernel
theorem dX12_size_6 : decode cX12_size 6 = .ok (.getfield 336, 3) := by decide +kernel
theorem dX12_size_9 : decode cX12_size 9 = .ok (.ifCond .eq 18, 3) := by decide +kernel
theorem dX12_size_12 : decode cX12_size 12 = .ok (.iload_n 1, 1) := by decide +kernel
theorem dX12_size_13 : decode cX12_size 13 = .ok (.ifCond .lt 14, 3) := by decide +kernel
theorem dX12_size_16 : decode cX12_size 16 = .ok (.iload_n 1, 1) := by decide +kernel
theorem dX12_size_17 : decode cX12_size 17 = .ok (.aload_n 0, 1) := by decide +kernel
theorem dX12_size_18 : decode cX12_size 18 = .ok (.getfield 46, 3) := by decide +kernel
theorem dX12_size_21 : decode cX12_size 21 = .ok (.getfield 225, 3) := by decide +kernel
theorem dX12_size_24 : decode cX12_size 24 = .ok (.if_icmp .lt 7, 3) := by decide +kernel
theorem dX12_size_27 : decode cX12_size 27 = .ok (.iconst (-1), 1) := by decide +kernel
theorem dX12_size_28 : decode cX12_size 28 = .ok (.goto 12, 3) := by decide +kernel
theorem dX12_size_31 : decode cX12_size 31 = .ok (.aload_n 0, 1) := by decide +kernel
theorem dX12_size_32 : decode cX12_size 32 = .ok (.getfield 46, 3) := by decide +kernel
theorem dX12_size_35 : decode cX12_size 35 = .ok (.getfield 228, 3) := by decide +kernel
theorem dX12_size_38 : decode cX12_size 38 = .ok (.iload_n 1, 1) := by decide +kernel
theorem dX12_size_39 : decode cX12_size 39 = .ok (.iaload, 1) := by decide +kernel
theorem dX12_size_40 : decode cX12_size 40 = .ok (.ireturn, 1) := by decide +kernel
