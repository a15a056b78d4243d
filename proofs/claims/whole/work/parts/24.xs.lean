theorem kl_X10_120 : Cond.classLink RX10 120 "java/util/NoSuchElementException" ∈ q_tb := q_in 1025 (by decide +kernel) rfl
theorem wi_nsee : Cond.initialized "java/util/NoSuchElementException" ∈ q_tb := q_in 114 (by decide +kernel) rfl
theorem kl_L_13 : Cond.classLink RL 13 "java/util/NoSuchElementException" ∈ q_tb := q_in 1020 (by decide +kernel) rfl
theorem kc_L_13 : Cond.castable "java/util/NoSuchElementException" "java/util/NoSuchElementException" ∈ lw_tbl := q_inn 1027 (by decide +kernel)
theorem kl_X12_33 : Cond.classLink RX12 33 "java/lang/IllegalStateException" ∈ q_tb := q_in 1126 (by decide +kernel) rfl
theorem kc_X12_33 : Cond.castable "java/lang/IllegalStateException" "java/lang/IllegalStateException" ∈ lw_tbl := q_inn 1128 (by decide +kernel)
theorem sw_X10_122 : Cond.stringRef RX10 122 "no such PARAMETER" ∈ lw_tbl := q_inn 1065 (by decide +kernel)
theorem sx_X10_122 : ∀ (a0 : Array Value) (s0 : State), (Jvm.Cond.and given_1 narrow_1).before a0 s0 = true → (Cond.exactly (.string RX10 122) "java/lang/String").before a0 s0 = true := fun a0 s0 h => flat_of_before _ h _ (by decide +kernel)
theorem sw_X10_131 : Cond.stringRef RX10 131 "no such cell" ∈ lw_tbl := q_inn 1102 (by decide +kernel)
theorem sx_X10_131 : ∀ (a0 : Array Value) (s0 : State), (Jvm.Cond.and given_1 narrow_1).before a0 s0 = true → (Cond.exactly (.string RX10 131) "java/lang/String").before a0 s0 = true := fun a0 s0 h => flat_of_before _ h _ (by decide +kernel)
theorem sw_X10_175 : Cond.stringRef RX10 175 "no such write" ∈ lw_tbl := q_inn 1119 (by decide +kernel)
theorem sx_X10_175 : ∀ (a0 : Array Value) (s0 : State), (Jvm.Cond.and given_1 narrow_1).before a0 s0 = true → (Cond.exactly (.string RX10 175) "java/lang/String").before a0 s0 = true := fun a0 s0 h => flat_of_before _ h _ (by decide +kernel)
set_option maxRecDepth 100000 in
theorem cw_L_give : Cond.codeWith yL_give cL_give 5 (some .int) [(0, 10, 13, 13)] ∈ q_tb := q_in 1019 rfl rfl
set_option maxRecDepth 100000 in
theorem cw_L_poke : Cond.codeWith yL_poke cL_poke 6 (some .int) [(0, 12, 15, 13)] ∈ q_tb := q_in 1093 rfl rfl
set_option maxRecDepth 100000 in
theorem cw_L_cell : Cond.codeWith yL_cell cL_cell 5 (some .int) [(0, 10, 13, 13)] ∈ q_tb := q_in 1107 rfl rfl
set_option maxRecDepth 100000 in
theorem cw_L_write : Cond.codeWith yL_write cL_write 5 (some .int) [(0, 10, 13, 13)] ∈ q_tb := q_in 1114 rfl rfl
set_option maxRecDepth 100000 in
theorem cw_X12_build : Cond.codeWith yX12_build cX12_build 5 (some .int) [(96, 100, 103, 33)] ∈ q_tb := q_in 1366 rfl rfl
theorem dL_give_0 : decode cL_give 0 = .ok (.aload_n 3, 1) := by decide +kernel
theorem dL_give_1 : decode cL_give 1 = .ok (.iconst 0, 1) := by decide +kernel
theorem dL_give_2 : decode cL_give 2 = .ok (.aload_n 0, 1) := by decide +kernel
theorem dL_give_3 : decode cL_give 3 = .ok (.iload_n 1, 1) := by decide +kernel
theorem dL_give_4 : decode cL_give 4 = .ok (.iload_n 2, 1) := by decide +kernel
theorem dL_give_5 : decode cL_give 5 = .ok (.invokevirtual 7, 3) := by decide +kernel
theorem dL_give_8 : decode cL_give 8 = .ok (.i2l, 1) := by decide +kernel
theorem dL_give_9 : decode cL_give 9 = .ok (.lastore, 1) := by decide +kernel
theorem dL_give_10 : decode cL_give 10 = .ok (.goto 7, 3) := by decide +kernel
theorem dL_give_13 : decode cL_give 13 = .ok (.astore 4, 2) := by decide +kernel
theorem dL_give_15 : decode cL_give 15 = .ok (.iconst 1, 1) := by decide +kernel
theorem dL_give_16 : decode cL_give 16 = .ok (.ireturn, 1) := by decide +kernel
theorem dL_give_17 : decode cL_give 17 = .ok (.iconst 0, 1) := by decide +kernel
theorem dL_give_18 : decode cL_give 18 = .ok (.ireturn, 1) := by decide +kernel
theorem dL_poke_0 : decode cL_poke 0 = .ok (.aload 4, 2) := by decide +kernel
theorem dL_poke_2 : decode cL_poke 2 = .ok (.iconst 0, 1) := by decide +kernel
theorem dL_poke_3 : decode cL_poke 3 = .ok (.aload_n 0, 1) := by decide +kernel
theorem dL_poke_4 : decode cL_poke 4 = .ok (.iload_n 1, 1) := by decide +kernel
theorem dL_poke_5 : decode cL_poke 5 = .ok (.iload_n 2, 1) := by decide +kernel
theorem dL_poke_6 : decode cL_poke 6 = .ok (.iload_n 3, 1) := by decide +kernel
theorem dL_poke_7 : decode cL_poke 7 = .ok (.invokevirtual 15, 3) := by decide +kernel
theorem dL_poke_10 : decode cL_poke 10 = .ok (.i2l, 1) := by decide +kernel
theorem dL_poke_11 : decode cL_poke 11 = .ok (.lastore, 1) := by decide +kernel
theorem dL_poke_12 : decode cL_poke 12 = .ok (.goto 7, 3) := by decide +kernel
theorem dL_poke_15 : decode cL_poke 15 = .ok (.astore 5, 2) := by decide +kernel
theorem dL_poke_17 : decode cL_poke 17 = .ok (.iconst 1, 1) := by decide +kernel
theorem dL_poke_18 : decode cL_poke 18 = .ok (.ireturn, 1) := by decide +kernel
theorem dL_poke_19 : decode cL_poke 19 = .ok (.iconst 0, 1) := by decide +kernel
theorem dL_poke_20 : decode cL_poke 20 = .ok (.ireturn, 1) := by decide +kernel
theorem dL_cell_0 : decode cL_cell 0 = .ok (.aload_n 3, 1) := by decide +kernel
theorem dL_cell_1 : decode cL_cell 1 = .ok (.iconst 0, 1) := by decide +kernel
theorem dL_cell_2 : decode cL_cell 2 = .ok (.aload_n 0, 1) := by decide +kernel
theorem dL_cell_3 : decode cL_cell 3 = .ok (.iload_n 1, 1) := by decide +kernel
theorem dL_cell_4 : decode cL_cell 4 = .ok (.iload_n 2, 1) := by decide +kernel
theorem dL_cell_5 : decode cL_cell 5 = .ok (.invokevirtual 19, 3) := by decide +kernel
theorem dL_cell_8 : decode cL_cell 8 = .ok (.i2l, 1) := by decide +kernel
theorem dL_cell_9 : decode cL_cell 9 = .ok (.lastore, 1) := by decide +kernel
theorem dL_cell_10 : decode cL_cell 10 = .ok (.goto 7, 3) := by decide +kernel
theorem dL_cell_13 : decode cL_cell 13 = .ok (.astore 4, 2) := by decide +kernel
theorem dL_cell_15 : decode cL_cell 15 = .ok (.iconst 1, 1) := by decide +kernel
theorem dL_cell_16 : decode cL_cell 16 = .ok (.ireturn, 1) := by decide +kernel
theorem dL_cell_17 : decode cL_cell 17 = .ok (.iconst 0, 1) := by decide +kernel
theorem dL_cell_18 : decode cL_cell 18 = .ok (.ireturn, 1) := by decide +kernel
theorem dL_write_0 : decode cL_write 0 = .ok (.aload_n 3, 1) := by decide +kernel
theorem dL_write_1 : decode cL_write 1 = .ok (.iconst 0, 1) := by decide +kernel
theorem dL_write_2 : decode cL_write 2 = .ok (.aload_n 0, 1) := by decide +kernel
theorem dL_write_3 : decode cL_write 3 = .ok (.iload_n 1, 1) := by decide +kernel
theorem dL_write_4 : decode cL_write 4 = .ok (.iload_n 2, 1) := by decide +kernel
theorem dL_write_5 : decode cL_write 5 = .ok (.invokevirtual 22, 3) := by decide +kernel
theorem dL_write_8 : decode cL_write 8 = .ok (.i2l, 1) := by decide +kernel
theorem dL_write_9 : decode cL_write 9 = .ok (.lastore, 1) := by decide +kernel
theorem dL_write_10 : decode cL_write 10 = .ok (.goto 7, 3) := by decide +kernel
theorem dL_write_13 : decode cL_write 13 = .ok (.astore 4, 2) := by decide +kernel
theorem dL_write_15 : decode cL_write 15 = .ok (.iconst 1, 1) := by decide +kernel
theorem dL_write_16 : decode cL_write 16 = .ok (.ireturn, 1) := by decide +kernel
theorem dL_write_17 : decode cL_write 17 = .ok (.iconst 0, 1) := by decide +kernel
theorem dL_write_18 : decode cL_write 18 = .ok (.ireturn, 1) := by decide +kernel
def m_X8_cutName : qm := (RX8, cX8_cutName, 5, (some .int), [], false)
set_option maxRecDepth 100000 in
set_option maxHeartbeats 4000000 in
theorem x_X8_cutName (G : qG) (d : Nat)  (h : qh) (Q : qr → qh → Prop)  (hF : q_N0 G m_X8_cutName (d + 1) Q 7 [.ref 17, .int (h.I 17 5), .long 0, .null, .null] [] h) : q_M0 G (d + 1) yX8_cutName [.ref 17] h Q := by
  refine q_of (M := m_X8_cutName) (by decide +kernel) rfl rfl cd_X8_cutName (by decide) (Nat.le_of_ble_eq_true rfl) ?_
  show q_N0 G m_X8_cutName (d + 1) Q 0 [.ref 17, .null, .null, .null, .null] [] h
  refine q_aload_n (i := 0) dX8_cutName_0 rfl rfl ?_
  refine q_getIv (v := h.I 17 5) 9 5 fl_X8_30 (by decide) rfl rfl (rfl) dX8_cutName_1 ?_
  refine q_istore_n (i := 1) dX8_cutName_4 rfl (by decide) rfl ?_
  refine q_lconst (v := 0) dX8_cutName_5 (by decide) ?_
  refine q_lstore_n (i := 2) dX8_cutName_6 rfl (by decide) rfl ?_
  exact hF
set_option maxRecDepth 100000 in
set_option maxHeartbeats 4000000 in
theorem x_X8_cutName_7 (G : qG) (d : Nat) (l1 : Int32) (l2 : Int64) (h : qh) (Q : qr → qh → Prop)  (hF : ((h.I 17 4) ≤ (h.I 17 5) → ((((h.I 17 5) - l1) ≤ 8 → (vp_in (h.I 17 6) 2001 ∧ (q_N0 G m_X8_cutName (d + 1) Q 100 [.ref 17, .int l1, .long l2, .null, .int 0] [] (h.sL 20 ((h.I 17 6).toNatClampNeg) l2)))) ∧ (¬ ((h.I 17 5) - l1) ≤ 8 → (Q (.inl (some (.int 1))) h)))) ∧ (¬ (h.I 17 4) ≤ (h.I 17 5) → (q_M0 G d yX8_byteAt [.ref 17, .int (h.I 17 5)] h (q_ri (fun r3 h2 => q_M0 G d yX8_isLetter [.int r3] h2 (q_ri (fun r5 h4 => (¬ r5 = 0 → (q_M0 G d yX8_byteAt [.ref 17, .int (h4.I 17 5)] h4 (q_ri (fun r7 h6 => q_N0 G m_X8_cutName (d + 1) Q 7 [.ref 17, .int l1, .long ((l2 <<< (Int32.toInt64 8 &&& 63)) ||| r7.toInt64), .null, .null] [] (h6.sI 17 5 ((h6.I 17 5) + 1))) (fun E h => Q (.inr E) h)))) ∧ (r5 = 0 → (q_M0 G d yX8_byteAt [.ref 17, .int (h4.I 17 5)] h4 (q_ri (fun r9 h8 => q_M0 G d yX8_isDigit [.int r9] h8 (q_ri (fun r11 h10 => (r11 = 0 → ((((h10.I 17 5) - l1) ≤ 8 → (vp_in (h10.I 17 6) 2001 ∧ (q_N0 G m_X8_cutName (d + 1) Q 100 [.ref 17, .int l1, .long l2, .null, .int 0] [] (h10.sL 20 ((h10.I 17 6).toNatClampNeg) l2)))) ∧ (¬ ((h10.I 17 5) - l1) ≤ 8 → (Q (.inl (some (.int 1))) h10)))) ∧ (¬ r11 = 0 → (q_M0 G d yX8_byteAt [.ref 17, .int (h10.I 17 5)] h10 (q_ri (fun r14 h13 => q_N0 G m_X8_cutName (d + 1) Q 7 [.ref 17, .int l1, .long ((l2 <<< (Int32.toInt64 8 &&& 63)) ||| r14.toInt64), .null, .null] [] (h13.sI 17 5 ((h13.I 17 5) + 1))) (fun E h => Q (.inr E) h))))) (fun E h => Q (.inr E) h))) (fun E h => Q (.inr E) h))))) (fun E h => Q (.inr E) h))) (fun E h => Q (.inr E) h))))) : q_N0 G m_X8_cutName (d + 1) Q 7 [.ref 17, .int l1, .long l2, .null, .null] [] h := by
  refine q_aload_n (i := 0) dX8_cutName_7 rfl rfl ?_
  refine q_getIv (v := h.I 17 5) 9 5 fl_X8_30 (by decide) rfl rfl (rfl) dX8_cutName_8 ?_
  refine q_aload_n (i := 0) dX8_cutName_11 rfl rfl ?_
  refine q_getIv (v := h.I 17 4) 9 4 fl_X8_26 (by decide) rfl rfl (rfl) dX8_cutName_12 ?_
  refine q_icmp_ge (tgt := 74) dX8_cutName_15 (by decide) (fun hb => ?_) (fun hb => ?_)
  · have hF := hF.1 hb
    refine q_aload_n (i := 0) dX8_cutName_74 rfl rfl ?_
    refine q_getIv (v := h.I 17 5) 9 5 fl_X8_30 (by decide) rfl rfl (rfl) dX8_cutName_75 ?_
    refine q_iload_n (i := 1) dX8_cutName_78 rfl rfl ?_
    refine q_isub dX8_cutName_79 ?_
    refine q_bipush (v := 8) dX8_cutName_80 (by decide) ?_
    refine q_icmp_le (tgt := 87) dX8_cutName_82 (by decide) (fun hb => ?_) (fun hb => ?_)
    · have hF := hF.1 hb
      refine q_aload_n (i := 0) dX8_cutName_87 rfl rfl ?_
      refine q_getP 9 2 20 fl_X8_18 (by decide) rfl rfl rfl dX8_cutName_88 ?_
      refine q_aload_n (i := 0) dX8_cutName_91 rfl rfl ?_
      refine q_getIv (v := h.I 17 6) 9 6 fl_X8_33 (by decide) rfl rfl (rfl) dX8_cutName_92 ?_
      refine q_lload_n (i := 2) dX8_cutName_95 rfl rfl ?_
      obtain ⟨hi1, hF⟩ := hF
      refine q_lastore (n := 2001) (by decide) rfl hi1 dX8_cutName_96 ?_
      refine q_iconst (v := 0) dX8_cutName_97 (by decide) ?_
      refine q_istore dX8_cutName_98 (by decide) rfl ?_
      exact hF
    · have hF := hF.2 hb
      refine q_iconst (v := 1) dX8_cutName_85 (by decide) ?_
      exact q_iret rfl (by decide) (by decide) dX8_cutName_86 hF
  · have hF := hF.2 hb
    refine q_aload_n (i := 0) dX8_cutName_18 rfl rfl ?_
    refine q_aload_n (i := 0) dX8_cutName_19 rfl rfl ?_
    refine q_getIv (v := h.I 17 5) 9 5 fl_X8_30 (by decide) rfl rfl (rfl) dX8_cutName_20 ?_
    refine q_callVi (ci := 9) (o := 17) (As := [.int (h.I 17 5)]) (st := []) cv_X8_39 ⟨_, _, rfl⟩ (by decide) rfl rfl (Nat.le_refl _) (Nat.le_of_ble_eq_true rfl) (by decide) dX8_cutName_23 rfl hF (fun r3 h2 hF => ?_)
    refine q_callSi (As := [.int r3]) (st := []) cs_X8_46 rfl (Nat.le_refl _) (Nat.le_of_ble_eq_true rfl) (by decide) dX8_cutName_26 rfl hF (fun r5 h4 hF => ?_)
    refine q_if_ne (tgt := 46) dX8_cutName_29 (by decide) (fun hb => ?_) (fun hb => ?_)
    · have hF := hF.1 hb
      refine q_lload_n (i := 2) dX8_cutName_46 rfl rfl ?_
      refine q_bipush (v := 8) dX8_cutName_47 (by decide) ?_
      refine q_lshl (v := l2 <<< (Int32.toInt64 8 &&& 63)) dX8_cutName_49 rfl ?_
      refine q_aload_n (i := 0) dX8_cutName_50 rfl rfl ?_
      refine q_aload_n (i := 0) dX8_cutName_51 rfl rfl ?_
      refine q_getIv (v := h4.I 17 5) 9 5 fl_X8_30 (by decide) rfl rfl (rfl) dX8_cutName_52 ?_
      refine q_callVi (ci := 9) (o := 17) (As := [.int (h4.I 17 5)]) (st := [.long (l2 <<< (Int32.toInt64 8 &&& 63))]) cv_X8_39 ⟨_, _, rfl⟩ (by decide) rfl rfl (Nat.le_refl _) (Nat.le_of_ble_eq_true rfl) (by decide) dX8_cutName_55 rfl hF (fun r7 h6 hF => ?_)
      refine q_i2l (v := r7.toInt64) dX8_cutName_58 rfl ?_
      refine q_lor dX8_cutName_59 ?_
      refine q_lstore_n (i := 2) dX8_cutName_60 rfl (by decide) rfl ?_
      refine q_aload_n (i := 0) dX8_cutName_61 rfl rfl ?_
      refine q_dup dX8_cutName_62 rfl ?_
      refine q_getIv (v := h6.I 17 5) 9 5 fl_X8_30 (by decide) rfl rfl (rfl) dX8_cutName_63 ?_
      refine q_iconst (v := 1) dX8_cutName_66 (by decide) ?_
      refine q_iadd dX8_cutName_67 ?_
      refine q_putI 9 5 fp_X8_30 (Or.inr ⟨_, _, _, rfl, rfl⟩) (by decide) rfl rfl dX8_cutName_68 ?_
      refine q_goto (tgt := 7) dX8_cutName_71 (by decide) ?_
      exact hF
    · have hF := hF.2 hb
      refine q_aload_n (i := 0) dX8_cutName_32 rfl rfl ?_
      refine q_aload_n (i := 0) dX8_cutName_33 rfl rfl ?_
      refine q_getIv (v := h4.I 17 5) 9 5 fl_X8_30 (by decide) rfl rfl (rfl) dX8_cutName_34 ?_
      refine q_callVi (ci := 9) (o := 17) (As := [.int (h4.I 17 5)]) (st := []) cv_X8_39 ⟨_, _, rfl⟩ (by decide) rfl rfl (Nat.le_refl _) (Nat.le_of_ble_eq_true rfl) (by decide) dX8_cutName_37 rfl hF (fun r9 h8 hF => ?_)
      refine q_callSi (As := [.int r9]) (st := []) cs_X8_54 rfl (Nat.le_refl _) (Nat.le_of_ble_eq_true rfl) (by decide) dX8_cutName_40 rfl hF (fun r11 h10 hF => ?_)
      refine q_if_eq (tgt := 74) dX8_cutName_43 (by decide) (fun hb => ?_) (fun hb => ?_)
      · have hF := hF.1 hb
        refine q_aload_n (i := 0) dX8_cutName_74 rfl rfl ?_
        refine q_getIv (v := h10.I 17 5) 9 5 fl_X8_30 (by decide) rfl rfl (rfl) dX8_cutName_75 ?_
        refine q_iload_n (i := 1) dX8_cutName_78 rfl rfl ?_
        refine q_isub dX8_cutName_79 ?_
        refine q_bipush (v := 8) dX8_cutName_80 (by decide) ?_
        refine q_icmp_le (tgt := 87) dX8_cutName_82 (by decide) (fun hb => ?_) (fun hb => ?_)
        · have hF := hF.1 hb
          refine q_aload_n (i := 0) dX8_cutName_87 rfl rfl ?_
          refine q_getP 9 2 20 fl_X8_18 (by decide) rfl rfl rfl dX8_cutName_88 ?_
          refine q_aload_n (i := 0) dX8_cutName_91 rfl rfl ?_
          refine q_getIv (v := h10.I 17 6) 9 6 fl_X8_33 (by decide) rfl rfl (rfl) dX8_cutName_92 ?_
          refine q_lload_n (i := 2) dX8_cutName_95 rfl rfl ?_
          obtain ⟨hi12, hF⟩ := hF
          refine q_lastore (n := 2001) (by decide) rfl hi12 dX8_cutName_96 ?_
          refine q_iconst (v := 0) dX8_cutName_97 (by decide) ?_
          refine q_istore dX8_cutName_98 (by decide) rfl ?_
          exact hF
        · have hF := hF.2 hb
          refine q_iconst (v := 1) dX8_cutName_85 (by decide) ?_
          exact q_iret rfl (by decide) (by decide) dX8_cutName_86 hF
      · have hF := hF.2 hb
        refine q_lload_n (i := 2) dX8_cutName_46 rfl rfl ?_
        refine q_bipush (v := 8) dX8_cutName_47 (by decide) ?_
        refine q_lshl (v := l2 <<< (Int32.toInt64 8 &&& 63)) dX8_cutName_49 rfl ?_
        refine q_aload_n (i := 0) dX8_cutName_50 rfl rfl ?_
        refine q_aload_n (i := 0) dX8_cutName_51 rfl rfl ?_
        refine q_getIv (v := h10.I 17 5) 9 5 fl_X8_30 (by decide) rfl rfl (rfl) dX8_cutName_52 ?_
        refine q_callVi (ci := 9) (o := 17) (As := [.int (h10.I 17 5)]) (st := [.long (l2 <<< (Int32.toInt64 8 &&& 63))]) cv_X8_39 ⟨_, _, rfl⟩ (by decide) rfl rfl (Nat.le_refl _) (Nat.le_of_ble_eq_true rfl) (by decide) dX8_cutName_55 rfl hF (fun r14 h13 hF => ?_)
        refine q_i2l (v := r14.toInt64) dX8_cutName_58 rfl ?_
        refine q_lor dX8_cutName_59 ?_
        refine q_lstore_n (i := 2) dX8_cutName_60 rfl (by decide) rfl ?_
        refine q_aload_n (i := 0) dX8_cutName_61 rfl rfl ?_
        refine q_dup dX8_cutName_62 rfl ?_
        refine q_getIv (v := h13.I 17 5) 9 5 fl_X8_30 (by decide) rfl rfl (rfl) dX8_cutName_63 ?_
        refine q_iconst (v := 1) dX8_cutName_66 (by decide) ?_
        refine q_iadd dX8_cutName_67 ?_
        refine q_putI 9 5 fp_X8_30 (Or.inr ⟨_, _, _, rfl, rfl⟩) (by decide) rfl rfl dX8_cutName_68 ?_
        refine q_goto (tgt := 7) dX8_cutName_71 (by decide) ?_
        exact hF
set_option maxRecDepth 100000 in
set_option maxHeartbeats 4000000 in
theorem x_X8_cutName_100 (G : qG) (d : Nat) (l1 : Int32) (l2 : Int64) (l4 : Int32) (h : qh) (Q : qr → qh → Prop)  (hF : (7 ≤ l4 → (Q (.inl (some (.int 2))) h)) ∧ (¬ 7 ≤ l4 → (vp_in l4 7 ∧ ((¬ (lg_cmp (q_wd (l4.toNatClampNeg)) l2) = 0 → (q_N0 G m_X8_cutName (d + 1) Q 100 [.ref 17, .int l1, .long l2, .null, .int (l4 + 1)] [] h)) ∧ ((lg_cmp (q_wd (l4.toNatClampNeg)) l2) = 0 → (Q (.inl (some (.int (4 + l4)))) h)))))) : q_N0 G m_X8_cutName (d + 1) Q 100 [.ref 17, .int l1, .long l2, .null, .int l4] [] h := by
  refine q_iload dX8_cutName_100 rfl ?_
  refine q_wlen rfl dX8_cutName_102 dX8_cutName_105 ?_
  refine q_icmp_ge (tgt := 131) dX8_cutName_106 (by decide) (fun hb => ?_) (fun hb => ?_)
  · have hF := hF.1 hb
    refine q_iconst (v := 2) dX8_cutName_131 (by decide) ?_
    exact q_iret rfl (by decide) (by decide) dX8_cutName_132 hF
  · have hF := hF.2 hb
    obtain ⟨hi15, hF⟩ := hF
    refine q_wld rfl dX8_cutName_109 dX8_cutName_112 dX8_cutName_114 rfl hi15 ?_
    refine q_lload_n (i := 2) dX8_cutName_115 rfl rfl ?_
    refine q_lcmp dX8_cutName_116 ?_
    refine q_if_ne (tgt := 125) dX8_cutName_117 (by decide) (fun hb => ?_) (fun hb => ?_)
    · have hF := hF.1 hb
      refine q_iinc (v := l4 + 1) dX8_cutName_125 rfl rfl (by decide) rfl ?_
      refine q_goto (tgt := 100) dX8_cutName_128 (by decide) ?_
      exact hF
    · have hF := hF.2 hb
      refine q_iconst (v := 4) dX8_cutName_120 (by decide) ?_
      refine q_iload dX8_cutName_121 rfl ?_
      refine q_iadd dX8_cutName_123 ?_
      exact q_iret rfl (by decide) (by decide) dX8_cutName_124 hF
def m_X8_cutSign : qm := (RX8, cX8_cutSign, 5, (some .int), [], false)
set_option maxRecDepth 100000 in
set_option maxHeartbeats 4000000 in
theorem x_X8_cutSign (G : qG) (d : Nat) (x1 : Int32) (h : qh) (Q : qr → qh → Prop)  (hd5 : 4 ≤ d + 1) (hF : ¬ (x1.toUInt32 % 65536).toInt32 < 0 ∧ ¬ 255 < (x1.toUInt32 % 65536).toInt32 ∧ ((0 ≤ (p_ix q_sg80 (x1.toUInt32 % 65536).toInt32.toInt8.toInt32 21 0) → (q_M0 G d yX8_byteAt [.ref 17, .int ((h.I 17 5) + 1)] h (q_ri (fun r2 h1 => (¬ r2 = 61 → ((¬ r2 = x1 → ((¬ (0 : Int32) = 0 → (Q (.inl (some (.int ((x1 <<< (8 &&& 31)) ||| r2)))) ((h1.sI 17 5 ((h1.I 17 5) + 1)).sI 17 5 (((h1.I 17 5) + 1) + 1)))) ∧ ((0 : Int32) = 0 → ((¬ (0 : Int32) = 0 → (Q (.inl (some (.int ((x1 <<< (8 &&& 31)) ||| r2)))) ((h1.sI 17 5 ((h1.I 17 5) + 1)).sI 17 5 (((h1.I 17 5) + 1) + 1)))) ∧ ((0 : Int32) = 0 → (Q (.inl (some (.int x1))) (h1.sI 17 5 ((h1.I 17 5) + 1)))))))) ∧ (r2 = x1 → (¬ (x1.toUInt32 % 65536).toInt32 < 0 ∧ ¬ 255 < (x1.toUInt32 % 65536).toInt32 ∧ ((¬ (0 : Int32) = 0 → (Q (.inl (some (.int ((x1 <<< (8 &&& 31)) ||| r2)))) ((h1.sI 17 5 ((h1.I 17 5) + 1)).sI 17 5 (((h1.I 17 5) + 1) + 1)))) ∧ ((0 : Int32) = 0 → ((¬ (if (p_ix q_sg89 (x1.toUInt32 % 65536).toInt32.toInt8.toInt32 4 0) < 0 then (0 : Int32) else 1) = 0 → (Q (.inl (some (.int ((x1 <<< (8 &&& 31)) ||| r2)))) ((h1.sI 17 5 ((h1.I 17 5) + 1)).sI 17 5 (((h1.I 17 5) + 1) + 1)))) ∧ ((if (p_ix q_sg89 (x1.toUInt32 % 65536).toInt32.toInt8.toInt32 4 0) < 0 then (0 : Int32) else 1) = 0 → (Q (.inl (some (.int x1))) (h1.sI 17 5 ((h1.I 17 5) + 1))))))))))) ∧ (r2 = 61 → (¬ (x1.toUInt32 % 65536).toInt32 < 0 ∧ ¬ 255 < (x1.toUInt32 % 65536).toInt32 ∧ ((¬ r2 = x1 → ((¬ (if (p_ix q_sg87 (x1.toUInt32 % 65536).toInt32.toInt8.toInt32 4 0) < 0 then (0 : Int32) else 1) = 0 → (Q (.inl (some (.int ((x1 <<< (8 &&& 31)) ||| r2)))) ((h1.sI 17 5 ((h1.I 17 5) + 1)).sI 17 5 (((h1.I 17 5) + 1) + 1)))) ∧ ((if (p_ix q_sg87 (x1.toUInt32 % 65536).toInt32.toInt8.toInt32 4 0) < 0 then (0 : Int32) else 1) = 0 → ((¬ (0 : Int32) = 0 → (Q (.inl (some (.int ((x1 <<< (8 &&& 31)) ||| r2)))) ((h1.sI 17 5 ((h1.I 17 5) + 1)).sI 17 5 (((h1.I 17 5) + 1) + 1)))) ∧ ((0 : Int32) = 0 → (Q (.inl (some (.int x1))) (h1.sI 17 5 ((h1.I 17 5) + 1)))))))) ∧ (r2 = x1 → (¬ (x1.toUInt32 % 65536).toInt32 < 0 ∧ ¬ 255 < (x1.toUInt32 % 65536).toInt32 ∧ ((¬ (if (p_ix q_sg87 (x1.toUInt32 % 65536).toInt32.toInt8.toInt32 4 0) < 0 then (0 : Int32) else 1) = 0 → (Q (.inl (some (.int ((x1 <<< (8 &&& 31)) ||| r2)))) ((h1.sI 17 5 ((h1.I 17 5) + 1)).sI 17 5 (((h1.I 17 5) + 1) + 1)))) ∧ ((if (p_ix q_sg87 (x1.toUInt32 % 65536).toInt32.toInt8.toInt32 4 0) < 0 then (0 : Int32) else 1) = 0 → ((¬ (if (p_ix q_sg89 (x1.toUInt32 % 65536).toInt32.toInt8.toInt32 4 0) < 0 then (0 : Int32) else 1) = 0 → (Q (.inl (some (.int ((x1 <<< (8 &&& 31)) ||| r2)))) ((h1.sI 17 5 ((h1.I 17 5) + 1)).sI 17 5 (((h1.I 17 5) + 1) + 1)))) ∧ ((if (p_ix q_sg89 (x1.toUInt32 % 65536).toInt32.toInt8.toInt32 4 0) < 0 then (0 : Int32) else 1) = 0 → (Q (.inl (some (.int x1))) (h1.sI 17 5 ((h1.I 17 5) + 1))))))))))))) (fun E h => Q (.inr E) h)))) ∧ (¬ 0 ≤ (p_ix q_sg80 (x1.toUInt32 % 65536).toInt32.toInt8.toInt32 21 0) → (Q (.inl (some (.int 1))) h)))) : q_M0 G (d + 1) yX8_cutSign [.ref 17, .int x1] h Q := by
  refine q_of (M := m_X8_cutSign) (by decide +kernel) rfl rfl cd_X8_cutSign (by decide) (Nat.le_of_ble_eq_true rfl) ?_
  show q_N0 G m_X8_cutSign (d + 1) Q 0 [.ref 17, .int x1, .null, .null, .null] [] h
  obtain ⟨hx0, hx1, hF⟩ := hF
  refine q_ix80 rfl hd5 (by decide) (by decide) rfl hx0 hx1 (Nat.le_of_ble_eq_true rfl) dX8_cutSign_0 dX8_cutSign_2 dX8_cutSign_3 dX8_cutSign_4 ?_
  refine q_if_ge (tgt := 12) dX8_cutSign_7 (by decide) (fun hb => ?_) (fun hb => ?_)
  · have hF := hF.1 hb
    refine q_aload_n (i := 0) dX8_cutSign_12 rfl rfl ?_
    refine q_aload_n (i := 0) dX8_cutSign_13 rfl rfl ?_
    refine q_getIv (v := h.I 17 5) 9 5 fl_X8_30 (by decide) rfl rfl (rfl) dX8_cutSign_14 ?_
    refine q_iconst (v := 1) dX8_cutSign_17 (by decide) ?_
    refine q_iadd dX8_cutSign_18 ?_
    refine q_callVi (ci := 9) (o := 17) (As := [.int ((h.I 17 5) + 1)]) (st := []) cv_X8_39 ⟨_, _, rfl⟩ (by decide) rfl rfl (Nat.le_refl _) (Nat.le_of_ble_eq_true rfl) (by decide) dX8_cutSign_19 rfl hF (fun r2 h1 hF => ?_)
    refine q_istore_n (i := 2) dX8_cutSign_22 rfl (by decide) rfl ?_
    refine q_iload_n (i := 2) dX8_cutSign_23 rfl rfl ?_
    refine q_bipush (v := 61) dX8_cutSign_24 (by decide) ?_
    refine q_icmp_ne (tgt := 43) dX8_cutSign_26 (by decide) (fun hb => ?_) (fun hb => ?_)
    · have hF := hF.1 hb
      refine q_iconst (v := 0) dX8_cutSign_43 (by decide) ?_
      refine q_istore_n (i := 3) dX8_cutSign_44 rfl (by decide) rfl ?_
      refine q_iload_n (i := 2) dX8_cutSign_45 rfl rfl ?_
      refine q_iload_n (i := 1) dX8_cutSign_46 rfl rfl ?_
      refine q_icmp_ne (tgt := 64) dX8_cutSign_47 (by decide) (fun hb => ?_) (fun hb => ?_)
      · have hF := hF.1 hb
        refine q_iconst (v := 0) dX8_cutSign_64 (by decide) ?_
        refine q_istore dX8_cutSign_65 (by decide) rfl ?_
        refine q_aload_n (i := 0) dX8_cutSign_67 rfl rfl ?_
        refine q_dup dX8_cutSign_68 rfl ?_
        refine q_getIv (v := h1.I 17 5) 9 5 fl_X8_30 (by decide) rfl rfl (rfl) dX8_cutSign_69 ?_
        refine q_iconst (v := 1) dX8_cutSign_72 (by decide) ?_
        refine q_iadd dX8_cutSign_73 ?_
        refine q_putI 9 5 fp_X8_30 (Or.inr ⟨_, _, _, rfl, rfl⟩) (by decide) rfl rfl dX8_cutSign_74 ?_
        refine q_iload_n (i := 3) dX8_cutSign_77 rfl rfl ?_
        refine q_if_ne (tgt := 88) dX8_cutSign_78 (by decide) (fun hb => ?_) (fun hb => ?_)
        · have hF := hF.1 hb
          refine q_aload_n (i := 0) dX8_cutSign_88 rfl rfl ?_
          refine q_dup dX8_cutSign_89 rfl ?_
          refine q_getIv (v := (h1.I 17 5) + 1) 9 5 fl_X8_30 (by decide) rfl rfl (q_I_same _ _ _ _) dX8_cutSign_90 ?_
          refine q_iconst (v := 1) dX8_cutSign_93 (by decide) ?_
          refine q_iadd dX8_cutSign_94 ?_
          refine q_putI 9 5 fp_X8_30 (Or.inr ⟨_, _, _, rfl, rfl⟩) (by decide) rfl rfl dX8_cutSign_95 ?_
          refine q_iload_n (i := 1) dX8_cutSign_98 rfl rfl ?_
          refine q_bipush (v := 8) dX8_cutSign_99 (by decide) ?_
          refine q_ishl dX8_cutSign_101 ?_
          refine q_iload_n (i := 2) dX8_cutSign_102 rfl rfl ?_
          refine q_ior dX8_cutSign_103 ?_
          exact q_iret rfl (by decide) (by decide) dX8_cutSign_104 hF
        · have hF := hF.2 hb
          refine q_iload dX8_cutSign_81 rfl ?_
          refine q_if_ne (tgt := 88) dX8_cutSign_83 (by decide) (fun hb => ?_) (fun hb => ?_)
          · have hF := hF.1 hb
            refine q_aload_n (i := 0) dX8_cutSign_88 rfl rfl ?_
            refine q_dup dX8_cutSign_89 rfl ?_
            refine q_getIv (v := (h1.I 17 5) + 1) 9 5 fl_X8_30 (by decide) rfl rfl (q_I_same _ _ _ _) dX8_cutSign_90 ?_
            refine q_iconst (v := 1) dX8_cutSign_93 (by decide) ?_
            refine q_iadd dX8_cutSign_94 ?_
            refine q_putI 9 5 fp_X8_30 (Or.inr ⟨_, _, _, rfl, rfl⟩) (by decide) rfl rfl dX8_cutSign_95 ?_
            refine q_iload_n (i := 1) dX8_cutSign_98 rfl rfl ?_
            refine q_bipush (v := 8) dX8_cutSign_99 (by decide) ?_
            refine q_ishl dX8_cutSign_101 ?_
            refine q_iload_n (i := 2) dX8_cutSign_102 rfl rfl ?_
            refine q_ior dX8_cutSign_103 ?_
            exact q_iret rfl (by decide) (by decide) dX8_cutSign_104 hF
          · have hF := hF.2 hb
            refine q_iload_n (i := 1) dX8_cutSign_86 rfl rfl ?_
            exact q_iret rfl (by decide) (by decide) dX8_cutSign_87 hF
      · have hF := hF.2 hb
        obtain ⟨hx0, hx1, hF⟩ := hF
        refine q_ix89 rfl hd5 (by decide) (by decide) rfl hx0 hx1 (Nat.le_of_ble_eq_true rfl) dX8_cutSign_50 dX8_cutSign_52 dX8_cutSign_53 dX8_cutSign_54 ?_
        have K3 := q_ite (c := (p_ix q_sg89 (x1.toUInt32 % 65536).toInt32.toInt8.toInt32 4 0) < 0) (X := fun v => q_N0 G m_X8_cutSign (d + 1) Q 65 [.ref 17, .int x1, .int r2, .int 0, .null] (.int v :: []) h1) (a := 0) (b := 1) (by
          refine q_istore dX8_cutSign_65 (by decide) rfl ?_
          refine q_aload_n (i := 0) dX8_cutSign_67 rfl rfl ?_
          refine q_dup dX8_cutSign_68 rfl ?_
          refine q_getIv (v := h1.I 17 5) 9 5 fl_X8_30 (by decide) rfl rfl (rfl) dX8_cutSign_69 ?_
          refine q_iconst (v := 1) dX8_cutSign_72 (by decide) ?_
          refine q_iadd dX8_cutSign_73 ?_
          refine q_putI 9 5 fp_X8_30 (Or.inr ⟨_, _, _, rfl, rfl⟩) (by decide) rfl rfl dX8_cutSign_74 ?_
          refine q_iload_n (i := 3) dX8_cutSign_77 rfl rfl ?_
          refine q_if_ne (tgt := 88) dX8_cutSign_78 (by decide) (fun hb => ?_) (fun hb => ?_)
          · have hF := hF.1 hb
            refine q_aload_n (i := 0) dX8_cutSign_88 rfl rfl ?_
            refine q_dup dX8_cutSign_89 rfl ?_
            refine q_getIv (v := (h1.I 17 5) + 1) 9 5 fl_X8_30 (by decide) rfl rfl (q_I_same _ _ _ _) dX8_cutSign_90 ?_
            refine q_iconst (v := 1) dX8_cutSign_93 (by decide) ?_
            refine q_iadd dX8_cutSign_94 ?_
            refine q_putI 9 5 fp_X8_30 (Or.inr ⟨_, _, _, rfl, rfl⟩) (by decide) rfl rfl dX8_cutSign_95 ?_
            refine q_iload_n (i := 1) dX8_cutSign_98 rfl rfl ?_
            refine q_bipush (v := 8) dX8_cutSign_99 (by decide) ?_
            refine q_ishl dX8_cutSign_101 ?_
            refine q_iload_n (i := 2) dX8_cutSign_102 rfl rfl ?_
            refine q_ior dX8_cutSign_103 ?_
            exact q_iret rfl (by decide) (by decide) dX8_cutSign_104 hF
          · have hF := hF.2 hb
            refine q_iload dX8_cutSign_81 rfl ?_
            refine q_if_ne (tgt := 88) dX8_cutSign_83 (by decide) (fun hb => ?_) (fun hb => ?_)
            · have hF := hF.1 hb
              refine q_aload_n (i := 0) dX8_cutSign_88 rfl rfl ?_
              refine q_dup dX8_cutSign_89 rfl ?_
              refine q_getIv (v := (h1.I 17 5) + 1) 9 5 fl_X8_30 (by decide) rfl rfl (q_I_same _ _ _ _) dX8_cutSign_90 ?_
              refine q_iconst (v := 1) dX8_cutSign_93 (by decide) ?_
              refine q_iadd dX8_cutSign_94 ?_
              refine q_putI 9 5 fp_X8_30 (Or.inr ⟨_, _, _, rfl, rfl⟩) (by decide) rfl rfl dX8_cutSign_95 ?_
              refine q_iload_n (i := 1) dX8_cutSign_98 rfl rfl ?_
              refine q_bipush (v := 8) dX8_cutSign_99 (by decide) ?_
              refine q_ishl dX8_cutSign_101 ?_
              refine q_iload_n (i := 2) dX8_cutSign_102 rfl rfl ?_
              refine q_ior dX8_cutSign_103 ?_
              exact q_iret rfl (by decide) (by decide) dX8_cutSign_104 hF
            · have hF := hF.2 hb
              refine q_iload_n (i := 1) dX8_cutSign_86 rfl rfl ?_
              exact q_iret rfl (by decide) (by decide) dX8_cutSign_87 hF)
        refine q_if_lt (tgt := 64) dX8_cutSign_57 (by decide) (fun hb => ?_) (fun hb => ?_)
        · refine q_iconst (v := 0) dX8_cutSign_64 (by decide) ?_
          exact K3.1 hb
        · refine q_iconst (v := 1) dX8_cutSign_60 (by decide) ?_
          refine q_goto (tgt := 65) dX8_cutSign_61 (by decide) ?_
          exact K3.2 hb
    · have hF := hF.2 hb
      obtain ⟨hx0, hx1, hF⟩ := hF
      refine q_ix87 rfl hd5 (by decide) (by decide) rfl hx0 hx1 (Nat.le_of_ble_eq_true rfl) dX8_cutSign_29 dX8_cutSign_31 dX8_cutSign_32 dX8_cutSign_33 ?_
      have K4 := q_ite (c := (p_ix q_sg87 (x1.toUInt32 % 65536).toInt32.toInt8.toInt32 4 0) < 0) (X := fun v => q_N0 G m_X8_cutSign (d + 1) Q 44 [.ref 17, .int x1, .int r2, .null, .null] (.int v :: []) h1) (a := 0) (b := 1) (by
        refine q_istore_n (i := 3) dX8_cutSign_44 rfl (by decide) rfl ?_
        refine q_iload_n (i := 2) dX8_cutSign_45 rfl rfl ?_
        refine q_iload_n (i := 1) dX8_cutSign_46 rfl rfl ?_
        refine q_icmp_ne (tgt := 64) dX8_cutSign_47 (by decide) (fun hb => ?_) (fun hb => ?_)
        · have hF := hF.1 hb
          refine q_iconst (v := 0) dX8_cutSign_64 (by decide) ?_
          refine q_istore dX8_cutSign_65 (by decide) rfl ?_
          refine q_aload_n (i := 0) dX8_cutSign_67 rfl rfl ?_
          refine q_dup dX8_cutSign_68 rfl ?_
          refine q_getIv (v := h1.I 17 5) 9 5 fl_X8_30 (by decide) rfl rfl (rfl) dX8_cutSign_69 ?_
          refine q_iconst (v := 1) dX8_cutSign_72 (by decide) ?_
          refine q_iadd dX8_cutSign_73 ?_
          refine q_putI 9 5 fp_X8_30 (Or.inr ⟨_, _, _, rfl, rfl⟩) (by decide) rfl rfl dX8_cutSign_74 ?_
          refine q_iload_n (i := 3) dX8_cutSign_77 rfl rfl ?_
          refine q_if_ne (tgt := 88) dX8_cutSign_78 (by decide) (fun hb => ?_) (fun hb => ?_)
          · have hF := hF.1 hb
            refine q_aload_n (i := 0) dX8_cutSign_88 rfl rfl ?_
            refine q_dup dX8_cutSign_89 rfl ?_
            refine q_getIv (v := (h1.I 17 5) + 1) 9 5 fl_X8_30 (by decide) rfl rfl (q_I_same _ _ _ _) dX8_cutSign_90 ?_
            refine q_iconst (v := 1) dX8_cutSign_93 (by decide) ?_
            refine q_iadd dX8_cutSign_94 ?_
            refine q_putI 9 5 fp_X8_30 (Or.inr ⟨_, _, _, rfl, rfl⟩) (by decide) rfl rfl dX8_cutSign_95 ?_
            refine q_iload_n (i := 1) dX8_cutSign_98 rfl rfl ?_
            refine q_bipush (v := 8) dX8_cutSign_99 (by decide) ?_
            refine q_ishl dX8_cutSign_101 ?_
            refine q_iload_n (i := 2) dX8_cutSign_102 rfl rfl ?_
            refine q_ior dX8_cutSign_103 ?_
            exact q_iret rfl (by decide) (by decide) dX8_cutSign_104 hF
          · have hF := hF.2 hb
            refine q_iload dX8_cutSign_81 rfl ?_
            refine q_if_ne (tgt := 88) dX8_cutSign_83 (by decide) (fun hb => ?_) (fun hb => ?_)
            · have hF := hF.1 hb
              refine q_aload_n (i := 0) dX8_cutSign_88 rfl rfl ?_
              refine q_dup dX8_cutSign_89 rfl ?_
              refine q_getIv (v := (h1.I 17 5) + 1) 9 5 fl_X8_30 (by decide) rfl rfl (q_I_same _ _ _ _) dX8_cutSign_90 ?_
              refine q_iconst (v := 1) dX8_cutSign_93 (by decide) ?_
              refine q_iadd dX8_cutSign_94 ?_
              refine q_putI 9 5 fp_X8_30 (Or.inr ⟨_, _, _, rfl, rfl⟩) (by decide) rfl rfl dX8_cutSign_95 ?_
              refine q_iload_n (i := 1) dX8_cutSign_98 rfl rfl ?_
              refine q_bipush (v := 8) dX8_cutSign_99 (by decide) ?_
              refine q_ishl dX8_cutSign_101 ?_
              refine q_iload_n (i := 2) dX8_cutSign_102 rfl rfl ?_
              refine q_ior dX8_cutSign_103 ?_
              exact q_iret rfl (by decide) (by decide) dX8_cutSign_104 hF
            · have hF := hF.2 hb
              refine q_iload_n (i := 1) dX8_cutSign_86 rfl rfl ?_
              exact q_iret rfl (by decide) (by decide) dX8_cutSign_87 hF
        · have hF := hF.2 hb
          obtain ⟨hx0, hx1, hF⟩ := hF
          refine q_ix89 rfl hd5 (by decide) (by decide) rfl hx0 hx1 (Nat.le_of_ble_eq_true rfl) dX8_cutSign_50 dX8_cutSign_52 dX8_cutSign_53 dX8_cutSign_54 ?_
          have K5 := q_ite (c := (p_ix q_sg89 (x1.toUInt32 % 65536).toInt32.toInt8.toInt32 4 0) < 0) (X := fun v => q_N0 G m_X8_cutSign (d + 1) Q 65 [.ref 17, .int x1, .int r2, .int (if (p_ix q_sg87 (x1.toUInt32 % 65536).toInt32.toInt8.toInt32 4 0) < 0 then (0 : Int32) else 1), .null] (.int v :: []) h1) (a := 0) (b := 1) (by
            refine q_istore dX8_cutSign_65 (by decide) rfl ?_
            refine q_aload_n (i := 0) dX8_cutSign_67 rfl rfl ?_
            refine q_dup dX8_cutSign_68 rfl ?_
            refine q_getIv (v := h1.I 17 5) 9 5 fl_X8_30 (by decide) rfl rfl (rfl) dX8_cutSign_69 ?_
            refine q_iconst (v := 1) dX8_cutSign_72 (by decide) ?_
            refine q_iadd dX8_cutSign_73 ?_
            refine q_putI 9 5 fp_X8_30 (Or.inr ⟨_, _, _, rfl, rfl⟩) (by decide) rfl rfl dX8_cutSign_74 ?_
            refine q_iload_n (i := 3) dX8_cutSign_77 rfl rfl ?_
            refine q_if_ne (tgt := 88) dX8_cutSign_78 (by decide) (fun hb => ?_) (fun hb => ?_)
            · have hF := hF.1 hb
              refine q_aload_n (i := 0) dX8_cutSign_88 rfl rfl ?_
              refine q_dup dX8_cutSign_89 rfl ?_
              refine q_getIv (v := (h1.I 17 5) + 1) 9 5 fl_X8_30 (by decide) rfl rfl (q_I_same _ _ _ _) dX8_cutSign_90 ?_
              refine q_iconst (v := 1) dX8_cutSign_93 (by decide) ?_
              refine q_iadd dX8_cutSign_94 ?_
              refine q_putI 9 5 fp_X8_30 (Or.inr ⟨_, _, _, rfl, rfl⟩) (by decide) rfl rfl dX8_cutSign_95 ?_
              refine q_iload_n (i := 1) dX8_cutSign_98 rfl rfl ?_
              refine q_bipush (v := 8) dX8_cutSign_99 (by decide) ?_
              refine q_ishl dX8_cutSign_101 ?_
              refine q_iload_n (i := 2) dX8_cutSign_102 rfl rfl ?_
              refine q_ior dX8_cutSign_103 ?_
              exact q_iret rfl (by decide) (by decide) dX8_cutSign_104 hF
            · have hF := hF.2 hb
              refine q_iload dX8_cutSign_81 rfl ?_
              refine q_if_ne (tgt := 88) dX8_cutSign_83 (by decide) (fun hb => ?_) (fun hb => ?_)
              · have hF := hF.1 hb
                refine q_aload_n (i := 0) dX8_cutSign_88 rfl rfl ?_
                refine q_dup dX8_cutSign_89 rfl ?_
                refine q_getIv (v := (h1.I 17 5) + 1) 9 5 fl_X8_30 (by decide) rfl rfl (q_I_same _ _ _ _) dX8_cutSign_90 ?_
                refine q_iconst (v := 1) dX8_cutSign_93 (by decide) ?_
                refine q_iadd dX8_cutSign_94 ?_
                refine q_putI 9 5 fp_X8_30 (Or.inr ⟨_, _, _, rfl, rfl⟩) (by decide) rfl rfl dX8_cutSign_95 ?_
                refine q_iload_n (i := 1) dX8_cutSign_98 rfl rfl ?_
                refine q_bipush (v := 8) dX8_cutSign_99 (by decide) ?_
                refine q_ishl dX8_cutSign_101 ?_
                refine q_iload_n (i := 2) dX8_cutSign_102 rfl rfl ?_
                refine q_ior dX8_cutSign_103 ?_
                exact q_iret rfl (by decide) (by decide) dX8_cutSign_104 hF
              · have hF := hF.2 hb
                refine q_iload_n (i := 1) dX8_cutSign_86 rfl rfl ?_
                exact q_iret rfl (by decide) (by decide) dX8_cutSign_87 hF)
          refine q_if_lt (tgt := 64) dX8_cutSign_57 (by decide) (fun hb => ?_) (fun hb => ?_)
          · refine q_iconst (v := 0) dX8_cutSign_64 (by decide) ?_
            exact K5.1 hb
          · refine q_iconst (v := 1) dX8_cutSign_60 (by decide) ?_
            refine q_goto (tgt := 65) dX8_cutSign_61 (by decide) ?_
            exact K5.2 hb)
      refine q_if_lt (tgt := 43) dX8_cutSign_36 (by decide) (fun hb => ?_) (fun hb => ?_)
      · refine q_iconst (v := 0) dX8_cutSign_43 (by decide) ?_
        exact K4.1 hb
      · refine q_iconst (v := 1) dX8_cutSign_39 (by decide) ?_
        refine q_goto (tgt := 44) dX8_cutSign_40 (by decide) ?_
        exact K4.2 hb
  · have hF := hF.2 hb
    refine q_iconst (v := 1) dX8_cutSign_10 (by decide) ?_
    exact q_iret rfl (by decide) (by decide) dX8_cutSign_11 hF
def m_X10_give : qm := (RX10, cX10_give, 4, (some .int), [], false)
set_option maxRecDepth 100000 in
set_option maxHeartbeats 4000000 in
theorem x_X10_give (G : qG) (d : Nat) (x1 : Int32) (x2 : Int32) (h : qh) (Q : qr → qh → Prop)  (hd5 : 5 ≤ d + 1) (hF : (x1 < 0 → (Q (.inr "java/util/NoSuchElementException") h)) ∧ (¬ x1 < 0 → (∃ c1, h.R 0 7 = some c1 ∧ q_cir c1 ∧ (((h.I c1 9) ≤ x1 → (Q (.inr "java/util/NoSuchElementException") h)) ∧ (¬ (h.I c1 9) ≤ x1 → ((x1 < 4 → (vp_in x1 4 ∧ (vp_in x1 4 ∧ (Q (.inl (some (.int (h.I 42 x1.toNatClampNeg)))) (h.sI 42 x1.toNatClampNeg x2))))) ∧ (¬ x1 < 4 → (Q (.inr "java/util/NoSuchElementException") h)))))))) : q_M G zN zN (d + 1) 1 6 yX10_give [.ref 0, .int x1, .int x2] h Q := by
  refine q_of (M := m_X10_give) (by decide +kernel) rfl rfl cd_X10_give (by decide) (Nat.le_of_ble_eq_true rfl) ?_
  show q_N1 G m_X10_give (d + 1) 1 6 Q 0 [.ref 0, .int x1, .int x2, .null] [] h
  refine q_iload_n (i := 1) dX10_give_0 rfl rfl ?_
  refine q_if_lt (tgt := 24) dX10_give_1 (by decide) (fun hb => ?_) (fun hb => ?_)
  · have hF := hF.1 hb
    exact q_nsee rfl rfl sw_X10_122 sx_X10_122 kl_X10_120 wi_nsee dX10_give_24 dX10_give_27 dX10_give_28 dX10_give_30 dX10_give_33 (by decide) hd5 (by decide) (by decide) (by decide) hF
  · have hF := hF.2 hb
    refine q_iload_n (i := 1) dX10_give_4 rfl rfl ?_
    refine q_aload_n (i := 0) dX10_give_5 rfl rfl ?_
    obtain ⟨c1, hrc1, hc1, hF⟩ := hF
    refine q_getR (k := c1) 11 7 fl_X10_12 (by decide) rfl rfl hrc1 dX10_give_6 ?_
    refine q_getIv (v := h.I c1 9) 1 9 fl_X10_117 (q_cir_n hc1 0) (q_cir_K hc1) rfl (rfl) dX10_give_9 ?_
    refine q_icmp_ge (tgt := 24) dX10_give_12 (by decide) (fun hb => ?_) (fun hb => ?_)
    · have hF := hF.1 hb
      exact q_nsee rfl rfl sw_X10_122 sx_X10_122 kl_X10_120 wi_nsee dX10_give_24 dX10_give_27 dX10_give_28 dX10_give_30 dX10_give_33 (by decide) hd5 (by decide) (by decide) (by decide) hF
    · have hF := hF.2 hb
      refine q_iload_n (i := 1) dX10_give_15 rfl rfl ?_
      refine q_aload_n (i := 0) dX10_give_16 rfl rfl ?_
      refine q_getP 11 6 42 fl_X10_71 (by decide) rfl rfl rfl dX10_give_17 ?_
      refine q_alen (t := 0) (n := 4) (v := 4) (by decide) rfl (by decide) (by decide) dX10_give_20 ?_
      refine q_icmp_lt (tgt := 34) dX10_give_21 (by decide) (fun hb => ?_) (fun hb => ?_)
      · have hF := hF.1 hb
        refine q_aload_n (i := 0) dX10_give_34 rfl rfl ?_
        refine q_getP 11 6 42 fl_X10_71 (by decide) rfl rfl rfl dX10_give_35 ?_
        refine q_iload_n (i := 1) dX10_give_38 rfl rfl ?_
        obtain ⟨hi2, hF⟩ := hF
        refine q_ialoadv (v := h.I 42 x1.toNatClampNeg) (n := 4) (by decide) rfl hi2 (rfl) dX10_give_39 ?_
        refine q_istore_n (i := 3) dX10_give_40 rfl (by decide) rfl ?_
        refine q_aload_n (i := 0) dX10_give_41 rfl rfl ?_
        refine q_getP 11 6 42 fl_X10_71 (by decide) rfl rfl rfl dX10_give_42 ?_
        refine q_iload_n (i := 1) dX10_give_45 rfl rfl ?_
        refine q_iload_n (i := 2) dX10_give_46 rfl rfl ?_
        obtain ⟨hi3, hF⟩ := hF
        refine q_iastore (n := 4) (by decide) rfl hi3 dX10_give_47 ?_
        refine q_iload_n (i := 3) dX10_give_48 rfl rfl ?_
        exact q_iret rfl (by decide) (by decide) dX10_give_49 hF
      · have hF := hF.2 hb
        exact q_nsee rfl rfl sw_X10_122 sx_X10_122 kl_X10_120 wi_nsee dX10_give_24 dX10_give_27 dX10_give_28 dX10_give_30 dX10_give_33 (by decide) hd5 (by decide) (by decide) (by decide) hF
def m_X10_poke : qm := (RX10, cX10_poke, 5, (some .int), [], false)
set_option maxRecDepth 100000 in
set_option maxHeartbeats 4000000 in
theorem x_X10_poke (G : qG) (d : Nat) (x1 : Int32) (x2 : Int32) (x3 : Int32) (h : qh) (Q : qr → qh → Prop)  (hd5 : 5 ≤ d + 1) (hF : q_M0 G d yX10_isCell [.ref 0, .int x1, .int x2] h (q_ri (fun r2 h1 => (¬ r2 = 0 → (q_M0 G d yX3_look [.ref 31, .int x1, .int x2] h1 (q_ri (fun r4 h3 => q_M0 G d yX3_put [.ref 31, .int x1, .int x2, .int x3] h3 (q_rv (fun h5 => Q (.inl (some (.int r4))) h5) (fun E h => Q (.inr E) h))) (fun E h => Q (.inr E) h)))) ∧ (r2 = 0 → (Q (.inr "java/util/NoSuchElementException") h1))) (fun E h => Q (.inr E) h))) : q_M G zN zN (d + 1) 1 6 yX10_poke [.ref 0, .int x1, .int x2, .int x3] h Q := by
  refine q_of (M := m_X10_poke) (by decide +kernel) rfl rfl cd_X10_poke (by decide) (Nat.le_of_ble_eq_true rfl) ?_
  show q_N1 G m_X10_poke (d + 1) 1 6 Q 0 [.ref 0, .int x1, .int x2, .int x3, .null] [] h
  refine q_aload_n (i := 0) dX10_poke_0 rfl rfl ?_
  refine q_iload_n (i := 1) dX10_poke_1 rfl rfl ?_
  refine q_iload_n (i := 2) dX10_poke_2 rfl rfl ?_
  refine q_callVi1 (ci := 11) (o := 0) (As := [.int x1, .int x2]) (st := []) cv_X10_127 ⟨_, _, rfl⟩ (by decide) rfl rfl (Nat.le_refl _) (Nat.le_of_ble_eq_true rfl) (by decide) dX10_poke_3 rfl hF (fun r2 h1 hF => ?_)
  refine q_if_ne (tgt := 19) dX10_poke_6 (by decide) (fun hb => ?_) (fun hb => ?_)
  · have hF := hF.1 hb
    refine q_aload_n (i := 0) dX10_poke_19 rfl rfl ?_
    refine q_getP 11 3 31 fl_X10_51 (by decide) rfl rfl rfl dX10_poke_20 ?_
    refine q_iload_n (i := 1) dX10_poke_23 rfl rfl ?_
    refine q_iload_n (i := 2) dX10_poke_24 rfl rfl ?_
    refine q_callVi1 (ci := 4) (o := 31) (As := [.int x1, .int x2]) (st := []) cv_X10_133 ⟨_, _, rfl⟩ (by decide) rfl rfl (Nat.le_refl _) (Nat.le_of_ble_eq_true rfl) (by decide) dX10_poke_25 rfl hF (fun r4 h3 hF => ?_)
    refine q_istore dX10_poke_28 (by decide) rfl ?_
    refine q_aload_n (i := 0) dX10_poke_30 rfl rfl ?_
    refine q_getP 11 3 31 fl_X10_51 (by decide) rfl rfl rfl dX10_poke_31 ?_
    refine q_iload_n (i := 1) dX10_poke_34 rfl rfl ?_
    refine q_iload_n (i := 2) dX10_poke_35 rfl rfl ?_
    refine q_iload_n (i := 3) dX10_poke_36 rfl rfl ?_
    refine q_callVv1 (ci := 4) (o := 31) (As := [.int x1, .int x2, .int x3]) (st := []) cv_X10_137 ⟨_, _, rfl⟩ (by decide) rfl rfl (Nat.le_refl _) (Nat.le_of_ble_eq_true rfl) (by decide) dX10_poke_37 rfl hF (fun h5 hF => ?_)
    refine q_iload dX10_poke_40 rfl ?_
    exact q_iret rfl (by decide) (by decide) dX10_poke_42 hF
  · have hF := hF.2 hb
    exact q_nsee rfl rfl sw_X10_131 sx_X10_131 kl_X10_120 wi_nsee dX10_poke_9 dX10_poke_12 dX10_poke_13 dX10_poke_15 dX10_poke_18 (by decide) hd5 (by decide) (by decide) (by decide) hF
def m_X10_cell : qm := (RX10, cX10_cell, 3, (some .int), [], false)
set_option maxRecDepth 100000 in
set_option maxHeartbeats 4000000 in
theorem x_X10_cell (G : qG) (d : Nat) (x1 : Int32) (x2 : Int32) (h : qh) (Q : qr → qh → Prop)  (hd5 : 5 ≤ d + 1) (hF : q_M0 G d yX10_isCell [.ref 0, .int x1, .int x2] h (q_ri (fun r2 h1 => (¬ r2 = 0 → (q_M0 G d yX3_look [.ref 31, .int x1, .int x2] h1 (q_ri (fun r4 h3 => Q (.inl (some (.int r4))) h3) (fun E h => Q (.inr E) h)))) ∧ (r2 = 0 → (Q (.inr "java/util/NoSuchElementException") h1))) (fun E h => Q (.inr E) h))) : q_M G zN zN (d + 1) 1 6 yX10_cell [.ref 0, .int x1, .int x2] h Q := by
  refine q_of (M := m_X10_cell) (by decide +kernel) rfl rfl cd_X10_cell (by decide) (Nat.le_of_ble_eq_true rfl) ?_
  show q_N1 G m_X10_cell (d + 1) 1 6 Q 0 [.ref 0, .int x1, .int x2] [] h
  refine q_aload_n (i := 0) dX10_cell_0 rfl rfl ?_
  refine q_iload_n (i := 1) dX10_cell_1 rfl rfl ?_
  refine q_iload_n (i := 2) dX10_cell_2 rfl rfl ?_
  refine q_callVi1 (ci := 11) (o := 0) (As := [.int x1, .int x2]) (st := []) cv_X10_127 ⟨_, _, rfl⟩ (by decide) rfl rfl (Nat.le_refl _) (Nat.le_of_ble_eq_true rfl) (by decide) dX10_cell_3 rfl hF (fun r2 h1 hF => ?_)
  refine q_if_ne (tgt := 19) dX10_cell_6 (by decide) (fun hb => ?_) (fun hb => ?_)
  · have hF := hF.1 hb
    refine q_aload_n (i := 0) dX10_cell_19 rfl rfl ?_
    refine q_getP 11 3 31 fl_X10_51 (by decide) rfl rfl rfl dX10_cell_20 ?_
    refine q_iload_n (i := 1) dX10_cell_23 rfl rfl ?_
    refine q_iload_n (i := 2) dX10_cell_24 rfl rfl ?_
    refine q_callVi1 (ci := 4) (o := 31) (As := [.int x1, .int x2]) (st := []) cv_X10_133 ⟨_, _, rfl⟩ (by decide) rfl rfl (Nat.le_refl _) (Nat.le_of_ble_eq_true rfl) (by decide) dX10_cell_25 rfl hF (fun r4 h3 hF => ?_)
    exact q_iret rfl (by decide) (by decide) dX10_cell_28 hF
  · have hF := hF.2 hb
    exact q_nsee rfl rfl sw_X10_131 sx_X10_131 kl_X10_120 wi_nsee dX10_cell_9 dX10_cell_12 dX10_cell_13 dX10_cell_15 dX10_cell_18 (by decide) hd5 (by decide) (by decide) (by decide) hF
def m_X10_write : qm := (RX10, cX10_write, 3, (some .int), [], false)
set_option maxRecDepth 100000 in
set_option maxHeartbeats 4000000 in
theorem x_X10_write (G : qG) (d : Nat) (x1 : Int32) (x2 : Int32) (h : qh) (Q : qr → qh → Prop)  (hd5 : 5 ≤ d + 1) (hF : (x1 < 0 → (Q (.inr "java/util/NoSuchElementException") h)) ∧ (¬ x1 < 0 → (((h.I 31 7) ≤ x1 → (Q (.inr "java/util/NoSuchElementException") h)) ∧ (¬ (h.I 31 7) ≤ x1 → ((x1 < 200 → ((x2 = 0 → (vp_in x1 200 ∧ (Q (.inl (some (.int (h.I 34 x1.toNatClampNeg)))) h))) ∧ (x2 = 1 → (vp_in x1 200 ∧ (Q (.inl (some (.int (h.I 35 x1.toNatClampNeg)))) h))) ∧ (x2 = 2 → (vp_in x1 200 ∧ (Q (.inl (some (.int (h.I 36 x1.toNatClampNeg)))) h))) ∧ (¬ x2 = 0 ∧ ¬ x2 = 1 ∧ ¬ x2 = 2 → (Q (.inl (some (.int (-1)))) h)))) ∧ (¬ x1 < 200 → (Q (.inr "java/util/NoSuchElementException") h))))))) : q_M G zN zN (d + 1) 1 6 yX10_write [.ref 0, .int x1, .int x2] h Q := by
  refine q_of (M := m_X10_write) (by decide +kernel) rfl rfl cd_X10_write (by decide) (Nat.le_of_ble_eq_true rfl) ?_
  show q_N1 G m_X10_write (d + 1) 1 6 Q 0 [.ref 0, .int x1, .int x2] [] h
  refine q_iload_n (i := 1) dX10_write_0 rfl rfl ?_
  refine q_if_lt (tgt := 22) dX10_write_1 (by decide) (fun hb => ?_) (fun hb => ?_)
  · have hF := hF.1 hb
    exact q_nsee rfl rfl sw_X10_175 sx_X10_175 kl_X10_120 wi_nsee dX10_write_22 dX10_write_25 dX10_write_26 dX10_write_28 dX10_write_31 (by decide) hd5 (by decide) (by decide) (by decide) hF
  · have hF := hF.2 hb
    refine q_iload_n (i := 1) dX10_write_4 rfl rfl ?_
    refine q_aload_n (i := 0) dX10_write_5 rfl rfl ?_
    refine q_getP 11 3 31 fl_X10_51 (by decide) rfl rfl rfl dX10_write_6 ?_
    refine q_getIv (v := h.I 31 7) 4 7 fl_X10_169 (by decide) rfl rfl (rfl) dX10_write_9 ?_
    refine q_icmp_ge (tgt := 22) dX10_write_12 (by decide) (fun hb => ?_) (fun hb => ?_)
    · have hF := hF.1 hb
      exact q_nsee rfl rfl sw_X10_175 sx_X10_175 kl_X10_120 wi_nsee dX10_write_22 dX10_write_25 dX10_write_26 dX10_write_28 dX10_write_31 (by decide) hd5 (by decide) (by decide) (by decide) hF
    · have hF := hF.2 hb
      refine q_iload_n (i := 1) dX10_write_15 rfl rfl ?_
      refine q_sipush (v := 200) dX10_write_16 (by decide) ?_
      refine q_icmp_lt (tgt := 32) dX10_write_19 (by decide) (fun hb => ?_) (fun hb => ?_)
      · have hF := hF.1 hb
        refine q_iload_n (i := 2) dX10_write_32 rfl rfl ?_
        refine q_by (x2 = 0) (fun hs1_0 => ?_) (fun hs1_0 => ?_)
        · have hF := hF.1 hs1_0
          refine q_tableIn (tgt := 60) dX10_write_33 (by rw [hs1_0]; decide) (by rw [hs1_0]; decide) (by first | (rw [hs1_0]; done) | (rw [hs1_0]; rfl)) (by decide) ?_
          refine q_aload_n (i := 0) dX10_write_60 rfl rfl ?_
          refine q_getP 11 3 31 fl_X10_51 (by decide) rfl rfl rfl dX10_write_61 ?_
          refine q_getP 4 2 34 fl_X10_177 (by decide) rfl rfl rfl dX10_write_64 ?_
          refine q_iload_n (i := 1) dX10_write_67 rfl rfl ?_
          obtain ⟨hi3, hF⟩ := hF
          refine q_ialoadv (v := h.I 34 x1.toNatClampNeg) (n := 200) (by decide) rfl hi3 (rfl) dX10_write_68 ?_
          exact q_iret rfl (by decide) (by decide) dX10_write_69 hF
        have hF := hF.2
        refine q_by (x2 = 1) (fun hs1_1 => ?_) (fun hs1_1 => ?_)
        · have hF := hF.1 hs1_1
          refine q_tableIn (tgt := 70) dX10_write_33 (by rw [hs1_1]; decide) (by rw [hs1_1]; decide) (by first | (rw [hs1_1]; done) | (rw [hs1_1]; rfl)) (by decide) ?_
          refine q_aload_n (i := 0) dX10_write_70 rfl rfl ?_
          refine q_getP 11 3 31 fl_X10_51 (by decide) rfl rfl rfl dX10_write_71 ?_
          refine q_getP 4 3 35 fl_X10_180 (by decide) rfl rfl rfl dX10_write_74 ?_
          refine q_iload_n (i := 1) dX10_write_77 rfl rfl ?_
          obtain ⟨hi4, hF⟩ := hF
          refine q_ialoadv (v := h.I 35 x1.toNatClampNeg) (n := 200) (by decide) rfl hi4 (rfl) dX10_write_78 ?_
          exact q_iret rfl (by decide) (by decide) dX10_write_79 hF
        have hF := hF.2
        refine q_by (x2 = 2) (fun hs1_2 => ?_) (fun hs1_2 => ?_)
        · have hF := hF.1 hs1_2
          refine q_tableIn (tgt := 80) dX10_write_33 (by rw [hs1_2]; decide) (by rw [hs1_2]; decide) (by first | (rw [hs1_2]; done) | (rw [hs1_2]; rfl)) (by decide) ?_
          refine q_aload_n (i := 0) dX10_write_80 rfl rfl ?_
          refine q_getP 11 3 31 fl_X10_51 (by decide) rfl rfl rfl dX10_write_81 ?_
          refine q_getP 4 4 36 fl_X10_183 (by decide) rfl rfl rfl dX10_write_84 ?_
          refine q_iload_n (i := 1) dX10_write_87 rfl rfl ?_
          obtain ⟨hi5, hF⟩ := hF
          refine q_ialoadv (v := h.I 36 x1.toNatClampNeg) (n := 200) (by decide) rfl hi5 (rfl) dX10_write_88 ?_
          exact q_iret rfl (by decide) (by decide) dX10_write_89 hF
        have hF := hF.2
        refine q_tableOut (tgt := 90) dX10_write_33 (by have n0 := lv_neT hs1_0 (a := 0) (by decide); have n1 := lv_neT hs1_1 (a := 1) (by decide); have n2 := lv_neT hs1_2 (a := 2) (by decide); omega) (by decide) ?_
        have hF := hF ⟨hs1_0, hs1_1, hs1_2⟩
        refine q_iconst (v := (-1)) dX10_write_90 (by decide) ?_
        exact q_iret rfl (by decide) (by decide) dX10_write_91 hF
      · have hF := hF.2 hb
        exact q_nsee rfl rfl sw_X10_175 sx_X10_175 kl_X10_120 wi_nsee dX10_write_22 dX10_write_25 dX10_write_26 dX10_write_28 dX10_write_31 (by decide) hd5 (by decide) (by decide) (by decide) hF
def m_L_give : qm := (RL, cL_give, 5, (some .int), [(0, 10, 13, 13)], false)
set_option maxRecDepth 100000 in
set_option maxHeartbeats 4000000 in
theorem x_L_give (G : qG) (d : Nat) (x2 : Int32) (x3 : Int32) (h : qh) (Q : qr → qh → Prop)  (hF : q_M G zN zN d 1 6 yX10_give [.ref 0, .int x2, .int x3] h (q_ri (fun r2 h1 => vp_in 0 1 ∧ (Q (.inl (some (.int 0))) (h1.sL 83 (Int32.toNatClampNeg 0) r2.toInt64))) (fun E h1 => E = "java/util/NoSuchElementException" ∧ (Q (.inl (some (.int 1))) h1)))) : q_M G zN zN (d + 1) 1 6 yL_give [.ref 0, .int x2, .int x3, .ref 83] h Q := by
  refine q_ofH (M := m_L_give) (by decide +kernel) rfl cw_L_give (by decide) (Nat.le_of_ble_eq_true rfl) ?_
  show q_N1 G m_L_give (d + 1) 1 6 Q 0 [.ref 0, .int x2, .int x3, .ref 83, .null] [] h
  refine q_aload_n (i := 3) dL_give_0 rfl rfl ?_
  refine q_iconst (v := 0) dL_give_1 (by decide) ?_
  refine q_aload_n (i := 0) dL_give_2 rfl rfl ?_
  refine q_iload_n (i := 1) dL_give_3 rfl rfl ?_
  refine q_iload_n (i := 2) dL_give_4 rfl rfl ?_
  refine q_callC (ci := 11) (o := 0) (As := [.int x2, .int x3]) (st := [.int 0, .ref 83]) (x := (0, 10, 13, 13)) (name := "java/util/NoSuchElementException") (hp := 13) (hl := 13) (i := 4) (k := 0) (mc1 := 1) (ms1 := 6) cv_L_7 ⟨_, _, rfl⟩ (by decide) rfl rfl (Nat.le_refl _) (Nat.le_of_ble_eq_true rfl) rfl (by decide) kl_L_13 kc_L_13 dL_give_5 (Or.inr ⟨dL_give_13, rfl⟩) (by decide) rfl rfl (by decide) (by decide) hF (fun E h1 hE => ?_) (fun r h1 hr => ?_)
  · obtain ⟨hE1, hF⟩ := hE
    refine ⟨hE1, ?_⟩
    show q_W G m_L_give zN (d + 1) 1 6 Q 1 6 zN 15 [.ref 0, .int x2, .int x3, .ref 83, .null] [] h1
    refine q_iconst (v := 1) dL_give_15 (by decide) ?_
    exact q_iret rfl (by decide) (by decide) dL_give_16 hF
  · obtain ⟨r2, rfl, hF⟩ := q_ri_inv hr
    show q_W G m_L_give zN (d + 1) 1 6 Q 1 6 zN 8 [.ref 0, .int x2, .int x3, .ref 83, .null] [.int r2, .int 0, .ref 83] h1
    refine q_i2l (v := r2.toInt64) dL_give_8 rfl ?_
    obtain ⟨hi3, hF⟩ := hF
    refine q_lastore (n := 1) (by decide) rfl hi3 dL_give_9 ?_
    refine q_goto (tgt := 17) dL_give_10 (by decide) ?_
    refine q_iconst (v := 0) dL_give_17 (by decide) ?_
    exact q_iret rfl (by decide) (by decide) dL_give_18 hF
def m_L_poke : qm := (RL, cL_poke, 6, (some .int), [(0, 12, 15, 13)], false)
set_option maxRecDepth 100000 in
set_option maxHeartbeats 4000000 in
theorem x_L_poke (G : qG) (d : Nat) (x2 : Int32) (x3 : Int32) (x4 : Int32) (h : qh) (Q : qr → qh → Prop)  (hF : q_M G zN zN d 1 6 yX10_poke [.ref 0, .int x2, .int x3, .int x4] h (q_ri (fun r2 h1 => vp_in 0 1 ∧ (Q (.inl (some (.int 0))) (h1.sL 83 (Int32.toNatClampNeg 0) r2.toInt64))) (fun E h1 => E = "java/util/NoSuchElementException" ∧ (Q (.inl (some (.int 1))) h1)))) : q_M G zN zN (d + 1) 1 6 yL_poke [.ref 0, .int x2, .int x3, .int x4, .ref 83] h Q := by
  refine q_ofH (M := m_L_poke) (by decide +kernel) rfl cw_L_poke (by decide) (Nat.le_of_ble_eq_true rfl) ?_
  show q_N1 G m_L_poke (d + 1) 1 6 Q 0 [.ref 0, .int x2, .int x3, .int x4, .ref 83, .null] [] h
  refine q_aload dL_poke_0 rfl ?_
  refine q_iconst (v := 0) dL_poke_2 (by decide) ?_
  refine q_aload_n (i := 0) dL_poke_3 rfl rfl ?_
  refine q_iload_n (i := 1) dL_poke_4 rfl rfl ?_
  refine q_iload_n (i := 2) dL_poke_5 rfl rfl ?_
  refine q_iload_n (i := 3) dL_poke_6 rfl rfl ?_
  refine q_callC (ci := 11) (o := 0) (As := [.int x2, .int x3, .int x4]) (st := [.int 0, .ref 83]) (x := (0, 12, 15, 13)) (name := "java/util/NoSuchElementException") (hp := 15) (hl := 13) (i := 5) (k := 0) (mc1 := 1) (ms1 := 6) cv_L_15 ⟨_, _, rfl⟩ (by decide) rfl rfl (Nat.le_refl _) (Nat.le_of_ble_eq_true rfl) rfl (by decide) kl_L_13 kc_L_13 dL_poke_7 (Or.inr ⟨dL_poke_15, rfl⟩) (by decide) rfl rfl (by decide) (by decide) hF (fun E h1 hE => ?_) (fun r h1 hr => ?_)
  · obtain ⟨hE1, hF⟩ := hE
    refine ⟨hE1, ?_⟩
    show q_W G m_L_poke zN (d + 1) 1 6 Q 1 6 zN 17 [.ref 0, .int x2, .int x3, .int x4, .ref 83, .null] [] h1
    refine q_iconst (v := 1) dL_poke_17 (by decide) ?_
    exact q_iret rfl (by decide) (by decide) dL_poke_18 hF
  · obtain ⟨r2, rfl, hF⟩ := q_ri_inv hr
    show q_W G m_L_poke zN (d + 1) 1 6 Q 1 6 zN 10 [.ref 0, .int x2, .int x3, .int x4, .ref 83, .null] [.int r2, .int 0, .ref 83] h1
    refine q_i2l (v := r2.toInt64) dL_poke_10 rfl ?_
    obtain ⟨hi3, hF⟩ := hF
    refine q_lastore (n := 1) (by decide) rfl hi3 dL_poke_11 ?_
    refine q_goto (tgt := 19) dL_poke_12 (by decide) ?_
    refine q_iconst (v := 0) dL_poke_19 (by decide) ?_
    exact q_iret rfl (by decide) (by decide) dL_poke_20 hF
def m_L_cell : qm := (RL, cL_cell, 5, (some .int), [(0, 10, 13, 13)], false)
set_option maxRecDepth 100000 in
set_option maxHeartbeats 4000000 in
theorem x_L_cell (G : qG) (d : Nat) (x2 : Int32) (x3 : Int32) (h : qh) (Q : qr → qh → Prop)  (hF : q_M G zN zN d 1 6 yX10_cell [.ref 0, .int x2, .int x3] h (q_ri (fun r2 h1 => vp_in 0 1 ∧ (Q (.inl (some (.int 0))) (h1.sL 83 (Int32.toNatClampNeg 0) r2.toInt64))) (fun E h1 => E = "java/util/NoSuchElementException" ∧ (Q (.inl (some (.int 1))) h1)))) : q_M G zN zN (d + 1) 1 6 yL_cell [.ref 0, .int x2, .int x3, .ref 83] h Q := by
  refine q_ofH (M := m_L_cell) (by decide +kernel) rfl cw_L_cell (by decide) (Nat.le_of_ble_eq_true rfl) ?_
  show q_N1 G m_L_cell (d + 1) 1 6 Q 0 [.ref 0, .int x2, .int x3, .ref 83, .null] [] h
  refine q_aload_n (i := 3) dL_cell_0 rfl rfl ?_
  refine q_iconst (v := 0) dL_cell_1 (by decide) ?_
  refine q_aload_n (i := 0) dL_cell_2 rfl rfl ?_
  refine q_iload_n (i := 1) dL_cell_3 rfl rfl ?_
  refine q_iload_n (i := 2) dL_cell_4 rfl rfl ?_
  refine q_callC (ci := 11) (o := 0) (As := [.int x2, .int x3]) (st := [.int 0, .ref 83]) (x := (0, 10, 13, 13)) (name := "java/util/NoSuchElementException") (hp := 13) (hl := 13) (i := 4) (k := 0) (mc1 := 1) (ms1 := 6) cv_L_19 ⟨_, _, rfl⟩ (by decide) rfl rfl (Nat.le_refl _) (Nat.le_of_ble_eq_true rfl) rfl (by decide) kl_L_13 kc_L_13 dL_cell_5 (Or.inr ⟨dL_cell_13, rfl⟩) (by decide) rfl rfl (by decide) (by decide) hF (fun E h1 hE => ?_) (fun r h1 hr => ?_)
  · obtain ⟨hE1, hF⟩ := hE
    refine ⟨hE1, ?_⟩
    show q_W G m_L_cell zN (d + 1) 1 6 Q 1 6 zN 15 [.ref 0, .int x2, .int x3, .ref 83, .null] [] h1
    refine q_iconst (v := 1) dL_cell_15 (by decide) ?_
    exact q_iret rfl (by decide) (by decide) dL_cell_16 hF
  · obtain ⟨r2, rfl, hF⟩ := q_ri_inv hr
    show q_W G m_L_cell zN (d + 1) 1 6 Q 1 6 zN 8 [.ref 0, .int x2, .int x3, .ref 83, .null] [.int r2, .int 0, .ref 83] h1
    refine q_i2l (v := r2.toInt64) dL_cell_8 rfl ?_
    obtain ⟨hi3, hF⟩ := hF
    refine q_lastore (n := 1) (by decide) rfl hi3 dL_cell_9 ?_
    refine q_goto (tgt := 17) dL_cell_10 (by decide) ?_
    refine q_iconst (v := 0) dL_cell_17 (by decide) ?_
    exact q_iret rfl (by decide) (by decide) dL_cell_18 hF
def m_L_write : qm := (RL, cL_write, 5, (some .int), [(0, 10, 13, 13)], false)
set_option maxRecDepth 100000 in
set_option maxHeartbeats 4000000 in
theorem x_L_write (G : qG) (d : Nat) (x2 : Int32) (x3 : Int32) (h : qh) (Q : qr → qh → Prop)  (hF : q_M G zN zN d 1 6 yX10_write [.ref 0, .int x2, .int x3] h (q_ri (fun r2 h1 => vp_in 0 1 ∧ (Q (.inl (some (.int 0))) (h1.sL 83 (Int32.toNatClampNeg 0) r2.toInt64))) (fun E h1 => E = "java/util/NoSuchElementException" ∧ (Q (.inl (some (.int 1))) h1)))) : q_M G zN zN (d + 1) 1 6 yL_write [.ref 0, .int x2, .int x3, .ref 83] h Q := by
  refine q_ofH (M := m_L_write) (by decide +kernel) rfl cw_L_write (by decide) (Nat.le_of_ble_eq_true rfl) ?_
  show q_N1 G m_L_write (d + 1) 1 6 Q 0 [.ref 0, .int x2, .int x3, .ref 83, .null] [] h
  refine q_aload_n (i := 3) dL_write_0 rfl rfl ?_
  refine q_iconst (v := 0) dL_write_1 (by decide) ?_
  refine q_aload_n (i := 0) dL_write_2 rfl rfl ?_
  refine q_iload_n (i := 1) dL_write_3 rfl rfl ?_
  refine q_iload_n (i := 2) dL_write_4 rfl rfl ?_
  refine q_callC (ci := 11) (o := 0) (As := [.int x2, .int x3]) (st := [.int 0, .ref 83]) (x := (0, 10, 13, 13)) (name := "java/util/NoSuchElementException") (hp := 13) (hl := 13) (i := 4) (k := 0) (mc1 := 1) (ms1 := 6) cv_L_22 ⟨_, _, rfl⟩ (by decide) rfl rfl (Nat.le_refl _) (Nat.le_of_ble_eq_true rfl) rfl (by decide) kl_L_13 kc_L_13 dL_write_5 (Or.inr ⟨dL_write_13, rfl⟩) (by decide) rfl rfl (by decide) (by decide) hF (fun E h1 hE => ?_) (fun r h1 hr => ?_)
  · obtain ⟨hE1, hF⟩ := hE
    refine ⟨hE1, ?_⟩
    show q_W G m_L_write zN (d + 1) 1 6 Q 1 6 zN 15 [.ref 0, .int x2, .int x3, .ref 83, .null] [] h1
    refine q_iconst (v := 1) dL_write_15 (by decide) ?_
    exact q_iret rfl (by decide) (by decide) dL_write_16 hF
  · obtain ⟨r2, rfl, hF⟩ := q_ri_inv hr
    show q_W G m_L_write zN (d + 1) 1 6 Q 1 6 zN 8 [.ref 0, .int x2, .int x3, .ref 83, .null] [.int r2, .int 0, .ref 83] h1
    refine q_i2l (v := r2.toInt64) dL_write_8 rfl ?_
    obtain ⟨hi3, hF⟩ := hF
    refine q_lastore (n := 1) (by decide) rfl hi3 dL_write_9 ?_
    refine q_goto (tgt := 17) dL_write_10 (by decide) ?_
    refine q_iconst (v := 0) dL_write_17 (by decide) ?_
    exact q_iret rfl (by decide) (by decide) dL_write_18 hF
def m_X12_build : qm := (RX12, cX12_build, 5, (some .int), [(96, 100, 103, 33)], false)
set_option maxRecDepth 100000 in
set_option maxHeartbeats 4000000 in
theorem x_X12_build (G : qG) (d : Nat) (x1 : Int32) (h : qh) (Q : qr → qh → Prop)  (hF : (x1 < 0 → (Q (.inl (some (.int (-2)))) (h.sI 43 0 0))) ∧ (¬ x1 < 0 → ((x1 ≤ (h.I 43 2) → (q_N0 G m_X12_build (d + 1) Q 27 [.ref 43, .int x1, .int 0, .null, .null] [] ((h.sI 43 0 0).sI 43 9 x1))) ∧ (¬ x1 ≤ (h.I 43 2) → (Q (.inl (some (.int (-2)))) (h.sI 43 0 0)))))) : q_M0 G (d + 1) yX12_build [.ref 43, .int x1] h Q := by
  refine q_ofH (M := m_X12_build) (by decide +kernel) rfl cw_X12_build (by decide) (Nat.le_of_ble_eq_true rfl) ?_
  show q_N0 G m_X12_build (d + 1) Q 0 [.ref 43, .int x1, .null, .null, .null] [] h
  refine q_aload_n (i := 0) dX12_build_0 rfl rfl ?_
  refine q_iconst (v := 0) dX12_build_1 (by decide) ?_
  refine q_putI 13 0 fp_X12_83 (Or.inr ⟨_, _, _, rfl, rfl⟩) (by decide) rfl rfl dX12_build_2 ?_
  refine q_iload_n (i := 1) dX12_build_5 rfl rfl ?_
  refine q_if_lt (tgt := 17) dX12_build_6 (by decide) (fun hb => ?_) (fun hb => ?_)
  · have hF := hF.1 hb
    refine q_bipush (v := (-2)) dX12_build_17 (by decide) ?_
    exact q_iret rfl (by decide) (by decide) dX12_build_19 hF
  · have hF := hF.2 hb
    refine q_iload_n (i := 1) dX12_build_9 rfl rfl ?_
    refine q_aload_n (i := 0) dX12_build_10 rfl rfl ?_
    refine q_getIv (v := h.I 43 2) 13 2 fl_X12_86 (by decide) rfl rfl ((q_I_nek (by decide)).trans (rfl)) dX12_build_11 ?_
    refine q_icmp_le (tgt := 20) dX12_build_14 (by decide) (fun hb => ?_) (fun hb => ?_)
    · have hF := hF.1 hb
      refine q_aload_n (i := 0) dX12_build_20 rfl rfl ?_
      refine q_iload_n (i := 1) dX12_build_21 rfl rfl ?_
      refine q_putI 13 9 fp_X12_93 (Or.inr ⟨_, _, _, rfl, rfl⟩) (by decide) rfl rfl dX12_build_22 ?_
      refine q_iconst (v := 0) dX12_build_25 (by decide) ?_
      refine q_istore_n (i := 2) dX12_build_26 rfl (by decide) rfl ?_
      exact hF
    · have hF := hF.2 hb
      refine q_bipush (v := (-2)) dX12_build_17 (by decide) ?_
      exact q_iret rfl (by decide) (by decide) dX12_build_19 hF
set_option maxRecDepth 100000 in
set_option maxHeartbeats 4000000 in
theorem x_X12_build_27 (G : qG) (d : Nat) (l1 : Int32) (l2 : Int32) (h : qh) (Q : qr → qh → Prop)  (hF : (l1 ≤ l2 → (q_M0 G d yX12_scans [.ref 43] (h.sI 43 2 0) (q_rv (fun h1 => ∃ c2, h1.R 43 22 = some c2 ∧ q_prg c2 ∧ (q_M0 G d yX11_clear [.ref c2] ((((((h1.sI 43 14 0).sI 43 15 0).sI 43 27 0).sI 43 40 0).sI 43 17 0).sI 43 19 0) (q_rv (fun h3 => q_M G zN zN d 0 0 yX12_program [.ref 43] h3 (q_rv (fun h4 => ((h4.I 43 17) ≤ 0 → (((h4.I 43 17) ≤ 0 → (((h4.I 43 19) ≤ 0 → (((h4.I 43 19) ≤ 0 → (∃ c29, h4.R 43 21 = some c29 ∧ q_prg c29 ∧ (∃ c30, h4.R 43 22 = some c30 ∧ q_prg c30 ∧ (∃ c31, h4.R 43 41 = some c31 ∧ q_end c31 ∧ (∃ c32, h4.R 43 42 = some c32 ∧ q_end c32 ∧ (q_N0 G m_X12_build (d + 1) Q 222 [.ref 43, .int l1, .ref c29, .ref c31, .int 0] [] ((((((((h4.sI 43 3 (h4.I 43 19)).sI 43 4 (-1)).sR 43 21 (some c30)).sR 43 22 (some c29)).sR 43 41 (some c32)).sR 43 42 (some c31)).sI 43 23 1).sI 43 31 0))))))) ∧ (¬ (h4.I 43 19) ≤ 0 → (Q (.inl (some (.int (-1)))) ((h4.sI 43 3 (h4.I 43 19)).sI 43 4 (-1)))))) ∧ (¬ (h4.I 43 19) ≤ 0 → (((h4.I 43 19) ≤ 0 → (∃ c33, h4.R 43 21 = some c33 ∧ q_prg c33 ∧ (∃ c34, h4.R 43 22 = some c34 ∧ q_prg c34 ∧ (∃ c35, h4.R 43 41 = some c35 ∧ q_end c35 ∧ (∃ c36, h4.R 43 42 = some c36 ∧ q_end c36 ∧ (q_N0 G m_X12_build (d + 1) Q 222 [.ref 43, .int l1, .ref c33, .ref c35, .int 0] [] ((((((((h4.sI 43 3 (h4.I 43 19)).sI 43 4 (h4.I 43 20)).sR 43 21 (some c34)).sR 43 22 (some c33)).sR 43 41 (some c36)).sR 43 42 (some c35)).sI 43 23 1).sI 43 31 0))))))) ∧ (¬ (h4.I 43 19) ≤ 0 → (Q (.inl (some (.int (-1)))) ((h4.sI 43 3 (h4.I 43 19)).sI 43 4 (h4.I 43 20)))))))) ∧ (¬ (h4.I 43 17) ≤ 0 → (((h4.I 43 19) ≤ 0 → (∃ c37, h4.R 43 21 = some c37 ∧ q_prg c37 ∧ (∃ c38, h4.R 43 22 = some c38 ∧ q_prg c38 ∧ (∃ c39, h4.R 43 41 = some c39 ∧ q_end c39 ∧ (∃ c40, h4.R 43 42 = some c40 ∧ q_end c40 ∧ (q_N0 G m_X12_build (d + 1) Q 222 [.ref 43, .int l1, .ref c37, .ref c39, .int 0] [] ((((((((h4.sI 43 3 (h4.I 43 19)).sI 43 4 (h4.I 43 18)).sR 43 21 (some c38)).sR 43 22 (some c37)).sR 43 41 (some c40)).sR 43 42 (some c39)).sI 43 23 1).sI 43 31 0))))))) ∧ (¬ (h4.I 43 19) ≤ 0 → (Q (.inl (some (.int (-1)))) ((h4.sI 43 3 (h4.I 43 19)).sI 43 4 (h4.I 43 18)))))))) ∧ (¬ (h4.I 43 17) ≤ 0 → (((h4.I 43 17) ≤ 0 → (((h4.I 43 19) ≤ 0 → (((h4.I 43 17) ≤ 0 → (∃ c41, h4.R 43 21 = some c41 ∧ q_prg c41 ∧ (∃ c42, h4.R 43 22 = some c42 ∧ q_prg c42 ∧ (∃ c43, h4.R 43 41 = some c43 ∧ q_end c43 ∧ (∃ c44, h4.R 43 42 = some c44 ∧ q_end c44 ∧ (q_N0 G m_X12_build (d + 1) Q 222 [.ref 43, .int l1, .ref c41, .ref c43, .int 0] [] ((((((((h4.sI 43 3 (h4.I 43 17)).sI 43 4 (-1)).sR 43 21 (some c42)).sR 43 22 (some c41)).sR 43 41 (some c44)).sR 43 42 (some c43)).sI 43 23 1).sI 43 31 0))))))) ∧ (¬ (h4.I 43 17) ≤ 0 → (Q (.inl (some (.int (-1)))) ((h4.sI 43 3 (h4.I 43 17)).sI 43 4 (-1)))))) ∧ (¬ (h4.I 43 19) ≤ 0 → (((h4.I 43 17) ≤ 0 → (∃ c45, h4.R 43 21 = some c45 ∧ q_prg c45 ∧ (∃ c46, h4.R 43 22 = some c46 ∧ q_prg c46 ∧ (∃ c47, h4.R 43 41 = some c47 ∧ q_end c47 ∧ (∃ c48, h4.R 43 42 = some c48 ∧ q_end c48 ∧ (q_N0 G m_X12_build (d + 1) Q 222 [.ref 43, .int l1, .ref c45, .ref c47, .int 0] [] ((((((((h4.sI 43 3 (h4.I 43 17)).sI 43 4 (h4.I 43 20)).sR 43 21 (some c46)).sR 43 22 (some c45)).sR 43 41 (some c48)).sR 43 42 (some c47)).sI 43 23 1).sI 43 31 0))))))) ∧ (¬ (h4.I 43 17) ≤ 0 → (Q (.inl (some (.int (-1)))) ((h4.sI 43 3 (h4.I 43 17)).sI 43 4 (h4.I 43 20)))))))) ∧ (¬ (h4.I 43 17) ≤ 0 → (((h4.I 43 17) ≤ 0 → (∃ c49, h4.R 43 21 = some c49 ∧ q_prg c49 ∧ (∃ c50, h4.R 43 22 = some c50 ∧ q_prg c50 ∧ (∃ c51, h4.R 43 41 = some c51 ∧ q_end c51 ∧ (∃ c52, h4.R 43 42 = some c52 ∧ q_end c52 ∧ (q_N0 G m_X12_build (d + 1) Q 222 [.ref 43, .int l1, .ref c49, .ref c51, .int 0] [] ((((((((h4.sI 43 3 (h4.I 43 17)).sI 43 4 (h4.I 43 18)).sR 43 21 (some c50)).sR 43 22 (some c49)).sR 43 41 (some c52)).sR 43 42 (some c51)).sI 43 23 1).sI 43 31 0))))))) ∧ (¬ (h4.I 43 17) ≤ 0 → (Q (.inl (some (.int (-1)))) ((h4.sI 43 3 (h4.I 43 17)).sI 43 4 (h4.I 43 18))))))))) (fun E h4 => E = "java/lang/IllegalStateException" ∧ (((h4.I 43 17) ≤ 0 → (((h4.I 43 17) ≤ 0 → (((0 : Int32) ≤ 0 → (((0 : Int32) ≤ 0 → (∃ c5, h4.R 43 21 = some c5 ∧ q_prg c5 ∧ (∃ c6, h4.R 43 22 = some c6 ∧ q_prg c6 ∧ (∃ c7, h4.R 43 41 = some c7 ∧ q_end c7 ∧ (∃ c8, h4.R 43 42 = some c8 ∧ q_end c8 ∧ (q_N0 G m_X12_build (d + 1) Q 222 [.ref 43, .int l1, .ref c5, .ref c7, .int 0] [] (((((((((h4.sI 43 19 0).sI 43 3 0).sI 43 4 (-1)).sR 43 21 (some c6)).sR 43 22 (some c5)).sR 43 41 (some c8)).sR 43 42 (some c7)).sI 43 23 1).sI 43 31 0))))))) ∧ (¬ (0 : Int32) ≤ 0 → (Q (.inl (some (.int (-1)))) (((h4.sI 43 19 0).sI 43 3 0).sI 43 4 (-1)))))) ∧ (¬ (0 : Int32) ≤ 0 → (((0 : Int32) ≤ 0 → (∃ c9, h4.R 43 21 = some c9 ∧ q_prg c9 ∧ (∃ c10, h4.R 43 22 = some c10 ∧ q_prg c10 ∧ (∃ c11, h4.R 43 41 = some c11 ∧ q_end c11 ∧ (∃ c12, h4.R 43 42 = some c12 ∧ q_end c12 ∧ (q_N0 G m_X12_build (d + 1) Q 222 [.ref 43, .int l1, .ref c9, .ref c11, .int 0] [] (((((((((h4.sI 43 19 0).sI 43 3 0).sI 43 4 (h4.I 43 20)).sR 43 21 (some c10)).sR 43 22 (some c9)).sR 43 41 (some c12)).sR 43 42 (some c11)).sI 43 23 1).sI 43 31 0))))))) ∧ (¬ (0 : Int32) ≤ 0 → (Q (.inl (some (.int (-1)))) (((h4.sI 43 19 0).sI 43 3 0).sI 43 4 (h4.I 43 20)))))))) ∧ (¬ (h4.I 43 17) ≤ 0 → (((0 : Int32) ≤ 0 → (∃ c13, h4.R 43 21 = some c13 ∧ q_prg c13 ∧ (∃ c14, h4.R 43 22 = some c14 ∧ q_prg c14 ∧ (∃ c15, h4.R 43 41 = some c15 ∧ q_end c15 ∧ (∃ c16, h4.R 43 42 = some c16 ∧ q_end c16 ∧ (q_N0 G m_X12_build (d + 1) Q 222 [.ref 43, .int l1, .ref c13, .ref c15, .int 0] [] (((((((((h4.sI 43 19 0).sI 43 3 0).sI 43 4 (h4.I 43 18)).sR 43 21 (some c14)).sR 43 22 (some c13)).sR 43 41 (some c16)).sR 43 42 (some c15)).sI 43 23 1).sI 43 31 0))))))) ∧ (¬ (0 : Int32) ≤ 0 → (Q (.inl (some (.int (-1)))) (((h4.sI 43 19 0).sI 43 3 0).sI 43 4 (h4.I 43 18)))))))) ∧ (¬ (h4.I 43 17) ≤ 0 → (((h4.I 43 17) ≤ 0 → (((0 : Int32) ≤ 0 → (((h4.I 43 17) ≤ 0 → (∃ c17, h4.R 43 21 = some c17 ∧ q_prg c17 ∧ (∃ c18, h4.R 43 22 = some c18 ∧ q_prg c18 ∧ (∃ c19, h4.R 43 41 = some c19 ∧ q_end c19 ∧ (∃ c20, h4.R 43 42 = some c20 ∧ q_end c20 ∧ (q_N0 G m_X12_build (d + 1) Q 222 [.ref 43, .int l1, .ref c17, .ref c19, .int 0] [] (((((((((h4.sI 43 19 0).sI 43 3 (h4.I 43 17)).sI 43 4 (-1)).sR 43 21 (some c18)).sR 43 22 (some c17)).sR 43 41 (some c20)).sR 43 42 (some c19)).sI 43 23 1).sI 43 31 0))))))) ∧ (¬ (h4.I 43 17) ≤ 0 → (Q (.inl (some (.int (-1)))) (((h4.sI 43 19 0).sI 43 3 (h4.I 43 17)).sI 43 4 (-1)))))) ∧ (¬ (0 : Int32) ≤ 0 → (((h4.I 43 17) ≤ 0 → (∃ c21, h4.R 43 21 = some c21 ∧ q_prg c21 ∧ (∃ c22, h4.R 43 22 = some c22 ∧ q_prg c22 ∧ (∃ c23, h4.R 43 41 = some c23 ∧ q_end c23 ∧ (∃ c24, h4.R 43 42 = some c24 ∧ q_end c24 ∧ (q_N0 G m_X12_build (d + 1) Q 222 [.ref 43, .int l1, .ref c21, .ref c23, .int 0] [] (((((((((h4.sI 43 19 0).sI 43 3 (h4.I 43 17)).sI 43 4 (h4.I 43 20)).sR 43 21 (some c22)).sR 43 22 (some c21)).sR 43 41 (some c24)).sR 43 42 (some c23)).sI 43 23 1).sI 43 31 0))))))) ∧ (¬ (h4.I 43 17) ≤ 0 → (Q (.inl (some (.int (-1)))) (((h4.sI 43 19 0).sI 43 3 (h4.I 43 17)).sI 43 4 (h4.I 43 20)))))))) ∧ (¬ (h4.I 43 17) ≤ 0 → (((h4.I 43 17) ≤ 0 → (∃ c25, h4.R 43 21 = some c25 ∧ q_prg c25 ∧ (∃ c26, h4.R 43 22 = some c26 ∧ q_prg c26 ∧ (∃ c27, h4.R 43 41 = some c27 ∧ q_end c27 ∧ (∃ c28, h4.R 43 42 = some c28 ∧ q_end c28 ∧ (q_N0 G m_X12_build (d + 1) Q 222 [.ref 43, .int l1, .ref c25, .ref c27, .int 0] [] (((((((((h4.sI 43 19 0).sI 43 3 (h4.I 43 17)).sI 43 4 (h4.I 43 18)).sR 43 21 (some c26)).sR 43 22 (some c25)).sR 43 41 (some c28)).sR 43 42 (some c27)).sI 43 23 1).sI 43 31 0))))))) ∧ (¬ (h4.I 43 17) ≤ 0 → (Q (.inl (some (.int (-1)))) (((h4.sI 43 19 0).sI 43 3 (h4.I 43 17)).sI 43 4 (h4.I 43 18)))))))))))) (fun E h => Q (.inr E) h)))) (fun E h => Q (.inr E) h)))) ∧ (¬ l1 ≤ l2 → (vp_in l2 2000 ∧ (vp_in l2 2000 ∧ (q_N0 G m_X12_build (d + 1) Q 27 [.ref 43, .int l1, .int (l2 + 1), .null, .null] [] (h.sI 46 l2.toNatClampNeg ((h.I 44 l2.toNatClampNeg).toInt8.toInt32))))))) : q_N0 G m_X12_build (d + 1) Q 27 [.ref 43, .int l1, .int l2, .null, .null] [] h := by
  refine q_iload_n (i := 2) dX12_build_27 rfl rfl ?_
  refine q_iload_n (i := 1) dX12_build_28 rfl rfl ?_
  refine q_icmp_ge (tgt := 50) dX12_build_29 (by decide) (fun hb => ?_) (fun hb => ?_)
  · have hF := hF.1 hb
    refine q_aload_n (i := 0) dX12_build_50 rfl rfl ?_
    refine q_iconst (v := 0) dX12_build_51 (by decide) ?_
    refine q_putI 13 2 fp_X12_86 (Or.inr ⟨_, _, _, rfl, rfl⟩) (by decide) rfl rfl dX12_build_52 ?_
    refine q_aload_n (i := 0) dX12_build_55 rfl rfl ?_
    refine q_callVv (ci := 13) (o := 43) (As := []) (st := []) cv_X12_325 ⟨_, _, rfl⟩ (by decide) rfl rfl (Nat.le_refl _) (Nat.le_of_ble_eq_true rfl) (by decide) dX12_build_56 rfl hF (fun h1 hF => ?_)
    refine q_aload_n (i := 0) dX12_build_59 rfl rfl ?_
    refine q_iconst (v := 0) dX12_build_60 (by decide) ?_
    refine q_putI 13 14 fp_X12_156 (Or.inr ⟨_, _, _, rfl, rfl⟩) (by decide) rfl rfl dX12_build_61 ?_
    refine q_aload_n (i := 0) dX12_build_64 rfl rfl ?_
    refine q_iconst (v := 0) dX12_build_65 (by decide) ?_
    refine q_putI 13 15 fp_X12_174 (Or.inr ⟨_, _, _, rfl, rfl⟩) (by decide) rfl rfl dX12_build_66 ?_
    refine q_aload_n (i := 0) dX12_build_69 rfl rfl ?_
    refine q_iconst (v := 0) dX12_build_70 (by decide) ?_
    refine q_putI 13 27 fp_X12_183 (Or.inr ⟨_, _, _, rfl, rfl⟩) (by decide) rfl rfl dX12_build_71 ?_
    refine q_aload_n (i := 0) dX12_build_74 rfl rfl ?_
    refine q_iconst (v := 0) dX12_build_75 (by decide) ?_
    refine q_putI 13 40 fp_X12_279 (Or.inr ⟨_, _, _, rfl, rfl⟩) (by decide) rfl rfl dX12_build_76 ?_
    refine q_aload_n (i := 0) dX12_build_79 rfl rfl ?_
    refine q_iconst (v := 0) dX12_build_80 (by decide) ?_
    refine q_putI 13 17 fp_X12_153 (Or.inr ⟨_, _, _, rfl, rfl⟩) (by decide) rfl rfl dX12_build_81 ?_
    refine q_aload_n (i := 0) dX12_build_84 rfl rfl ?_
    refine q_iconst (v := 0) dX12_build_85 (by decide) ?_
    refine q_putI 13 19 fp_X12_162 (Or.inr ⟨_, _, _, rfl, rfl⟩) (by decide) rfl rfl dX12_build_86 ?_
    refine q_aload_n (i := 0) dX12_build_89 rfl rfl ?_
    obtain ⟨c2, hrc2, hc2, hF⟩ := hF
    refine q_getR (k := c2) 13 22 fl_X12_50 (by decide) rfl rfl hrc2 dX12_build_90 ?_
    refine q_callVv (ci := 12) (o := c2) (As := []) (st := []) cv_X12_328 ⟨_, _, rfl⟩ (q_prg_n hc2 0) (q_prg_K hc2) rfl (Nat.le_refl _) (Nat.le_of_ble_eq_true rfl) (by decide) dX12_build_93 rfl hF (fun h3 hF => ?_)
    refine q_aload_n (i := 0) dX12_build_96 rfl rfl ?_
    refine q_callC (ci := 13) (o := 43) (As := []) (st := []) (x := (96, 100, 103, 33)) (name := "java/lang/IllegalStateException") (hp := 103) (hl := 33) (i := 2) (k := 2) (mc1 := 0) (ms1 := 0) cv_X12_331 ⟨_, _, rfl⟩ (by decide) rfl rfl (Nat.le_refl _) (Nat.le_of_ble_eq_true rfl) rfl (by decide) kl_X12_33 kc_X12_33 dX12_build_97 (Or.inl ⟨dX12_build_103, rfl, rfl⟩) (by decide) rfl rfl (by decide) (by decide) hF (fun E h4 hE => ?_) (fun r h4 hr => ?_)
    · obtain ⟨hE1, hF⟩ := hE
      refine ⟨hE1, ?_⟩
      show q_W G m_X12_build zN (d + 1) 0 0 Q 0 0 zN 104 [.ref 43, .int l1, .null, .null, .null] [] h4
      refine q_aload_n (i := 0) dX12_build_104 rfl rfl ?_
      refine q_iconst (v := 0) dX12_build_105 (by decide) ?_
      refine q_putI 13 19 fp_X12_162 (Or.inr ⟨_, _, _, rfl, rfl⟩) (by decide) rfl rfl dX12_build_106 ?_
      refine q_aload_n (i := 0) dX12_build_109 rfl rfl ?_
      refine q_aload_n (i := 0) dX12_build_110 rfl rfl ?_
      refine q_getIv (v := h4.I 43 17) 13 17 fl_X12_153 (by decide) rfl rfl ((q_I_nek (by decide)).trans (rfl)) dX12_build_111 ?_
      refine q_if_le (tgt := 124) dX12_build_114 (by decide) (fun hb => ?_) (fun hb => ?_)
      · have hF := hF.1 hb
        refine q_aload_n (i := 0) dX12_build_124 rfl rfl ?_
        refine q_getIv (v := 0) 13 19 fl_X12_162 (by decide) rfl rfl (q_I_same _ _ _ _) dX12_build_125 ?_
        refine q_putI 13 3 fp_X12_333 (Or.inr ⟨_, _, _, rfl, rfl⟩) (by decide) rfl rfl dX12_build_128 ?_
        refine q_aload_n (i := 0) dX12_build_131 rfl rfl ?_
        refine q_aload_n (i := 0) dX12_build_132 rfl rfl ?_
        refine q_getIv (v := h4.I 43 17) 13 17 fl_X12_153 (by decide) rfl rfl ((q_I_nek (by decide)).trans ( (q_I_nek (by decide)).trans (rfl))) dX12_build_133 ?_
        refine q_if_le (tgt := 146) dX12_build_136 (by decide) (fun hb => ?_) (fun hb => ?_)
        · have hF := hF.1 hb
          refine q_aload_n (i := 0) dX12_build_146 rfl rfl ?_
          refine q_getIv (v := 0) 13 19 fl_X12_162 (by decide) rfl rfl ((q_I_nek (by decide)).trans (q_I_same _ _ _ _)) dX12_build_147 ?_
          refine q_if_le (tgt := 160) dX12_build_150 (by decide) (fun hb => ?_) (fun hb => ?_)
          · have hF := hF.1 hb
            refine q_iconst (v := (-1)) dX12_build_160 (by decide) ?_
            refine q_putI 13 4 fp_X12_13 (Or.inr ⟨_, _, _, rfl, rfl⟩) (by decide) rfl rfl dX12_build_161 ?_
            refine q_aload_n (i := 0) dX12_build_164 rfl rfl ?_
            refine q_getIv (v := 0) 13 3 fl_X12_333 (by decide) rfl rfl ((q_I_nek (by decide)).trans (q_I_same _ _ _ _)) dX12_build_165 ?_
            refine q_if_le (tgt := 173) dX12_build_168 (by decide) (fun hb => ?_) (fun hb => ?_)
            · have hF := hF.1 hb
              refine q_aload_n (i := 0) dX12_build_173 rfl rfl ?_
              obtain ⟨c5, hrc5, hc5, hF⟩ := hF
              refine q_getR (k := c5) 13 21 fl_X12_46 (by decide) rfl rfl hrc5 dX12_build_174 ?_
              refine q_astore_n (i := 2) dX12_build_177 rfl (by decide) rfl ?_
              refine q_aload_n (i := 0) dX12_build_178 rfl rfl ?_
              refine q_aload_n (i := 0) dX12_build_179 rfl rfl ?_
              obtain ⟨c6, hrc6, hc6, hF⟩ := hF
              refine q_getR (k := c6) 13 22 fl_X12_50 (by decide) rfl rfl hrc6 dX12_build_180 ?_
              refine q_putR (v := c6) 13 21 fp_X12_46 (Or.inr ⟨_, _, _, rfl, rfl⟩) (by decide) rfl rfl (by rfl) (Or.inl ⟨_, rfl⟩) dX12_build_183 ?_
              refine q_aload_n (i := 0) dX12_build_186 rfl rfl ?_
              refine q_aload_n (i := 2) dX12_build_187 rfl rfl ?_
              refine q_putR (v := c5) 13 22 fp_X12_50 (Or.inr ⟨_, _, _, rfl, rfl⟩) (by decide) rfl rfl (by rfl) (Or.inl ⟨_, rfl⟩) dX12_build_188 ?_
              refine q_aload_n (i := 0) dX12_build_191 rfl rfl ?_
              obtain ⟨c7, hrc7, hc7, hF⟩ := hF
              refine q_getR (k := c7) 13 41 fl_X12_77 (by decide) rfl rfl hrc7 dX12_build_192 ?_
              refine q_astore_n (i := 3) dX12_build_195 rfl (by decide) rfl ?_
              refine q_aload_n (i := 0) dX12_build_196 rfl rfl ?_
              refine q_aload_n (i := 0) dX12_build_197 rfl rfl ?_
              obtain ⟨c8, hrc8, hc8, hF⟩ := hF
              refine q_getR (k := c8) 13 42 fl_X12_80 (by decide) rfl rfl hrc8 dX12_build_198 ?_
              refine q_putR (v := c8) 13 41 fp_X12_77 (Or.inr ⟨_, _, _, rfl, rfl⟩) (by decide) rfl rfl (by rfl) (Or.inr ⟨_, rfl⟩) dX12_build_201 ?_
              refine q_aload_n (i := 0) dX12_build_204 rfl rfl ?_
              refine q_aload_n (i := 3) dX12_build_205 rfl rfl ?_
              refine q_putR (v := c7) 13 42 fp_X12_80 (Or.inr ⟨_, _, _, rfl, rfl⟩) (by decide) rfl rfl (by rfl) (Or.inr ⟨_, rfl⟩) dX12_build_206 ?_
              refine q_aload_n (i := 0) dX12_build_209 rfl rfl ?_
              refine q_iconst (v := 1) dX12_build_210 (by decide) ?_
              refine q_putZ 13 23 fp_X12_336 (Or.inr ⟨_, _, _, rfl, rfl⟩) (by decide) rfl rfl (by decide) dX12_build_211 ?_
              refine q_aload_n (i := 0) dX12_build_214 rfl rfl ?_
              refine q_iconst (v := 0) dX12_build_215 (by decide) ?_
              refine q_putZ 13 31 fp_X12_340 (Or.inr ⟨_, _, _, rfl, rfl⟩) (by decide) rfl rfl (by decide) dX12_build_216 ?_
              refine q_iconst (v := 0) dX12_build_219 (by decide) ?_
              refine q_istore dX12_build_220 (by decide) rfl ?_
              exact hF
            · have hF := hF.2 hb
              refine q_iconst (v := (-1)) dX12_build_171 (by decide) ?_
              exact q_iret rfl (by decide) (by decide) dX12_build_172 hF
          · have hF := hF.2 hb
            refine q_aload_n (i := 0) dX12_build_153 rfl rfl ?_
            refine q_getIv (v := h4.I 43 20) 13 20 fl_X12_165 (by decide) rfl rfl ((q_I_nek (by decide)).trans ( (q_I_nek (by decide)).trans (rfl))) dX12_build_154 ?_
            refine q_goto (tgt := 161) dX12_build_157 (by decide) ?_
            refine q_putI 13 4 fp_X12_13 (Or.inr ⟨_, _, _, rfl, rfl⟩) (by decide) rfl rfl dX12_build_161 ?_
            refine q_aload_n (i := 0) dX12_build_164 rfl rfl ?_
            refine q_getIv (v := 0) 13 3 fl_X12_333 (by decide) rfl rfl ((q_I_nek (by decide)).trans (q_I_same _ _ _ _)) dX12_build_165 ?_
            refine q_if_le (tgt := 173) dX12_build_168 (by decide) (fun hb => ?_) (fun hb => ?_)
            · have hF := hF.1 hb
              refine q_aload_n (i := 0) dX12_build_173 rfl rfl ?_
              obtain ⟨c9, hrc9, hc9, hF⟩ := hF
              refine q_getR (k := c9) 13 21 fl_X12_46 (by decide) rfl rfl hrc9 dX12_build_174 ?_
              refine q_astore_n (i := 2) dX12_build_177 rfl (by decide) rfl ?_
              refine q_aload_n (i := 0) dX12_build_178 rfl rfl ?_
              refine q_aload_n (i := 0) dX12_build_179 rfl rfl ?_
              obtain ⟨c10, hrc10, hc10, hF⟩ := hF
              refine q_getR (k := c10) 13 22 fl_X12_50 (by decide) rfl rfl hrc10 dX12_build_180 ?_
              refine q_putR (v := c10) 13 21 fp_X12_46 (Or.inr ⟨_, _, _, rfl, rfl⟩) (by decide) rfl rfl (by rfl) (Or.inl ⟨_, rfl⟩) dX12_build_183 ?_
              refine q_aload_n (i := 0) dX12_build_186 rfl rfl ?_
              refine q_aload_n (i := 2) dX12_build_187 rfl rfl ?_
              refine q_putR (v := c9) 13 22 fp_X12_50 (Or.inr ⟨_, _, _, rfl, rfl⟩) (by decide) rfl rfl (by rfl) (Or.inl ⟨_, rfl⟩) dX12_build_188 ?_
              refine q_aload_n (i := 0) dX12_build_191 rfl rfl ?_
              obtain ⟨c11, hrc11, hc11, hF⟩ := hF
              refine q_getR (k := c11) 13 41 fl_X12_77 (by decide) rfl rfl hrc11 dX12_build_192 ?_
              refine q_astore_n (i := 3) dX12_build_195 rfl (by decide) rfl ?_
              refine q_aload_n (i := 0) dX12_build_196 rfl rfl ?_
              refine q_aload_n (i := 0) dX12_build_197 rfl rfl ?_
              obtain ⟨c12, hrc12, hc12, hF⟩ := hF
              refine q_getR (k := c12) 13 42 fl_X12_80 (by decide) rfl rfl hrc12 dX12_build_198 ?_
              refine q_putR (v := c12) 13 41 fp_X12_77 (Or.inr ⟨_, _, _, rfl, rfl⟩) (by decide) rfl rfl (by rfl) (Or.inr ⟨_, rfl⟩) dX12_build_201 ?_
              refine q_aload_n (i := 0) dX12_build_204 rfl rfl ?_
              refine q_aload_n (i := 3) dX12_build_205 rfl rfl ?_
              refine q_putR (v := c11) 13 42 fp_X12_80 (Or.inr ⟨_, _, _, rfl, rfl⟩) (by decide) rfl rfl (by rfl) (Or.inr ⟨_, rfl⟩) dX12_build_206 ?_
              refine q_aload_n (i := 0) dX12_build_209 rfl rfl ?_
              refine q_iconst (v := 1) dX12_build_210 (by decide) ?_
              refine q_putZ 13 23 fp_X12_336 (Or.inr ⟨_, _, _, rfl, rfl⟩) (by decide) rfl rfl (by decide) dX12_build_211 ?_
              refine q_aload_n (i := 0) dX12_build_214 rfl rfl ?_
              refine q_iconst (v := 0) dX12_build_215 (by decide) ?_
              refine q_putZ 13 31 fp_X12_340 (Or.inr ⟨_, _, _, rfl, rfl⟩) (by decide) rfl rfl (by decide) dX12_build_216 ?_
              refine q_iconst (v := 0) dX12_build_219 (by decide) ?_
              refine q_istore dX12_build_220 (by decide) rfl ?_
              exact hF
            · have hF := hF.2 hb
              refine q_iconst (v := (-1)) dX12_build_171 (by decide) ?_
              exact q_iret rfl (by decide) (by decide) dX12_build_172 hF
        · have hF := hF.2 hb
          refine q_aload_n (i := 0) dX12_build_139 rfl rfl ?_
          refine q_getIv (v := h4.I 43 18) 13 18 fl_X12_159 (by decide) rfl rfl ((q_I_nek (by decide)).trans ( (q_I_nek (by decide)).trans (rfl))) dX12_build_140 ?_
          refine q_goto (tgt := 161) dX12_build_143 (by decide) ?_
          refine q_putI 13 4 fp_X12_13 (Or.inr ⟨_, _, _, rfl, rfl⟩) (by decide) rfl rfl dX12_build_161 ?_
          refine q_aload_n (i := 0) dX12_build_164 rfl rfl ?_
          refine q_getIv (v := 0) 13 3 fl_X12_333 (by decide) rfl rfl ((q_I_nek (by decide)).trans (q_I_same _ _ _ _)) dX12_build_165 ?_
          refine q_if_le (tgt := 173) dX12_build_168 (by decide) (fun hb => ?_) (fun hb => ?_)
          · have hF := hF.1 hb
            refine q_aload_n (i := 0) dX12_build_173 rfl rfl ?_
            obtain ⟨c13, hrc13, hc13, hF⟩ := hF
            refine q_getR (k := c13) 13 21 fl_X12_46 (by decide) rfl rfl hrc13 dX12_build_174 ?_
            refine q_astore_n (i := 2) dX12_build_177 rfl (by decide) rfl ?_
            refine q_aload_n (i := 0) dX12_build_178 rfl rfl ?_
            refine q_aload_n (i := 0) dX12_build_179 rfl rfl ?_
            obtain ⟨c14, hrc14, hc14, hF⟩ := hF
            refine q_getR (k := c14) 13 22 fl_X12_50 (by decide) rfl rfl hrc14 dX12_build_180 ?_
            refine q_putR (v := c14) 13 21 fp_X12_46 (Or.inr ⟨_, _, _, rfl, rfl⟩) (by decide) rfl rfl (by rfl) (Or.inl ⟨_, rfl⟩) dX12_build_183 ?_
            refine q_aload_n (i := 0) dX12_build_186 rfl rfl ?_
            refine q_aload_n (i := 2) dX12_build_187 rfl rfl ?_
            refine q_putR (v := c13) 13 22 fp_X12_50 (Or.inr ⟨_, _, _, rfl, rfl⟩) (by decide) rfl rfl (by rfl) (Or.inl ⟨_, rfl⟩) dX12_build_188 ?_
            refine q_aload_n (i := 0) dX12_build_191 rfl rfl ?_
            obtain ⟨c15, hrc15, hc15, hF⟩ := hF
            refine q_getR (k := c15) 13 41 fl_X12_77 (by decide) rfl rfl hrc15 dX12_build_192 ?_
            refine q_astore_n (i := 3) dX12_build_195 rfl (by decide) rfl ?_
            refine q_aload_n (i := 0) dX12_build_196 rfl rfl ?_
            refine q_aload_n (i := 0) dX12_build_197 rfl rfl ?_
            obtain ⟨c16, hrc16, hc16, hF⟩ := hF
            refine q_getR (k := c16) 13 42 fl_X12_80 (by decide) rfl rfl hrc16 dX12_build_198 ?_
            refine q_putR (v := c16) 13 41 fp_X12_77 (Or.inr ⟨_, _, _, rfl, rfl⟩) (by decide) rfl rfl (by rfl) (Or.inr ⟨_, rfl⟩) dX12_build_201 ?_
            refine q_aload_n (i := 0) dX12_build_204 rfl rfl ?_
            refine q_aload_n (i := 3) dX12_build_205 rfl rfl ?_
            refine q_putR (v := c15) 13 42 fp_X12_80 (Or.inr ⟨_, _, _, rfl, rfl⟩) (by decide) rfl rfl (by rfl) (Or.inr ⟨_, rfl⟩) dX12_build_206 ?_
            refine q_aload_n (i := 0) dX12_build_209 rfl rfl ?_
            refine q_iconst (v := 1) dX12_build_210 (by decide) ?_
            refine q_putZ 13 23 fp_X12_336 (Or.inr ⟨_, _, _, rfl, rfl⟩) (by decide) rfl rfl (by decide) dX12_build_211 ?_
            refine q_aload_n (i := 0) dX12_build_214 rfl rfl ?_
            refine q_iconst (v := 0) dX12_build_215 (by decide) ?_
            refine q_putZ 13 31 fp_X12_340 (Or.inr ⟨_, _, _, rfl, rfl⟩) (by decide) rfl rfl (by decide) dX12_build_216 ?_
            refine q_iconst (v := 0) dX12_build_219 (by decide) ?_
            refine q_istore dX12_build_220 (by decide) rfl ?_
            exact hF
          · have hF := hF.2 hb
            refine q_iconst (v := (-1)) dX12_build_171 (by decide) ?_
            exact q_iret rfl (by decide) (by decide) dX12_build_172 hF
      · have hF := hF.2 hb
        refine q_aload_n (i := 0) dX12_build_117 rfl rfl ?_
        refine q_getIv (v := h4.I 43 17) 13 17 fl_X12_153 (by decide) rfl rfl ((q_I_nek (by decide)).trans (rfl)) dX12_build_118 ?_
        refine q_goto (tgt := 128) dX12_build_121 (by decide) ?_
        refine q_putI 13 3 fp_X12_333 (Or.inr ⟨_, _, _, rfl, rfl⟩) (by decide) rfl rfl dX12_build_128 ?_
        refine q_aload_n (i := 0) dX12_build_131 rfl rfl ?_
        refine q_aload_n (i := 0) dX12_build_132 rfl rfl ?_
        refine q_getIv (v := h4.I 43 17) 13 17 fl_X12_153 (by decide) rfl rfl ((q_I_nek (by decide)).trans ( (q_I_nek (by decide)).trans (rfl))) dX12_build_133 ?_
        refine q_if_le (tgt := 146) dX12_build_136 (by decide) (fun hb => ?_) (fun hb => ?_)
        · have hF := hF.1 hb
          refine q_aload_n (i := 0) dX12_build_146 rfl rfl ?_
          refine q_getIv (v := 0) 13 19 fl_X12_162 (by decide) rfl rfl ((q_I_nek (by decide)).trans (q_I_same _ _ _ _)) dX12_build_147 ?_
          refine q_if_le (tgt := 160) dX12_build_150 (by decide) (fun hb => ?_) (fun hb => ?_)
          · have hF := hF.1 hb
            refine q_iconst (v := (-1)) dX12_build_160 (by decide) ?_
            refine q_putI 13 4 fp_X12_13 (Or.inr ⟨_, _, _, rfl, rfl⟩) (by decide) rfl rfl dX12_build_161 ?_
            refine q_aload_n (i := 0) dX12_build_164 rfl rfl ?_
            refine q_getIv (v := h4.I 43 17) 13 3 fl_X12_333 (by decide) rfl rfl ((q_I_nek (by decide)).trans (q_I_same _ _ _ _)) dX12_build_165 ?_
            refine q_if_le (tgt := 173) dX12_build_168 (by decide) (fun hb => ?_) (fun hb => ?_)
            · have hF := hF.1 hb
              refine q_aload_n (i := 0) dX12_build_173 rfl rfl ?_
              obtain ⟨c17, hrc17, hc17, hF⟩ := hF
              refine q_getR (k := c17) 13 21 fl_X12_46 (by decide) rfl rfl hrc17 dX12_build_174 ?_
              refine q_astore_n (i := 2) dX12_build_177 rfl (by decide) rfl ?_
              refine q_aload_n (i := 0) dX12_build_178 rfl rfl ?_
              refine q_aload_n (i := 0) dX12_build_179 rfl rfl ?_
              obtain ⟨c18, hrc18, hc18, hF⟩ := hF
              refine q_getR (k := c18) 13 22 fl_X12_50 (by decide) rfl rfl hrc18 dX12_build_180 ?_
              refine q_putR (v := c18) 13 21 fp_X12_46 (Or.inr ⟨_, _, _, rfl, rfl⟩) (by decide) rfl rfl (by rfl) (Or.inl ⟨_, rfl⟩) dX12_build_183 ?_
              refine q_aload_n (i := 0) dX12_build_186 rfl rfl ?_
              refine q_aload_n (i := 2) dX12_build_187 rfl rfl ?_
              refine q_putR (v := c17) 13 22 fp_X12_50 (Or.inr ⟨_, _, _, rfl, rfl⟩) (by decide) rfl rfl (by rfl) (Or.inl ⟨_, rfl⟩) dX12_build_188 ?_
              refine q_aload_n (i := 0) dX12_build_191 rfl rfl ?_
              obtain ⟨c19, hrc19, hc19, hF⟩ := hF
              refine q_getR (k := c19) 13 41 fl_X12_77 (by decide) rfl rfl hrc19 dX12_build_192 ?_
              refine q_astore_n (i := 3) dX12_build_195 rfl (by decide) rfl ?_
              refine q_aload_n (i := 0) dX12_build_196 rfl rfl ?_
              refine q_aload_n (i := 0) dX12_build_197 rfl rfl ?_
              obtain ⟨c20, hrc20, hc20, hF⟩ := hF
              refine q_getR (k := c20) 13 42 fl_X12_80 (by decide) rfl rfl hrc20 dX12_build_198 ?_
              refine q_putR (v := c20) 13 41 fp_X12_77 (Or.inr ⟨_, _, _, rfl, rfl⟩) (by decide) rfl rfl (by rfl) (Or.inr ⟨_, rfl⟩) dX12_build_201 ?_
              refine q_aload_n (i := 0) dX12_build_204 rfl rfl ?_
              refine q_aload_n (i := 3) dX12_build_205 rfl rfl ?_
              refine q_putR (v := c19) 13 42 fp_X12_80 (Or.inr ⟨_, _, _, rfl, rfl⟩) (by decide) rfl rfl (by rfl) (Or.inr ⟨_, rfl⟩) dX12_build_206 ?_
              refine q_aload_n (i := 0) dX12_build_209 rfl rfl ?_
              refine q_iconst (v := 1) dX12_build_210 (by decide) ?_
              refine q_putZ 13 23 fp_X12_336 (Or.inr ⟨_, _, _, rfl, rfl⟩) (by decide) rfl rfl (by decide) dX12_build_211 ?_
              refine q_aload_n (i := 0) dX12_build_214 rfl rfl ?_
              refine q_iconst (v := 0) dX12_build_215 (by decide) ?_
              refine q_putZ 13 31 fp_X12_340 (Or.inr ⟨_, _, _, rfl, rfl⟩) (by decide) rfl rfl (by decide) dX12_build_216 ?_
              refine q_iconst (v := 0) dX12_build_219 (by decide) ?_
              refine q_istore dX12_build_220 (by decide) rfl ?_
              exact hF
            · have hF := hF.2 hb
              refine q_iconst (v := (-1)) dX12_build_171 (by decide) ?_
              exact q_iret rfl (by decide) (by decide) dX12_build_172 hF
          · have hF := hF.2 hb
            refine q_aload_n (i := 0) dX12_build_153 rfl rfl ?_
            refine q_getIv (v := h4.I 43 20) 13 20 fl_X12_165 (by decide) rfl rfl ((q_I_nek (by decide)).trans ( (q_I_nek (by decide)).trans (rfl))) dX12_build_154 ?_
            refine q_goto (tgt := 161) dX12_build_157 (by decide) ?_
            refine q_putI 13 4 fp_X12_13 (Or.inr ⟨_, _, _, rfl, rfl⟩) (by decide) rfl rfl dX12_build_161 ?_
            refine q_aload_n (i := 0) dX12_build_164 rfl rfl ?_
            refine q_getIv (v := h4.I 43 17) 13 3 fl_X12_333 (by decide) rfl rfl ((q_I_nek (by decide)).trans (q_I_same _ _ _ _)) dX12_build_165 ?_
            refine q_if_le (tgt := 173) dX12_build_168 (by decide) (fun hb => ?_) (fun hb => ?_)
            · have hF := hF.1 hb
              refine q_aload_n (i := 0) dX12_build_173 rfl rfl ?_
              obtain ⟨c21, hrc21, hc21, hF⟩ := hF
              refine q_getR (k := c21) 13 21 fl_X12_46 (by decide) rfl rfl hrc21 dX12_build_174 ?_
              refine q_astore_n (i := 2) dX12_build_177 rfl (by decide) rfl ?_
              refine q_aload_n (i := 0) dX12_build_178 rfl rfl ?_
              refine q_aload_n (i := 0) dX12_build_179 rfl rfl ?_
              obtain ⟨c22, hrc22, hc22, hF⟩ := hF
              refine q_getR (k := c22) 13 22 fl_X12_50 (by decide) rfl rfl hrc22 dX12_build_180 ?_
              refine q_putR (v := c22) 13 21 fp_X12_46 (Or.inr ⟨_, _, _, rfl, rfl⟩) (by decide) rfl rfl (by rfl) (Or.inl ⟨_, rfl⟩) dX12_build_183 ?_
              refine q_aload_n (i := 0) dX12_build_186 rfl rfl ?_
              refine q_aload_n (i := 2) dX12_build_187 rfl rfl ?_
              refine q_putR (v := c21) 13 22 fp_X12_50 (Or.inr ⟨_, _, _, rfl, rfl⟩) (by decide) rfl rfl (by rfl) (Or.inl ⟨_, rfl⟩) dX12_build_188 ?_
              refine q_aload_n (i := 0) dX12_build_191 rfl rfl ?_
              obtain ⟨c23, hrc23, hc23, hF⟩ := hF
              refine q_getR (k := c23) 13 41 fl_X12_77 (by decide) rfl rfl hrc23 dX12_build_192 ?_
              refine q_astore_n (i := 3) dX12_build_195 rfl (by decide) rfl ?_
              refine q_aload_n (i := 0) dX12_build_196 rfl rfl ?_
              refine q_aload_n (i := 0) dX12_build_197 rfl rfl ?_
              obtain ⟨c24, hrc24, hc24, hF⟩ := hF
              refine q_getR (k := c24) 13 42 fl_X12_80 (by decide) rfl rfl hrc24 dX12_build_198 ?_
              refine q_putR (v := c24) 13 41 fp_X12_77 (Or.inr ⟨_, _, _, rfl, rfl⟩) (by decide) rfl rfl (by rfl) (Or.inr ⟨_, rfl⟩) dX12_build_201 ?_
              refine q_aload_n (i := 0) dX12_build_204 rfl rfl ?_
              refine q_aload_n (i := 3) dX12_build_205 rfl rfl ?_
              refine q_putR (v := c23) 13 42 fp_X12_80 (Or.inr ⟨_, _, _, rfl, rfl⟩) (by decide) rfl rfl (by rfl) (Or.inr ⟨_, rfl⟩) dX12_build_206 ?_
              refine q_aload_n (i := 0) dX12_build_209 rfl rfl ?_
              refine q_iconst (v := 1) dX12_build_210 (by decide) ?_
              refine q_putZ 13 23 fp_X12_336 (Or.inr ⟨_, _, _, rfl, rfl⟩) (by decide) rfl rfl (by decide) dX12_build_211 ?_
              refine q_aload_n (i := 0) dX12_build_214 rfl rfl ?_
              refine q_iconst (v := 0) dX12_build_215 (by decide) ?_
              refine q_putZ 13 31 fp_X12_340 (Or.inr ⟨_, _, _, rfl, rfl⟩) (by decide) rfl rfl (by decide) dX12_build_216 ?_
              refine q_iconst (v := 0) dX12_build_219 (by decide) ?_
              refine q_istore dX12_build_220 (by decide) rfl ?_
              exact hF
            · have hF := hF.2 hb
              refine q_iconst (v := (-1)) dX12_build_171 (by decide) ?_
              exact q_iret rfl (by decide) (by decide) dX12_build_172 hF
        · have hF := hF.2 hb
          refine q_aload_n (i := 0) dX12_build_139 rfl rfl ?_
          refine q_getIv (v := h4.I 43 18) 13 18 fl_X12_159 (by decide) rfl rfl ((q_I_nek (by decide)).trans ( (q_I_nek (by decide)).trans (rfl))) dX12_build_140 ?_
          refine q_goto (tgt := 161) dX12_build_143 (by decide) ?_
          refine q_putI 13 4 fp_X12_13 (Or.inr ⟨_, _, _, rfl, rfl⟩) (by decide) rfl rfl dX12_build_161 ?_
          refine q_aload_n (i := 0) dX12_build_164 rfl rfl ?_
          refine q_getIv (v := h4.I 43 17) 13 3 fl_X12_333 (by decide) rfl rfl ((q_I_nek (by decide)).trans (q_I_same _ _ _ _)) dX12_build_165 ?_
          refine q_if_le (tgt := 173) dX12_build_168 (by decide) (fun hb => ?_) (fun hb => ?_)
          · have hF := hF.1 hb
            refine q_aload_n (i := 0) dX12_build_173 rfl rfl ?_
            obtain ⟨c25, hrc25, hc25, hF⟩ := hF
            refine q_getR (k := c25) 13 21 fl_X12_46 (by decide) rfl rfl hrc25 dX12_build_174 ?_
            refine q_astore_n (i := 2) dX12_build_177 rfl (by decide) rfl ?_
            refine q_aload_n (i := 0) dX12_build_178 rfl rfl ?_
            refine q_aload_n (i := 0) dX12_build_179 rfl rfl ?_
            obtain ⟨c26, hrc26, hc26, hF⟩ := hF
            refine q_getR (k := c26) 13 22 fl_X12_50 (by decide) rfl rfl hrc26 dX12_build_180 ?_
            refine q_putR (v := c26) 13 21 fp_X12_46 (Or.inr ⟨_, _, _, rfl, rfl⟩) (by decide) rfl rfl (by rfl) (Or.inl ⟨_, rfl⟩) dX12_build_183 ?_
            refine q_aload_n (i := 0) dX12_build_186 rfl rfl ?_
            refine q_aload_n (i := 2) dX12_build_187 rfl rfl ?_
            refine q_putR (v := c25) 13 22 fp_X12_50 (Or.inr ⟨_, _, _, rfl, rfl⟩) (by decide) rfl rfl (by rfl) (Or.inl ⟨_, rfl⟩) dX12_build_188 ?_
            refine q_aload_n (i := 0) dX12_build_191 rfl rfl ?_
            obtain ⟨c27, hrc27, hc27, hF⟩ := hF
            refine q_getR (k := c27) 13 41 fl_X12_77 (by decide) rfl rfl hrc27 dX12_build_192 ?_
            refine q_astore_n (i := 3) dX12_build_195 rfl (by decide) rfl ?_
            refine q_aload_n (i := 0) dX12_build_196 rfl rfl ?_
            refine q_aload_n (i := 0) dX12_build_197 rfl rfl ?_
            obtain ⟨c28, hrc28, hc28, hF⟩ := hF
            refine q_getR (k := c28) 13 42 fl_X12_80 (by decide) rfl rfl hrc28 dX12_build_198 ?_
            refine q_putR (v := c28) 13 41 fp_X12_77 (Or.inr ⟨_, _, _, rfl, rfl⟩) (by decide) rfl rfl (by rfl) (Or.inr ⟨_, rfl⟩) dX12_build_201 ?_
            refine q_aload_n (i := 0) dX12_build_204 rfl rfl ?_
            refine q_aload_n (i := 3) dX12_build_205 rfl rfl ?_
            refine q_putR (v := c27) 13 42 fp_X12_80 (Or.inr ⟨_, _, _, rfl, rfl⟩) (by decide) rfl rfl (by rfl) (Or.inr ⟨_, rfl⟩) dX12_build_206 ?_
            refine q_aload_n (i := 0) dX12_build_209 rfl rfl ?_
            refine q_iconst (v := 1) dX12_build_210 (by decide) ?_
            refine q_putZ 13 23 fp_X12_336 (Or.inr ⟨_, _, _, rfl, rfl⟩) (by decide) rfl rfl (by decide) dX12_build_211 ?_
            refine q_aload_n (i := 0) dX12_build_214 rfl rfl ?_
            refine q_iconst (v := 0) dX12_build_215 (by decide) ?_
            refine q_putZ 13 31 fp_X12_340 (Or.inr ⟨_, _, _, rfl, rfl⟩) (by decide) rfl rfl (by decide) dX12_build_216 ?_
            refine q_iconst (v := 0) dX12_build_219 (by decide) ?_
            refine q_istore dX12_build_220 (by decide) rfl ?_
            exact hF
          · have hF := hF.2 hb
            refine q_iconst (v := (-1)) dX12_build_171 (by decide) ?_
            exact q_iret rfl (by decide) (by decide) dX12_build_172 hF
    · obtain ⟨rfl, hF⟩ := q_rv_inv hr
      show q_W G m_X12_build zN (d + 1) 0 0 Q 0 0 zN 100 [.ref 43, .int l1, .int l2, .null, .null] [] h4
      refine q_goto (tgt := 109) dX12_build_100 (by decide) ?_
      refine q_aload_n (i := 0) dX12_build_109 rfl rfl ?_
      refine q_aload_n (i := 0) dX12_build_110 rfl rfl ?_
      refine q_getIv (v := h4.I 43 17) 13 17 fl_X12_153 (by decide) rfl rfl (rfl) dX12_build_111 ?_
      refine q_if_le (tgt := 124) dX12_build_114 (by decide) (fun hb => ?_) (fun hb => ?_)
      · have hF := hF.1 hb
        refine q_aload_n (i := 0) dX12_build_124 rfl rfl ?_
        refine q_getIv (v := h4.I 43 19) 13 19 fl_X12_162 (by decide) rfl rfl (rfl) dX12_build_125 ?_
        refine q_putI 13 3 fp_X12_333 (Or.inr ⟨_, _, _, rfl, rfl⟩) (by decide) rfl rfl dX12_build_128 ?_
        refine q_aload_n (i := 0) dX12_build_131 rfl rfl ?_
        refine q_aload_n (i := 0) dX12_build_132 rfl rfl ?_
        refine q_getIv (v := h4.I 43 17) 13 17 fl_X12_153 (by decide) rfl rfl ((q_I_nek (by decide)).trans (rfl)) dX12_build_133 ?_
        refine q_if_le (tgt := 146) dX12_build_136 (by decide) (fun hb => ?_) (fun hb => ?_)
        · have hF := hF.1 hb
          refine q_aload_n (i := 0) dX12_build_146 rfl rfl ?_
          refine q_getIv (v := h4.I 43 19) 13 19 fl_X12_162 (by decide) rfl rfl ((q_I_nek (by decide)).trans (rfl)) dX12_build_147 ?_
          refine q_if_le (tgt := 160) dX12_build_150 (by decide) (fun hb => ?_) (fun hb => ?_)
          · have hF := hF.1 hb
            refine q_iconst (v := (-1)) dX12_build_160 (by decide) ?_
            refine q_putI 13 4 fp_X12_13 (Or.inr ⟨_, _, _, rfl, rfl⟩) (by decide) rfl rfl dX12_build_161 ?_
            refine q_aload_n (i := 0) dX12_build_164 rfl rfl ?_
            refine q_getIv (v := h4.I 43 19) 13 3 fl_X12_333 (by decide) rfl rfl ((q_I_nek (by decide)).trans (q_I_same _ _ _ _)) dX12_build_165 ?_
            refine q_if_le (tgt := 173) dX12_build_168 (by decide) (fun hb => ?_) (fun hb => ?_)
            · have hF := hF.1 hb
              refine q_aload_n (i := 0) dX12_build_173 rfl rfl ?_
              obtain ⟨c29, hrc29, hc29, hF⟩ := hF
              refine q_getR (k := c29) 13 21 fl_X12_46 (by decide) rfl rfl hrc29 dX12_build_174 ?_
              refine q_astore_n (i := 2) dX12_build_177 rfl (by decide) rfl ?_
              refine q_aload_n (i := 0) dX12_build_178 rfl rfl ?_
              refine q_aload_n (i := 0) dX12_build_179 rfl rfl ?_
              obtain ⟨c30, hrc30, hc30, hF⟩ := hF
              refine q_getR (k := c30) 13 22 fl_X12_50 (by decide) rfl rfl hrc30 dX12_build_180 ?_
              refine q_putR (v := c30) 13 21 fp_X12_46 (Or.inr ⟨_, _, _, rfl, rfl⟩) (by decide) rfl rfl (by rfl) (Or.inl ⟨_, rfl⟩) dX12_build_183 ?_
              refine q_aload_n (i := 0) dX12_build_186 rfl rfl ?_
              refine q_aload_n (i := 2) dX12_build_187 rfl rfl ?_
              refine q_putR (v := c29) 13 22 fp_X12_50 (Or.inr ⟨_, _, _, rfl, rfl⟩) (by decide) rfl rfl (by rfl) (Or.inl ⟨_, rfl⟩) dX12_build_188 ?_
              refine q_aload_n (i := 0) dX12_build_191 rfl rfl ?_
              obtain ⟨c31, hrc31, hc31, hF⟩ := hF
              refine q_getR (k := c31) 13 41 fl_X12_77 (by decide) rfl rfl hrc31 dX12_build_192 ?_
              refine q_astore_n (i := 3) dX12_build_195 rfl (by decide) rfl ?_
              refine q_aload_n (i := 0) dX12_build_196 rfl rfl ?_
              refine q_aload_n (i := 0) dX12_build_197 rfl rfl ?_
              obtain ⟨c32, hrc32, hc32, hF⟩ := hF
              refine q_getR (k := c32) 13 42 fl_X12_80 (by decide) rfl rfl hrc32 dX12_build_198 ?_
              refine q_putR (v := c32) 13 41 fp_X12_77 (Or.inr ⟨_, _, _, rfl, rfl⟩) (by decide) rfl rfl (by rfl) (Or.inr ⟨_, rfl⟩) dX12_build_201 ?_
              refine q_aload_n (i := 0) dX12_build_204 rfl rfl ?_
              refine q_aload_n (i := 3) dX12_build_205 rfl rfl ?_
              refine q_putR (v := c31) 13 42 fp_X12_80 (Or.inr ⟨_, _, _, rfl, rfl⟩) (by decide) rfl rfl (by rfl) (Or.inr ⟨_, rfl⟩) dX12_build_206 ?_
              refine q_aload_n (i := 0) dX12_build_209 rfl rfl ?_
              refine q_iconst (v := 1) dX12_build_210 (by decide) ?_
              refine q_putZ 13 23 fp_X12_336 (Or.inr ⟨_, _, _, rfl, rfl⟩) (by decide) rfl rfl (by decide) dX12_build_211 ?_
              refine q_aload_n (i := 0) dX12_build_214 rfl rfl ?_
              refine q_iconst (v := 0) dX12_build_215 (by decide) ?_
              refine q_putZ 13 31 fp_X12_340 (Or.inr ⟨_, _, _, rfl, rfl⟩) (by decide) rfl rfl (by decide) dX12_build_216 ?_
              refine q_iconst (v := 0) dX12_build_219 (by decide) ?_
              refine q_istore dX12_build_220 (by decide) rfl ?_
              exact hF
            · have hF := hF.2 hb
              refine q_iconst (v := (-1)) dX12_build_171 (by decide) ?_
              exact q_iret rfl (by decide) (by decide) dX12_build_172 hF
          · have hF := hF.2 hb
            refine q_aload_n (i := 0) dX12_build_153 rfl rfl ?_
            refine q_getIv (v := h4.I 43 20) 13 20 fl_X12_165 (by decide) rfl rfl ((q_I_nek (by decide)).trans (rfl)) dX12_build_154 ?_
            refine q_goto (tgt := 161) dX12_build_157 (by decide) ?_
            refine q_putI 13 4 fp_X12_13 (Or.inr ⟨_, _, _, rfl, rfl⟩) (by decide) rfl rfl dX12_build_161 ?_
            refine q_aload_n (i := 0) dX12_build_164 rfl rfl ?_
            refine q_getIv (v := h4.I 43 19) 13 3 fl_X12_333 (by decide) rfl rfl ((q_I_nek (by decide)).trans (q_I_same _ _ _ _)) dX12_build_165 ?_
            refine q_if_le (tgt := 173) dX12_build_168 (by decide) (fun hb => ?_) (fun hb => ?_)
            · have hF := hF.1 hb
              refine q_aload_n (i := 0) dX12_build_173 rfl rfl ?_
              obtain ⟨c33, hrc33, hc33, hF⟩ := hF
              refine q_getR (k := c33) 13 21 fl_X12_46 (by decide) rfl rfl hrc33 dX12_build_174 ?_
              refine q_astore_n (i := 2) dX12_build_177 rfl (by decide) rfl ?_
              refine q_aload_n (i := 0) dX12_build_178 rfl rfl ?_
              refine q_aload_n (i := 0) dX12_build_179 rfl rfl ?_
              obtain ⟨c34, hrc34, hc34, hF⟩ := hF
              refine q_getR (k := c34) 13 22 fl_X12_50 (by decide) rfl rfl hrc34 dX12_build_180 ?_
              refine q_putR (v := c34) 13 21 fp_X12_46 (Or.inr ⟨_, _, _, rfl, rfl⟩) (by decide) rfl rfl (by rfl) (Or.inl ⟨_, rfl⟩) dX12_build_183 ?_
              refine q_aload_n (i := 0) dX12_build_186 rfl rfl ?_
              refine q_aload_n (i := 2) dX12_build_187 rfl rfl ?_
              refine q_putR (v := c33) 13 22 fp_X12_50 (Or.inr ⟨_, _, _, rfl, rfl⟩) (by decide) rfl rfl (by rfl) (Or.inl ⟨_, rfl⟩) dX12_build_188 ?_
              refine q_aload_n (i := 0) dX12_build_191 rfl rfl ?_
              obtain ⟨c35, hrc35, hc35, hF⟩ := hF
              refine q_getR (k := c35) 13 41 fl_X12_77 (by decide) rfl rfl hrc35 dX12_build_192 ?_
              refine q_astore_n (i := 3) dX12_build_195 rfl (by decide) rfl ?_
              refine q_aload_n (i := 0) dX12_build_196 rfl rfl ?_
              refine q_aload_n (i := 0) dX12_build_197 rfl rfl ?_
              obtain ⟨c36, hrc36, hc36, hF⟩ := hF
              refine q_getR (k := c36) 13 42 fl_X12_80 (by decide) rfl rfl hrc36 dX12_build_198 ?_
              refine q_putR (v := c36) 13 41 fp_X12_77 (Or.inr ⟨_, _, _, rfl, rfl⟩) (by decide) rfl rfl (by rfl) (Or.inr ⟨_, rfl⟩) dX12_build_201 ?_
              refine q_aload_n (i := 0) dX12_build_204 rfl rfl ?_
              refine q_aload_n (i := 3) dX12_build_205 rfl rfl ?_
              refine q_putR (v := c35) 13 42 fp_X12_80 (Or.inr ⟨_, _, _, rfl, rfl⟩) (by decide) rfl rfl (by rfl) (Or.inr ⟨_, rfl⟩) dX12_build_206 ?_
              refine q_aload_n (i := 0) dX12_build_209 rfl rfl ?_
              refine q_iconst (v := 1) dX12_build_210 (by decide) ?_
              refine q_putZ 13 23 fp_X12_336 (Or.inr ⟨_, _, _, rfl, rfl⟩) (by decide) rfl rfl (by decide) dX12_build_211 ?_
              refine q_aload_n (i := 0) dX12_build_214 rfl rfl ?_
              refine q_iconst (v := 0) dX12_build_215 (by decide) ?_
              refine q_putZ 13 31 fp_X12_340 (Or.inr ⟨_, _, _, rfl, rfl⟩) (by decide) rfl rfl (by decide) dX12_build_216 ?_
              refine q_iconst (v := 0) dX12_build_219 (by decide) ?_
              refine q_istore dX12_build_220 (by decide) rfl ?_
              exact hF
            · have hF := hF.2 hb
              refine q_iconst (v := (-1)) dX12_build_171 (by decide) ?_
              exact q_iret rfl (by decide) (by decide) dX12_build_172 hF
        · have hF := hF.2 hb
          refine q_aload_n (i := 0) dX12_build_139 rfl rfl ?_
          refine q_getIv (v := h4.I 43 18) 13 18 fl_X12_159 (by decide) rfl rfl ((q_I_nek (by decide)).trans (rfl)) dX12_build_140 ?_
          refine q_goto (tgt := 161) dX12_build_143 (by decide) ?_
          refine q_putI 13 4 fp_X12_13 (Or.inr ⟨_, _, _, rfl, rfl⟩) (by decide) rfl rfl dX12_build_161 ?_
          refine q_aload_n (i := 0) dX12_build_164 rfl rfl ?_
          refine q_getIv (v := h4.I 43 19) 13 3 fl_X12_333 (by decide) rfl rfl ((q_I_nek (by decide)).trans (q_I_same _ _ _ _)) dX12_build_165 ?_
          refine q_if_le (tgt := 173) dX12_build_168 (by decide) (fun hb => ?_) (fun hb => ?_)
          · have hF := hF.1 hb
            refine q_aload_n (i := 0) dX12_build_173 rfl rfl ?_
            obtain ⟨c37, hrc37, hc37, hF⟩ := hF
            refine q_getR (k := c37) 13 21 fl_X12_46 (by decide) rfl rfl hrc37 dX12_build_174 ?_
            refine q_astore_n (i := 2) dX12_build_177 rfl (by decide) rfl ?_
            refine q_aload_n (i := 0) dX12_build_178 rfl rfl ?_
            refine q_aload_n (i := 0) dX12_build_179 rfl rfl ?_
            obtain ⟨c38, hrc38, hc38, hF⟩ := hF
            refine q_getR (k := c38) 13 22 fl_X12_50 (by decide) rfl rfl hrc38 dX12_build_180 ?_
            refine q_putR (v := c38) 13 21 fp_X12_46 (Or.inr ⟨_, _, _, rfl, rfl⟩) (by decide) rfl rfl (by rfl) (Or.inl ⟨_, rfl⟩) dX12_build_183 ?_
            refine q_aload_n (i := 0) dX12_build_186 rfl rfl ?_
            refine q_aload_n (i := 2) dX12_build_187 rfl rfl ?_
            refine q_putR (v := c37) 13 22 fp_X12_50 (Or.inr ⟨_, _, _, rfl, rfl⟩) (by decide) rfl rfl (by rfl) (Or.inl ⟨_, rfl⟩) dX12_build_188 ?_
            refine q_aload_n (i := 0) dX12_build_191 rfl rfl ?_
            obtain ⟨c39, hrc39, hc39, hF⟩ := hF
            refine q_getR (k := c39) 13 41 fl_X12_77 (by decide) rfl rfl hrc39 dX12_build_192 ?_
            refine q_astore_n (i := 3) dX12_build_195 rfl (by decide) rfl ?_
            refine q_aload_n (i := 0) dX12_build_196 rfl rfl ?_
            refine q_aload_n (i := 0) dX12_build_197 rfl rfl ?_
            obtain ⟨c40, hrc40, hc40, hF⟩ := hF
            refine q_getR (k := c40) 13 42 fl_X12_80 (by decide) rfl rfl hrc40 dX12_build_198 ?_
            refine q_putR (v := c40) 13 41 fp_X12_77 (Or.inr ⟨_, _, _, rfl, rfl⟩) (by decide) rfl rfl (by rfl) (Or.inr ⟨_, rfl⟩) dX12_build_201 ?_
            refine q_aload_n (i := 0) dX12_build_204 rfl rfl ?_
            refine q_aload_n (i := 3) dX12_build_205 rfl rfl ?_
            refine q_putR (v := c39) 13 42 fp_X12_80 (Or.inr ⟨_, _, _, rfl, rfl⟩) (by decide) rfl rfl (by rfl) (Or.inr ⟨_, rfl⟩) dX12_build_206 ?_
            refine q_aload_n (i := 0) dX12_build_209 rfl rfl ?_
            refine q_iconst (v := 1) dX12_build_210 (by decide) ?_
            refine q_putZ 13 23 fp_X12_336 (Or.inr ⟨_, _, _, rfl, rfl⟩) (by decide) rfl rfl (by decide) dX12_build_211 ?_
            refine q_aload_n (i := 0) dX12_build_214 rfl rfl ?_
            refine q_iconst (v := 0) dX12_build_215 (by decide) ?_
            refine q_putZ 13 31 fp_X12_340 (Or.inr ⟨_, _, _, rfl, rfl⟩) (by decide) rfl rfl (by decide) dX12_build_216 ?_
            refine q_iconst (v := 0) dX12_build_219 (by decide) ?_
            refine q_istore dX12_build_220 (by decide) rfl ?_
            exact hF
          · have hF := hF.2 hb
            refine q_iconst (v := (-1)) dX12_build_171 (by decide) ?_
            exact q_iret rfl (by decide) (by decide) dX12_build_172 hF
      · have hF := hF.2 hb
        refine q_aload_n (i := 0) dX12_build_117 rfl rfl ?_
        refine q_getIv (v := h4.I 43 17) 13 17 fl_X12_153 (by decide) rfl rfl (rfl) dX12_build_118 ?_
        refine q_goto (tgt := 128) dX12_build_121 (by decide) ?_
        refine q_putI 13 3 fp_X12_333 (Or.inr ⟨_, _, _, rfl, rfl⟩) (by decide) rfl rfl dX12_build_128 ?_
        refine q_aload_n (i := 0) dX12_build_131 rfl rfl ?_
        refine q_aload_n (i := 0) dX12_build_132 rfl rfl ?_
        refine q_getIv (v := h4.I 43 17) 13 17 fl_X12_153 (by decide) rfl rfl ((q_I_nek (by decide)).trans (rfl)) dX12_build_133 ?_
        refine q_if_le (tgt := 146) dX12_build_136 (by decide) (fun hb => ?_) (fun hb => ?_)
        · have hF := hF.1 hb
          refine q_aload_n (i := 0) dX12_build_146 rfl rfl ?_
          refine q_getIv (v := h4.I 43 19) 13 19 fl_X12_162 (by decide) rfl rfl ((q_I_nek (by decide)).trans (rfl)) dX12_build_147 ?_
          refine q_if_le (tgt := 160) dX12_build_150 (by decide) (fun hb => ?_) (fun hb => ?_)
          · have hF := hF.1 hb
            refine q_iconst (v := (-1)) dX12_build_160 (by decide) ?_
            refine q_putI 13 4 fp_X12_13 (Or.inr ⟨_, _, _, rfl, rfl⟩) (by decide) rfl rfl dX12_build_161 ?_
            refine q_aload_n (i := 0) dX12_build_164 rfl rfl ?_
            refine q_getIv (v := h4.I 43 17) 13 3 fl_X12_333 (by decide) rfl rfl ((q_I_nek (by decide)).trans (q_I_same _ _ _ _)) dX12_build_165 ?_
            refine q_if_le (tgt := 173) dX12_build_168 (by decide) (fun hb => ?_) (fun hb => ?_)
            · have hF := hF.1 hb
              refine q_aload_n (i := 0) dX12_build_173 rfl rfl ?_
              obtain ⟨c41, hrc41, hc41, hF⟩ := hF
              refine q_getR (k := c41) 13 21 fl_X12_46 (by decide) rfl rfl hrc41 dX12_build_174 ?_
              refine q_astore_n (i := 2) dX12_build_177 rfl (by decide) rfl ?_
              refine q_aload_n (i := 0) dX12_build_178 rfl rfl ?_
              refine q_aload_n (i := 0) dX12_build_179 rfl rfl ?_
              obtain ⟨c42, hrc42, hc42, hF⟩ := hF
              refine q_getR (k := c42) 13 22 fl_X12_50 (by decide) rfl rfl hrc42 dX12_build_180 ?_
              refine q_putR (v := c42) 13 21 fp_X12_46 (Or.inr ⟨_, _, _, rfl, rfl⟩) (by decide) rfl rfl (by rfl) (Or.inl ⟨_, rfl⟩) dX12_build_183 ?_
              refine q_aload_n (i := 0) dX12_build_186 rfl rfl ?_
              refine q_aload_n (i := 2) dX12_build_187 rfl rfl ?_
              refine q_putR (v := c41) 13 22 fp_X12_50 (Or.inr ⟨_, _, _, rfl, rfl⟩) (by decide) rfl rfl (by rfl) (Or.inl ⟨_, rfl⟩) dX12_build_188 ?_
              refine q_aload_n (i := 0) dX12_build_191 rfl rfl ?_
              obtain ⟨c43, hrc43, hc43, hF⟩ := hF
              refine q_getR (k := c43) 13 41 fl_X12_77 (by decide) rfl rfl hrc43 dX12_build_192 ?_
              refine q_astore_n (i := 3) dX12_build_195 rfl (by decide) rfl ?_
              refine q_aload_n (i := 0) dX12_build_196 rfl rfl ?_
              refine q_aload_n (i := 0) dX12_build_197 rfl rfl ?_
              obtain ⟨c44, hrc44, hc44, hF⟩ := hF
              refine q_getR (k := c44) 13 42 fl_X12_80 (by decide) rfl rfl hrc44 dX12_build_198 ?_
              refine q_putR (v := c44) 13 41 fp_X12_77 (Or.inr ⟨_, _, _, rfl, rfl⟩) (by decide) rfl rfl (by rfl) (Or.inr ⟨_, rfl⟩) dX12_build_201 ?_
              refine q_aload_n (i := 0) dX12_build_204 rfl rfl ?_
              refine q_aload_n (i := 3) dX12_build_205 rfl rfl ?_
              refine q_putR (v := c43) 13 42 fp_X12_80 (Or.inr ⟨_, _, _, rfl, rfl⟩) (by decide) rfl rfl (by rfl) (Or.inr ⟨_, rfl⟩) dX12_build_206 ?_
              refine q_aload_n (i := 0) dX12_build_209 rfl rfl ?_
              refine q_iconst (v := 1) dX12_build_210 (by decide) ?_
              refine q_putZ 13 23 fp_X12_336 (Or.inr ⟨_, _, _, rfl, rfl⟩) (by decide) rfl rfl (by decide) dX12_build_211 ?_
              refine q_aload_n (i := 0) dX12_build_214 rfl rfl ?_
              refine q_iconst (v := 0) dX12_build_215 (by decide) ?_
              refine q_putZ 13 31 fp_X12_340 (Or.inr ⟨_, _, _, rfl, rfl⟩) (by decide) rfl rfl (by decide) dX12_build_216 ?_
              refine q_iconst (v := 0) dX12_build_219 (by decide) ?_
              refine q_istore dX12_build_220 (by decide) rfl ?_
              exact hF
            · have hF := hF.2 hb
              refine q_iconst (v := (-1)) dX12_build_171 (by decide) ?_
              exact q_iret rfl (by decide) (by decide) dX12_build_172 hF
          · have hF := hF.2 hb
            refine q_aload_n (i := 0) dX12_build_153 rfl rfl ?_
            refine q_getIv (v := h4.I 43 20) 13 20 fl_X12_165 (by decide) rfl rfl ((q_I_nek (by decide)).trans (rfl)) dX12_build_154 ?_
            refine q_goto (tgt := 161) dX12_build_157 (by decide) ?_
            refine q_putI 13 4 fp_X12_13 (Or.inr ⟨_, _, _, rfl, rfl⟩) (by decide) rfl rfl dX12_build_161 ?_
            refine q_aload_n (i := 0) dX12_build_164 rfl rfl ?_
            refine q_getIv (v := h4.I 43 17) 13 3 fl_X12_333 (by decide) rfl rfl ((q_I_nek (by decide)).trans (q_I_same _ _ _ _)) dX12_build_165 ?_
            refine q_if_le (tgt := 173) dX12_build_168 (by decide) (fun hb => ?_) (fun hb => ?_)
            · have hF := hF.1 hb
              refine q_aload_n (i := 0) dX12_build_173 rfl rfl ?_
              obtain ⟨c45, hrc45, hc45, hF⟩ := hF
              refine q_getR (k := c45) 13 21 fl_X12_46 (by decide) rfl rfl hrc45 dX12_build_174 ?_
              refine q_astore_n (i := 2) dX12_build_177 rfl (by decide) rfl ?_
              refine q_aload_n (i := 0) dX12_build_178 rfl rfl ?_
              refine q_aload_n (i := 0) dX12_build_179 rfl rfl ?_
              obtain ⟨c46, hrc46, hc46, hF⟩ := hF
              refine q_getR (k := c46) 13 22 fl_X12_50 (by decide) rfl rfl hrc46 dX12_build_180 ?_
              refine q_putR (v := c46) 13 21 fp_X12_46 (Or.inr ⟨_, _, _, rfl, rfl⟩) (by decide) rfl rfl (by rfl) (Or.inl ⟨_, rfl⟩) dX12_build_183 ?_
              refine q_aload_n (i := 0) dX12_build_186 rfl rfl ?_
              refine q_aload_n (i := 2) dX12_build_187 rfl rfl ?_
              refine q_putR (v := c45) 13 22 fp_X12_50 (Or.inr ⟨_, _, _, rfl, rfl⟩) (by decide) rfl rfl (by rfl) (Or.inl ⟨_, rfl⟩) dX12_build_188 ?_
              refine q_aload_n (i := 0) dX12_build_191 rfl rfl ?_
              obtain ⟨c47, hrc47, hc47, hF⟩ := hF
              refine q_getR (k := c47) 13 41 fl_X12_77 (by decide) rfl rfl hrc47 dX12_build_192 ?_
              refine q_astore_n (i := 3) dX12_build_195 rfl (by decide) rfl ?_
              refine q_aload_n (i := 0) dX12_build_196 rfl rfl ?_
              refine q_aload_n (i := 0) dX12_build_197 rfl rfl ?_
              obtain ⟨c48, hrc48, hc48, hF⟩ := hF
              refine q_getR (k := c48) 13 42 fl_X12_80 (by decide) rfl rfl hrc48 dX12_build_198 ?_
              refine q_putR (v := c48) 13 41 fp_X12_77 (Or.inr ⟨_, _, _, rfl, rfl⟩) (by decide) rfl rfl (by rfl) (Or.inr ⟨_, rfl⟩) dX12_build_201 ?_
              refine q_aload_n (i := 0) dX12_build_204 rfl rfl ?_
              refine q_aload_n (i := 3) dX12_build_205 rfl rfl ?_
              refine q_putR (v := c47) 13 42 fp_X12_80 (Or.inr ⟨_, _, _, rfl, rfl⟩) (by decide) rfl rfl (by rfl) (Or.inr ⟨_, rfl⟩) dX12_build_206 ?_
              refine q_aload_n (i := 0) dX12_build_209 rfl rfl ?_
              refine q_iconst (v := 1) dX12_build_210 (by decide) ?_
              refine q_putZ 13 23 fp_X12_336 (Or.inr ⟨_, _, _, rfl, rfl⟩) (by decide) rfl rfl (by decide) dX12_build_211 ?_
              refine q_aload_n (i := 0) dX12_build_214 rfl rfl ?_
              refine q_iconst (v := 0) dX12_build_215 (by decide) ?_
              refine q_putZ 13 31 fp_X12_340 (Or.inr ⟨_, _, _, rfl, rfl⟩) (by decide) rfl rfl (by decide) dX12_build_216 ?_
              refine q_iconst (v := 0) dX12_build_219 (by decide) ?_
              refine q_istore dX12_build_220 (by decide) rfl ?_
              exact hF
            · have hF := hF.2 hb
              refine q_iconst (v := (-1)) dX12_build_171 (by decide) ?_
              exact q_iret rfl (by decide) (by decide) dX12_build_172 hF
        · have hF := hF.2 hb
          refine q_aload_n (i := 0) dX12_build_139 rfl rfl ?_
          refine q_getIv (v := h4.I 43 18) 13 18 fl_X12_159 (by decide) rfl rfl ((q_I_nek (by decide)).trans (rfl)) dX12_build_140 ?_
          refine q_goto (tgt := 161) dX12_build_143 (by decide) ?_
          refine q_putI 13 4 fp_X12_13 (Or.inr ⟨_, _, _, rfl, rfl⟩) (by decide) rfl rfl dX12_build_161 ?_
          refine q_aload_n (i := 0) dX12_build_164 rfl rfl ?_
          refine q_getIv (v := h4.I 43 17) 13 3 fl_X12_333 (by decide) rfl rfl ((q_I_nek (by decide)).trans (q_I_same _ _ _ _)) dX12_build_165 ?_
          refine q_if_le (tgt := 173) dX12_build_168 (by decide) (fun hb => ?_) (fun hb => ?_)
          · have hF := hF.1 hb
            refine q_aload_n (i := 0) dX12_build_173 rfl rfl ?_
            obtain ⟨c49, hrc49, hc49, hF⟩ := hF
            refine q_getR (k := c49) 13 21 fl_X12_46 (by decide) rfl rfl hrc49 dX12_build_174 ?_
            refine q_astore_n (i := 2) dX12_build_177 rfl (by decide) rfl ?_
            refine q_aload_n (i := 0) dX12_build_178 rfl rfl ?_
            refine q_aload_n (i := 0) dX12_build_179 rfl rfl ?_
            obtain ⟨c50, hrc50, hc50, hF⟩ := hF
            refine q_getR (k := c50) 13 22 fl_X12_50 (by decide) rfl rfl hrc50 dX12_build_180 ?_
            refine q_putR (v := c50) 13 21 fp_X12_46 (Or.inr ⟨_, _, _, rfl, rfl⟩) (by decide) rfl rfl (by rfl) (Or.inl ⟨_, rfl⟩) dX12_build_183 ?_
            refine q_aload_n (i := 0) dX12_build_186 rfl rfl ?_
            refine q_aload_n (i := 2) dX12_build_187 rfl rfl ?_
            refine q_putR (v := c49) 13 22 fp_X12_50 (Or.inr ⟨_, _, _, rfl, rfl⟩) (by decide) rfl rfl (by rfl) (Or.inl ⟨_, rfl⟩) dX12_build_188 ?_
            refine q_aload_n (i := 0) dX12_build_191 rfl rfl ?_
            obtain ⟨c51, hrc51, hc51, hF⟩ := hF
            refine q_getR (k := c51) 13 41 fl_X12_77 (by decide) rfl rfl hrc51 dX12_build_192 ?_
            refine q_astore_n (i := 3) dX12_build_195 rfl (by decide) rfl ?_
            refine q_aload_n (i := 0) dX12_build_196 rfl rfl ?_
            refine q_aload_n (i := 0) dX12_build_197 rfl rfl ?_
            obtain ⟨c52, hrc52, hc52, hF⟩ := hF
            refine q_getR (k := c52) 13 42 fl_X12_80 (by decide) rfl rfl hrc52 dX12_build_198 ?_
            refine q_putR (v := c52) 13 41 fp_X12_77 (Or.inr ⟨_, _, _, rfl, rfl⟩) (by decide) rfl rfl (by rfl) (Or.inr ⟨_, rfl⟩) dX12_build_201 ?_
            refine q_aload_n (i := 0) dX12_build_204 rfl rfl ?_
            refine q_aload_n (i := 3) dX12_build_205 rfl rfl ?_
            refine q_putR (v := c51) 13 42 fp_X12_80 (Or.inr ⟨_, _, _, rfl, rfl⟩) (by decide) rfl rfl (by rfl) (Or.inr ⟨_, rfl⟩) dX12_build_206 ?_
            refine q_aload_n (i := 0) dX12_build_209 rfl rfl ?_
            refine q_iconst (v := 1) dX12_build_210 (by decide) ?_
            refine q_putZ 13 23 fp_X12_336 (Or.inr ⟨_, _, _, rfl, rfl⟩) (by decide) rfl rfl (by decide) dX12_build_211 ?_
            refine q_aload_n (i := 0) dX12_build_214 rfl rfl ?_
            refine q_iconst (v := 0) dX12_build_215 (by decide) ?_
            refine q_putZ 13 31 fp_X12_340 (Or.inr ⟨_, _, _, rfl, rfl⟩) (by decide) rfl rfl (by decide) dX12_build_216 ?_
            refine q_iconst (v := 0) dX12_build_219 (by decide) ?_
            refine q_istore dX12_build_220 (by decide) rfl ?_
            exact hF
          · have hF := hF.2 hb
            refine q_iconst (v := (-1)) dX12_build_171 (by decide) ?_
            exact q_iret rfl (by decide) (by decide) dX12_build_172 hF
  · have hF := hF.2 hb
    refine q_aload_n (i := 0) dX12_build_32 rfl rfl ?_
    refine q_getP 13 8 46 fl_X12_21 (by decide) rfl rfl rfl dX12_build_33 ?_
    refine q_iload_n (i := 2) dX12_build_36 rfl rfl ?_
    refine q_aload_n (i := 0) dX12_build_37 rfl rfl ?_
    refine q_getP 13 1 44 fl_X12_9 (by decide) rfl rfl rfl dX12_build_38 ?_
    refine q_iload_n (i := 2) dX12_build_41 rfl rfl ?_
    obtain ⟨hi53, hF⟩ := hF
    refine q_baloadv (v := h.I 44 l2.toNatClampNeg) (n := 2000) (by decide) rfl hi53 (rfl) dX12_build_42 ?_
    obtain ⟨hi54, hF⟩ := hF
    refine q_bastore (n := 2000) (by decide) rfl hi54 dX12_build_43 ?_
    refine q_iinc (v := l2 + 1) dX12_build_44 rfl rfl (by decide) rfl ?_
    refine q_goto (tgt := 27) dX12_build_47 (by decide) ?_
    exact hF
set_option maxRecDepth 100000 in
set_option maxHeartbeats 4000000 in
theorem x_X12_build_222 (G : qG) (d : Nat) (c5 : Nat) (c7 : Nat) (l1 : Int32) (l4 : Int32) (h : qh) (Q : qr → qh → Prop) (hc5 : q_prg c5) (hc7 : q_end c7) (hF : (2048 ≤ l4 → (q_N0 G m_X12_build (d + 1) Q 247 [.ref 43, .int l1, .ref c5, .ref c7, .int 0] [] h)) ∧ (¬ 2048 ≤ l4 → (vp_in l4 2048 ∧ (q_N0 G m_X12_build (d + 1) Q 222 [.ref 43, .int l1, .ref c5, .ref c7, .int (l4 + 1)] [] (h.sI 76 l4.toNatClampNeg 0))))) : q_N0 G m_X12_build (d + 1) Q 222 [.ref 43, .int l1, .ref c5, .ref c7, .int l4] [] h := by
  refine q_iload dX12_build_222 rfl ?_
  refine q_sipush (v := 2048) dX12_build_224 (by decide) ?_
  refine q_icmp_ge (tgt := 244) dX12_build_227 (by decide) (fun hb => ?_) (fun hb => ?_)
  · have hF := hF.1 hb
    refine q_iconst (v := 0) dX12_build_244 (by decide) ?_
    refine q_istore dX12_build_245 (by decide) rfl ?_
    exact hF
  · have hF := hF.2 hb
    refine q_aload_n (i := 0) dX12_build_230 rfl rfl ?_
    refine q_getP 13 28 76 fl_X12_62 (by decide) rfl rfl rfl dX12_build_231 ?_
    refine q_iload dX12_build_234 rfl ?_
    refine q_iconst (v := 0) dX12_build_236 (by decide) ?_
    obtain ⟨hi55, hF⟩ := hF
    refine q_iastore (n := 2048) (by decide) rfl hi55 dX12_build_237 ?_
    refine q_iinc (v := l4 + 1) dX12_build_238 rfl rfl (by decide) rfl ?_
    refine q_goto (tgt := 222) dX12_build_241 (by decide) ?_
    exact hF
set_option maxRecDepth 100000 in
set_option maxHeartbeats 4000000 in
theorem x_X12_build_247 (G : qG) (d : Nat) (c5 : Nat) (c7 : Nat) (l1 : Int32) (l4 : Int32) (h : qh) (Q : qr → qh → Prop) (hc5 : q_prg c5) (hc7 : q_end c7) (hF : (4 ≤ l4 → (Q (.inl (some (.int 0))) h)) ∧ (¬ 4 ≤ l4 → (vp_in l4 4 ∧ (q_N0 G m_X12_build (d + 1) Q 247 [.ref 43, .int l1, .ref c5, .ref c7, .int (l4 + 1)] [] (h.sI 77 l4.toNatClampNeg 0))))) : q_N0 G m_X12_build (d + 1) Q 247 [.ref 43, .int l1, .ref c5, .ref c7, .int l4] [] h := by
  refine q_iload dX12_build_247 rfl ?_
  refine q_iconst (v := 4) dX12_build_249 (by decide) ?_
  refine q_icmp_ge (tgt := 267) dX12_build_250 (by decide) (fun hb => ?_) (fun hb => ?_)
  · have hF := hF.1 hb
    refine q_iconst (v := 0) dX12_build_267 (by decide) ?_
    exact q_iret rfl (by decide) (by decide) dX12_build_268 hF
  · have hF := hF.2 hb
    refine q_aload_n (i := 0) dX12_build_253 rfl rfl ?_
    refine q_getP 13 29 77 fl_X12_65 (by decide) rfl rfl rfl dX12_build_254 ?_
    refine q_iload dX12_build_257 rfl ?_
    refine q_iconst (v := 0) dX12_build_259 (by decide) ?_
    obtain ⟨hi56, hF⟩ := hF
    refine q_iastore (n := 4) (by decide) rfl hi56 dX12_build_260 ?_
    refine q_iinc (v := l4 + 1) dX12_build_261 rfl rfl (by decide) rfl ?_
    refine q_goto (tgt := 247) dX12_build_264 (by decide) ?_
    exact hF
