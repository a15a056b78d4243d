def m_X8_cut : qm := (RX8, cX8_cut, 3, none, [], false)
set_option maxRecDepth 100000 in
set_option maxHeartbeats 4000000 in
theorem x_X8_cut (G : qG) (d : Nat) (x1 : Int32) (h : qh) (Q : qr → qh → Prop)  (hF : q_N0 G m_X8_cut (d + 1) Q 17 [.ref 17, .int x1, .int 2] [] (((h.sI 17 4 x1).sI 17 5 0).sI 17 6 0)) : q_M0 G (d + 1) yX8_cut [.ref 17, .int x1] h Q := by
  refine q_of (M := m_X8_cut) (by decide +kernel) rfl rfl cd_X8_cut (by decide) (Nat.le_of_ble_eq_true rfl) ?_
  show q_N0 G m_X8_cut (d + 1) Q 0 [.ref 17, .int x1, .null] [] h
  refine q_aload_n (i := 0) dX8_cut_0 rfl rfl ?_
  refine q_iload_n (i := 1) dX8_cut_1 rfl rfl ?_
  refine q_putI 9 4 fp_X8_26 (Or.inr ⟨_, _, _, rfl, rfl⟩) (by decide) rfl rfl dX8_cut_2 ?_
  refine q_aload_n (i := 0) dX8_cut_5 rfl rfl ?_
  refine q_iconst (v := 0) dX8_cut_6 (by decide) ?_
  refine q_putI 9 5 fp_X8_30 (Or.inr ⟨_, _, _, rfl, rfl⟩) (by decide) rfl rfl dX8_cut_7 ?_
  refine q_aload_n (i := 0) dX8_cut_10 rfl rfl ?_
  refine q_iconst (v := 0) dX8_cut_11 (by decide) ?_
  refine q_putI 9 6 fp_X8_33 (Or.inr ⟨_, _, _, rfl, rfl⟩) (by decide) rfl rfl dX8_cut_12 ?_
  refine q_iconst (v := 2) dX8_cut_15 (by decide) ?_
  refine q_istore_n (i := 2) dX8_cut_16 rfl (by decide) rfl ?_
  exact hF
set_option maxRecDepth 100000 in
set_option maxHeartbeats 4000000 in
theorem x_X8_cut_17 (G : qG) (d : Nat) (l1 : Int32) (l2 : Int32) (h : qh) (Q : qr → qh → Prop)  (hF : (l2 = 0 → (Q (.inl none) h)) ∧ (¬ l2 = 0 → ((l2 = 1 → (Q (.inl none) h)) ∧ (¬ l2 = 1 → ((2001 ≤ (h.I 17 6) → (Q (.inl none) h)) ∧ (¬ 2001 ≤ (h.I 17 6) → (q_M0 G d yX8_skipBlanks [.ref 17] h (q_rv (fun h1 => vp_in (h1.I 17 6) 2001 ∧ (q_M0 G d yX8_byteAt [.ref 17, .int (h1.I 17 5)] (h1.sI 19 ((h1.I 17 6).toNatClampNeg) (h1.I 17 5)) (q_ri (fun r4 h3 => q_M0 G d yX8_cutToken [.ref 17, .int r4] h3 (q_ri (fun r6 h5 => vp_in (h5.I 17 6) 2001 ∧ (q_N0 G m_X8_cut (d + 1) Q 17 [.ref 17, .int l1, .int r6] [] ((h5.sI 18 ((h5.I 17 6).toNatClampNeg) r6).sI 17 6 ((h5.I 17 6) + 1)))) (fun E h => Q (.inr E) h))) (fun E h => Q (.inr E) h)))) (fun E h => Q (.inr E) h))))))))) : q_N0 G m_X8_cut (d + 1) Q 17 [.ref 17, .int l1, .int l2] [] h := by
  refine q_iload_n (i := 2) dX8_cut_17 rfl rfl ?_
  refine q_if_eq (tgt := 89) dX8_cut_18 (by decide) (fun hb => ?_) (fun hb => ?_)
  · have hF := hF.1 hb
    exact q_vret rfl (by decide) (by decide) dX8_cut_89 hF
  · have hF := hF.2 hb
    refine q_iload_n (i := 2) dX8_cut_21 rfl rfl ?_
    refine q_iconst (v := 1) dX8_cut_22 (by decide) ?_
    refine q_icmp_eq (tgt := 89) dX8_cut_23 (by decide) (fun hb => ?_) (fun hb => ?_)
    · have hF := hF.1 hb
      exact q_vret rfl (by decide) (by decide) dX8_cut_89 hF
    · have hF := hF.2 hb
      refine q_aload_n (i := 0) dX8_cut_26 rfl rfl ?_
      refine q_getIv (v := h.I 17 6) 9 6 fl_X8_33 (by decide) rfl rfl (rfl) dX8_cut_27 ?_
      refine q_sipush (v := 2001) dX8_cut_30 (by decide) ?_
      refine q_icmp_ge (tgt := 89) dX8_cut_33 (by decide) (fun hb => ?_) (fun hb => ?_)
      · have hF := hF.1 hb
        exact q_vret rfl (by decide) (by decide) dX8_cut_89 hF
      · have hF := hF.2 hb
        refine q_aload_n (i := 0) dX8_cut_36 rfl rfl ?_
        refine q_callVv (ci := 9) (o := 17) (As := []) (st := []) cv_X8_36 ⟨_, _, rfl⟩ (by decide) rfl rfl (Nat.le_refl _) (Nat.le_of_ble_eq_true rfl) (by decide) dX8_cut_37 rfl hF (fun h1 hF => ?_)
        refine q_aload_n (i := 0) dX8_cut_40 rfl rfl ?_
        refine q_getP 9 1 19 fl_X8_15 (by decide) rfl rfl rfl dX8_cut_41 ?_
        refine q_aload_n (i := 0) dX8_cut_44 rfl rfl ?_
        refine q_getIv (v := h1.I 17 6) 9 6 fl_X8_33 (by decide) rfl rfl (rfl) dX8_cut_45 ?_
        refine q_aload_n (i := 0) dX8_cut_48 rfl rfl ?_
        refine q_getIv (v := h1.I 17 5) 9 5 fl_X8_30 (by decide) rfl rfl (rfl) dX8_cut_49 ?_
        obtain ⟨hi2, hF⟩ := hF
        refine q_iastore (n := 2001) (by decide) rfl hi2 dX8_cut_52 ?_
        refine q_aload_n (i := 0) dX8_cut_53 rfl rfl ?_
        refine q_aload_n (i := 0) dX8_cut_54 rfl rfl ?_
        refine q_aload_n (i := 0) dX8_cut_55 rfl rfl ?_
        refine q_getIv (v := h1.I 17 5) 9 5 fl_X8_30 (by decide) rfl rfl ((q_I_neo (by decide)).trans (rfl)) dX8_cut_56 ?_
        refine q_callVi (ci := 9) (o := 17) (As := [.int (h1.I 17 5)]) (st := [.ref 17]) cv_X8_39 ⟨_, _, rfl⟩ (by decide) rfl rfl (Nat.le_refl _) (Nat.le_of_ble_eq_true rfl) (by decide) dX8_cut_59 rfl hF (fun r4 h3 hF => ?_)
        refine q_callVi (ci := 9) (o := 17) (As := [.int r4]) (st := []) cv_X8_43 ⟨_, _, rfl⟩ (by decide) rfl rfl (Nat.le_refl _) (Nat.le_of_ble_eq_true rfl) (by decide) dX8_cut_62 rfl hF (fun r6 h5 hF => ?_)
        refine q_istore_n (i := 2) dX8_cut_65 rfl (by decide) rfl ?_
        refine q_aload_n (i := 0) dX8_cut_66 rfl rfl ?_
        refine q_getP 9 0 18 fl_X8_9 (by decide) rfl rfl rfl dX8_cut_67 ?_
        refine q_aload_n (i := 0) dX8_cut_70 rfl rfl ?_
        refine q_getIv (v := h5.I 17 6) 9 6 fl_X8_33 (by decide) rfl rfl (rfl) dX8_cut_71 ?_
        refine q_iload_n (i := 2) dX8_cut_74 rfl rfl ?_
        obtain ⟨hi7, hF⟩ := hF
        refine q_iastore (n := 2001) (by decide) rfl hi7 dX8_cut_75 ?_
        refine q_aload_n (i := 0) dX8_cut_76 rfl rfl ?_
        refine q_dup dX8_cut_77 rfl ?_
        refine q_getIv (v := h5.I 17 6) 9 6 fl_X8_33 (by decide) rfl rfl ((q_I_neo (by decide)).trans (rfl)) dX8_cut_78 ?_
        refine q_iconst (v := 1) dX8_cut_81 (by decide) ?_
        refine q_iadd dX8_cut_82 ?_
        refine q_putI 9 6 fp_X8_33 (Or.inr ⟨_, _, _, rfl, rfl⟩) (by decide) rfl rfl dX8_cut_83 ?_
        refine q_goto (tgt := 17) dX8_cut_86 (by decide) ?_
        exact hF
def m_X8_skipBlanks : qm := (RX8, cX8_skipBlanks, 1, none, [], false)
set_option maxRecDepth 100000 in
set_option maxHeartbeats 4000000 in
theorem x_X8_skipBlanks (G : qG) (d : Nat)  (h : qh) (Q : qr → qh → Prop)  (hF : q_N0 G m_X8_skipBlanks (d + 1) Q 0 [.ref 17] [] h) : q_M0 G (d + 1) yX8_skipBlanks [.ref 17] h Q := by
  refine q_of (M := m_X8_skipBlanks) (by decide +kernel) rfl rfl cd_X8_skipBlanks (by decide) (Nat.le_of_ble_eq_true rfl) ?_
  show q_N0 G m_X8_skipBlanks (d + 1) Q 0 [.ref 17] [] h
  exact hF
set_option maxRecDepth 100000 in
set_option maxHeartbeats 4000000 in
theorem x_X8_skipBlanks_0 (G : qG) (d : Nat)  (h : qh) (Q : qr → qh → Prop)  (hF : ((h.I 17 4) ≤ (h.I 17 5) → (Q (.inl none) h)) ∧ (¬ (h.I 17 4) ≤ (h.I 17 5) → (q_M0 G d yX8_byteAt [.ref 17, .int (h.I 17 5)] h (q_ri (fun r2 h1 => (r2 = 32 → (q_N0 G m_X8_skipBlanks (d + 1) Q 0 [.ref 17] [] (h1.sI 17 5 ((h1.I 17 5) + 1)))) ∧ (¬ r2 = 32 → (q_M0 G d yX8_byteAt [.ref 17, .int (h1.I 17 5)] h1 (q_ri (fun r4 h3 => (¬ r4 = 10 → (Q (.inl none) h3)) ∧ (r4 = 10 → (q_N0 G m_X8_skipBlanks (d + 1) Q 0 [.ref 17] [] (h3.sI 17 5 ((h3.I 17 5) + 1))))) (fun E h => Q (.inr E) h))))) (fun E h => Q (.inr E) h))))) : q_N0 G m_X8_skipBlanks (d + 1) Q 0 [.ref 17] [] h := by
  refine q_aload_n (i := 0) dX8_skipBlanks_0 rfl rfl ?_
  refine q_getIv (v := h.I 17 5) 9 5 fl_X8_30 (by decide) rfl rfl (rfl) dX8_skipBlanks_1 ?_
  refine q_aload_n (i := 0) dX8_skipBlanks_4 rfl rfl ?_
  refine q_getIv (v := h.I 17 4) 9 4 fl_X8_26 (by decide) rfl rfl (rfl) dX8_skipBlanks_5 ?_
  refine q_icmp_ge (tgt := 50) dX8_skipBlanks_8 (by decide) (fun hb => ?_) (fun hb => ?_)
  · have hF := hF.1 hb
    exact q_vret rfl (by decide) (by decide) dX8_skipBlanks_50 hF
  · have hF := hF.2 hb
    refine q_aload_n (i := 0) dX8_skipBlanks_11 rfl rfl ?_
    refine q_aload_n (i := 0) dX8_skipBlanks_12 rfl rfl ?_
    refine q_getIv (v := h.I 17 5) 9 5 fl_X8_30 (by decide) rfl rfl (rfl) dX8_skipBlanks_13 ?_
    refine q_callVi (ci := 9) (o := 17) (As := [.int (h.I 17 5)]) (st := []) cv_X8_39 ⟨_, _, rfl⟩ (by decide) rfl rfl (Nat.le_refl _) (Nat.le_of_ble_eq_true rfl) (by decide) dX8_skipBlanks_16 rfl hF (fun r2 h1 hF => ?_)
    refine q_bipush (v := 32) dX8_skipBlanks_19 (by decide) ?_
    refine q_icmp_eq (tgt := 37) dX8_skipBlanks_21 (by decide) (fun hb => ?_) (fun hb => ?_)
    · have hF := hF.1 hb
      refine q_aload_n (i := 0) dX8_skipBlanks_37 rfl rfl ?_
      refine q_dup dX8_skipBlanks_38 rfl ?_
      refine q_getIv (v := h1.I 17 5) 9 5 fl_X8_30 (by decide) rfl rfl (rfl) dX8_skipBlanks_39 ?_
      refine q_iconst (v := 1) dX8_skipBlanks_42 (by decide) ?_
      refine q_iadd dX8_skipBlanks_43 ?_
      refine q_putI 9 5 fp_X8_30 (Or.inr ⟨_, _, _, rfl, rfl⟩) (by decide) rfl rfl dX8_skipBlanks_44 ?_
      refine q_goto (tgt := 0) dX8_skipBlanks_47 (by decide) ?_
      exact hF
    · have hF := hF.2 hb
      refine q_aload_n (i := 0) dX8_skipBlanks_24 rfl rfl ?_
      refine q_aload_n (i := 0) dX8_skipBlanks_25 rfl rfl ?_
      refine q_getIv (v := h1.I 17 5) 9 5 fl_X8_30 (by decide) rfl rfl (rfl) dX8_skipBlanks_26 ?_
      refine q_callVi (ci := 9) (o := 17) (As := [.int (h1.I 17 5)]) (st := []) cv_X8_39 ⟨_, _, rfl⟩ (by decide) rfl rfl (Nat.le_refl _) (Nat.le_of_ble_eq_true rfl) (by decide) dX8_skipBlanks_29 rfl hF (fun r4 h3 hF => ?_)
      refine q_bipush (v := 10) dX8_skipBlanks_32 (by decide) ?_
      refine q_icmp_ne (tgt := 50) dX8_skipBlanks_34 (by decide) (fun hb => ?_) (fun hb => ?_)
      · have hF := hF.1 hb
        exact q_vret rfl (by decide) (by decide) dX8_skipBlanks_50 hF
      · have hF := hF.2 hb
        refine q_aload_n (i := 0) dX8_skipBlanks_37 rfl rfl ?_
        refine q_dup dX8_skipBlanks_38 rfl ?_
        refine q_getIv (v := h3.I 17 5) 9 5 fl_X8_30 (by decide) rfl rfl (rfl) dX8_skipBlanks_39 ?_
        refine q_iconst (v := 1) dX8_skipBlanks_42 (by decide) ?_
        refine q_iadd dX8_skipBlanks_43 ?_
        refine q_putI 9 5 fp_X8_30 (Or.inr ⟨_, _, _, rfl, rfl⟩) (by decide) rfl rfl dX8_skipBlanks_44 ?_
        refine q_goto (tgt := 0) dX8_skipBlanks_47 (by decide) ?_
        exact hF
def m_X8_cutToken : qm := (RX8, cX8_cutToken, 2, (some .int), [], false)
set_option maxRecDepth 100000 in
set_option maxHeartbeats 4000000 in
theorem x_X8_cutToken (G : qG) (d : Nat) (x1 : Int32) (h : qh) (Q : qr → qh → Prop)  (hF : (¬ x1 = (-1) → (q_M0 G d yX8_isLetter [.int x1] h (q_ri (fun r2 h1 => (r2 = 0 → (q_M0 G d yX8_isDigit [.int x1] h1 (q_ri (fun r4 h3 => (r4 = 0 → (q_M0 G d yX8_cutSign [.ref 17, .int x1] h3 (q_ri (fun r6 h5 => Q (.inl (some (.int r6))) h5) (fun E h => Q (.inr E) h)))) ∧ (¬ r4 = 0 → (q_M0 G d yX8_cutNumber [.ref 17] h3 (q_ri (fun r8 h7 => Q (.inl (some (.int r8))) h7) (fun E h => Q (.inr E) h))))) (fun E h => Q (.inr E) h)))) ∧ (¬ r2 = 0 → (q_M0 G d yX8_cutName [.ref 17] h1 (q_ri (fun r10 h9 => Q (.inl (some (.int r10))) h9) (fun E h => Q (.inr E) h))))) (fun E h => Q (.inr E) h)))) ∧ (x1 = (-1) → (Q (.inl (some (.int 0))) h))) : q_M0 G (d + 1) yX8_cutToken [.ref 17, .int x1] h Q := by
  refine q_of (M := m_X8_cutToken) (by decide +kernel) rfl rfl cd_X8_cutToken (by decide) (Nat.le_of_ble_eq_true rfl) ?_
  show q_N0 G m_X8_cutToken (d + 1) Q 0 [.ref 17, .int x1] [] h
  refine q_iload_n (i := 1) dX8_cutToken_0 rfl rfl ?_
  refine q_iconst (v := (-1)) dX8_cutToken_1 (by decide) ?_
  refine q_icmp_ne (tgt := 7) dX8_cutToken_2 (by decide) (fun hb => ?_) (fun hb => ?_)
  · have hF := hF.1 hb
    refine q_iload_n (i := 1) dX8_cutToken_7 rfl rfl ?_
    refine q_callSi (As := [.int x1]) (st := []) cs_X8_46 rfl (Nat.le_refl _) (Nat.le_of_ble_eq_true rfl) (by decide) dX8_cutToken_8 rfl hF (fun r2 h1 hF => ?_)
    refine q_if_eq (tgt := 19) dX8_cutToken_11 (by decide) (fun hb => ?_) (fun hb => ?_)
    · have hF := hF.1 hb
      refine q_iload_n (i := 1) dX8_cutToken_19 rfl rfl ?_
      refine q_callSi (As := [.int x1]) (st := []) cs_X8_54 rfl (Nat.le_refl _) (Nat.le_of_ble_eq_true rfl) (by decide) dX8_cutToken_20 rfl hF (fun r4 h3 hF => ?_)
      refine q_if_eq (tgt := 33) dX8_cutToken_23 (by decide) (fun hb => ?_) (fun hb => ?_)
      · have hF := hF.1 hb
        refine q_aload_n (i := 0) dX8_cutToken_33 rfl rfl ?_
        refine q_iload_n (i := 1) dX8_cutToken_34 rfl rfl ?_
        refine q_callVi (ci := 9) (o := 17) (As := [.int x1]) (st := []) cv_X8_60 ⟨_, _, rfl⟩ (by decide) rfl rfl (Nat.le_refl _) (Nat.le_of_ble_eq_true rfl) (by decide) dX8_cutToken_35 rfl hF (fun r6 h5 hF => ?_)
        exact q_iret rfl (by decide) (by decide) dX8_cutToken_38 hF
      · have hF := hF.2 hb
        refine q_aload_n (i := 0) dX8_cutToken_26 rfl rfl ?_
        refine q_callVi (ci := 9) (o := 17) (As := []) (st := []) cv_X8_57 ⟨_, _, rfl⟩ (by decide) rfl rfl (Nat.le_refl _) (Nat.le_of_ble_eq_true rfl) (by decide) dX8_cutToken_27 rfl hF (fun r8 h7 hF => ?_)
        refine q_goto (tgt := 38) dX8_cutToken_30 (by decide) ?_
        exact q_iret rfl (by decide) (by decide) dX8_cutToken_38 hF
    · have hF := hF.2 hb
      refine q_aload_n (i := 0) dX8_cutToken_14 rfl rfl ?_
      refine q_callVi (ci := 9) (o := 17) (As := []) (st := []) cv_X8_50 ⟨_, _, rfl⟩ (by decide) rfl rfl (Nat.le_refl _) (Nat.le_of_ble_eq_true rfl) (by decide) dX8_cutToken_15 rfl hF (fun r10 h9 hF => ?_)
      exact q_iret rfl (by decide) (by decide) dX8_cutToken_18 hF
  · have hF := hF.2 hb
    refine q_iconst (v := 0) dX8_cutToken_5 (by decide) ?_
    exact q_iret rfl (by decide) (by decide) dX8_cutToken_6 hF
def m_X8_cutNumber : qm := (RX8, cX8_cutNumber, 3, (some .int), [], false)
set_option maxRecDepth 100000 in
set_option maxHeartbeats 4000000 in
theorem x_X8_cutNumber (G : qG) (d : Nat)  (h : qh) (Q : qr → qh → Prop)  (hF : q_N0 G m_X8_cutNumber (d + 1) Q 2 [.ref 17, .long 0, .null] [] h) : q_M0 G (d + 1) yX8_cutNumber [.ref 17] h Q := by
  refine q_of (M := m_X8_cutNumber) (by decide +kernel) rfl rfl cd_X8_cutNumber (by decide) (Nat.le_of_ble_eq_true rfl) ?_
  show q_N0 G m_X8_cutNumber (d + 1) Q 0 [.ref 17, .null, .null] [] h
  refine q_lconst (v := 0) dX8_cutNumber_0 (by decide) ?_
  refine q_lstore_n (i := 1) dX8_cutNumber_1 rfl (by decide) rfl ?_
  exact hF
set_option maxRecDepth 100000 in
set_option maxHeartbeats 4000000 in
theorem x_X8_cutNumber_2 (G : qG) (d : Nat) (l1 : Int64) (h : qh) (Q : qr → qh → Prop)  (hF : ((h.I 17 4) ≤ (h.I 17 5) → (vp_in (h.I 17 6) 2001 ∧ ((0 < (lg_cmp l1 2147483647) → (Q (.inl (some (.int 1))) (h.sL 20 ((h.I 17 6).toNatClampNeg) l1))) ∧ (¬ 0 < (lg_cmp l1 2147483647) → (q_M0 G d yX8_byteAt [.ref 17, .int (h.I 17 5)] (h.sL 20 ((h.I 17 6).toNatClampNeg) l1) (q_ri (fun r3 h2 => q_M0 G d yX8_isLetter [.int r3] h2 (q_ri (fun r5 h4 => Q (.inl (some (.int (if r5 = 0 then (3 : Int32) else 1)))) h4) (fun E h => Q (.inr E) h))) (fun E h => Q (.inr E) h))))))) ∧ (¬ (h.I 17 4) ≤ (h.I 17 5) → (q_M0 G d yX8_byteAt [.ref 17, .int (h.I 17 5)] h (q_ri (fun r8 h7 => q_M0 G d yX8_isDigit [.int r8] h7 (q_ri (fun r10 h9 => (r10 = 0 → (vp_in (h9.I 17 6) 2001 ∧ ((0 < (lg_cmp l1 2147483647) → (Q (.inl (some (.int 1))) (h9.sL 20 ((h9.I 17 6).toNatClampNeg) l1))) ∧ (¬ 0 < (lg_cmp l1 2147483647) → (q_M0 G d yX8_byteAt [.ref 17, .int (h9.I 17 5)] (h9.sL 20 ((h9.I 17 6).toNatClampNeg) l1) (q_ri (fun r13 h12 => q_M0 G d yX8_isLetter [.int r13] h12 (q_ri (fun r15 h14 => Q (.inl (some (.int (if r15 = 0 then (3 : Int32) else 1)))) h14) (fun E h => Q (.inr E) h))) (fun E h => Q (.inr E) h))))))) ∧ (¬ r10 = 0 → (q_M0 G d yX8_byteAt [.ref 17, .int (h9.I 17 5)] h9 (q_ri (fun r18 h17 => q_M0 G d yJ9_min_f86c9 [.long (((10 * l1) + r18.toInt64) - 48), .long 2147483648] h17 (q_rl (fun r20 h19 => q_N0 G m_X8_cutNumber (d + 1) Q 2 [.ref 17, .long r20, .null] [] (h19.sI 17 5 ((h19.I 17 5) + 1))) (fun E h => Q (.inr E) h))) (fun E h => Q (.inr E) h))))) (fun E h => Q (.inr E) h))) (fun E h => Q (.inr E) h))))) : q_N0 G m_X8_cutNumber (d + 1) Q 2 [.ref 17, .long l1, .null] [] h := by
  refine q_aload_n (i := 0) dX8_cutNumber_2 rfl rfl ?_
  refine q_getIv (v := h.I 17 5) 9 5 fl_X8_30 (by decide) rfl rfl (rfl) dX8_cutNumber_3 ?_
  refine q_aload_n (i := 0) dX8_cutNumber_6 rfl rfl ?_
  refine q_getIv (v := h.I 17 4) 9 4 fl_X8_26 (by decide) rfl rfl (rfl) dX8_cutNumber_7 ?_
  refine q_icmp_ge (tgt := 66) dX8_cutNumber_10 (by decide) (fun hb => ?_) (fun hb => ?_)
  · have hF := hF.1 hb
    refine q_aload_n (i := 0) dX8_cutNumber_66 rfl rfl ?_
    refine q_getP 9 2 20 fl_X8_18 (by decide) rfl rfl rfl dX8_cutNumber_67 ?_
    refine q_aload_n (i := 0) dX8_cutNumber_70 rfl rfl ?_
    refine q_getIv (v := h.I 17 6) 9 6 fl_X8_33 (by decide) rfl rfl (rfl) dX8_cutNumber_71 ?_
    refine q_lload_n (i := 1) dX8_cutNumber_74 rfl rfl ?_
    obtain ⟨hi1, hF⟩ := hF
    refine q_lastore (n := 2001) (by decide) rfl hi1 dX8_cutNumber_75 ?_
    refine q_lload_n (i := 1) dX8_cutNumber_76 rfl rfl ?_
    refine q_ldc2 cl_X8_78 dX8_cutNumber_77 ?_
    refine q_lcmp dX8_cutNumber_80 ?_
    refine q_if_gt (tgt := 98) dX8_cutNumber_81 (by decide) (fun hb => ?_) (fun hb => ?_)
    · have hF := hF.1 hb
      refine q_iconst (v := 1) dX8_cutNumber_98 (by decide) ?_
      refine q_goto (tgt := 103) dX8_cutNumber_99 (by decide) ?_
      exact q_iret rfl (by decide) (by decide) dX8_cutNumber_103 hF
    · have hF := hF.2 hb
      refine q_aload_n (i := 0) dX8_cutNumber_84 rfl rfl ?_
      refine q_aload_n (i := 0) dX8_cutNumber_85 rfl rfl ?_
      refine q_getIv (v := h.I 17 5) 9 5 fl_X8_30 (by decide) rfl rfl ((q_I_L).trans (rfl)) dX8_cutNumber_86 ?_
      refine q_callVi (ci := 9) (o := 17) (As := [.int (h.I 17 5)]) (st := []) cv_X8_39 ⟨_, _, rfl⟩ (by decide) rfl rfl (Nat.le_refl _) (Nat.le_of_ble_eq_true rfl) (by decide) dX8_cutNumber_89 rfl hF (fun r3 h2 hF => ?_)
      refine q_callSi (As := [.int r3]) (st := []) cs_X8_46 rfl (Nat.le_refl _) (Nat.le_of_ble_eq_true rfl) (by decide) dX8_cutNumber_92 rfl hF (fun r5 h4 hF => ?_)
      have K6 := q_ite (c := r5 = 0) (X := fun v => q_N0 G m_X8_cutNumber (d + 1) Q 103 [.ref 17, .long l1, .null] (.int v :: []) h4) (a := 3) (b := 1) (by
        exact q_iret rfl (by decide) (by decide) dX8_cutNumber_103 hF)
      refine q_if_eq (tgt := 102) dX8_cutNumber_95 (by decide) (fun hb => ?_) (fun hb => ?_)
      · refine q_iconst (v := 3) dX8_cutNumber_102 (by decide) ?_
        exact K6.1 hb
      · refine q_iconst (v := 1) dX8_cutNumber_98 (by decide) ?_
        refine q_goto (tgt := 103) dX8_cutNumber_99 (by decide) ?_
        exact K6.2 hb
  · have hF := hF.2 hb
    refine q_aload_n (i := 0) dX8_cutNumber_13 rfl rfl ?_
    refine q_aload_n (i := 0) dX8_cutNumber_14 rfl rfl ?_
    refine q_getIv (v := h.I 17 5) 9 5 fl_X8_30 (by decide) rfl rfl (rfl) dX8_cutNumber_15 ?_
    refine q_callVi (ci := 9) (o := 17) (As := [.int (h.I 17 5)]) (st := []) cv_X8_39 ⟨_, _, rfl⟩ (by decide) rfl rfl (Nat.le_refl _) (Nat.le_of_ble_eq_true rfl) (by decide) dX8_cutNumber_18 rfl hF (fun r8 h7 hF => ?_)
    refine q_callSi (As := [.int r8]) (st := []) cs_X8_54 rfl (Nat.le_refl _) (Nat.le_of_ble_eq_true rfl) (by decide) dX8_cutNumber_21 rfl hF (fun r10 h9 hF => ?_)
    refine q_if_eq (tgt := 66) dX8_cutNumber_24 (by decide) (fun hb => ?_) (fun hb => ?_)
    · have hF := hF.1 hb
      refine q_aload_n (i := 0) dX8_cutNumber_66 rfl rfl ?_
      refine q_getP 9 2 20 fl_X8_18 (by decide) rfl rfl rfl dX8_cutNumber_67 ?_
      refine q_aload_n (i := 0) dX8_cutNumber_70 rfl rfl ?_
      refine q_getIv (v := h9.I 17 6) 9 6 fl_X8_33 (by decide) rfl rfl (rfl) dX8_cutNumber_71 ?_
      refine q_lload_n (i := 1) dX8_cutNumber_74 rfl rfl ?_
      obtain ⟨hi11, hF⟩ := hF
      refine q_lastore (n := 2001) (by decide) rfl hi11 dX8_cutNumber_75 ?_
      refine q_lload_n (i := 1) dX8_cutNumber_76 rfl rfl ?_
      refine q_ldc2 cl_X8_78 dX8_cutNumber_77 ?_
      refine q_lcmp dX8_cutNumber_80 ?_
      refine q_if_gt (tgt := 98) dX8_cutNumber_81 (by decide) (fun hb => ?_) (fun hb => ?_)
      · have hF := hF.1 hb
        refine q_iconst (v := 1) dX8_cutNumber_98 (by decide) ?_
        refine q_goto (tgt := 103) dX8_cutNumber_99 (by decide) ?_
        exact q_iret rfl (by decide) (by decide) dX8_cutNumber_103 hF
      · have hF := hF.2 hb
        refine q_aload_n (i := 0) dX8_cutNumber_84 rfl rfl ?_
        refine q_aload_n (i := 0) dX8_cutNumber_85 rfl rfl ?_
        refine q_getIv (v := h9.I 17 5) 9 5 fl_X8_30 (by decide) rfl rfl ((q_I_L).trans (rfl)) dX8_cutNumber_86 ?_
        refine q_callVi (ci := 9) (o := 17) (As := [.int (h9.I 17 5)]) (st := []) cv_X8_39 ⟨_, _, rfl⟩ (by decide) rfl rfl (Nat.le_refl _) (Nat.le_of_ble_eq_true rfl) (by decide) dX8_cutNumber_89 rfl hF (fun r13 h12 hF => ?_)
        refine q_callSi (As := [.int r13]) (st := []) cs_X8_46 rfl (Nat.le_refl _) (Nat.le_of_ble_eq_true rfl) (by decide) dX8_cutNumber_92 rfl hF (fun r15 h14 hF => ?_)
        have K16 := q_ite (c := r15 = 0) (X := fun v => q_N0 G m_X8_cutNumber (d + 1) Q 103 [.ref 17, .long l1, .null] (.int v :: []) h14) (a := 3) (b := 1) (by
          exact q_iret rfl (by decide) (by decide) dX8_cutNumber_103 hF)
        refine q_if_eq (tgt := 102) dX8_cutNumber_95 (by decide) (fun hb => ?_) (fun hb => ?_)
        · refine q_iconst (v := 3) dX8_cutNumber_102 (by decide) ?_
          exact K16.1 hb
        · refine q_iconst (v := 1) dX8_cutNumber_98 (by decide) ?_
          refine q_goto (tgt := 103) dX8_cutNumber_99 (by decide) ?_
          exact K16.2 hb
    · have hF := hF.2 hb
      refine q_ldc2 cl_X8_66 dX8_cutNumber_27 ?_
      refine q_lload_n (i := 1) dX8_cutNumber_30 rfl rfl ?_
      refine q_lmul dX8_cutNumber_31 ?_
      refine q_aload_n (i := 0) dX8_cutNumber_32 rfl rfl ?_
      refine q_aload_n (i := 0) dX8_cutNumber_33 rfl rfl ?_
      refine q_getIv (v := h9.I 17 5) 9 5 fl_X8_30 (by decide) rfl rfl (rfl) dX8_cutNumber_34 ?_
      refine q_callVi (ci := 9) (o := 17) (As := [.int (h9.I 17 5)]) (st := [.long (10 * l1)]) cv_X8_39 ⟨_, _, rfl⟩ (by decide) rfl rfl (Nat.le_refl _) (Nat.le_of_ble_eq_true rfl) (by decide) dX8_cutNumber_37 rfl hF (fun r18 h17 hF => ?_)
      refine q_i2l (v := r18.toInt64) dX8_cutNumber_40 rfl ?_
      refine q_ladd dX8_cutNumber_41 ?_
      refine q_ldc2 cl_X8_68 dX8_cutNumber_42 ?_
      refine q_lsub dX8_cutNumber_45 ?_
      refine q_ldc2 cl_X8_70 dX8_cutNumber_46 ?_
      refine q_callSl (As := [.long (((10 * l1) + r18.toInt64) - 48), .long 2147483648]) (st := []) cs_X8_72 rfl (Nat.le_refl _) (Nat.le_of_ble_eq_true rfl) (by decide) dX8_cutNumber_49 rfl hF (fun r20 h19 hF => ?_)
      refine q_lstore_n (i := 1) dX8_cutNumber_52 rfl (by decide) rfl ?_
      refine q_aload_n (i := 0) dX8_cutNumber_53 rfl rfl ?_
      refine q_dup dX8_cutNumber_54 rfl ?_
      refine q_getIv (v := h19.I 17 5) 9 5 fl_X8_30 (by decide) rfl rfl (rfl) dX8_cutNumber_55 ?_
      refine q_iconst (v := 1) dX8_cutNumber_58 (by decide) ?_
      refine q_iadd dX8_cutNumber_59 ?_
      refine q_putI 9 5 fp_X8_30 (Or.inr ⟨_, _, _, rfl, rfl⟩) (by decide) rfl rfl dX8_cutNumber_60 ?_
      refine q_goto (tgt := 2) dX8_cutNumber_63 (by decide) ?_
      exact hF
def m_X8_byteAt : qm := (RX8, cX8_byteAt, 2, (some .int), [], false)
set_option maxRecDepth 100000 in
set_option maxHeartbeats 4000000 in
theorem x_X8_byteAt (G : qG) (d : Nat) (x1 : Int32) (h : qh) (Q : qr → qh → Prop)  (hF : (x1 < 0 → (Q (.inl (some (.int (-1)))) h)) ∧ (¬ x1 < 0 → (((h.I 17 4) ≤ x1 → (Q (.inl (some (.int (-1)))) h)) ∧ (¬ (h.I 17 4) ≤ x1 → ((2000 ≤ x1 → (Q (.inl (some (.int (-1)))) h)) ∧ (¬ 2000 ≤ x1 → (vp_in x1 2000 ∧ (Q (.inl (some (.int ((h.I 16 x1.toNatClampNeg) &&& 255)))) h)))))))) : q_M0 G (d + 1) yX8_byteAt [.ref 17, .int x1] h Q := by
  refine q_of (M := m_X8_byteAt) (by decide +kernel) rfl rfl cd_X8_byteAt (by decide) (Nat.le_of_ble_eq_true rfl) ?_
  show q_N0 G m_X8_byteAt (d + 1) Q 0 [.ref 17, .int x1] [] h
  refine q_iload_n (i := 1) dX8_byteAt_0 rfl rfl ?_
  refine q_if_lt (tgt := 32) dX8_byteAt_1 (by decide) (fun hb => ?_) (fun hb => ?_)
  · have hF := hF.1 hb
    refine q_iconst (v := (-1)) dX8_byteAt_32 (by decide) ?_
    exact q_iret rfl (by decide) (by decide) dX8_byteAt_33 hF
  · have hF := hF.2 hb
    refine q_iload_n (i := 1) dX8_byteAt_4 rfl rfl ?_
    refine q_aload_n (i := 0) dX8_byteAt_5 rfl rfl ?_
    refine q_getIv (v := h.I 17 4) 9 4 fl_X8_26 (by decide) rfl rfl (rfl) dX8_byteAt_6 ?_
    refine q_icmp_ge (tgt := 32) dX8_byteAt_9 (by decide) (fun hb => ?_) (fun hb => ?_)
    · have hF := hF.1 hb
      refine q_iconst (v := (-1)) dX8_byteAt_32 (by decide) ?_
      exact q_iret rfl (by decide) (by decide) dX8_byteAt_33 hF
    · have hF := hF.2 hb
      refine q_iload_n (i := 1) dX8_byteAt_12 rfl rfl ?_
      refine q_sipush (v := 2000) dX8_byteAt_13 (by decide) ?_
      refine q_icmp_ge (tgt := 32) dX8_byteAt_16 (by decide) (fun hb => ?_) (fun hb => ?_)
      · have hF := hF.1 hb
        refine q_iconst (v := (-1)) dX8_byteAt_32 (by decide) ?_
        exact q_iret rfl (by decide) (by decide) dX8_byteAt_33 hF
      · have hF := hF.2 hb
        refine q_aload_n (i := 0) dX8_byteAt_19 rfl rfl ?_
        refine q_getP 9 3 16 fl_X8_22 (by decide) rfl rfl rfl dX8_byteAt_20 ?_
        refine q_iload_n (i := 1) dX8_byteAt_23 rfl rfl ?_
        obtain ⟨hi1, hF⟩ := hF
        refine q_baloadv (v := h.I 16 x1.toNatClampNeg) (n := 2000) (by decide) rfl hi1 (rfl) dX8_byteAt_24 ?_
        refine q_sipush (v := 255) dX8_byteAt_25 (by decide) ?_
        refine q_iand dX8_byteAt_28 ?_
        refine q_goto (tgt := 33) dX8_byteAt_29 (by decide) ?_
        exact q_iret rfl (by decide) (by decide) dX8_byteAt_33 hF
def m_X8_isLetter : qm := (RX8, cX8_isLetter, 1, (some .boolean), [], false)
set_option maxRecDepth 100000 in
set_option maxHeartbeats 4000000 in
theorem x_X8_isLetter (G : qG) (d : Nat) (x1 : Int32) (h : qh) (Q : qr → qh → Prop)  (hF : (x1 < 97 → (Q (.inl (some (.int 0))) h)) ∧ (¬ x1 < 97 → (((if 122 < x1 then (0 : Int32) else 1) = 0 ∨ (if 122 < x1 then (0 : Int32) else 1) = 1) ∧ Q (.inl (some (.int (if 122 < x1 then (0 : Int32) else 1)))) h))) : q_M0 G (d + 1) yX8_isLetter [.int x1] h Q := by
  refine q_of (M := m_X8_isLetter) (by decide +kernel) rfl rfl cd_X8_isLetter (by decide) (Nat.le_of_ble_eq_true rfl) ?_
  show q_N0 G m_X8_isLetter (d + 1) Q 0 [.int x1] [] h
  refine q_iload_n (i := 0) dX8_isLetter_0 rfl rfl ?_
  refine q_bipush (v := 97) dX8_isLetter_1 (by decide) ?_
  refine q_icmp_lt (tgt := 16) dX8_isLetter_3 (by decide) (fun hb => ?_) (fun hb => ?_)
  · have hF := hF.1 hb
    refine q_iconst (v := 0) dX8_isLetter_16 (by decide) ?_
    exact q_zret rfl (by decide) (by decide) (by decide) dX8_isLetter_17 hF
  · have hF := hF.2 hb
    refine q_iload_n (i := 0) dX8_isLetter_6 rfl rfl ?_
    refine q_bipush (v := 122) dX8_isLetter_7 (by decide) ?_
    have K1 := q_ite (c := 122 < x1) (X := fun v => q_N0 G m_X8_isLetter (d + 1) Q 17 [.int x1] (.int v :: []) h) (a := 0) (b := 1) (by
      exact q_zret rfl hF.1 (by decide) (by decide) dX8_isLetter_17 hF.2)
    refine q_icmp_gt (tgt := 16) dX8_isLetter_9 (by decide) (fun hb => ?_) (fun hb => ?_)
    · refine q_iconst (v := 0) dX8_isLetter_16 (by decide) ?_
      exact K1.1 hb
    · refine q_iconst (v := 1) dX8_isLetter_12 (by decide) ?_
      refine q_goto (tgt := 17) dX8_isLetter_13 (by decide) ?_
      exact K1.2 hb
def m_X8_isDigit : qm := (RX8, cX8_isDigit, 1, (some .boolean), [], false)
set_option maxRecDepth 100000 in
set_option maxHeartbeats 4000000 in
theorem x_X8_isDigit (G : qG) (d : Nat) (x1 : Int32) (h : qh) (Q : qr → qh → Prop)  (hF : (x1 < 48 → (Q (.inl (some (.int 0))) h)) ∧ (¬ x1 < 48 → (((if 57 < x1 then (0 : Int32) else 1) = 0 ∨ (if 57 < x1 then (0 : Int32) else 1) = 1) ∧ Q (.inl (some (.int (if 57 < x1 then (0 : Int32) else 1)))) h))) : q_M0 G (d + 1) yX8_isDigit [.int x1] h Q := by
  refine q_of (M := m_X8_isDigit) (by decide +kernel) rfl rfl cd_X8_isDigit (by decide) (Nat.le_of_ble_eq_true rfl) ?_
  show q_N0 G m_X8_isDigit (d + 1) Q 0 [.int x1] [] h
  refine q_iload_n (i := 0) dX8_isDigit_0 rfl rfl ?_
  refine q_bipush (v := 48) dX8_isDigit_1 (by decide) ?_
  refine q_icmp_lt (tgt := 16) dX8_isDigit_3 (by decide) (fun hb => ?_) (fun hb => ?_)
  · have hF := hF.1 hb
    refine q_iconst (v := 0) dX8_isDigit_16 (by decide) ?_
    exact q_zret rfl (by decide) (by decide) (by decide) dX8_isDigit_17 hF
  · have hF := hF.2 hb
    refine q_iload_n (i := 0) dX8_isDigit_6 rfl rfl ?_
    refine q_bipush (v := 57) dX8_isDigit_7 (by decide) ?_
    have K1 := q_ite (c := 57 < x1) (X := fun v => q_N0 G m_X8_isDigit (d + 1) Q 17 [.int x1] (.int v :: []) h) (a := 0) (b := 1) (by
      exact q_zret rfl hF.1 (by decide) (by decide) dX8_isDigit_17 hF.2)
    refine q_icmp_gt (tgt := 16) dX8_isDigit_9 (by decide) (fun hb => ?_) (fun hb => ?_)
    · refine q_iconst (v := 0) dX8_isDigit_16 (by decide) ?_
      exact K1.1 hb
    · refine q_iconst (v := 1) dX8_isDigit_12 (by decide) ?_
      refine q_goto (tgt := 17) dX8_isDigit_13 (by decide) ?_
      exact K1.2 hb
def m_X9_forget : qm := (RX9, cX9_forget, 1, none, [], false)
set_option maxRecDepth 100000 in
set_option maxHeartbeats 4000000 in
theorem x_X9_forget (G : qG) (d : Nat)  (h : qh) (Q : qr → qh → Prop)  (hF : q_M0 G d yX3_begin [.ref 31] h (q_rv (fun h1 => Q (.inl none) ((((h1.sI 37 1 0).sI 38 9 (-1)).sI 38 10 0).sI 38 11 0)) (fun E h => Q (.inr E) h))) : q_M0 G (d + 1) yX9_forget [.ref 38] h Q := by
  refine q_of (M := m_X9_forget) (by decide +kernel) rfl rfl cd_X9_forget (by decide) (Nat.le_of_ble_eq_true rfl) ?_
  show q_N0 G m_X9_forget (d + 1) Q 0 [.ref 38] [] h
  refine q_aload_n (i := 0) dX9_forget_0 rfl rfl ?_
  refine q_getP 10 0 31 fl_X9_22 (by decide) rfl rfl rfl dX9_forget_1 ?_
  refine q_callVv (ci := 4) (o := 31) (As := []) (st := []) cv_X9_38 ⟨_, _, rfl⟩ (by decide) rfl rfl (Nat.le_refl _) (Nat.le_of_ble_eq_true rfl) (by decide) dX9_forget_4 rfl hF (fun h1 hF => ?_)
  refine q_aload_n (i := 0) dX9_forget_7 rfl rfl ?_
  refine q_getP 10 1 37 fl_X9_26 (by decide) rfl rfl rfl dX9_forget_8 ?_
  refine q_iconst (v := 0) dX9_forget_11 (by decide) ?_
  refine q_putI 7 1 fp_X9_43 (Or.inr ⟨_, _, _, rfl, rfl⟩) (by decide) rfl rfl dX9_forget_12 ?_
  refine q_aload_n (i := 0) dX9_forget_15 rfl rfl ?_
  refine q_iconst (v := (-1)) dX9_forget_16 (by decide) ?_
  refine q_putI 10 9 fp_X9_34 (Or.inr ⟨_, _, _, rfl, rfl⟩) (by decide) rfl rfl dX9_forget_17 ?_
  refine q_aload_n (i := 0) dX9_forget_20 rfl rfl ?_
  refine q_iconst (v := 0) dX9_forget_21 (by decide) ?_
  refine q_putI 10 10 fp_X9_48 (Or.inr ⟨_, _, _, rfl, rfl⟩) (by decide) rfl rfl dX9_forget_22 ?_
  refine q_aload_n (i := 0) dX9_forget_25 rfl rfl ?_
  refine q_iconst (v := 0) dX9_forget_26 (by decide) ?_
  refine q_putI 10 11 fp_X9_51 (Or.inr ⟨_, _, _, rfl, rfl⟩) (by decide) rfl rfl dX9_forget_27 ?_
  exact q_vret rfl (by decide) (by decide) dX9_forget_30 hF
def m_X9_perform : qm := (RX9, cX9_perform, 5, (some .int), [], false)
set_option maxRecDepth 100000 in
set_option maxHeartbeats 4000000 in
theorem x_X9_perform (G : qG) (d : Nat) (x1 : Nat) (x3 : Int32) (h : qh) (Q : qr → qh → Prop) (hx1 : q_cir x1) (hF : q_M0 G d yX9_forget [.ref 38] h (q_rv (fun h1 => q_M0 G d yX9_begin [.ref 38, .ref x1, .ref 42, .int x3] h1 (q_rv (fun h2 => q_N0 G m_X9_perform (d + 1) Q 14 [.ref 38, .ref x1, .ref 42, .int x3, .int 0] [] h2) (fun E h => Q (.inr E) h))) (fun E h => Q (.inr E) h))) : q_M0 G (d + 1) yX9_perform [.ref 38, .ref x1, .ref 42, .int x3] h Q := by
  refine q_of (M := m_X9_perform) (by decide +kernel) rfl rfl cd_X9_perform (by decide) (Nat.le_of_ble_eq_true rfl) ?_
  show q_N0 G m_X9_perform (d + 1) Q 0 [.ref 38, .ref x1, .ref 42, .int x3, .null] [] h
  refine q_aload_n (i := 0) dX9_perform_0 rfl rfl ?_
  refine q_callVv (ci := 10) (o := 38) (As := []) (st := []) cv_X9_54 ⟨_, _, rfl⟩ (by decide) rfl rfl (Nat.le_refl _) (Nat.le_of_ble_eq_true rfl) (by decide) dX9_perform_1 rfl hF (fun h1 hF => ?_)
  refine q_aload_n (i := 0) dX9_perform_4 rfl rfl ?_
  refine q_aload_n (i := 1) dX9_perform_5 rfl rfl ?_
  refine q_aload_n (i := 2) dX9_perform_6 rfl rfl ?_
  refine q_iload_n (i := 3) dX9_perform_7 rfl rfl ?_
  refine q_callVv (ci := 10) (o := 38) (As := [.ref x1, .ref 42, .int x3]) (st := []) cv_X9_57 ⟨_, _, rfl⟩ (by decide) rfl rfl (Nat.le_refl _) (Nat.le_of_ble_eq_true rfl) (by decide) dX9_perform_8 rfl hF (fun h2 hF => ?_)
  refine q_iconst (v := 0) dX9_perform_11 (by decide) ?_
  refine q_istore dX9_perform_12 (by decide) rfl ?_
  exact hF
set_option maxRecDepth 100000 in
set_option maxHeartbeats 4000000 in
theorem x_X9_perform_14 (G : qG) (d : Nat) (x1 : Nat) (l3 : Int32) (l4 : Int32) (h : qh) (Q : qr → qh → Prop) (hx1 : q_cir x1) (hF : ((h.I 38 6) = (-1) → ((l4 < 268800000 → ((¬ (h.I 38 9) = 0 → (Q (.inl (some (.int (h.I 38 9)))) (h.sI 38 12 l4))) ∧ ((h.I 38 9) = 0 → (Q (.inl (some (.int (h.I 38 9)))) ((h.sI 38 12 l4).sI 38 13 ((h.I 38 13) + (h.I 38 8))))))) ∧ (¬ l4 < 268800000 → ((¬ (h.I 38 9) = 0 → (Q (.inl (some (.int (h.I 38 9)))) ((h.sI 38 12 l4).sI 38 14 ((h.I 38 14) + 1)))) ∧ ((h.I 38 9) = 0 → (Q (.inl (some (.int (h.I 38 9)))) (((h.sI 38 12 l4).sI 38 14 ((h.I 38 14) + 1)).sI 38 13 ((h.I 38 13) + (h.I 38 8))))))))) ∧ (¬ (h.I 38 6) = (-1) → ((268800000 ≤ l4 → ((l4 < 268800000 → ((¬ (h.I 38 9) = 0 → (Q (.inl (some (.int (h.I 38 9)))) (h.sI 38 12 l4))) ∧ ((h.I 38 9) = 0 → (Q (.inl (some (.int (h.I 38 9)))) ((h.sI 38 12 l4).sI 38 13 ((h.I 38 13) + (h.I 38 8))))))) ∧ (¬ l4 < 268800000 → ((¬ (h.I 38 9) = 0 → (Q (.inl (some (.int (h.I 38 9)))) ((h.sI 38 12 l4).sI 38 14 ((h.I 38 14) + 1)))) ∧ ((h.I 38 9) = 0 → (Q (.inl (some (.int (h.I 38 9)))) (((h.sI 38 12 l4).sI 38 14 ((h.I 38 14) + 1)).sI 38 13 ((h.I 38 13) + (h.I 38 8))))))))) ∧ (¬ 268800000 ≤ l4 → (q_M0 G d yX9_isReady [.ref 38] h (q_ri (fun r4 h3 => (r4 = 0 → (q_M0 G d yJ9_max_7cf53 [.int 1, .int 1] h3 (q_ri (fun r6 h5 => q_N0 G m_X9_perform (d + 1) Q 14 [.ref 38, .ref x1, .ref 42, .int l3, .int (l4 + r6)] [] h5) (fun E h => Q (.inr E) h)))) ∧ (¬ r4 = 0 → (q_M0 G d yX9_work [.ref 38, .int l4] h3 (q_ri (fun r8 h7 => q_M0 G d yJ9_max_7cf53 [.int r8, .int 1] h7 (q_ri (fun r10 h9 => q_N0 G m_X9_perform (d + 1) Q 14 [.ref 38, .ref x1, .ref 42, .int l3, .int (l4 + r10)] [] h9) (fun E h => Q (.inr E) h))) (fun E h => Q (.inr E) h))))) (fun E h => Q (.inr E) h))))))) : q_N0 G m_X9_perform (d + 1) Q 14 [.ref 38, .ref x1, .ref 42, .int l3, .int l4] [] h := by
  refine q_aload_n (i := 0) dX9_perform_14 rfl rfl ?_
  refine q_getIv (v := h.I 38 6) 10 6 fl_X9_60 (by decide) rfl rfl (rfl) dX9_perform_15 ?_
  refine q_iconst (v := (-1)) dX9_perform_18 (by decide) ?_
  refine q_icmp_eq (tgt := 58) dX9_perform_19 (by decide) (fun hb => ?_) (fun hb => ?_)
  · have hF := hF.1 hb
    refine q_aload_n (i := 0) dX9_perform_58 rfl rfl ?_
    refine q_iload dX9_perform_59 rfl ?_
    refine q_putI 10 12 fp_X9_78 (Or.inr ⟨_, _, _, rfl, rfl⟩) (by decide) rfl rfl dX9_perform_61 ?_
    refine q_aload_n (i := 0) dX9_perform_64 rfl rfl ?_
    refine q_getIv (v := l4) 10 12 fl_X9_78 (by decide) rfl rfl (q_I_same _ _ _ _) dX9_perform_65 ?_
    refine q_ldci ci_X9_63 dX9_perform_68 ?_
    refine q_icmp_lt (tgt := 83) dX9_perform_70 (by decide) (fun hb => ?_) (fun hb => ?_)
    · have hF := hF.1 hb
      refine q_aload_n (i := 0) dX9_perform_83 rfl rfl ?_
      refine q_getIv (v := h.I 38 9) 10 9 fl_X9_34 (by decide) rfl rfl ((q_I_nek (by decide)).trans (rfl)) dX9_perform_84 ?_
      refine q_if_ne (tgt := 103) dX9_perform_87 (by decide) (fun hb => ?_) (fun hb => ?_)
      · have hF := hF.1 hb
        refine q_aload_n (i := 0) dX9_perform_103 rfl rfl ?_
        refine q_getIv (v := h.I 38 9) 10 9 fl_X9_34 (by decide) rfl rfl ((q_I_nek (by decide)).trans (rfl)) dX9_perform_104 ?_
        exact q_iret rfl (by decide) (by decide) dX9_perform_107 hF
      · have hF := hF.2 hb
        refine q_aload_n (i := 0) dX9_perform_90 rfl rfl ?_
        refine q_dup dX9_perform_91 rfl ?_
        refine q_getIv (v := h.I 38 13) 10 13 fl_X9_84 (by decide) rfl rfl ((q_I_nek (by decide)).trans (rfl)) dX9_perform_92 ?_
        refine q_aload_n (i := 0) dX9_perform_95 rfl rfl ?_
        refine q_getIv (v := h.I 38 8) 10 8 fl_X9_87 (by decide) rfl rfl ((q_I_nek (by decide)).trans (rfl)) dX9_perform_96 ?_
        refine q_iadd dX9_perform_99 ?_
        refine q_putI 10 13 fp_X9_84 (Or.inr ⟨_, _, _, rfl, rfl⟩) (by decide) rfl rfl dX9_perform_100 ?_
        refine q_aload_n (i := 0) dX9_perform_103 rfl rfl ?_
        refine q_getIv (v := h.I 38 9) 10 9 fl_X9_34 (by decide) rfl rfl ((q_I_nek (by decide)).trans ( (q_I_nek (by decide)).trans (rfl))) dX9_perform_104 ?_
        exact q_iret rfl (by decide) (by decide) dX9_perform_107 hF
    · have hF := hF.2 hb
      refine q_aload_n (i := 0) dX9_perform_73 rfl rfl ?_
      refine q_dup dX9_perform_74 rfl ?_
      refine q_getIv (v := h.I 38 14) 10 14 fl_X9_81 (by decide) rfl rfl ((q_I_nek (by decide)).trans (rfl)) dX9_perform_75 ?_
      refine q_iconst (v := 1) dX9_perform_78 (by decide) ?_
      refine q_iadd dX9_perform_79 ?_
      refine q_putI 10 14 fp_X9_81 (Or.inr ⟨_, _, _, rfl, rfl⟩) (by decide) rfl rfl dX9_perform_80 ?_
      refine q_aload_n (i := 0) dX9_perform_83 rfl rfl ?_
      refine q_getIv (v := h.I 38 9) 10 9 fl_X9_34 (by decide) rfl rfl ((q_I_nek (by decide)).trans ( (q_I_nek (by decide)).trans (rfl))) dX9_perform_84 ?_
      refine q_if_ne (tgt := 103) dX9_perform_87 (by decide) (fun hb => ?_) (fun hb => ?_)
      · have hF := hF.1 hb
        refine q_aload_n (i := 0) dX9_perform_103 rfl rfl ?_
        refine q_getIv (v := h.I 38 9) 10 9 fl_X9_34 (by decide) rfl rfl ((q_I_nek (by decide)).trans ( (q_I_nek (by decide)).trans (rfl))) dX9_perform_104 ?_
        exact q_iret rfl (by decide) (by decide) dX9_perform_107 hF
      · have hF := hF.2 hb
        refine q_aload_n (i := 0) dX9_perform_90 rfl rfl ?_
        refine q_dup dX9_perform_91 rfl ?_
        refine q_getIv (v := h.I 38 13) 10 13 fl_X9_84 (by decide) rfl rfl ((q_I_nek (by decide)).trans ( (q_I_nek (by decide)).trans (rfl))) dX9_perform_92 ?_
        refine q_aload_n (i := 0) dX9_perform_95 rfl rfl ?_
        refine q_getIv (v := h.I 38 8) 10 8 fl_X9_87 (by decide) rfl rfl ((q_I_nek (by decide)).trans ( (q_I_nek (by decide)).trans (rfl))) dX9_perform_96 ?_
        refine q_iadd dX9_perform_99 ?_
        refine q_putI 10 13 fp_X9_84 (Or.inr ⟨_, _, _, rfl, rfl⟩) (by decide) rfl rfl dX9_perform_100 ?_
        refine q_aload_n (i := 0) dX9_perform_103 rfl rfl ?_
        refine q_getIv (v := h.I 38 9) 10 9 fl_X9_34 (by decide) rfl rfl ((q_I_nek (by decide)).trans ( (q_I_nek (by decide)).trans ( (q_I_nek (by decide)).trans (rfl)))) dX9_perform_104 ?_
        exact q_iret rfl (by decide) (by decide) dX9_perform_107 hF
  · have hF := hF.2 hb
    refine q_iload dX9_perform_22 rfl ?_
    refine q_ldci ci_X9_63 dX9_perform_24 ?_
    refine q_icmp_ge (tgt := 58) dX9_perform_26 (by decide) (fun hb => ?_) (fun hb => ?_)
    · have hF := hF.1 hb
      refine q_aload_n (i := 0) dX9_perform_58 rfl rfl ?_
      refine q_iload dX9_perform_59 rfl ?_
      refine q_putI 10 12 fp_X9_78 (Or.inr ⟨_, _, _, rfl, rfl⟩) (by decide) rfl rfl dX9_perform_61 ?_
      refine q_aload_n (i := 0) dX9_perform_64 rfl rfl ?_
      refine q_getIv (v := l4) 10 12 fl_X9_78 (by decide) rfl rfl (q_I_same _ _ _ _) dX9_perform_65 ?_
      refine q_ldci ci_X9_63 dX9_perform_68 ?_
      refine q_icmp_lt (tgt := 83) dX9_perform_70 (by decide) (fun hb => ?_) (fun hb => ?_)
      · have hF := hF.1 hb
        refine q_aload_n (i := 0) dX9_perform_83 rfl rfl ?_
        refine q_getIv (v := h.I 38 9) 10 9 fl_X9_34 (by decide) rfl rfl ((q_I_nek (by decide)).trans (rfl)) dX9_perform_84 ?_
        refine q_if_ne (tgt := 103) dX9_perform_87 (by decide) (fun hb => ?_) (fun hb => ?_)
        · have hF := hF.1 hb
          refine q_aload_n (i := 0) dX9_perform_103 rfl rfl ?_
          refine q_getIv (v := h.I 38 9) 10 9 fl_X9_34 (by decide) rfl rfl ((q_I_nek (by decide)).trans (rfl)) dX9_perform_104 ?_
          exact q_iret rfl (by decide) (by decide) dX9_perform_107 hF
        · have hF := hF.2 hb
          refine q_aload_n (i := 0) dX9_perform_90 rfl rfl ?_
          refine q_dup dX9_perform_91 rfl ?_
          refine q_getIv (v := h.I 38 13) 10 13 fl_X9_84 (by decide) rfl rfl ((q_I_nek (by decide)).trans (rfl)) dX9_perform_92 ?_
          refine q_aload_n (i := 0) dX9_perform_95 rfl rfl ?_
          refine q_getIv (v := h.I 38 8) 10 8 fl_X9_87 (by decide) rfl rfl ((q_I_nek (by decide)).trans (rfl)) dX9_perform_96 ?_
          refine q_iadd dX9_perform_99 ?_
          refine q_putI 10 13 fp_X9_84 (Or.inr ⟨_, _, _, rfl, rfl⟩) (by decide) rfl rfl dX9_perform_100 ?_
          refine q_aload_n (i := 0) dX9_perform_103 rfl rfl ?_
          refine q_getIv (v := h.I 38 9) 10 9 fl_X9_34 (by decide) rfl rfl ((q_I_nek (by decide)).trans ( (q_I_nek (by decide)).trans (rfl))) dX9_perform_104 ?_
          exact q_iret rfl (by decide) (by decide) dX9_perform_107 hF
      · have hF := hF.2 hb
        refine q_aload_n (i := 0) dX9_perform_73 rfl rfl ?_
        refine q_dup dX9_perform_74 rfl ?_
        refine q_getIv (v := h.I 38 14) 10 14 fl_X9_81 (by decide) rfl rfl ((q_I_nek (by decide)).trans (rfl)) dX9_perform_75 ?_
        refine q_iconst (v := 1) dX9_perform_78 (by decide) ?_
        refine q_iadd dX9_perform_79 ?_
        refine q_putI 10 14 fp_X9_81 (Or.inr ⟨_, _, _, rfl, rfl⟩) (by decide) rfl rfl dX9_perform_80 ?_
        refine q_aload_n (i := 0) dX9_perform_83 rfl rfl ?_
        refine q_getIv (v := h.I 38 9) 10 9 fl_X9_34 (by decide) rfl rfl ((q_I_nek (by decide)).trans ( (q_I_nek (by decide)).trans (rfl))) dX9_perform_84 ?_
        refine q_if_ne (tgt := 103) dX9_perform_87 (by decide) (fun hb => ?_) (fun hb => ?_)
        · have hF := hF.1 hb
          refine q_aload_n (i := 0) dX9_perform_103 rfl rfl ?_
          refine q_getIv (v := h.I 38 9) 10 9 fl_X9_34 (by decide) rfl rfl ((q_I_nek (by decide)).trans ( (q_I_nek (by decide)).trans (rfl))) dX9_perform_104 ?_
          exact q_iret rfl (by decide) (by decide) dX9_perform_107 hF
        · have hF := hF.2 hb
          refine q_aload_n (i := 0) dX9_perform_90 rfl rfl ?_
          refine q_dup dX9_perform_91 rfl ?_
          refine q_getIv (v := h.I 38 13) 10 13 fl_X9_84 (by decide) rfl rfl ((q_I_nek (by decide)).trans ( (q_I_nek (by decide)).trans (rfl))) dX9_perform_92 ?_
          refine q_aload_n (i := 0) dX9_perform_95 rfl rfl ?_
          refine q_getIv (v := h.I 38 8) 10 8 fl_X9_87 (by decide) rfl rfl ((q_I_nek (by decide)).trans ( (q_I_nek (by decide)).trans (rfl))) dX9_perform_96 ?_
          refine q_iadd dX9_perform_99 ?_
          refine q_putI 10 13 fp_X9_84 (Or.inr ⟨_, _, _, rfl, rfl⟩) (by decide) rfl rfl dX9_perform_100 ?_
          refine q_aload_n (i := 0) dX9_perform_103 rfl rfl ?_
          refine q_getIv (v := h.I 38 9) 10 9 fl_X9_34 (by decide) rfl rfl ((q_I_nek (by decide)).trans ( (q_I_nek (by decide)).trans ( (q_I_nek (by decide)).trans (rfl)))) dX9_perform_104 ?_
          exact q_iret rfl (by decide) (by decide) dX9_perform_107 hF
    · have hF := hF.2 hb
      refine q_iload dX9_perform_29 rfl ?_
      refine q_aload_n (i := 0) dX9_perform_31 rfl rfl ?_
      refine q_callVi (ci := 10) (o := 38) (As := []) (st := [.int l4]) cv_X9_64 ⟨_, _, rfl⟩ (by decide) rfl rfl (Nat.le_refl _) (Nat.le_of_ble_eq_true rfl) (by decide) dX9_perform_32 rfl hF (fun r4 h3 hF => ?_)
      refine q_if_eq (tgt := 47) dX9_perform_35 (by decide) (fun hb => ?_) (fun hb => ?_)
      · have hF := hF.1 hb
        refine q_iconst (v := 1) dX9_perform_47 (by decide) ?_
        refine q_iconst (v := 1) dX9_perform_48 (by decide) ?_
        refine q_callSi (As := [.int 1, .int 1]) (st := [.int l4]) cs_X9_72 rfl (Nat.le_refl _) (Nat.le_of_ble_eq_true rfl) (by decide) dX9_perform_49 rfl hF (fun r6 h5 hF => ?_)
        refine q_iadd dX9_perform_52 ?_
        refine q_istore dX9_perform_53 (by decide) rfl ?_
        refine q_goto (tgt := 14) dX9_perform_55 (by decide) ?_
        exact hF
      · have hF := hF.2 hb
        refine q_aload_n (i := 0) dX9_perform_38 rfl rfl ?_
        refine q_iload dX9_perform_39 rfl ?_
        refine q_callVi (ci := 10) (o := 38) (As := [.int l4]) (st := [.int l4]) cv_X9_68 ⟨_, _, rfl⟩ (by decide) rfl rfl (Nat.le_refl _) (Nat.le_of_ble_eq_true rfl) (by decide) dX9_perform_41 rfl hF (fun r8 h7 hF => ?_)
        refine q_goto (tgt := 48) dX9_perform_44 (by decide) ?_
        refine q_iconst (v := 1) dX9_perform_48 (by decide) ?_
        refine q_callSi (As := [.int r8, .int 1]) (st := [.int l4]) cs_X9_72 rfl (Nat.le_refl _) (Nat.le_of_ble_eq_true rfl) (by decide) dX9_perform_49 rfl hF (fun r10 h9 hF => ?_)
        refine q_iadd dX9_perform_52 ?_
        refine q_istore dX9_perform_53 (by decide) rfl ?_
        refine q_goto (tgt := 14) dX9_perform_55 (by decide) ?_
        exact hF
def m_X9_begin : qm := (RX9, cX9_begin, 5, none, [], false)
set_option maxRecDepth 100000 in
set_option maxHeartbeats 4000000 in
theorem x_X9_begin (G : qG) (d : Nat) (x1 : Nat) (x3 : Int32) (h : qh) (Q : qr → qh → Prop) (hx1 : q_cir x1) (hF : q_N0 G m_X9_begin (d + 1) Q 13 [.ref 38, .ref x1, .ref 42, .int x3, .int 0] [] ((h.sR 38 5 (some x1)).sI 38 7 x3)) : q_M0 G (d + 1) yX9_begin [.ref 38, .ref x1, .ref 42, .int x3] h Q := by
  refine q_of (M := m_X9_begin) (by decide +kernel) rfl rfl cd_X9_begin (by decide) (Nat.le_of_ble_eq_true rfl) ?_
  show q_N0 G m_X9_begin (d + 1) Q 0 [.ref 38, .ref x1, .ref 42, .int x3, .null] [] h
  refine q_aload_n (i := 0) dX9_begin_0 rfl rfl ?_
  refine q_aload_n (i := 1) dX9_begin_1 rfl rfl ?_
  refine q_putR (v := x1) 10 5 fp_X9_30 (Or.inr ⟨_, _, _, rfl, rfl⟩) (by decide) rfl rfl (by rfl) (Or.inl ⟨_, rfl⟩) dX9_begin_2 ?_
  refine q_aload_n (i := 0) dX9_begin_5 rfl rfl ?_
  refine q_iload_n (i := 3) dX9_begin_6 rfl rfl ?_
  refine q_putI 10 7 fp_X9_90 (Or.inr ⟨_, _, _, rfl, rfl⟩) (by decide) rfl rfl dX9_begin_7 ?_
  refine q_iconst (v := 0) dX9_begin_10 (by decide) ?_
  refine q_istore dX9_begin_11 (by decide) rfl ?_
  exact hF
set_option maxRecDepth 100000 in
set_option maxHeartbeats 4000000 in
theorem x_X9_begin_13 (G : qG) (d : Nat) (x1 : Nat) (l3 : Int32) (l4 : Int32) (h : qh) (Q : qr → qh → Prop) (hx1 : q_cir x1) (hF : ∃ c1, h.R 38 5 = some c1 ∧ q_cir c1 ∧ (((h.I c1 6) ≤ l4 → (q_N0 G m_X9_begin (d + 1) Q 50 [.ref 38, .ref x1, .ref 42, .int l3, .int 0] [] h)) ∧ (¬ (h.I c1 6) ≤ l4 → ((1400 ≤ l4 → (q_N0 G m_X9_begin (d + 1) Q 50 [.ref 38, .ref x1, .ref 42, .int l3, .int 0] [] h)) ∧ (¬ 1400 ≤ l4 → (vp_in l4 1400 ∧ (q_N0 G m_X9_begin (d + 1) Q 13 [.ref 38, .ref x1, .ref 42, .int l3, .int (l4 + 1)] [] (h.sI 40 l4.toNatClampNeg 0)))))))) : q_N0 G m_X9_begin (d + 1) Q 13 [.ref 38, .ref x1, .ref 42, .int l3, .int l4] [] h := by
  refine q_iload dX9_begin_13 rfl ?_
  refine q_aload_n (i := 0) dX9_begin_15 rfl rfl ?_
  obtain ⟨c1, hrc1, hc1, hF⟩ := hF
  refine q_getR (k := c1) 10 5 fl_X9_30 (by decide) rfl rfl hrc1 dX9_begin_16 ?_
  refine q_getIv (v := h.I c1 6) 1 6 fl_X9_93 (q_cir_n hc1 0) (q_cir_K hc1) rfl (rfl) dX9_begin_19 ?_
  refine q_icmp_ge (tgt := 47) dX9_begin_22 (by decide) (fun hb => ?_) (fun hb => ?_)
  · have hF := hF.1 hb
    refine q_iconst (v := 0) dX9_begin_47 (by decide) ?_
    refine q_istore dX9_begin_48 (by decide) rfl ?_
    exact hF
  · have hF := hF.2 hb
    refine q_iload dX9_begin_25 rfl ?_
    refine q_sipush (v := 1400) dX9_begin_27 (by decide) ?_
    refine q_icmp_ge (tgt := 47) dX9_begin_30 (by decide) (fun hb => ?_) (fun hb => ?_)
    · have hF := hF.1 hb
      refine q_iconst (v := 0) dX9_begin_47 (by decide) ?_
      refine q_istore dX9_begin_48 (by decide) rfl ?_
      exact hF
    · have hF := hF.2 hb
      refine q_aload_n (i := 0) dX9_begin_33 rfl rfl ?_
      refine q_getP 10 3 40 fl_X9_15 (by decide) rfl rfl rfl dX9_begin_34 ?_
      refine q_iload dX9_begin_37 rfl ?_
      refine q_iconst (v := 0) dX9_begin_39 (by decide) ?_
      obtain ⟨hi2, hF⟩ := hF
      refine q_zastore (n := 1400) (by decide) rfl hi2 (by decide) dX9_begin_40 ?_
      refine q_iinc (v := l4 + 1) dX9_begin_41 rfl rfl (by decide) rfl ?_
      refine q_goto (tgt := 13) dX9_begin_44 (by decide) ?_
      exact hF
set_option maxRecDepth 100000 in
set_option maxHeartbeats 4000000 in
theorem x_X9_begin_50 (G : qG) (d : Nat) (x1 : Nat) (l3 : Int32) (l4 : Int32) (h : qh) (Q : qr → qh → Prop) (hx1 : q_cir x1) (hF : (4 ≤ l4 → (Q (.inl none) (((h.sI 38 8 0).sI 38 9 1).sI 38 6 0))) ∧ (¬ 4 ≤ l4 → ((16 ≤ l4 → (Q (.inl none) (((h.sI 38 8 0).sI 38 9 1).sI 38 6 0))) ∧ (¬ 16 ≤ l4 → (vp_in l4 4 ∧ (vp_in l4 16 ∧ (q_N0 G m_X9_begin (d + 1) Q 50 [.ref 38, .ref x1, .ref 42, .int l3, .int (l4 + 1)] [] (h.sI 41 l4.toNatClampNeg (h.I 42 l4.toNatClampNeg))))))))) : q_N0 G m_X9_begin (d + 1) Q 50 [.ref 38, .ref x1, .ref 42, .int l3, .int l4] [] h := by
  refine q_iload dX9_begin_50 rfl ?_
  refine q_aload_n (i := 2) dX9_begin_52 rfl rfl ?_
  refine q_alen (t := 0) (n := 4) (v := 4) (by decide) rfl (by decide) (by decide) dX9_begin_53 ?_
  refine q_icmp_ge (tgt := 81) dX9_begin_54 (by decide) (fun hb => ?_) (fun hb => ?_)
  · have hF := hF.1 hb
    refine q_aload_n (i := 0) dX9_begin_81 rfl rfl ?_
    refine q_iconst (v := 0) dX9_begin_82 (by decide) ?_
    refine q_putI 10 8 fp_X9_87 (Or.inr ⟨_, _, _, rfl, rfl⟩) (by decide) rfl rfl dX9_begin_83 ?_
    refine q_aload_n (i := 0) dX9_begin_86 rfl rfl ?_
    refine q_iconst (v := 1) dX9_begin_87 (by decide) ?_
    refine q_putI 10 9 fp_X9_34 (Or.inr ⟨_, _, _, rfl, rfl⟩) (by decide) rfl rfl dX9_begin_88 ?_
    refine q_aload_n (i := 0) dX9_begin_91 rfl rfl ?_
    refine q_iconst (v := 0) dX9_begin_92 (by decide) ?_
    refine q_putI 10 6 fp_X9_60 (Or.inr ⟨_, _, _, rfl, rfl⟩) (by decide) rfl rfl dX9_begin_93 ?_
    exact q_vret rfl (by decide) (by decide) dX9_begin_96 hF
  · have hF := hF.2 hb
    refine q_iload dX9_begin_57 rfl ?_
    refine q_bipush (v := 16) dX9_begin_59 (by decide) ?_
    refine q_icmp_ge (tgt := 81) dX9_begin_61 (by decide) (fun hb => ?_) (fun hb => ?_)
    · have hF := hF.1 hb
      refine q_aload_n (i := 0) dX9_begin_81 rfl rfl ?_
      refine q_iconst (v := 0) dX9_begin_82 (by decide) ?_
      refine q_putI 10 8 fp_X9_87 (Or.inr ⟨_, _, _, rfl, rfl⟩) (by decide) rfl rfl dX9_begin_83 ?_
      refine q_aload_n (i := 0) dX9_begin_86 rfl rfl ?_
      refine q_iconst (v := 1) dX9_begin_87 (by decide) ?_
      refine q_putI 10 9 fp_X9_34 (Or.inr ⟨_, _, _, rfl, rfl⟩) (by decide) rfl rfl dX9_begin_88 ?_
      refine q_aload_n (i := 0) dX9_begin_91 rfl rfl ?_
      refine q_iconst (v := 0) dX9_begin_92 (by decide) ?_
      refine q_putI 10 6 fp_X9_60 (Or.inr ⟨_, _, _, rfl, rfl⟩) (by decide) rfl rfl dX9_begin_93 ?_
      exact q_vret rfl (by decide) (by decide) dX9_begin_96 hF
    · have hF := hF.2 hb
      refine q_aload_n (i := 0) dX9_begin_64 rfl rfl ?_
      refine q_getP 10 4 41 fl_X9_19 (by decide) rfl rfl rfl dX9_begin_65 ?_
      refine q_iload dX9_begin_68 rfl ?_
      refine q_aload_n (i := 2) dX9_begin_70 rfl rfl ?_
      refine q_iload dX9_begin_71 rfl ?_
      obtain ⟨hi3, hF⟩ := hF
      refine q_ialoadv (v := h.I 42 l4.toNatClampNeg) (n := 4) (by decide) rfl hi3 (rfl) dX9_begin_73 ?_
      obtain ⟨hi4, hF⟩ := hF
      refine q_iastore (n := 16) (by decide) rfl hi4 dX9_begin_74 ?_
      refine q_iinc (v := l4 + 1) dX9_begin_75 rfl rfl (by decide) rfl ?_
      refine q_goto (tgt := 50) dX9_begin_78 (by decide) ?_
      exact hF
def m_X9_isReady : qm := (RX9, cX9_isReady, 3, (some .boolean), [], false)
set_option maxRecDepth 100000 in
set_option maxHeartbeats 4000000 in
theorem x_X9_isReady (G : qG) (d : Nat)  (h : qh) (Q : qr → qh → Prop)  (hF : ((h.I 38 6) < 0 → (Q (.inl (some (.int 0))) h)) ∧ (¬ (h.I 38 6) < 0 → (∃ c1, h.R 38 5 = some c1 ∧ q_cir c1 ∧ (((h.I c1 6) ≤ (h.I 38 6) → (Q (.inl (some (.int 0))) h)) ∧ (¬ (h.I c1 6) ≤ (h.I 38 6) → ((1400 ≤ (h.I 38 6) → (Q (.inl (some (.int 0))) h)) ∧ (¬ 1400 ≤ (h.I 38 6) → (vp_in (h.I 38 6) 1400 ∧ (((h.I 40 ((h.I 38 6).toNatClampNeg)) = 0 → (vp_in (h.I 38 6) 1400 ∧ (vp_in (h.I 38 6) 1400 ∧ (((h.I (c1 + 2) ((h.I 38 6).toNatClampNeg)) = (-1) → (((h.I (c1 + 3) ((h.I 38 6).toNatClampNeg)) = (-1) → (Q (.inl (some (.int 1))) h)) ∧ (¬ (h.I (c1 + 3) ((h.I 38 6).toNatClampNeg)) = (-1) → (q_M0 G d yX9_isFull [.ref 38, .int (h.I (c1 + 3) ((h.I 38 6).toNatClampNeg))] h (q_ri (fun r6 h5 => ((if r6 = 0 then (0 : Int32) else 1) = 0 ∨ (if r6 = 0 then (0 : Int32) else 1) = 1) ∧ Q (.inl (some (.int (if r6 = 0 then (0 : Int32) else 1)))) h5) (fun E h => Q (.inr E) h)))))) ∧ (¬ (h.I (c1 + 2) ((h.I 38 6).toNatClampNeg)) = (-1) → (q_M0 G d yX9_isFull [.ref 38, .int (h.I (c1 + 2) ((h.I 38 6).toNatClampNeg))] h (q_ri (fun r9 h8 => (r9 = 0 → (Q (.inl (some (.int 0))) h8)) ∧ (¬ r9 = 0 → (((h.I (c1 + 3) ((h.I 38 6).toNatClampNeg)) = (-1) → (Q (.inl (some (.int 1))) h8)) ∧ (¬ (h.I (c1 + 3) ((h.I 38 6).toNatClampNeg)) = (-1) → (q_M0 G d yX9_isFull [.ref 38, .int (h.I (c1 + 3) ((h.I 38 6).toNatClampNeg))] h8 (q_ri (fun r11 h10 => ((if r11 = 0 then (0 : Int32) else 1) = 0 ∨ (if r11 = 0 then (0 : Int32) else 1) = 1) ∧ Q (.inl (some (.int (if r11 = 0 then (0 : Int32) else 1)))) h10) (fun E h => Q (.inr E) h))))))) (fun E h => Q (.inr E) h)))))))) ∧ (¬ (h.I 40 ((h.I 38 6).toNatClampNeg)) = 0 → (Q (.inl (some (.int 0))) h))))))))))) : q_M0 G (d + 1) yX9_isReady [.ref 38] h Q := by
  refine q_of (M := m_X9_isReady) (by decide +kernel) rfl rfl cd_X9_isReady (by decide) (Nat.le_of_ble_eq_true rfl) ?_
  show q_N0 G m_X9_isReady (d + 1) Q 0 [.ref 38, .null, .null] [] h
  refine q_aload_n (i := 0) dX9_isReady_0 rfl rfl ?_
  refine q_getIv (v := h.I 38 6) 10 6 fl_X9_60 (by decide) rfl rfl (rfl) dX9_isReady_1 ?_
  refine q_if_lt (tgt := 43) dX9_isReady_4 (by decide) (fun hb => ?_) (fun hb => ?_)
  · have hF := hF.1 hb
    refine q_iconst (v := 0) dX9_isReady_43 (by decide) ?_
    exact q_zret rfl (by decide) (by decide) (by decide) dX9_isReady_44 hF
  · have hF := hF.2 hb
    refine q_aload_n (i := 0) dX9_isReady_7 rfl rfl ?_
    refine q_getIv (v := h.I 38 6) 10 6 fl_X9_60 (by decide) rfl rfl (rfl) dX9_isReady_8 ?_
    refine q_aload_n (i := 0) dX9_isReady_11 rfl rfl ?_
    obtain ⟨c1, hrc1, hc1, hF⟩ := hF
    refine q_getR (k := c1) 10 5 fl_X9_30 (by decide) rfl rfl hrc1 dX9_isReady_12 ?_
    refine q_getIv (v := h.I c1 6) 1 6 fl_X9_93 (q_cir_n hc1 0) (q_cir_K hc1) rfl (rfl) dX9_isReady_15 ?_
    refine q_icmp_ge (tgt := 43) dX9_isReady_18 (by decide) (fun hb => ?_) (fun hb => ?_)
    · have hF := hF.1 hb
      refine q_iconst (v := 0) dX9_isReady_43 (by decide) ?_
      exact q_zret rfl (by decide) (by decide) (by decide) dX9_isReady_44 hF
    · have hF := hF.2 hb
      refine q_aload_n (i := 0) dX9_isReady_21 rfl rfl ?_
      refine q_getIv (v := h.I 38 6) 10 6 fl_X9_60 (by decide) rfl rfl (rfl) dX9_isReady_22 ?_
      refine q_sipush (v := 1400) dX9_isReady_25 (by decide) ?_
      refine q_icmp_ge (tgt := 43) dX9_isReady_28 (by decide) (fun hb => ?_) (fun hb => ?_)
      · have hF := hF.1 hb
        refine q_iconst (v := 0) dX9_isReady_43 (by decide) ?_
        exact q_zret rfl (by decide) (by decide) (by decide) dX9_isReady_44 hF
      · have hF := hF.2 hb
        refine q_aload_n (i := 0) dX9_isReady_31 rfl rfl ?_
        refine q_getP 10 3 40 fl_X9_15 (by decide) rfl rfl rfl dX9_isReady_32 ?_
        refine q_aload_n (i := 0) dX9_isReady_35 rfl rfl ?_
        refine q_getIv (v := h.I 38 6) 10 6 fl_X9_60 (by decide) rfl rfl (rfl) dX9_isReady_36 ?_
        obtain ⟨hi2, hF⟩ := hF
        refine q_zaloadv (v := h.I 40 ((h.I 38 6).toNatClampNeg)) (n := 1400) (by decide) rfl hi2 (rfl) dX9_isReady_39 ?_
        refine q_if_eq (tgt := 45) dX9_isReady_40 (by decide) (fun hb => ?_) (fun hb => ?_)
        · have hF := hF.1 hb
          refine q_aload_n (i := 0) dX9_isReady_45 rfl rfl ?_
          refine q_getR (k := c1) 10 5 fl_X9_30 (by decide) rfl rfl hrc1 dX9_isReady_46 ?_
          refine q_getP 1 1 (c1 + 2) fl_X9_98 (q_cir_n hc1 0) (q_cir_K hc1) rfl (q_cir_P hc1 1) dX9_isReady_49 ?_
          refine q_aload_n (i := 0) dX9_isReady_52 rfl rfl ?_
          refine q_getIv (v := h.I 38 6) 10 6 fl_X9_60 (by decide) rfl rfl (rfl) dX9_isReady_53 ?_
          obtain ⟨hi3, hF⟩ := hF
          refine q_ialoadv (v := h.I (c1 + 2) ((h.I 38 6).toNatClampNeg)) (n := 1400) (q_cir_n hc1 2) (q_cir_A hc1 1) hi3 (rfl) dX9_isReady_56 ?_
          refine q_istore_n (i := 1) dX9_isReady_57 rfl (by decide) rfl ?_
          refine q_aload_n (i := 0) dX9_isReady_58 rfl rfl ?_
          refine q_getR (k := c1) 10 5 fl_X9_30 (by decide) rfl rfl hrc1 dX9_isReady_59 ?_
          refine q_getP 1 2 (c1 + 3) fl_X9_101 (q_cir_n hc1 0) (q_cir_K hc1) rfl (q_cir_P hc1 2) dX9_isReady_62 ?_
          refine q_aload_n (i := 0) dX9_isReady_65 rfl rfl ?_
          refine q_getIv (v := h.I 38 6) 10 6 fl_X9_60 (by decide) rfl rfl (rfl) dX9_isReady_66 ?_
          obtain ⟨hi4, hF⟩ := hF
          refine q_ialoadv (v := h.I (c1 + 3) ((h.I 38 6).toNatClampNeg)) (n := 1400) (q_cir_n hc1 3) (q_cir_A hc1 2) hi4 (rfl) dX9_isReady_69 ?_
          refine q_istore_n (i := 2) dX9_isReady_70 rfl (by decide) rfl ?_
          refine q_iload_n (i := 1) dX9_isReady_71 rfl rfl ?_
          refine q_iconst (v := (-1)) dX9_isReady_72 (by decide) ?_
          refine q_icmp_eq (tgt := 84) dX9_isReady_73 (by decide) (fun hb => ?_) (fun hb => ?_)
          · have hF := hF.1 hb
            refine q_iload_n (i := 2) dX9_isReady_84 rfl rfl ?_
            refine q_iconst (v := (-1)) dX9_isReady_85 (by decide) ?_
            refine q_icmp_eq (tgt := 97) dX9_isReady_86 (by decide) (fun hb => ?_) (fun hb => ?_)
            · have hF := hF.1 hb
              refine q_iconst (v := 1) dX9_isReady_97 (by decide) ?_
              refine q_goto (tgt := 102) dX9_isReady_98 (by decide) ?_
              exact q_zret rfl (by decide) (by decide) (by decide) dX9_isReady_102 hF
            · have hF := hF.2 hb
              refine q_aload_n (i := 0) dX9_isReady_89 rfl rfl ?_
              refine q_iload_n (i := 2) dX9_isReady_90 rfl rfl ?_
              refine q_callVi (ci := 10) (o := 38) (As := [.int (h.I (c1 + 3) ((h.I 38 6).toNatClampNeg))]) (st := []) cv_X9_104 ⟨_, _, rfl⟩ (by decide) rfl rfl (Nat.le_refl _) (Nat.le_of_ble_eq_true rfl) (by decide) dX9_isReady_91 rfl hF (fun r6 h5 hF => ?_)
              have K7 := q_ite (c := r6 = 0) (X := fun v => q_N0 G m_X9_isReady (d + 1) Q 102 [.ref 38, .int (h.I (c1 + 2) ((h.I 38 6).toNatClampNeg)), .int (h.I (c1 + 3) ((h.I 38 6).toNatClampNeg))] (.int v :: []) h5) (a := 0) (b := 1) (by
                exact q_zret rfl hF.1 (by decide) (by decide) dX9_isReady_102 hF.2)
              refine q_if_eq (tgt := 101) dX9_isReady_94 (by decide) (fun hb => ?_) (fun hb => ?_)
              · refine q_iconst (v := 0) dX9_isReady_101 (by decide) ?_
                exact K7.1 hb
              · refine q_iconst (v := 1) dX9_isReady_97 (by decide) ?_
                refine q_goto (tgt := 102) dX9_isReady_98 (by decide) ?_
                exact K7.2 hb
          · have hF := hF.2 hb
            refine q_aload_n (i := 0) dX9_isReady_76 rfl rfl ?_
            refine q_iload_n (i := 1) dX9_isReady_77 rfl rfl ?_
            refine q_callVi (ci := 10) (o := 38) (As := [.int (h.I (c1 + 2) ((h.I 38 6).toNatClampNeg))]) (st := []) cv_X9_104 ⟨_, _, rfl⟩ (by decide) rfl rfl (Nat.le_refl _) (Nat.le_of_ble_eq_true rfl) (by decide) dX9_isReady_78 rfl hF (fun r9 h8 hF => ?_)
            refine q_if_eq (tgt := 101) dX9_isReady_81 (by decide) (fun hb => ?_) (fun hb => ?_)
            · have hF := hF.1 hb
              refine q_iconst (v := 0) dX9_isReady_101 (by decide) ?_
              exact q_zret rfl (by decide) (by decide) (by decide) dX9_isReady_102 hF
            · have hF := hF.2 hb
              refine q_iload_n (i := 2) dX9_isReady_84 rfl rfl ?_
              refine q_iconst (v := (-1)) dX9_isReady_85 (by decide) ?_
              refine q_icmp_eq (tgt := 97) dX9_isReady_86 (by decide) (fun hb => ?_) (fun hb => ?_)
              · have hF := hF.1 hb
                refine q_iconst (v := 1) dX9_isReady_97 (by decide) ?_
                refine q_goto (tgt := 102) dX9_isReady_98 (by decide) ?_
                exact q_zret rfl (by decide) (by decide) (by decide) dX9_isReady_102 hF
              · have hF := hF.2 hb
                refine q_aload_n (i := 0) dX9_isReady_89 rfl rfl ?_
                refine q_iload_n (i := 2) dX9_isReady_90 rfl rfl ?_
                refine q_callVi (ci := 10) (o := 38) (As := [.int (h.I (c1 + 3) ((h.I 38 6).toNatClampNeg))]) (st := []) cv_X9_104 ⟨_, _, rfl⟩ (by decide) rfl rfl (Nat.le_refl _) (Nat.le_of_ble_eq_true rfl) (by decide) dX9_isReady_91 rfl hF (fun r11 h10 hF => ?_)
                have K12 := q_ite (c := r11 = 0) (X := fun v => q_N0 G m_X9_isReady (d + 1) Q 102 [.ref 38, .int (h.I (c1 + 2) ((h.I 38 6).toNatClampNeg)), .int (h.I (c1 + 3) ((h.I 38 6).toNatClampNeg))] (.int v :: []) h10) (a := 0) (b := 1) (by
                  exact q_zret rfl hF.1 (by decide) (by decide) dX9_isReady_102 hF.2)
                refine q_if_eq (tgt := 101) dX9_isReady_94 (by decide) (fun hb => ?_) (fun hb => ?_)
                · refine q_iconst (v := 0) dX9_isReady_101 (by decide) ?_
                  exact K12.1 hb
                · refine q_iconst (v := 1) dX9_isReady_97 (by decide) ?_
                  refine q_goto (tgt := 102) dX9_isReady_98 (by decide) ?_
                  exact K12.2 hb
        · have hF := hF.2 hb
          refine q_iconst (v := 0) dX9_isReady_43 (by decide) ?_
          exact q_zret rfl (by decide) (by decide) (by decide) dX9_isReady_44 hF
def m_X9_work : qm := (RX9, cX9_work, 7, (some .int), [], false)
set_option maxRecDepth 100000 in
set_option maxHeartbeats 4000000 in
theorem x_X9_work (G : qG) (d : Nat) (x1 : Int32) (h : qh) (Q : qr → qh → Prop)  (hF : ∃ c1, h.R 38 5 = some c1 ∧ q_cir c1 ∧ (vp_in (h.I 38 6) 1400 ∧ (vp_in (h.I 38 6) 1400 ∧ (q_M0 G d yX9_taken [.ref 38, .int (h.I (c1 + 2) ((h.I 38 6).toNatClampNeg))] h (q_ri (fun r5 h4 => ∃ c6, h4.R 38 5 = some c6 ∧ q_cir c6 ∧ (vp_in (h.I 38 6) 1400 ∧ (q_M0 G d yX9_taken [.ref 38, .int (h4.I (c6 + 3) ((h.I 38 6).toNatClampNeg))] h4 (q_ri (fun r9 h8 => ∃ c10, h8.R 38 5 = some c10 ∧ q_cir c10 ∧ (vp_in (h.I 38 6) 1400 ∧ (((h8.I (c10 + 1) ((h.I 38 6).toNatClampNeg)) = 1 → (q_M0 G d yX9_hand [.ref 38, .int (h.I 38 6), .int (h.I (c1 + 4) ((h.I 38 6).toNatClampNeg))] (h8.sI 38 6 ((h8.I 38 6) + 1)) (q_rv (fun h14 => Q (.inl (some (.int 1))) h14) (fun E h => Q (.inr E) h)))) ∧ ((h8.I (c10 + 1) ((h.I 38 6).toNatClampNeg)) = 2 → (q_M0 G d yX9_isVariable [.int (h.I (c1 + 4) ((h.I 38 6).toNatClampNeg))] (h8.sI 38 6 ((h8.I 38 6) + 1)) (q_ri (fun r16 h15 => (r16 = 0 → (q_M0 G d yX9_hand [.ref 38, .int (h.I 38 6), .int 0] h15 (q_rv (fun h17 => Q (.inl (some (.int 1))) h17) (fun E h => Q (.inr E) h)))) ∧ (¬ r16 = 0 → (vp_in (h.I (c1 + 4) ((h.I 38 6).toNatClampNeg)) 16 ∧ (q_M0 G d yX9_hand [.ref 38, .int (h.I 38 6), .int (h15.I 41 ((h.I (c1 + 4) ((h.I 38 6).toNatClampNeg)).toNatClampNeg))] h15 (q_rv (fun h19 => Q (.inl (some (.int 1))) h19) (fun E h => Q (.inr E) h)))))) (fun E h => Q (.inr E) h)))) ∧ ((h8.I (c10 + 1) ((h.I 38 6).toNatClampNeg)) = 3 → (q_M0 G d yX3_ask [.ref 31, .int x1] (h8.sI 38 6 ((h8.I 38 6) + 1)) (q_ri (fun r21 h20 => q_M0 G d yX9_cellOf [.ref 38, .int (h.I (c1 + 4) ((h.I 38 6).toNatClampNeg)), .int r5] h20 (q_ri (fun r23 h22 => q_M0 G d yX3_fetch [.ref 31, .int (h.I (c1 + 4) ((h.I 38 6).toNatClampNeg)), .int r23] h22 (q_ri (fun r25 h24 => q_M0 G d yX9_hand [.ref 38, .int (h.I 38 6), .int r25] h24 (q_rv (fun h26 => Q (.inl (some (.int r21))) h26) (fun E h => Q (.inr E) h))) (fun E h => Q (.inr E) h))) (fun E h => Q (.inr E) h))) (fun E h => Q (.inr E) h)))) ∧ ((h8.I (c10 + 1) ((h.I 38 6).toNatClampNeg)) = 4 → (q_M0 G d yX9_isVariable [.int (h.I (c1 + 4) ((h.I 38 6).toNatClampNeg))] (h8.sI 38 6 ((h8.I 38 6) + 1)) (q_ri (fun r28 h27 => (r28 = 0 → (Q (.inl (some (.int 1))) h27)) ∧ (¬ r28 = 0 → (vp_in (h.I (c1 + 4) ((h.I 38 6).toNatClampNeg)) 16 ∧ (Q (.inl (some (.int 1))) (h27.sI 41 ((h.I (c1 + 4) ((h.I 38 6).toNatClampNeg)).toNatClampNeg) r5))))) (fun E h => Q (.inr E) h)))) ∧ ((h8.I (c10 + 1) ((h.I 38 6).toNatClampNeg)) = 5 → (q_M0 G d yX3_ask [.ref 31, .int x1] (h8.sI 38 6 ((h8.I 38 6) + 1)) (q_ri (fun r31 h30 => q_M0 G d yX9_cellOf [.ref 38, .int (h.I (c1 + 4) ((h.I 38 6).toNatClampNeg)), .int r5] h30 (q_ri (fun r33 h32 => q_M0 G d yX3_store [.ref 31, .int (h.I (c1 + 4) ((h.I 38 6).toNatClampNeg)), .int r33, .int r9] h32 (q_rv (fun h34 => Q (.inl (some (.int r31))) h34) (fun E h => Q (.inr E) h))) (fun E h => Q (.inr E) h))) (fun E h => Q (.inr E) h)))) ∧ ((h8.I (c10 + 1) ((h.I 38 6).toNatClampNeg)) = 6 → ((¬ r5 = 0 → (Q (.inl (some (.int 1))) ((h8.sI 38 6 ((h8.I 38 6) + 1)).sI 38 6 ((h8.I 38 6) + 1)))) ∧ (r5 = 0 → (q_M0 G d yX0_leadsTo [.ref c10, .int (h.I (c1 + 4) ((h.I 38 6).toNatClampNeg))] (h8.sI 38 6 ((h8.I 38 6) + 1)) (q_ri (fun r36 h35 => Q (.inl (some (.int 1))) (h35.sI 38 6 r36)) (fun E h => Q (.inr E) h)))))) ∧ ((h8.I (c10 + 1) ((h.I 38 6).toNatClampNeg)) = 7 → (q_M0 G d yX9_beginStep [.ref 38] (h8.sI 38 6 ((h8.I 38 6) + 1)) (q_rv (fun h37 => Q (.inl (some (.int 1))) h37) (fun E h => Q (.inr E) h)))) ∧ ((h8.I (c10 + 1) ((h.I 38 6).toNatClampNeg)) = 8 → (q_M0 G d yX0_leadsTo [.ref c10, .int (h.I (c1 + 4) ((h.I 38 6).toNatClampNeg))] (h8.sI 38 6 ((h8.I 38 6) + 1)) (q_ri (fun r39 h38 => Q (.inl (some (.int 1))) (h38.sI 38 6 r39)) (fun E h => Q (.inr E) h)))) ∧ ((h8.I (c10 + 1) ((h.I 38 6).toNatClampNeg)) = 9 → (q_M0 G d yX6_take [.ref 37, .int x1] (h8.sI 38 6 ((h8.I 38 6) + 1)) (q_ri (fun r41 h40 => Q (.inl (some (.int r41))) (((h40.sI 38 10 r5).sI 38 9 0).sI 38 6 (-1))) (fun E h => Q (.inr E) h)))) ∧ (¬ (h8.I (c10 + 1) ((h.I 38 6).toNatClampNeg)) = 1 ∧ ¬ (h8.I (c10 + 1) ((h.I 38 6).toNatClampNeg)) = 2 ∧ ¬ (h8.I (c10 + 1) ((h.I 38 6).toNatClampNeg)) = 3 ∧ ¬ (h8.I (c10 + 1) ((h.I 38 6).toNatClampNeg)) = 4 ∧ ¬ (h8.I (c10 + 1) ((h.I 38 6).toNatClampNeg)) = 5 ∧ ¬ (h8.I (c10 + 1) ((h.I 38 6).toNatClampNeg)) = 6 ∧ ¬ (h8.I (c10 + 1) ((h.I 38 6).toNatClampNeg)) = 7 ∧ ¬ (h8.I (c10 + 1) ((h.I 38 6).toNatClampNeg)) = 8 ∧ ¬ (h8.I (c10 + 1) ((h.I 38 6).toNatClampNeg)) = 9 → (vp_in (h.I 38 6) 1400 ∧ (q_M0 G d yX9_worked [.int (h8.I (c10 + 1) ((h.I 38 6).toNatClampNeg)), .int r5, .int r9] (h8.sI 38 6 ((h8.I 38 6) + 1)) (q_ri (fun r44 h43 => q_M0 G d yX9_hand [.ref 38, .int (h.I 38 6), .int r44] h43 (q_rv (fun h45 => Q (.inl (some (.int 1))) h45) (fun E h => Q (.inr E) h))) (fun E h => Q (.inr E) h)))))))) (fun E h => Q (.inr E) h))))) (fun E h => Q (.inr E) h)))))) : q_M0 G (d + 1) yX9_work [.ref 38, .int x1] h Q := by
  refine q_of (M := m_X9_work) (by decide +kernel) rfl rfl cd_X9_work (by decide) (Nat.le_of_ble_eq_true rfl) ?_
  show q_N0 G m_X9_work (d + 1) Q 0 [.ref 38, .int x1, .null, .null, .null, .null, .null] [] h
  refine q_aload_n (i := 0) dX9_work_0 rfl rfl ?_
  refine q_getIv (v := h.I 38 6) 10 6 fl_X9_60 (by decide) rfl rfl (rfl) dX9_work_1 ?_
  refine q_istore_n (i := 2) dX9_work_4 rfl (by decide) rfl ?_
  refine q_aload_n (i := 0) dX9_work_5 rfl rfl ?_
  obtain ⟨c1, hrc1, hc1, hF⟩ := hF
  refine q_getR (k := c1) 10 5 fl_X9_30 (by decide) rfl rfl hrc1 dX9_work_6 ?_
  refine q_getP 1 3 (c1 + 4) fl_X9_108 (q_cir_n hc1 0) (q_cir_K hc1) rfl (q_cir_P hc1 3) dX9_work_9 ?_
  refine q_iload_n (i := 2) dX9_work_12 rfl rfl ?_
  obtain ⟨hi2, hF⟩ := hF
  refine q_ialoadv (v := h.I (c1 + 4) ((h.I 38 6).toNatClampNeg)) (n := 1400) (q_cir_n hc1 4) (q_cir_A hc1 3) hi2 (rfl) dX9_work_13 ?_
  refine q_istore_n (i := 3) dX9_work_14 rfl (by decide) rfl ?_
  refine q_aload_n (i := 0) dX9_work_15 rfl rfl ?_
  refine q_aload_n (i := 0) dX9_work_16 rfl rfl ?_
  refine q_getR (k := c1) 10 5 fl_X9_30 (by decide) rfl rfl hrc1 dX9_work_17 ?_
  refine q_getP 1 1 (c1 + 2) fl_X9_98 (q_cir_n hc1 0) (q_cir_K hc1) rfl (q_cir_P hc1 1) dX9_work_20 ?_
  refine q_iload_n (i := 2) dX9_work_23 rfl rfl ?_
  obtain ⟨hi3, hF⟩ := hF
  refine q_ialoadv (v := h.I (c1 + 2) ((h.I 38 6).toNatClampNeg)) (n := 1400) (q_cir_n hc1 2) (q_cir_A hc1 1) hi3 (rfl) dX9_work_24 ?_
  refine q_callVi (ci := 10) (o := 38) (As := [.int (h.I (c1 + 2) ((h.I 38 6).toNatClampNeg))]) (st := []) cv_X9_111 ⟨_, _, rfl⟩ (by decide) rfl rfl (Nat.le_refl _) (Nat.le_of_ble_eq_true rfl) (by decide) dX9_work_25 rfl hF (fun r5 h4 hF => ?_)
  refine q_istore dX9_work_28 (by decide) rfl ?_
  refine q_aload_n (i := 0) dX9_work_30 rfl rfl ?_
  refine q_aload_n (i := 0) dX9_work_31 rfl rfl ?_
  obtain ⟨c6, hrc6, hc6, hF⟩ := hF
  refine q_getR (k := c6) 10 5 fl_X9_30 (by decide) rfl rfl hrc6 dX9_work_32 ?_
  refine q_getP 1 2 (c6 + 3) fl_X9_101 (q_cir_n hc6 0) (q_cir_K hc6) rfl (q_cir_P hc6 2) dX9_work_35 ?_
  refine q_iload_n (i := 2) dX9_work_38 rfl rfl ?_
  obtain ⟨hi7, hF⟩ := hF
  refine q_ialoadv (v := h4.I (c6 + 3) ((h.I 38 6).toNatClampNeg)) (n := 1400) (q_cir_n hc6 3) (q_cir_A hc6 2) hi7 (rfl) dX9_work_39 ?_
  refine q_callVi (ci := 10) (o := 38) (As := [.int (h4.I (c6 + 3) ((h.I 38 6).toNatClampNeg))]) (st := []) cv_X9_111 ⟨_, _, rfl⟩ (by decide) rfl rfl (Nat.le_refl _) (Nat.le_of_ble_eq_true rfl) (by decide) dX9_work_40 rfl hF (fun r9 h8 hF => ?_)
  refine q_istore dX9_work_43 (by decide) rfl ?_
  refine q_iconst (v := 1) dX9_work_45 (by decide) ?_
  refine q_istore dX9_work_46 (by decide) rfl ?_
  refine q_aload_n (i := 0) dX9_work_48 rfl rfl ?_
  refine q_dup dX9_work_49 rfl ?_
  refine q_getIv (v := h8.I 38 6) 10 6 fl_X9_60 (by decide) rfl rfl (rfl) dX9_work_50 ?_
  refine q_iconst (v := 1) dX9_work_53 (by decide) ?_
  refine q_iadd dX9_work_54 ?_
  refine q_putI 10 6 fp_X9_60 (Or.inr ⟨_, _, _, rfl, rfl⟩) (by decide) rfl rfl dX9_work_55 ?_
  refine q_aload_n (i := 0) dX9_work_58 rfl rfl ?_
  obtain ⟨c10, hrc10, hc10, hF⟩ := hF
  refine q_getR (k := c10) 10 5 fl_X9_30 (by decide) rfl rfl hrc10 dX9_work_59 ?_
  refine q_getP 1 0 (c10 + 1) fl_X9_114 (q_cir_n hc10 0) (q_cir_K hc10) rfl (q_cir_P hc10 0) dX9_work_62 ?_
  refine q_iload_n (i := 2) dX9_work_65 rfl rfl ?_
  obtain ⟨hi11, hF⟩ := hF
  refine q_ialoadv (v := h8.I (c10 + 1) ((h.I 38 6).toNatClampNeg)) (n := 1400) (q_cir_n hc10 1) (q_cir_A hc10 0) hi11 ((q_I_neo (by rcases hc10 with rfl | rfl <;> decide)).trans (rfl)) dX9_work_66 ?_
  refine q_by ((h8.I (c10 + 1) ((h.I 38 6).toNatClampNeg)) = 1) (fun hs12_0 => ?_) (fun hs12_0 => ?_)
  · have hF := hF.1 hs12_0
    refine q_tableIn (tgt := 116) dX9_work_67 (by rw [hs12_0]; decide) (by rw [hs12_0]; decide) (by first | (rw [hs12_0]; done) | (rw [hs12_0]; rfl)) (by decide) ?_
    refine q_aload_n (i := 0) dX9_work_116 rfl rfl ?_
    refine q_iload_n (i := 2) dX9_work_117 rfl rfl ?_
    refine q_iload_n (i := 3) dX9_work_118 rfl rfl ?_
    refine q_callVv (ci := 10) (o := 38) (As := [.int (h.I 38 6), .int (h.I (c1 + 4) ((h.I 38 6).toNatClampNeg))]) (st := []) cv_X9_117 ⟨_, _, rfl⟩ (by decide) rfl rfl (Nat.le_refl _) (Nat.le_of_ble_eq_true rfl) (by decide) dX9_work_119 rfl hF (fun h14 hF => ?_)
    refine q_goto (tgt := 330) dX9_work_122 (by decide) ?_
    refine q_iload dX9_work_330 rfl ?_
    exact q_iret rfl (by decide) (by decide) dX9_work_332 hF
  have hF := hF.2
  refine q_by ((h8.I (c10 + 1) ((h.I 38 6).toNatClampNeg)) = 2) (fun hs12_1 => ?_) (fun hs12_1 => ?_)
  · have hF := hF.1 hs12_1
    refine q_tableIn (tgt := 125) dX9_work_67 (by rw [hs12_1]; decide) (by rw [hs12_1]; decide) (by first | (rw [hs12_1]; done) | (rw [hs12_1]; rfl)) (by decide) ?_
    refine q_aload_n (i := 0) dX9_work_125 rfl rfl ?_
    refine q_iload_n (i := 2) dX9_work_126 rfl rfl ?_
    refine q_iload_n (i := 3) dX9_work_127 rfl rfl ?_
    refine q_callSi (As := [.int (h.I (c1 + 4) ((h.I 38 6).toNatClampNeg))]) (st := [.int (h.I 38 6), .ref 38]) cs_X9_121 rfl (Nat.le_refl _) (Nat.le_of_ble_eq_true rfl) (by decide) dX9_work_128 rfl hF (fun r16 h15 hF => ?_)
    refine q_if_eq (tgt := 143) dX9_work_131 (by decide) (fun hb => ?_) (fun hb => ?_)
    · have hF := hF.1 hb
      refine q_iconst (v := 0) dX9_work_143 (by decide) ?_
      refine q_callVv (ci := 10) (o := 38) (As := [.int (h.I 38 6), .int 0]) (st := []) cv_X9_117 ⟨_, _, rfl⟩ (by decide) rfl rfl (Nat.le_refl _) (Nat.le_of_ble_eq_true rfl) (by decide) dX9_work_144 rfl hF (fun h17 hF => ?_)
      refine q_goto (tgt := 330) dX9_work_147 (by decide) ?_
      refine q_iload dX9_work_330 rfl ?_
      exact q_iret rfl (by decide) (by decide) dX9_work_332 hF
    · have hF := hF.2 hb
      refine q_aload_n (i := 0) dX9_work_134 rfl rfl ?_
      refine q_getP 10 4 41 fl_X9_19 (by decide) rfl rfl rfl dX9_work_135 ?_
      refine q_iload_n (i := 3) dX9_work_138 rfl rfl ?_
      obtain ⟨hi18, hF⟩ := hF
      refine q_ialoadv (v := h15.I 41 ((h.I (c1 + 4) ((h.I 38 6).toNatClampNeg)).toNatClampNeg)) (n := 16) (by decide) rfl hi18 (rfl) dX9_work_139 ?_
      refine q_goto (tgt := 144) dX9_work_140 (by decide) ?_
      refine q_callVv (ci := 10) (o := 38) (As := [.int (h.I 38 6), .int (h15.I 41 ((h.I (c1 + 4) ((h.I 38 6).toNatClampNeg)).toNatClampNeg))]) (st := []) cv_X9_117 ⟨_, _, rfl⟩ (by decide) rfl rfl (Nat.le_refl _) (Nat.le_of_ble_eq_true rfl) (by decide) dX9_work_144 rfl hF (fun h19 hF => ?_)
      refine q_goto (tgt := 330) dX9_work_147 (by decide) ?_
      refine q_iload dX9_work_330 rfl ?_
      exact q_iret rfl (by decide) (by decide) dX9_work_332 hF
  have hF := hF.2
  refine q_by ((h8.I (c10 + 1) ((h.I 38 6).toNatClampNeg)) = 3) (fun hs12_2 => ?_) (fun hs12_2 => ?_)
  · have hF := hF.1 hs12_2
    refine q_tableIn (tgt := 150) dX9_work_67 (by rw [hs12_2]; decide) (by rw [hs12_2]; decide) (by first | (rw [hs12_2]; done) | (rw [hs12_2]; rfl)) (by decide) ?_
    refine q_aload_n (i := 0) dX9_work_150 rfl rfl ?_
    refine q_getP 10 0 31 fl_X9_22 (by decide) rfl rfl rfl dX9_work_151 ?_
    refine q_iload_n (i := 1) dX9_work_154 rfl rfl ?_
    refine q_callVi (ci := 4) (o := 31) (As := [.int x1]) (st := []) cv_X9_124 ⟨_, _, rfl⟩ (by decide) rfl rfl (Nat.le_refl _) (Nat.le_of_ble_eq_true rfl) (by decide) dX9_work_155 rfl hF (fun r21 h20 hF => ?_)
    refine q_istore dX9_work_158 (by decide) rfl ?_
    refine q_aload_n (i := 0) dX9_work_160 rfl rfl ?_
    refine q_iload_n (i := 2) dX9_work_161 rfl rfl ?_
    refine q_aload_n (i := 0) dX9_work_162 rfl rfl ?_
    refine q_getP 10 0 31 fl_X9_22 (by decide) rfl rfl rfl dX9_work_163 ?_
    refine q_iload_n (i := 3) dX9_work_166 rfl rfl ?_
    refine q_aload_n (i := 0) dX9_work_167 rfl rfl ?_
    refine q_iload_n (i := 3) dX9_work_168 rfl rfl ?_
    refine q_iload dX9_work_169 rfl ?_
    refine q_callVi (ci := 10) (o := 38) (As := [.int (h.I (c1 + 4) ((h.I 38 6).toNatClampNeg)), .int r5]) (st := [.int (h.I (c1 + 4) ((h.I 38 6).toNatClampNeg)), .ref 31, .int (h.I 38 6), .ref 38]) cv_X9_127 ⟨_, _, rfl⟩ (by decide) rfl rfl (Nat.le_refl _) (Nat.le_of_ble_eq_true rfl) (by decide) dX9_work_171 rfl hF (fun r23 h22 hF => ?_)
    refine q_callVi (ci := 4) (o := 31) (As := [.int (h.I (c1 + 4) ((h.I 38 6).toNatClampNeg)), .int r23]) (st := [.int (h.I 38 6), .ref 38]) cv_X9_130 ⟨_, _, rfl⟩ (by decide) rfl rfl (Nat.le_refl _) (Nat.le_of_ble_eq_true rfl) (by decide) dX9_work_174 rfl hF (fun r25 h24 hF => ?_)
    refine q_callVv (ci := 10) (o := 38) (As := [.int (h.I 38 6), .int r25]) (st := []) cv_X9_117 ⟨_, _, rfl⟩ (by decide) rfl rfl (Nat.le_refl _) (Nat.le_of_ble_eq_true rfl) (by decide) dX9_work_177 rfl hF (fun h26 hF => ?_)
    refine q_goto (tgt := 330) dX9_work_180 (by decide) ?_
    refine q_iload dX9_work_330 rfl ?_
    exact q_iret rfl (by decide) (by decide) dX9_work_332 hF
  have hF := hF.2
  refine q_by ((h8.I (c10 + 1) ((h.I 38 6).toNatClampNeg)) = 4) (fun hs12_3 => ?_) (fun hs12_3 => ?_)
  · have hF := hF.1 hs12_3
    refine q_tableIn (tgt := 183) dX9_work_67 (by rw [hs12_3]; decide) (by rw [hs12_3]; decide) (by first | (rw [hs12_3]; done) | (rw [hs12_3]; rfl)) (by decide) ?_
    refine q_iload_n (i := 3) dX9_work_183 rfl rfl ?_
    refine q_callSi (As := [.int (h.I (c1 + 4) ((h.I 38 6).toNatClampNeg))]) (st := []) cs_X9_121 rfl (Nat.le_refl _) (Nat.le_of_ble_eq_true rfl) (by decide) dX9_work_184 rfl hF (fun r28 h27 hF => ?_)
    refine q_if_eq (tgt := 330) dX9_work_187 (by decide) (fun hb => ?_) (fun hb => ?_)
    · have hF := hF.1 hb
      refine q_iload dX9_work_330 rfl ?_
      exact q_iret rfl (by decide) (by decide) dX9_work_332 hF
    · have hF := hF.2 hb
      refine q_aload_n (i := 0) dX9_work_190 rfl rfl ?_
      refine q_getP 10 4 41 fl_X9_19 (by decide) rfl rfl rfl dX9_work_191 ?_
      refine q_iload_n (i := 3) dX9_work_194 rfl rfl ?_
      refine q_iload dX9_work_195 rfl ?_
      obtain ⟨hi29, hF⟩ := hF
      refine q_iastore (n := 16) (by decide) rfl hi29 dX9_work_197 ?_
      refine q_goto (tgt := 330) dX9_work_198 (by decide) ?_
      refine q_iload dX9_work_330 rfl ?_
      exact q_iret rfl (by decide) (by decide) dX9_work_332 hF
  have hF := hF.2
  refine q_by ((h8.I (c10 + 1) ((h.I 38 6).toNatClampNeg)) = 5) (fun hs12_4 => ?_) (fun hs12_4 => ?_)
  · have hF := hF.1 hs12_4
    refine q_tableIn (tgt := 201) dX9_work_67 (by rw [hs12_4]; decide) (by rw [hs12_4]; decide) (by first | (rw [hs12_4]; done) | (rw [hs12_4]; rfl)) (by decide) ?_
    refine q_aload_n (i := 0) dX9_work_201 rfl rfl ?_
    refine q_getP 10 0 31 fl_X9_22 (by decide) rfl rfl rfl dX9_work_202 ?_
    refine q_iload_n (i := 1) dX9_work_205 rfl rfl ?_
    refine q_callVi (ci := 4) (o := 31) (As := [.int x1]) (st := []) cv_X9_124 ⟨_, _, rfl⟩ (by decide) rfl rfl (Nat.le_refl _) (Nat.le_of_ble_eq_true rfl) (by decide) dX9_work_206 rfl hF (fun r31 h30 hF => ?_)
    refine q_istore dX9_work_209 (by decide) rfl ?_
    refine q_aload_n (i := 0) dX9_work_211 rfl rfl ?_
    refine q_getP 10 0 31 fl_X9_22 (by decide) rfl rfl rfl dX9_work_212 ?_
    refine q_iload_n (i := 3) dX9_work_215 rfl rfl ?_
    refine q_aload_n (i := 0) dX9_work_216 rfl rfl ?_
    refine q_iload_n (i := 3) dX9_work_217 rfl rfl ?_
    refine q_iload dX9_work_218 rfl ?_
    refine q_callVi (ci := 10) (o := 38) (As := [.int (h.I (c1 + 4) ((h.I 38 6).toNatClampNeg)), .int r5]) (st := [.int (h.I (c1 + 4) ((h.I 38 6).toNatClampNeg)), .ref 31]) cv_X9_127 ⟨_, _, rfl⟩ (by decide) rfl rfl (Nat.le_refl _) (Nat.le_of_ble_eq_true rfl) (by decide) dX9_work_220 rfl hF (fun r33 h32 hF => ?_)
    refine q_iload dX9_work_223 rfl ?_
    refine q_callVv (ci := 4) (o := 31) (As := [.int (h.I (c1 + 4) ((h.I 38 6).toNatClampNeg)), .int r33, .int r9]) (st := []) cv_X9_133 ⟨_, _, rfl⟩ (by decide) rfl rfl (Nat.le_refl _) (Nat.le_of_ble_eq_true rfl) (by decide) dX9_work_225 rfl hF (fun h34 hF => ?_)
    refine q_goto (tgt := 330) dX9_work_228 (by decide) ?_
    refine q_iload dX9_work_330 rfl ?_
    exact q_iret rfl (by decide) (by decide) dX9_work_332 hF
  have hF := hF.2
  refine q_by ((h8.I (c10 + 1) ((h.I 38 6).toNatClampNeg)) = 6) (fun hs12_5 => ?_) (fun hs12_5 => ?_)
  · have hF := hF.1 hs12_5
    refine q_tableIn (tgt := 231) dX9_work_67 (by rw [hs12_5]; decide) (by rw [hs12_5]; decide) (by first | (rw [hs12_5]; done) | (rw [hs12_5]; rfl)) (by decide) ?_
    refine q_aload_n (i := 0) dX9_work_231 rfl rfl ?_
    refine q_iload dX9_work_232 rfl ?_
    refine q_if_ne (tgt := 248) dX9_work_234 (by decide) (fun hb => ?_) (fun hb => ?_)
    · have hF := hF.1 hb
      refine q_aload_n (i := 0) dX9_work_248 rfl rfl ?_
      refine q_getIv (v := (h8.I 38 6) + 1) 10 6 fl_X9_60 (by decide) rfl rfl (q_I_same _ _ _ _) dX9_work_249 ?_
      refine q_putI 10 6 fp_X9_60 (Or.inr ⟨_, _, _, rfl, rfl⟩) (by decide) rfl rfl dX9_work_252 ?_
      refine q_goto (tgt := 330) dX9_work_255 (by decide) ?_
      refine q_iload dX9_work_330 rfl ?_
      exact q_iret rfl (by decide) (by decide) dX9_work_332 hF
    · have hF := hF.2 hb
      refine q_aload_n (i := 0) dX9_work_237 rfl rfl ?_
      refine q_getR (k := c10) 10 5 fl_X9_30 (by decide) rfl rfl hrc10 dX9_work_238 ?_
      refine q_iload_n (i := 3) dX9_work_241 rfl rfl ?_
      refine q_callVi (ci := 1) (o := c10) (As := [.int (h.I (c1 + 4) ((h.I 38 6).toNatClampNeg))]) (st := [.ref 38]) cv_X9_137 ⟨_, _, rfl⟩ (q_cir_n hc10 0) (q_cir_K hc10) rfl (Nat.le_refl _) (Nat.le_of_ble_eq_true rfl) (by decide) dX9_work_242 rfl hF (fun r36 h35 hF => ?_)
      refine q_goto (tgt := 252) dX9_work_245 (by decide) ?_
      refine q_putI 10 6 fp_X9_60 (Or.inr ⟨_, _, _, rfl, rfl⟩) (by decide) rfl rfl dX9_work_252 ?_
      refine q_goto (tgt := 330) dX9_work_255 (by decide) ?_
      refine q_iload dX9_work_330 rfl ?_
      exact q_iret rfl (by decide) (by decide) dX9_work_332 hF
  have hF := hF.2
  refine q_by ((h8.I (c10 + 1) ((h.I 38 6).toNatClampNeg)) = 7) (fun hs12_6 => ?_) (fun hs12_6 => ?_)
  · have hF := hF.1 hs12_6
    refine q_tableIn (tgt := 258) dX9_work_67 (by rw [hs12_6]; decide) (by rw [hs12_6]; decide) (by first | (rw [hs12_6]; done) | (rw [hs12_6]; rfl)) (by decide) ?_
    refine q_aload_n (i := 0) dX9_work_258 rfl rfl ?_
    refine q_callVv (ci := 10) (o := 38) (As := []) (st := []) cv_X9_140 ⟨_, _, rfl⟩ (by decide) rfl rfl (Nat.le_refl _) (Nat.le_of_ble_eq_true rfl) (by decide) dX9_work_259 rfl hF (fun h37 hF => ?_)
    refine q_goto (tgt := 330) dX9_work_262 (by decide) ?_
    refine q_iload dX9_work_330 rfl ?_
    exact q_iret rfl (by decide) (by decide) dX9_work_332 hF
  have hF := hF.2
  refine q_by ((h8.I (c10 + 1) ((h.I 38 6).toNatClampNeg)) = 8) (fun hs12_7 => ?_) (fun hs12_7 => ?_)
  · have hF := hF.1 hs12_7
    refine q_tableIn (tgt := 265) dX9_work_67 (by rw [hs12_7]; decide) (by rw [hs12_7]; decide) (by first | (rw [hs12_7]; done) | (rw [hs12_7]; rfl)) (by decide) ?_
    refine q_aload_n (i := 0) dX9_work_265 rfl rfl ?_
    refine q_aload_n (i := 0) dX9_work_266 rfl rfl ?_
    refine q_getR (k := c10) 10 5 fl_X9_30 (by decide) rfl rfl hrc10 dX9_work_267 ?_
    refine q_iload_n (i := 3) dX9_work_270 rfl rfl ?_
    refine q_callVi (ci := 1) (o := c10) (As := [.int (h.I (c1 + 4) ((h.I 38 6).toNatClampNeg))]) (st := [.ref 38]) cv_X9_137 ⟨_, _, rfl⟩ (q_cir_n hc10 0) (q_cir_K hc10) rfl (Nat.le_refl _) (Nat.le_of_ble_eq_true rfl) (by decide) dX9_work_271 rfl hF (fun r39 h38 hF => ?_)
    refine q_putI 10 6 fp_X9_60 (Or.inr ⟨_, _, _, rfl, rfl⟩) (by decide) rfl rfl dX9_work_274 ?_
    refine q_goto (tgt := 330) dX9_work_277 (by decide) ?_
    refine q_iload dX9_work_330 rfl ?_
    exact q_iret rfl (by decide) (by decide) dX9_work_332 hF
  have hF := hF.2
  refine q_by ((h8.I (c10 + 1) ((h.I 38 6).toNatClampNeg)) = 9) (fun hs12_8 => ?_) (fun hs12_8 => ?_)
  · have hF := hF.1 hs12_8
    refine q_tableIn (tgt := 280) dX9_work_67 (by rw [hs12_8]; decide) (by rw [hs12_8]; decide) (by first | (rw [hs12_8]; done) | (rw [hs12_8]; rfl)) (by decide) ?_
    refine q_aload_n (i := 0) dX9_work_280 rfl rfl ?_
    refine q_getP 10 1 37 fl_X9_26 (by decide) rfl rfl rfl dX9_work_281 ?_
    refine q_iload_n (i := 1) dX9_work_284 rfl rfl ?_
    refine q_callVi (ci := 7) (o := 37) (As := [.int x1]) (st := []) cv_X9_143 ⟨_, _, rfl⟩ (by decide) rfl rfl (Nat.le_refl _) (Nat.le_of_ble_eq_true rfl) (by decide) dX9_work_285 rfl hF (fun r41 h40 hF => ?_)
    refine q_istore dX9_work_288 (by decide) rfl ?_
    refine q_aload_n (i := 0) dX9_work_290 rfl rfl ?_
    refine q_iload dX9_work_291 rfl ?_
    refine q_putI 10 10 fp_X9_48 (Or.inr ⟨_, _, _, rfl, rfl⟩) (by decide) rfl rfl dX9_work_293 ?_
    refine q_aload_n (i := 0) dX9_work_296 rfl rfl ?_
    refine q_iconst (v := 0) dX9_work_297 (by decide) ?_
    refine q_putI 10 9 fp_X9_34 (Or.inr ⟨_, _, _, rfl, rfl⟩) (by decide) rfl rfl dX9_work_298 ?_
    refine q_aload_n (i := 0) dX9_work_301 rfl rfl ?_
    refine q_iconst (v := (-1)) dX9_work_302 (by decide) ?_
    refine q_putI 10 6 fp_X9_60 (Or.inr ⟨_, _, _, rfl, rfl⟩) (by decide) rfl rfl dX9_work_303 ?_
    refine q_goto (tgt := 330) dX9_work_306 (by decide) ?_
    refine q_iload dX9_work_330 rfl ?_
    exact q_iret rfl (by decide) (by decide) dX9_work_332 hF
  have hF := hF.2
  refine q_tableOut (tgt := 309) dX9_work_67 (by have n0 := lv_neT hs12_0 (a := 1) (by decide); have n1 := lv_neT hs12_1 (a := 2) (by decide); have n2 := lv_neT hs12_2 (a := 3) (by decide); have n3 := lv_neT hs12_3 (a := 4) (by decide); have n4 := lv_neT hs12_4 (a := 5) (by decide); have n5 := lv_neT hs12_5 (a := 6) (by decide); have n6 := lv_neT hs12_6 (a := 7) (by decide); have n7 := lv_neT hs12_7 (a := 8) (by decide); have n8 := lv_neT hs12_8 (a := 9) (by decide); omega) (by decide) ?_
  have hF := hF ⟨hs12_0, hs12_1, hs12_2, hs12_3, hs12_4, hs12_5, hs12_6, hs12_7, hs12_8⟩
  refine q_aload_n (i := 0) dX9_work_309 rfl rfl ?_
  refine q_iload_n (i := 2) dX9_work_310 rfl rfl ?_
  refine q_aload_n (i := 0) dX9_work_311 rfl rfl ?_
  refine q_getR (k := c10) 10 5 fl_X9_30 (by decide) rfl rfl hrc10 dX9_work_312 ?_
  refine q_getP 1 0 (c10 + 1) fl_X9_114 (q_cir_n hc10 0) (q_cir_K hc10) rfl (q_cir_P hc10 0) dX9_work_315 ?_
  refine q_iload_n (i := 2) dX9_work_318 rfl rfl ?_
  obtain ⟨hi42, hF⟩ := hF
  refine q_ialoadv (v := h8.I (c10 + 1) ((h.I 38 6).toNatClampNeg)) (n := 1400) (q_cir_n hc10 1) (q_cir_A hc10 0) hi42 ((q_I_neo (by rcases hc10 with rfl | rfl <;> decide)).trans (rfl)) dX9_work_319 ?_
  refine q_iload dX9_work_320 rfl ?_
  refine q_iload dX9_work_322 rfl ?_
  refine q_callSi (As := [.int (h8.I (c10 + 1) ((h.I 38 6).toNatClampNeg)), .int r5, .int r9]) (st := [.int (h.I 38 6), .ref 38]) cs_X9_146 rfl (Nat.le_refl _) (Nat.le_of_ble_eq_true rfl) (by decide) dX9_work_324 rfl hF (fun r44 h43 hF => ?_)
  refine q_callVv (ci := 10) (o := 38) (As := [.int (h.I 38 6), .int r44]) (st := []) cv_X9_117 ⟨_, _, rfl⟩ (by decide) rfl rfl (Nat.le_refl _) (Nat.le_of_ble_eq_true rfl) (by decide) dX9_work_327 rfl hF (fun h45 hF => ?_)
  refine q_iload dX9_work_330 rfl ?_
  exact q_iret rfl (by decide) (by decide) dX9_work_332 hF
def m_X9_beginStep : qm := (RX9, cX9_beginStep, 1, none, [], false)
set_option maxRecDepth 100000 in
set_option maxHeartbeats 4000000 in
theorem x_X9_beginStep (G : qG) (d : Nat)  (h : qh) (Q : qr → qh → Prop)  (hF : ((h.I 38 11) < (h.I 38 7) → (Q (.inl none) (h.sI 38 11 ((h.I 38 11) + 1)))) ∧ (¬ (h.I 38 11) < (h.I 38 7) → (Q (.inl none) (h.sI 38 6 (-1))))) : q_M0 G (d + 1) yX9_beginStep [.ref 38] h Q := by
  refine q_of (M := m_X9_beginStep) (by decide +kernel) rfl rfl cd_X9_beginStep (by decide) (Nat.le_of_ble_eq_true rfl) ?_
  show q_N0 G m_X9_beginStep (d + 1) Q 0 [.ref 38] [] h
  refine q_aload_n (i := 0) dX9_beginStep_0 rfl rfl ?_
  refine q_getIv (v := h.I 38 11) 10 11 fl_X9_51 (by decide) rfl rfl (rfl) dX9_beginStep_1 ?_
  refine q_aload_n (i := 0) dX9_beginStep_4 rfl rfl ?_
  refine q_getIv (v := h.I 38 7) 10 7 fl_X9_90 (by decide) rfl rfl (rfl) dX9_beginStep_5 ?_
  refine q_icmp_lt (tgt := 19) dX9_beginStep_8 (by decide) (fun hb => ?_) (fun hb => ?_)
  · have hF := hF.1 hb
    refine q_aload_n (i := 0) dX9_beginStep_19 rfl rfl ?_
    refine q_dup dX9_beginStep_20 rfl ?_
    refine q_getIv (v := h.I 38 11) 10 11 fl_X9_51 (by decide) rfl rfl (rfl) dX9_beginStep_21 ?_
    refine q_iconst (v := 1) dX9_beginStep_24 (by decide) ?_
    refine q_iadd dX9_beginStep_25 ?_
    refine q_putI 10 11 fp_X9_51 (Or.inr ⟨_, _, _, rfl, rfl⟩) (by decide) rfl rfl dX9_beginStep_26 ?_
    exact q_vret rfl (by decide) (by decide) dX9_beginStep_29 hF
  · have hF := hF.2 hb
    refine q_aload_n (i := 0) dX9_beginStep_11 rfl rfl ?_
    refine q_iconst (v := (-1)) dX9_beginStep_12 (by decide) ?_
    refine q_putI 10 6 fp_X9_60 (Or.inr ⟨_, _, _, rfl, rfl⟩) (by decide) rfl rfl dX9_beginStep_13 ?_
    refine q_goto (tgt := 29) dX9_beginStep_16 (by decide) ?_
    exact q_vret rfl (by decide) (by decide) dX9_beginStep_29 hF
def m_X9_cellOf : qm := (RX9, cX9_cellOf, 4, (some .int), [], false)
set_option maxRecDepth 100000 in
set_option maxHeartbeats 4000000 in
theorem x_X9_cellOf (G : qG) (d : Nat) (x1 : Int32) (x2 : Int32) (h : qh) (Q : qr → qh → Prop)  (hF : ∃ c1, h.R 38 5 = some c1 ∧ q_cir c1 ∧ (q_M0 G d yX0_cellsOf [.ref c1, .int x1] h (q_ri (fun r3 h2 => (r3 ≤ 0 → (Q (.inl (some (.int (-1)))) h2)) ∧ (¬ r3 ≤ 0 → (q_M0 G d yJ9_floorMod_7cf53 [.int x2, .int r3] h2 (q_ri (fun r5 h4 => Q (.inl (some (.int r5))) h4) (fun E h => Q (.inr E) h))))) (fun E h => Q (.inr E) h)))) : q_M0 G (d + 1) yX9_cellOf [.ref 38, .int x1, .int x2] h Q := by
  refine q_of (M := m_X9_cellOf) (by decide +kernel) rfl rfl cd_X9_cellOf (by decide) (Nat.le_of_ble_eq_true rfl) ?_
  show q_N0 G m_X9_cellOf (d + 1) Q 0 [.ref 38, .int x1, .int x2, .null] [] h
  refine q_aload_n (i := 0) dX9_cellOf_0 rfl rfl ?_
  obtain ⟨c1, hrc1, hc1, hF⟩ := hF
  refine q_getR (k := c1) 10 5 fl_X9_30 (by decide) rfl rfl hrc1 dX9_cellOf_1 ?_
  refine q_iload_n (i := 1) dX9_cellOf_4 rfl rfl ?_
  refine q_callVi (ci := 1) (o := c1) (As := [.int x1]) (st := []) cv_X9_150 ⟨_, _, rfl⟩ (q_cir_n hc1 0) (q_cir_K hc1) rfl (Nat.le_refl _) (Nat.le_of_ble_eq_true rfl) (by decide) dX9_cellOf_5 rfl hF (fun r3 h2 hF => ?_)
  refine q_istore_n (i := 3) dX9_cellOf_8 rfl (by decide) rfl ?_
  refine q_iload_n (i := 3) dX9_cellOf_9 rfl rfl ?_
  refine q_if_le (tgt := 21) dX9_cellOf_10 (by decide) (fun hb => ?_) (fun hb => ?_)
  · have hF := hF.1 hb
    refine q_iconst (v := (-1)) dX9_cellOf_21 (by decide) ?_
    exact q_iret rfl (by decide) (by decide) dX9_cellOf_22 hF
  · have hF := hF.2 hb
    refine q_iload_n (i := 2) dX9_cellOf_13 rfl rfl ?_
    refine q_iload_n (i := 3) dX9_cellOf_14 rfl rfl ?_
    refine q_callSi (As := [.int x2, .int r3]) (st := []) cs_X9_153 rfl (Nat.le_refl _) (Nat.le_of_ble_eq_true rfl) (by decide) dX9_cellOf_15 rfl hF (fun r5 h4 hF => ?_)
    refine q_goto (tgt := 22) dX9_cellOf_18 (by decide) ?_
    exact q_iret rfl (by decide) (by decide) dX9_cellOf_22 hF
def m_X9_hand : qm := (RX9, cX9_hand, 3, none, [], false)
set_option maxRecDepth 100000 in
set_option maxHeartbeats 4000000 in
theorem x_X9_hand (G : qG) (d : Nat) (x1 : Int32) (x2 : Int32) (h : qh) (Q : qr → qh → Prop)  (hF : (x1 < 0 → (Q (.inl none) (h.sI 38 15 ((h.I 38 15) + 1)))) ∧ (¬ x1 < 0 → ((1400 ≤ x1 → (Q (.inl none) (h.sI 38 15 ((h.I 38 15) + 1)))) ∧ (¬ 1400 ≤ x1 → (vp_in x1 1400 ∧ (((h.I 40 x1.toNatClampNeg) = 0 → (vp_in x1 1400 ∧ (vp_in x1 1400 ∧ (Q (.inl none) (((h.sI 39 x1.toNatClampNeg x2).sI 40 x1.toNatClampNeg 1).sI 38 8 ((h.I 38 8) + 1)))))) ∧ (¬ (h.I 40 x1.toNatClampNeg) = 0 → (Q (.inl none) (h.sI 38 15 ((h.I 38 15) + 1)))))))))) : q_M0 G (d + 1) yX9_hand [.ref 38, .int x1, .int x2] h Q := by
  refine q_of (M := m_X9_hand) (by decide +kernel) rfl rfl cd_X9_hand (by decide) (Nat.le_of_ble_eq_true rfl) ?_
  show q_N0 G m_X9_hand (d + 1) Q 0 [.ref 38, .int x1, .int x2] [] h
  refine q_iload_n (i := 1) dX9_hand_0 rfl rfl ?_
  refine q_if_lt (tgt := 20) dX9_hand_1 (by decide) (fun hb => ?_) (fun hb => ?_)
  · have hF := hF.1 hb
    refine q_aload_n (i := 0) dX9_hand_20 rfl rfl ?_
    refine q_dup dX9_hand_21 rfl ?_
    refine q_getIv (v := h.I 38 15) 10 15 fl_X9_156 (by decide) rfl rfl (rfl) dX9_hand_22 ?_
    refine q_iconst (v := 1) dX9_hand_25 (by decide) ?_
    refine q_iadd dX9_hand_26 ?_
    refine q_putI 10 15 fp_X9_156 (Or.inr ⟨_, _, _, rfl, rfl⟩) (by decide) rfl rfl dX9_hand_27 ?_
    exact q_vret rfl (by decide) (by decide) dX9_hand_30 hF
  · have hF := hF.2 hb
    refine q_iload_n (i := 1) dX9_hand_4 rfl rfl ?_
    refine q_sipush (v := 1400) dX9_hand_5 (by decide) ?_
    refine q_icmp_ge (tgt := 20) dX9_hand_8 (by decide) (fun hb => ?_) (fun hb => ?_)
    · have hF := hF.1 hb
      refine q_aload_n (i := 0) dX9_hand_20 rfl rfl ?_
      refine q_dup dX9_hand_21 rfl ?_
      refine q_getIv (v := h.I 38 15) 10 15 fl_X9_156 (by decide) rfl rfl (rfl) dX9_hand_22 ?_
      refine q_iconst (v := 1) dX9_hand_25 (by decide) ?_
      refine q_iadd dX9_hand_26 ?_
      refine q_putI 10 15 fp_X9_156 (Or.inr ⟨_, _, _, rfl, rfl⟩) (by decide) rfl rfl dX9_hand_27 ?_
      exact q_vret rfl (by decide) (by decide) dX9_hand_30 hF
    · have hF := hF.2 hb
      refine q_aload_n (i := 0) dX9_hand_11 rfl rfl ?_
      refine q_getP 10 3 40 fl_X9_15 (by decide) rfl rfl rfl dX9_hand_12 ?_
      refine q_iload_n (i := 1) dX9_hand_15 rfl rfl ?_
      obtain ⟨hi1, hF⟩ := hF
      refine q_zaloadv (v := h.I 40 x1.toNatClampNeg) (n := 1400) (by decide) rfl hi1 (rfl) dX9_hand_16 ?_
      refine q_if_eq (tgt := 31) dX9_hand_17 (by decide) (fun hb => ?_) (fun hb => ?_)
      · have hF := hF.1 hb
        refine q_aload_n (i := 0) dX9_hand_31 rfl rfl ?_
        refine q_getP 10 2 39 fl_X9_9 (by decide) rfl rfl rfl dX9_hand_32 ?_
        refine q_iload_n (i := 1) dX9_hand_35 rfl rfl ?_
        refine q_iload_n (i := 2) dX9_hand_36 rfl rfl ?_
        obtain ⟨hi2, hF⟩ := hF
        refine q_iastore (n := 1400) (by decide) rfl hi2 dX9_hand_37 ?_
        refine q_aload_n (i := 0) dX9_hand_38 rfl rfl ?_
        refine q_getP 10 3 40 fl_X9_15 (by decide) rfl rfl rfl dX9_hand_39 ?_
        refine q_iload_n (i := 1) dX9_hand_42 rfl rfl ?_
        refine q_iconst (v := 1) dX9_hand_43 (by decide) ?_
        obtain ⟨hi3, hF⟩ := hF
        refine q_zastore (n := 1400) (by decide) rfl hi3 (by decide) dX9_hand_44 ?_
        refine q_aload_n (i := 0) dX9_hand_45 rfl rfl ?_
        refine q_dup dX9_hand_46 rfl ?_
        refine q_getIv (v := h.I 38 8) 10 8 fl_X9_87 (by decide) rfl rfl ((q_I_neo (by decide)).trans ( (q_I_neo (by decide)).trans (rfl))) dX9_hand_47 ?_
        refine q_iconst (v := 1) dX9_hand_50 (by decide) ?_
        refine q_iadd dX9_hand_51 ?_
        refine q_putI 10 8 fp_X9_87 (Or.inr ⟨_, _, _, rfl, rfl⟩) (by decide) rfl rfl dX9_hand_52 ?_
        exact q_vret rfl (by decide) (by decide) dX9_hand_55 hF
      · have hF := hF.2 hb
        refine q_aload_n (i := 0) dX9_hand_20 rfl rfl ?_
        refine q_dup dX9_hand_21 rfl ?_
        refine q_getIv (v := h.I 38 15) 10 15 fl_X9_156 (by decide) rfl rfl (rfl) dX9_hand_22 ?_
        refine q_iconst (v := 1) dX9_hand_25 (by decide) ?_
        refine q_iadd dX9_hand_26 ?_
        refine q_putI 10 15 fp_X9_156 (Or.inr ⟨_, _, _, rfl, rfl⟩) (by decide) rfl rfl dX9_hand_27 ?_
        exact q_vret rfl (by decide) (by decide) dX9_hand_30 hF
def m_X9_taken : qm := (RX9, cX9_taken, 2, (some .int), [], false)
set_option maxRecDepth 100000 in
set_option maxHeartbeats 4000000 in
theorem x_X9_taken (G : qG) (d : Nat) (x1 : Int32) (h : qh) (Q : qr → qh → Prop)  (hF : q_M0 G d yX9_isFull [.ref 38, .int x1] h (q_ri (fun r2 h1 => (¬ r2 = 0 → (vp_in x1 1400 ∧ (vp_in x1 1400 ∧ (Q (.inl (some (.int (h1.I 39 x1.toNatClampNeg)))) ((h1.sI 40 x1.toNatClampNeg 0).sI 38 8 ((h1.I 38 8) - 1)))))) ∧ (r2 = 0 → (Q (.inl (some (.int 0))) h1))) (fun E h => Q (.inr E) h))) : q_M0 G (d + 1) yX9_taken [.ref 38, .int x1] h Q := by
  refine q_of (M := m_X9_taken) (by decide +kernel) rfl rfl cd_X9_taken (by decide) (Nat.le_of_ble_eq_true rfl) ?_
  show q_N0 G m_X9_taken (d + 1) Q 0 [.ref 38, .int x1] [] h
  refine q_aload_n (i := 0) dX9_taken_0 rfl rfl ?_
  refine q_iload_n (i := 1) dX9_taken_1 rfl rfl ?_
  refine q_callVi (ci := 10) (o := 38) (As := [.int x1]) (st := []) cv_X9_104 ⟨_, _, rfl⟩ (by decide) rfl rfl (Nat.le_refl _) (Nat.le_of_ble_eq_true rfl) (by decide) dX9_taken_2 rfl hF (fun r2 h1 hF => ?_)
  refine q_if_ne (tgt := 10) dX9_taken_5 (by decide) (fun hb => ?_) (fun hb => ?_)
  · have hF := hF.1 hb
    refine q_aload_n (i := 0) dX9_taken_10 rfl rfl ?_
    refine q_getP 10 3 40 fl_X9_15 (by decide) rfl rfl rfl dX9_taken_11 ?_
    refine q_iload_n (i := 1) dX9_taken_14 rfl rfl ?_
    refine q_iconst (v := 0) dX9_taken_15 (by decide) ?_
    obtain ⟨hi3, hF⟩ := hF
    refine q_zastore (n := 1400) (by decide) rfl hi3 (by decide) dX9_taken_16 ?_
    refine q_aload_n (i := 0) dX9_taken_17 rfl rfl ?_
    refine q_dup dX9_taken_18 rfl ?_
    refine q_getIv (v := h1.I 38 8) 10 8 fl_X9_87 (by decide) rfl rfl ((q_I_neo (by decide)).trans (rfl)) dX9_taken_19 ?_
    refine q_iconst (v := 1) dX9_taken_22 (by decide) ?_
    refine q_isub dX9_taken_23 ?_
    refine q_putI 10 8 fp_X9_87 (Or.inr ⟨_, _, _, rfl, rfl⟩) (by decide) rfl rfl dX9_taken_24 ?_
    refine q_aload_n (i := 0) dX9_taken_27 rfl rfl ?_
    refine q_getP 10 2 39 fl_X9_9 (by decide) rfl rfl rfl dX9_taken_28 ?_
    refine q_iload_n (i := 1) dX9_taken_31 rfl rfl ?_
    obtain ⟨hi4, hF⟩ := hF
    refine q_ialoadv (v := h1.I 39 x1.toNatClampNeg) (n := 1400) (by decide) rfl hi4 ((q_I_neo (by decide)).trans ( (q_I_neo (by decide)).trans (rfl))) dX9_taken_32 ?_
    exact q_iret rfl (by decide) (by decide) dX9_taken_33 hF
  · have hF := hF.2 hb
    refine q_iconst (v := 0) dX9_taken_8 (by decide) ?_
    exact q_iret rfl (by decide) (by decide) dX9_taken_9 hF
def m_X9_isFull : qm := (RX9, cX9_isFull, 2, (some .boolean), [], false)
set_option maxRecDepth 100000 in
set_option maxHeartbeats 4000000 in
theorem x_X9_isFull (G : qG) (d : Nat) (x1 : Int32) (h : qh) (Q : qr → qh → Prop)  (hF : (x1 < 0 → (Q (.inl (some (.int 0))) h)) ∧ (¬ x1 < 0 → ((1400 ≤ x1 → (Q (.inl (some (.int 0))) h)) ∧ (¬ 1400 ≤ x1 → (vp_in x1 1400 ∧ (((if (h.I 40 x1.toNatClampNeg) = 0 then (0 : Int32) else 1) = 0 ∨ (if (h.I 40 x1.toNatClampNeg) = 0 then (0 : Int32) else 1) = 1) ∧ Q (.inl (some (.int (if (h.I 40 x1.toNatClampNeg) = 0 then (0 : Int32) else 1)))) h)))))) : q_M0 G (d + 1) yX9_isFull [.ref 38, .int x1] h Q := by
  refine q_of (M := m_X9_isFull) (by decide +kernel) rfl rfl cd_X9_isFull (by decide) (Nat.le_of_ble_eq_true rfl) ?_
  show q_N0 G m_X9_isFull (d + 1) Q 0 [.ref 38, .int x1] [] h
  refine q_iload_n (i := 1) dX9_isFull_0 rfl rfl ?_
  refine q_if_lt (tgt := 24) dX9_isFull_1 (by decide) (fun hb => ?_) (fun hb => ?_)
  · have hF := hF.1 hb
    refine q_iconst (v := 0) dX9_isFull_24 (by decide) ?_
    exact q_zret rfl (by decide) (by decide) (by decide) dX9_isFull_25 hF
  · have hF := hF.2 hb
    refine q_iload_n (i := 1) dX9_isFull_4 rfl rfl ?_
    refine q_sipush (v := 1400) dX9_isFull_5 (by decide) ?_
    refine q_icmp_ge (tgt := 24) dX9_isFull_8 (by decide) (fun hb => ?_) (fun hb => ?_)
    · have hF := hF.1 hb
      refine q_iconst (v := 0) dX9_isFull_24 (by decide) ?_
      exact q_zret rfl (by decide) (by decide) (by decide) dX9_isFull_25 hF
    · have hF := hF.2 hb
      refine q_aload_n (i := 0) dX9_isFull_11 rfl rfl ?_
      refine q_getP 10 3 40 fl_X9_15 (by decide) rfl rfl rfl dX9_isFull_12 ?_
      refine q_iload_n (i := 1) dX9_isFull_15 rfl rfl ?_
      obtain ⟨hi1, hF⟩ := hF
      refine q_zaloadv (v := h.I 40 x1.toNatClampNeg) (n := 1400) (by decide) rfl hi1 (rfl) dX9_isFull_16 ?_
      have K2 := q_ite (c := (h.I 40 x1.toNatClampNeg) = 0) (X := fun v => q_N0 G m_X9_isFull (d + 1) Q 25 [.ref 38, .int x1] (.int v :: []) h) (a := 0) (b := 1) (by
        exact q_zret rfl hF.1 (by decide) (by decide) dX9_isFull_25 hF.2)
      refine q_if_eq (tgt := 24) dX9_isFull_17 (by decide) (fun hb => ?_) (fun hb => ?_)
      · refine q_iconst (v := 0) dX9_isFull_24 (by decide) ?_
        exact K2.1 hb
      · refine q_iconst (v := 1) dX9_isFull_20 (by decide) ?_
        refine q_goto (tgt := 25) dX9_isFull_21 (by decide) ?_
        exact K2.2 hb
def m_X9_isVariable : qm := (RX9, cX9_isVariable, 1, (some .boolean), [], false)
set_option maxRecDepth 100000 in
set_option maxHeartbeats 4000000 in
theorem x_X9_isVariable (G : qG) (d : Nat) (x1 : Int32) (h : qh) (Q : qr → qh → Prop)  (hF : (x1 < 0 → (Q (.inl (some (.int 0))) h)) ∧ (¬ x1 < 0 → (((if 16 ≤ x1 then (0 : Int32) else 1) = 0 ∨ (if 16 ≤ x1 then (0 : Int32) else 1) = 1) ∧ Q (.inl (some (.int (if 16 ≤ x1 then (0 : Int32) else 1)))) h))) : q_M0 G (d + 1) yX9_isVariable [.int x1] h Q := by
  refine q_of (M := m_X9_isVariable) (by decide +kernel) rfl rfl cd_X9_isVariable (by decide) (Nat.le_of_ble_eq_true rfl) ?_
  show q_N0 G m_X9_isVariable (d + 1) Q 0 [.int x1] [] h
  refine q_iload_n (i := 0) dX9_isVariable_0 rfl rfl ?_
  refine q_if_lt (tgt := 14) dX9_isVariable_1 (by decide) (fun hb => ?_) (fun hb => ?_)
  · have hF := hF.1 hb
    refine q_iconst (v := 0) dX9_isVariable_14 (by decide) ?_
    exact q_zret rfl (by decide) (by decide) (by decide) dX9_isVariable_15 hF
  · have hF := hF.2 hb
    refine q_iload_n (i := 0) dX9_isVariable_4 rfl rfl ?_
    refine q_bipush (v := 16) dX9_isVariable_5 (by decide) ?_
    have K1 := q_ite (c := 16 ≤ x1) (X := fun v => q_N0 G m_X9_isVariable (d + 1) Q 15 [.int x1] (.int v :: []) h) (a := 0) (b := 1) (by
      exact q_zret rfl hF.1 (by decide) (by decide) dX9_isVariable_15 hF.2)
    refine q_icmp_ge (tgt := 14) dX9_isVariable_7 (by decide) (fun hb => ?_) (fun hb => ?_)
    · refine q_iconst (v := 0) dX9_isVariable_14 (by decide) ?_
      exact K1.1 hb
    · refine q_iconst (v := 1) dX9_isVariable_10 (by decide) ?_
      refine q_goto (tgt := 15) dX9_isVariable_11 (by decide) ?_
      exact K1.2 hb
def m_X9_worked : qm := (RX9, cX9_worked, 3, (some .int), [], false)
set_option maxRecDepth 100000 in
set_option maxHeartbeats 4000000 in
theorem x_X9_worked (G : qG) (d : Nat) (x1 : Int32) (x2 : Int32) (x3 : Int32) (h : qh) (Q : qr → qh → Prop)  (hF : (x1 = (-126) → (Q (.inl (some (.int (x2 ^^^ (-1))))) h)) ∧ (x1 = (-45) → (Q (.inl (some (.int (-x2)))) h)) ∧ (x1 = (-33) → (q_M0 G d yX9_truth [.int (if x2 = 0 then (1 : Int32) else 0)] h (q_ri (fun r5 h4 => Q (.inl (some (.int r5))) h4) (fun E h => Q (.inr E) h)))) ∧ (x1 = 38 → (Q (.inl (some (.int (x2 &&& x3)))) h)) ∧ (x1 = 60 → (q_M0 G d yX9_truth [.int (if x3 ≤ x2 then (0 : Int32) else 1)] h (q_ri (fun r8 h7 => Q (.inl (some (.int r8))) h7) (fun E h => Q (.inr E) h)))) ∧ (x1 = 62 → (q_M0 G d yX9_truth [.int (if x2 ≤ x3 then (0 : Int32) else 1)] h (q_ri (fun r11 h10 => Q (.inl (some (.int r11))) h10) (fun E h => Q (.inr E) h)))) ∧ (x1 = 94 → (Q (.inl (some (.int (x2 ^^^ x3)))) h)) ∧ (x1 = 124 → (Q (.inl (some (.int (x2 ||| x3)))) h)) ∧ (x1 = 8509 → (q_M0 G d yX9_truth [.int (if x2 = x3 then (0 : Int32) else 1)] h (q_ri (fun r14 h13 => Q (.inl (some (.int r14))) h13) (fun E h => Q (.inr E) h)))) ∧ (x1 = 9766 → ((x2 = 0 → (q_M0 G d yX9_truth [.int 0] h (q_ri (fun r16 h15 => Q (.inl (some (.int r16))) h15) (fun E h => Q (.inr E) h)))) ∧ (¬ x2 = 0 → (q_M0 G d yX9_truth [.int (if x3 = 0 then (0 : Int32) else 1)] h (q_ri (fun r19 h18 => Q (.inl (some (.int r19))) h18) (fun E h => Q (.inr E) h)))))) ∧ (x1 = 15421 → (q_M0 G d yX9_truth [.int (if x3 < x2 then (0 : Int32) else 1)] h (q_ri (fun r22 h21 => Q (.inl (some (.int r22))) h21) (fun E h => Q (.inr E) h)))) ∧ (x1 = 15677 → (q_M0 G d yX9_truth [.int (if x2 = x3 then (1 : Int32) else 0)] h (q_ri (fun r25 h24 => Q (.inl (some (.int r25))) h24) (fun E h => Q (.inr E) h)))) ∧ (x1 = 15933 → (q_M0 G d yX9_truth [.int (if x2 < x3 then (0 : Int32) else 1)] h (q_ri (fun r28 h27 => Q (.inl (some (.int r28))) h27) (fun E h => Q (.inr E) h)))) ∧ (x1 = 31868 → ((¬ x2 = 0 → (q_M0 G d yX9_truth [.int 1] h (q_ri (fun r30 h29 => Q (.inl (some (.int r30))) h29) (fun E h => Q (.inr E) h)))) ∧ (x2 = 0 → (q_M0 G d yX9_truth [.int (if x3 = 0 then (0 : Int32) else 1)] h (q_ri (fun r33 h32 => Q (.inl (some (.int r33))) h32) (fun E h => Q (.inr E) h)))))) ∧ (¬ x1 = (-126) ∧ ¬ x1 = (-45) ∧ ¬ x1 = (-33) ∧ ¬ x1 = 38 ∧ ¬ x1 = 60 ∧ ¬ x1 = 62 ∧ ¬ x1 = 94 ∧ ¬ x1 = 124 ∧ ¬ x1 = 8509 ∧ ¬ x1 = 9766 ∧ ¬ x1 = 15421 ∧ ¬ x1 = 15677 ∧ ¬ x1 = 15933 ∧ ¬ x1 = 31868 → (q_M0 G d yX9_reckoned [.int x1, .int x2, .int x3] h (q_ri (fun r35 h34 => Q (.inl (some (.int r35))) h34) (fun E h => Q (.inr E) h))))) : q_M0 G (d + 1) yX9_worked [.int x1, .int x2, .int x3] h Q := by
  refine q_of (M := m_X9_worked) (by decide +kernel) rfl rfl cd_X9_worked (by decide) (Nat.le_of_ble_eq_true rfl) ?_
  show q_N0 G m_X9_worked (d + 1) Q 0 [.int x1, .int x2, .int x3] [] h
  refine q_iload_n (i := 0) dX9_worked_0 rfl rfl ?_
  refine q_by (x1 = (-126)) (fun hs1_0 => ?_) (fun hs1_0 => ?_)
  · have hF := hF.1 hs1_0
    refine q_lookup (tgt := 140) dX9_worked_1 (by decide) (by first | (rw [hs1_0]; done) | (rw [hs1_0]; rfl)) (by decide) ?_
    refine q_iload_n (i := 1) dX9_worked_140 rfl rfl ?_
    refine q_iconst (v := (-1)) dX9_worked_141 (by decide) ?_
    refine q_ixor dX9_worked_142 ?_
    exact q_iret rfl (by decide) (by decide) dX9_worked_143 hF
  have hF := hF.2
  refine q_by (x1 = (-45)) (fun hs1_1 => ?_) (fun hs1_1 => ?_)
  · have hF := hF.1 hs1_1
    refine q_lookup (tgt := 124) dX9_worked_1 (by decide) (by first | (rw [hs1_1]; done) | (rw [hs1_1]; rfl)) (by decide) ?_
    refine q_iload_n (i := 1) dX9_worked_124 rfl rfl ?_
    refine q_ineg dX9_worked_125 ?_
    exact q_iret rfl (by decide) (by decide) dX9_worked_126 hF
  have hF := hF.2
  refine q_by (x1 = (-33)) (fun hs1_2 => ?_) (fun hs1_2 => ?_)
  · have hF := hF.1 hs1_2
    refine q_lookup (tgt := 127) dX9_worked_1 (by decide) (by first | (rw [hs1_2]; done) | (rw [hs1_2]; rfl)) (by decide) ?_
    refine q_iload_n (i := 1) dX9_worked_127 rfl rfl ?_
    have K3 := q_ite (c := x2 = 0) (X := fun v => q_N0 G m_X9_worked (d + 1) Q 136 [.int x1, .int x2, .int x3] (.int v :: []) h) (a := 1) (b := 0) (by
      refine q_callSi (As := [.int (if x2 = 0 then (1 : Int32) else 0)]) (st := []) cs_X9_159 rfl (Nat.le_refl _) (Nat.le_of_ble_eq_true rfl) (by decide) dX9_worked_136 rfl hF (fun r5 h4 hF => ?_)
      exact q_iret rfl (by decide) (by decide) dX9_worked_139 hF)
    refine q_if_ne (tgt := 135) dX9_worked_128 (by decide) (fun hb => ?_) (fun hb => ?_)
    · refine q_iconst (v := 0) dX9_worked_135 (by decide) ?_
      exact K3.2 hb
    · refine q_iconst (v := 1) dX9_worked_131 (by decide) ?_
      refine q_goto (tgt := 136) dX9_worked_132 (by decide) ?_
      exact K3.1 hb
  have hF := hF.2
  refine q_by (x1 = 38) (fun hs1_3 => ?_) (fun hs1_3 => ?_)
  · have hF := hF.1 hs1_3
    refine q_lookup (tgt := 186) dX9_worked_1 (by decide) (by first | (rw [hs1_3]; done) | (rw [hs1_3]; rfl)) (by decide) ?_
    refine q_iload_n (i := 1) dX9_worked_186 rfl rfl ?_
    refine q_iload_n (i := 2) dX9_worked_187 rfl rfl ?_
    refine q_iand dX9_worked_188 ?_
    exact q_iret rfl (by decide) (by decide) dX9_worked_189 hF
  have hF := hF.2
  refine q_by (x1 = 60) (fun hs1_4 => ?_) (fun hs1_4 => ?_)
  · have hF := hF.1 hs1_4
    refine q_lookup (tgt := 218) dX9_worked_1 (by decide) (by first | (rw [hs1_4]; done) | (rw [hs1_4]; rfl)) (by decide) ?_
    refine q_iload_n (i := 1) dX9_worked_218 rfl rfl ?_
    refine q_iload_n (i := 2) dX9_worked_219 rfl rfl ?_
    have K6 := q_ite (c := x3 ≤ x2) (X := fun v => q_N0 G m_X9_worked (d + 1) Q 228 [.int x1, .int x2, .int x3] (.int v :: []) h) (a := 0) (b := 1) (by
      refine q_callSi (As := [.int (if x3 ≤ x2 then (0 : Int32) else 1)]) (st := []) cs_X9_159 rfl (Nat.le_refl _) (Nat.le_of_ble_eq_true rfl) (by decide) dX9_worked_228 rfl hF (fun r8 h7 hF => ?_)
      exact q_iret rfl (by decide) (by decide) dX9_worked_231 hF)
    refine q_icmp_ge (tgt := 227) dX9_worked_220 (by decide) (fun hb => ?_) (fun hb => ?_)
    · refine q_iconst (v := 0) dX9_worked_227 (by decide) ?_
      exact K6.1 hb
    · refine q_iconst (v := 1) dX9_worked_223 (by decide) ?_
      refine q_goto (tgt := 228) dX9_worked_224 (by decide) ?_
      exact K6.2 hb
  have hF := hF.2
  refine q_by (x1 = 62) (fun hs1_5 => ?_) (fun hs1_5 => ?_)
  · have hF := hF.1 hs1_5
    refine q_lookup (tgt := 246) dX9_worked_1 (by decide) (by first | (rw [hs1_5]; done) | (rw [hs1_5]; rfl)) (by decide) ?_
    refine q_iload_n (i := 1) dX9_worked_246 rfl rfl ?_
    refine q_iload_n (i := 2) dX9_worked_247 rfl rfl ?_
    have K9 := q_ite (c := x2 ≤ x3) (X := fun v => q_N0 G m_X9_worked (d + 1) Q 256 [.int x1, .int x2, .int x3] (.int v :: []) h) (a := 0) (b := 1) (by
      refine q_callSi (As := [.int (if x2 ≤ x3 then (0 : Int32) else 1)]) (st := []) cs_X9_159 rfl (Nat.le_refl _) (Nat.le_of_ble_eq_true rfl) (by decide) dX9_worked_256 rfl hF (fun r11 h10 hF => ?_)
      exact q_iret rfl (by decide) (by decide) dX9_worked_259 hF)
    refine q_icmp_le (tgt := 255) dX9_worked_248 (by decide) (fun hb => ?_) (fun hb => ?_)
    · refine q_iconst (v := 0) dX9_worked_255 (by decide) ?_
      exact K9.1 hb
    · refine q_iconst (v := 1) dX9_worked_251 (by decide) ?_
      refine q_goto (tgt := 256) dX9_worked_252 (by decide) ?_
      exact K9.2 hb
  have hF := hF.2
  refine q_by (x1 = 94) (fun hs1_6 => ?_) (fun hs1_6 => ?_)
  · have hF := hF.1 hs1_6
    refine q_lookup (tgt := 182) dX9_worked_1 (by decide) (by first | (rw [hs1_6]; done) | (rw [hs1_6]; rfl)) (by decide) ?_
    refine q_iload_n (i := 1) dX9_worked_182 rfl rfl ?_
    refine q_iload_n (i := 2) dX9_worked_183 rfl rfl ?_
    refine q_ixor dX9_worked_184 ?_
    exact q_iret rfl (by decide) (by decide) dX9_worked_185 hF
  have hF := hF.2
  refine q_by (x1 = 124) (fun hs1_7 => ?_) (fun hs1_7 => ?_)
  · have hF := hF.1 hs1_7
    refine q_lookup (tgt := 178) dX9_worked_1 (by decide) (by first | (rw [hs1_7]; done) | (rw [hs1_7]; rfl)) (by decide) ?_
    refine q_iload_n (i := 1) dX9_worked_178 rfl rfl ?_
    refine q_iload_n (i := 2) dX9_worked_179 rfl rfl ?_
    refine q_ior dX9_worked_180 ?_
    exact q_iret rfl (by decide) (by decide) dX9_worked_181 hF
  have hF := hF.2
  refine q_by (x1 = 8509) (fun hs1_8 => ?_) (fun hs1_8 => ?_)
  · have hF := hF.1 hs1_8
    refine q_lookup (tgt := 204) dX9_worked_1 (by decide) (by first | (rw [hs1_8]; done) | (rw [hs1_8]; rfl)) (by decide) ?_
    refine q_iload_n (i := 1) dX9_worked_204 rfl rfl ?_
    refine q_iload_n (i := 2) dX9_worked_205 rfl rfl ?_
    have K12 := q_ite (c := x2 = x3) (X := fun v => q_N0 G m_X9_worked (d + 1) Q 214 [.int x1, .int x2, .int x3] (.int v :: []) h) (a := 0) (b := 1) (by
      refine q_callSi (As := [.int (if x2 = x3 then (0 : Int32) else 1)]) (st := []) cs_X9_159 rfl (Nat.le_refl _) (Nat.le_of_ble_eq_true rfl) (by decide) dX9_worked_214 rfl hF (fun r14 h13 hF => ?_)
      exact q_iret rfl (by decide) (by decide) dX9_worked_217 hF)
    refine q_icmp_eq (tgt := 213) dX9_worked_206 (by decide) (fun hb => ?_) (fun hb => ?_)
    · refine q_iconst (v := 0) dX9_worked_213 (by decide) ?_
      exact K12.1 hb
    · refine q_iconst (v := 1) dX9_worked_209 (by decide) ?_
      refine q_goto (tgt := 214) dX9_worked_210 (by decide) ?_
      exact K12.2 hb
  have hF := hF.2
  refine q_by (x1 = 9766) (fun hs1_9 => ?_) (fun hs1_9 => ?_)
  · have hF := hF.1 hs1_9
    refine q_lookup (tgt := 161) dX9_worked_1 (by decide) (by first | (rw [hs1_9]; done) | (rw [hs1_9]; rfl)) (by decide) ?_
    refine q_iload_n (i := 1) dX9_worked_161 rfl rfl ?_
    refine q_if_eq (tgt := 173) dX9_worked_162 (by decide) (fun hb => ?_) (fun hb => ?_)
    · have hF := hF.1 hb
      refine q_iconst (v := 0) dX9_worked_173 (by decide) ?_
      refine q_callSi (As := [.int 0]) (st := []) cs_X9_159 rfl (Nat.le_refl _) (Nat.le_of_ble_eq_true rfl) (by decide) dX9_worked_174 rfl hF (fun r16 h15 hF => ?_)
      exact q_iret rfl (by decide) (by decide) dX9_worked_177 hF
    · have hF := hF.2 hb
      refine q_iload_n (i := 2) dX9_worked_165 rfl rfl ?_
      have K17 := q_ite (c := x3 = 0) (X := fun v => q_N0 G m_X9_worked (d + 1) Q 174 [.int x1, .int x2, .int x3] (.int v :: []) h) (a := 0) (b := 1) (by
        refine q_callSi (As := [.int (if x3 = 0 then (0 : Int32) else 1)]) (st := []) cs_X9_159 rfl (Nat.le_refl _) (Nat.le_of_ble_eq_true rfl) (by decide) dX9_worked_174 rfl hF (fun r19 h18 hF => ?_)
        exact q_iret rfl (by decide) (by decide) dX9_worked_177 hF)
      refine q_if_eq (tgt := 173) dX9_worked_166 (by decide) (fun hb => ?_) (fun hb => ?_)
      · refine q_iconst (v := 0) dX9_worked_173 (by decide) ?_
        exact K17.1 hb
      · refine q_iconst (v := 1) dX9_worked_169 (by decide) ?_
        refine q_goto (tgt := 174) dX9_worked_170 (by decide) ?_
        exact K17.2 hb
  have hF := hF.2
  refine q_by (x1 = 15421) (fun hs1_10 => ?_) (fun hs1_10 => ?_)
  · have hF := hF.1 hs1_10
    refine q_lookup (tgt := 232) dX9_worked_1 (by decide) (by first | (rw [hs1_10]; done) | (rw [hs1_10]; rfl)) (by decide) ?_
    refine q_iload_n (i := 1) dX9_worked_232 rfl rfl ?_
    refine q_iload_n (i := 2) dX9_worked_233 rfl rfl ?_
    have K20 := q_ite (c := x3 < x2) (X := fun v => q_N0 G m_X9_worked (d + 1) Q 242 [.int x1, .int x2, .int x3] (.int v :: []) h) (a := 0) (b := 1) (by
      refine q_callSi (As := [.int (if x3 < x2 then (0 : Int32) else 1)]) (st := []) cs_X9_159 rfl (Nat.le_refl _) (Nat.le_of_ble_eq_true rfl) (by decide) dX9_worked_242 rfl hF (fun r22 h21 hF => ?_)
      exact q_iret rfl (by decide) (by decide) dX9_worked_245 hF)
    refine q_icmp_gt (tgt := 241) dX9_worked_234 (by decide) (fun hb => ?_) (fun hb => ?_)
    · refine q_iconst (v := 0) dX9_worked_241 (by decide) ?_
      exact K20.1 hb
    · refine q_iconst (v := 1) dX9_worked_237 (by decide) ?_
      refine q_goto (tgt := 242) dX9_worked_238 (by decide) ?_
      exact K20.2 hb
  have hF := hF.2
  refine q_by (x1 = 15677) (fun hs1_11 => ?_) (fun hs1_11 => ?_)
  · have hF := hF.1 hs1_11
    refine q_lookup (tgt := 190) dX9_worked_1 (by decide) (by first | (rw [hs1_11]; done) | (rw [hs1_11]; rfl)) (by decide) ?_
    refine q_iload_n (i := 1) dX9_worked_190 rfl rfl ?_
    refine q_iload_n (i := 2) dX9_worked_191 rfl rfl ?_
    have K23 := q_ite (c := x2 = x3) (X := fun v => q_N0 G m_X9_worked (d + 1) Q 200 [.int x1, .int x2, .int x3] (.int v :: []) h) (a := 1) (b := 0) (by
      refine q_callSi (As := [.int (if x2 = x3 then (1 : Int32) else 0)]) (st := []) cs_X9_159 rfl (Nat.le_refl _) (Nat.le_of_ble_eq_true rfl) (by decide) dX9_worked_200 rfl hF (fun r25 h24 hF => ?_)
      exact q_iret rfl (by decide) (by decide) dX9_worked_203 hF)
    refine q_icmp_ne (tgt := 199) dX9_worked_192 (by decide) (fun hb => ?_) (fun hb => ?_)
    · refine q_iconst (v := 0) dX9_worked_199 (by decide) ?_
      exact K23.2 hb
    · refine q_iconst (v := 1) dX9_worked_195 (by decide) ?_
      refine q_goto (tgt := 200) dX9_worked_196 (by decide) ?_
      exact K23.1 hb
  have hF := hF.2
  refine q_by (x1 = 15933) (fun hs1_12 => ?_) (fun hs1_12 => ?_)
  · have hF := hF.1 hs1_12
    refine q_lookup (tgt := 260) dX9_worked_1 (by decide) (by first | (rw [hs1_12]; done) | (rw [hs1_12]; rfl)) (by decide) ?_
    refine q_iload_n (i := 1) dX9_worked_260 rfl rfl ?_
    refine q_iload_n (i := 2) dX9_worked_261 rfl rfl ?_
    have K26 := q_ite (c := x2 < x3) (X := fun v => q_N0 G m_X9_worked (d + 1) Q 270 [.int x1, .int x2, .int x3] (.int v :: []) h) (a := 0) (b := 1) (by
      refine q_callSi (As := [.int (if x2 < x3 then (0 : Int32) else 1)]) (st := []) cs_X9_159 rfl (Nat.le_refl _) (Nat.le_of_ble_eq_true rfl) (by decide) dX9_worked_270 rfl hF (fun r28 h27 hF => ?_)
      exact q_iret rfl (by decide) (by decide) dX9_worked_273 hF)
    refine q_icmp_lt (tgt := 269) dX9_worked_262 (by decide) (fun hb => ?_) (fun hb => ?_)
    · refine q_iconst (v := 0) dX9_worked_269 (by decide) ?_
      exact K26.1 hb
    · refine q_iconst (v := 1) dX9_worked_265 (by decide) ?_
      refine q_goto (tgt := 270) dX9_worked_266 (by decide) ?_
      exact K26.2 hb
  have hF := hF.2
  refine q_by (x1 = 31868) (fun hs1_13 => ?_) (fun hs1_13 => ?_)
  · have hF := hF.1 hs1_13
    refine q_lookup (tgt := 144) dX9_worked_1 (by decide) (by first | (rw [hs1_13]; done) | (rw [hs1_13]; rfl)) (by decide) ?_
    refine q_iload_n (i := 1) dX9_worked_144 rfl rfl ?_
    refine q_if_ne (tgt := 152) dX9_worked_145 (by decide) (fun hb => ?_) (fun hb => ?_)
    · have hF := hF.1 hb
      refine q_iconst (v := 1) dX9_worked_152 (by decide) ?_
      refine q_goto (tgt := 157) dX9_worked_153 (by decide) ?_
      refine q_callSi (As := [.int 1]) (st := []) cs_X9_159 rfl (Nat.le_refl _) (Nat.le_of_ble_eq_true rfl) (by decide) dX9_worked_157 rfl hF (fun r30 h29 hF => ?_)
      exact q_iret rfl (by decide) (by decide) dX9_worked_160 hF
    · have hF := hF.2 hb
      refine q_iload_n (i := 2) dX9_worked_148 rfl rfl ?_
      have K31 := q_ite (c := x3 = 0) (X := fun v => q_N0 G m_X9_worked (d + 1) Q 157 [.int x1, .int x2, .int x3] (.int v :: []) h) (a := 0) (b := 1) (by
        refine q_callSi (As := [.int (if x3 = 0 then (0 : Int32) else 1)]) (st := []) cs_X9_159 rfl (Nat.le_refl _) (Nat.le_of_ble_eq_true rfl) (by decide) dX9_worked_157 rfl hF (fun r33 h32 hF => ?_)
        exact q_iret rfl (by decide) (by decide) dX9_worked_160 hF)
      refine q_if_eq (tgt := 156) dX9_worked_149 (by decide) (fun hb => ?_) (fun hb => ?_)
      · refine q_iconst (v := 0) dX9_worked_156 (by decide) ?_
        exact K31.1 hb
      · refine q_iconst (v := 1) dX9_worked_152 (by decide) ?_
        refine q_goto (tgt := 157) dX9_worked_153 (by decide) ?_
        exact K31.2 hb
  have hF := hF.2
  refine q_lookup (off := 273) (tgt := 274) dX9_worked_1 (by decide) (by first | (rw [lv_osw hs1_0 (a := -126) (by decide), lv_osw hs1_1 (a := -45) (by decide), lv_osw hs1_2 (a := -33) (by decide), lv_osw hs1_3 (a := 38) (by decide), lv_osw hs1_4 (a := 60) (by decide), lv_osw hs1_5 (a := 62) (by decide), lv_osw hs1_6 (a := 94) (by decide), lv_osw hs1_7 (a := 124) (by decide), lv_osw hs1_8 (a := 8509) (by decide), lv_osw hs1_9 (a := 9766) (by decide), lv_osw hs1_10 (a := 15421) (by decide), lv_osw hs1_11 (a := 15677) (by decide), lv_osw hs1_12 (a := 15933) (by decide), lv_osw hs1_13 (a := 31868) (by decide)]; done) | (rw [lv_osw hs1_0 (a := -126) (by decide), lv_osw hs1_1 (a := -45) (by decide), lv_osw hs1_2 (a := -33) (by decide), lv_osw hs1_3 (a := 38) (by decide), lv_osw hs1_4 (a := 60) (by decide), lv_osw hs1_5 (a := 62) (by decide), lv_osw hs1_6 (a := 94) (by decide), lv_osw hs1_7 (a := 124) (by decide), lv_osw hs1_8 (a := 8509) (by decide), lv_osw hs1_9 (a := 9766) (by decide), lv_osw hs1_10 (a := 15421) (by decide), lv_osw hs1_11 (a := 15677) (by decide), lv_osw hs1_12 (a := 15933) (by decide), lv_osw hs1_13 (a := 31868) (by decide)]; rfl)) (by decide) ?_
  have hF := hF ⟨hs1_0, hs1_1, hs1_2, hs1_3, hs1_4, hs1_5, hs1_6, hs1_7, hs1_8, hs1_9, hs1_10, hs1_11, hs1_12, hs1_13⟩
  refine q_iload_n (i := 0) dX9_worked_274 rfl rfl ?_
  refine q_iload_n (i := 1) dX9_worked_275 rfl rfl ?_
  refine q_iload_n (i := 2) dX9_worked_276 rfl rfl ?_
  refine q_callSi (As := [.int x1, .int x2, .int x3]) (st := []) cs_X9_163 rfl (Nat.le_refl _) (Nat.le_of_ble_eq_true rfl) (by decide) dX9_worked_277 rfl hF (fun r35 h34 hF => ?_)
  exact q_iret rfl (by decide) (by decide) dX9_worked_280 hF
def m_X9_reckoned : qm := (RX9, cX9_reckoned, 3, (some .int), [], false)
set_option maxRecDepth 100000 in
set_option maxHeartbeats 4000000 in
theorem x_X9_reckoned (G : qG) (d : Nat) (x1 : Int32) (x2 : Int32) (x3 : Int32) (h : qh) (Q : qr → qh → Prop)  (hF : (x1 = 37 → ((¬ x3 = 0 → (¬ x3 = 0 ∧ (Q (.inl (some (.int (x2 - x2 / x3 * x3)))) h))) ∧ (x3 = 0 → (Q (.inl (some (.int x2))) h)))) ∧ (x1 = 42 → (Q (.inl (some (.int (x2 * x3)))) h)) ∧ (x1 = 43 → (Q (.inl (some (.int (x2 + x3)))) h)) ∧ (x1 = 45 → (Q (.inl (some (.int (x2 - x3)))) h)) ∧ (x1 = 47 → ((¬ x3 = 0 → (¬ x3 = 0 ∧ (Q (.inl (some (.int (x2 / x3)))) h))) ∧ (x3 = 0 → (Q (.inl (some (.int (-1)))) h)))) ∧ (x1 = 15420 → (Q (.inl (some (.int (x2 <<< (x3 &&& 31))))) h)) ∧ (x1 = 15934 → (Q (.inl (some (.int (x2 >>> (x3 &&& 31))))) h)) ∧ (¬ x1 = 37 ∧ ¬ x1 = 42 ∧ ¬ x1 = 43 ∧ ¬ x1 = 45 ∧ ¬ x1 = 47 ∧ ¬ x1 = 15420 ∧ ¬ x1 = 15934 → (Q (.inl (some (.int 0))) h))) : q_M0 G (d + 1) yX9_reckoned [.int x1, .int x2, .int x3] h Q := by
  refine q_of (M := m_X9_reckoned) (by decide +kernel) rfl rfl cd_X9_reckoned (by decide) (Nat.le_of_ble_eq_true rfl) ?_
  show q_N0 G m_X9_reckoned (d + 1) Q 0 [.int x1, .int x2, .int x3] [] h
  refine q_iload_n (i := 0) dX9_reckoned_0 rfl rfl ?_
  refine q_by (x1 = 37) (fun hs1_0 => ?_) (fun hs1_0 => ?_)
  · have hF := hF.1 hs1_0
    refine q_lookup (tgt := 100) dX9_reckoned_1 (by decide) (by first | (rw [hs1_0]; done) | (rw [hs1_0]; rfl)) (by decide) ?_
    refine q_iload_n (i := 2) dX9_reckoned_100 rfl rfl ?_
    refine q_if_ne (tgt := 108) dX9_reckoned_101 (by decide) (fun hb => ?_) (fun hb => ?_)
    · have hF := hF.1 hb
      refine q_iload_n (i := 1) dX9_reckoned_108 rfl rfl ?_
      refine q_iload_n (i := 2) dX9_reckoned_109 rfl rfl ?_
      obtain ⟨hn, hF⟩ := hF
      refine q_irem dX9_reckoned_110 hn ?_
      exact q_iret rfl (by decide) (by decide) dX9_reckoned_111 hF
    · have hF := hF.2 hb
      refine q_iload_n (i := 1) dX9_reckoned_104 rfl rfl ?_
      refine q_goto (tgt := 111) dX9_reckoned_105 (by decide) ?_
      exact q_iret rfl (by decide) (by decide) dX9_reckoned_111 hF
  have hF := hF.2
  refine q_by (x1 = 42) (fun hs1_1 => ?_) (fun hs1_1 => ?_)
  · have hF := hF.1 hs1_1
    refine q_lookup (tgt := 84) dX9_reckoned_1 (by decide) (by first | (rw [hs1_1]; done) | (rw [hs1_1]; rfl)) (by decide) ?_
    refine q_iload_n (i := 1) dX9_reckoned_84 rfl rfl ?_
    refine q_iload_n (i := 2) dX9_reckoned_85 rfl rfl ?_
    refine q_imul dX9_reckoned_86 ?_
    exact q_iret rfl (by decide) (by decide) dX9_reckoned_87 hF
  have hF := hF.2
  refine q_by (x1 = 43) (fun hs1_2 => ?_) (fun hs1_2 => ?_)
  · have hF := hF.1 hs1_2
    refine q_lookup (tgt := 76) dX9_reckoned_1 (by decide) (by first | (rw [hs1_2]; done) | (rw [hs1_2]; rfl)) (by decide) ?_
    refine q_iload_n (i := 1) dX9_reckoned_76 rfl rfl ?_
    refine q_iload_n (i := 2) dX9_reckoned_77 rfl rfl ?_
    refine q_iadd dX9_reckoned_78 ?_
    exact q_iret rfl (by decide) (by decide) dX9_reckoned_79 hF
  have hF := hF.2
  refine q_by (x1 = 45) (fun hs1_3 => ?_) (fun hs1_3 => ?_)
  · have hF := hF.1 hs1_3
    refine q_lookup (tgt := 80) dX9_reckoned_1 (by decide) (by first | (rw [hs1_3]; done) | (rw [hs1_3]; rfl)) (by decide) ?_
    refine q_iload_n (i := 1) dX9_reckoned_80 rfl rfl ?_
    refine q_iload_n (i := 2) dX9_reckoned_81 rfl rfl ?_
    refine q_isub dX9_reckoned_82 ?_
    exact q_iret rfl (by decide) (by decide) dX9_reckoned_83 hF
  have hF := hF.2
  refine q_by (x1 = 47) (fun hs1_4 => ?_) (fun hs1_4 => ?_)
  · have hF := hF.1 hs1_4
    refine q_lookup (tgt := 88) dX9_reckoned_1 (by decide) (by first | (rw [hs1_4]; done) | (rw [hs1_4]; rfl)) (by decide) ?_
    refine q_iload_n (i := 2) dX9_reckoned_88 rfl rfl ?_
    refine q_if_ne (tgt := 96) dX9_reckoned_89 (by decide) (fun hb => ?_) (fun hb => ?_)
    · have hF := hF.1 hb
      refine q_iload_n (i := 1) dX9_reckoned_96 rfl rfl ?_
      refine q_iload_n (i := 2) dX9_reckoned_97 rfl rfl ?_
      obtain ⟨hn, hF⟩ := hF
      refine q_idiv dX9_reckoned_98 hn ?_
      exact q_iret rfl (by decide) (by decide) dX9_reckoned_99 hF
    · have hF := hF.2 hb
      refine q_iconst (v := (-1)) dX9_reckoned_92 (by decide) ?_
      refine q_goto (tgt := 99) dX9_reckoned_93 (by decide) ?_
      exact q_iret rfl (by decide) (by decide) dX9_reckoned_99 hF
  have hF := hF.2
  refine q_by (x1 = 15420) (fun hs1_5 => ?_) (fun hs1_5 => ?_)
  · have hF := hF.1 hs1_5
    refine q_lookup (tgt := 68) dX9_reckoned_1 (by decide) (by first | (rw [hs1_5]; done) | (rw [hs1_5]; rfl)) (by decide) ?_
    refine q_iload_n (i := 1) dX9_reckoned_68 rfl rfl ?_
    refine q_iload_n (i := 2) dX9_reckoned_69 rfl rfl ?_
    refine q_ishl dX9_reckoned_70 ?_
    exact q_iret rfl (by decide) (by decide) dX9_reckoned_71 hF
  have hF := hF.2
  refine q_by (x1 = 15934) (fun hs1_6 => ?_) (fun hs1_6 => ?_)
  · have hF := hF.1 hs1_6
    refine q_lookup (tgt := 72) dX9_reckoned_1 (by decide) (by first | (rw [hs1_6]; done) | (rw [hs1_6]; rfl)) (by decide) ?_
    refine q_iload_n (i := 1) dX9_reckoned_72 rfl rfl ?_
    refine q_iload_n (i := 2) dX9_reckoned_73 rfl rfl ?_
    refine q_ishr dX9_reckoned_74 ?_
    exact q_iret rfl (by decide) (by decide) dX9_reckoned_75 hF
  have hF := hF.2
  refine q_lookup (off := 111) (tgt := 112) dX9_reckoned_1 (by decide) (by first | (rw [lv_osw hs1_0 (a := 37) (by decide), lv_osw hs1_1 (a := 42) (by decide), lv_osw hs1_2 (a := 43) (by decide), lv_osw hs1_3 (a := 45) (by decide), lv_osw hs1_4 (a := 47) (by decide), lv_osw hs1_5 (a := 15420) (by decide), lv_osw hs1_6 (a := 15934) (by decide)]; done) | (rw [lv_osw hs1_0 (a := 37) (by decide), lv_osw hs1_1 (a := 42) (by decide), lv_osw hs1_2 (a := 43) (by decide), lv_osw hs1_3 (a := 45) (by decide), lv_osw hs1_4 (a := 47) (by decide), lv_osw hs1_5 (a := 15420) (by decide), lv_osw hs1_6 (a := 15934) (by decide)]; rfl)) (by decide) ?_
  have hF := hF ⟨hs1_0, hs1_1, hs1_2, hs1_3, hs1_4, hs1_5, hs1_6⟩
  refine q_iconst (v := 0) dX9_reckoned_112 (by decide) ?_
  exact q_iret rfl (by decide) (by decide) dX9_reckoned_113 hF
def m_X9_truth : qm := (RX9, cX9_truth, 1, (some .int), [], false)
set_option maxRecDepth 100000 in
set_option maxHeartbeats 4000000 in
theorem x_X9_truth (G : qG) (d : Nat) (x1 : Int32) (h : qh) (Q : qr → qh → Prop)  (hF : Q (.inl (some (.int (if x1 = 0 then (0 : Int32) else 1)))) h) : q_M0 G (d + 1) yX9_truth [.int x1] h Q := by
  refine q_of (M := m_X9_truth) (by decide +kernel) rfl rfl cd_X9_truth (by decide) (Nat.le_of_ble_eq_true rfl) ?_
  show q_N0 G m_X9_truth (d + 1) Q 0 [.int x1] [] h
  refine q_iload_n (i := 0) dX9_truth_0 rfl rfl ?_
  have K1 := q_ite (c := x1 = 0) (X := fun v => q_N0 G m_X9_truth (d + 1) Q 9 [.int x1] (.int v :: []) h) (a := 0) (b := 1) (by
    exact q_iret rfl (by decide) (by decide) dX9_truth_9 hF)
  refine q_if_eq (tgt := 8) dX9_truth_1 (by decide) (fun hb => ?_) (fun hb => ?_)
  · refine q_iconst (v := 0) dX9_truth_8 (by decide) ?_
    exact K1.1 hb
  · refine q_iconst (v := 1) dX9_truth_4 (by decide) ?_
    refine q_goto (tgt := 9) dX9_truth_5 (by decide) ?_
    exact K1.2 hb
def m_X10_feed : qm := (RX10, cX10_feed, 6, (some .int), [], false)
set_option maxRecDepth 100000 in
set_option maxHeartbeats 4000000 in
theorem x_X10_feed (G : qG) (d : Nat) (x1 : Int32) (x2 : Int32) (x3 : Int32) (x4 : Int32) (x5 : Int32) (h : qh) (Q : qr → qh → Prop)  (hF : (((h.I 15 1) + 20) ≤ 2000 → (q_M0 G d yX7_add [.ref 15, .int x1] h (q_rv (fun h1 => q_M0 G d yX7_add [.ref 15, .int x2] h1 (q_rv (fun h2 => q_M0 G d yX7_add [.ref 15, .int x3] h2 (q_rv (fun h3 => q_M0 G d yX7_add [.ref 15, .int x4] h3 (q_rv (fun h4 => q_M0 G d yX7_add [.ref 15, .int x5] h4 (q_rv (fun h5 => Q (.inl (some (.int (h5.I 15 1)))) h5) (fun E h => Q (.inr E) h))) (fun E h => Q (.inr E) h))) (fun E h => Q (.inr E) h))) (fun E h => Q (.inr E) h))) (fun E h => Q (.inr E) h)))) ∧ (¬ ((h.I 15 1) + 20) ≤ 2000 → (Q (.inl (some (.int (-1)))) h))) : q_M0 G (d + 1) yX10_feed [.ref 0, .int x1, .int x2, .int x3, .int x4, .int x5] h Q := by
  refine q_of (M := m_X10_feed) (by decide +kernel) rfl rfl cd_X10_feed (by decide) (Nat.le_of_ble_eq_true rfl) ?_
  show q_N0 G m_X10_feed (d + 1) Q 0 [.ref 0, .int x1, .int x2, .int x3, .int x4, .int x5] [] h
  refine q_aload_n (i := 0) dX10_feed_0 rfl rfl ?_
  refine q_getP 11 0 15 fl_X10_22 (by decide) rfl rfl rfl dX10_feed_1 ?_
  refine q_getIv (v := h.I 15 1) 8 1 fl_X10_86 (by decide) rfl rfl (rfl) dX10_feed_4 ?_
  refine q_bipush (v := 20) dX10_feed_7 (by decide) ?_
  refine q_iadd dX10_feed_9 ?_
  refine q_sipush (v := 2000) dX10_feed_10 (by decide) ?_
  refine q_icmp_le (tgt := 18) dX10_feed_13 (by decide) (fun hb => ?_) (fun hb => ?_)
  · have hF := hF.1 hb
    refine q_aload_n (i := 0) dX10_feed_18 rfl rfl ?_
    refine q_getP 11 0 15 fl_X10_22 (by decide) rfl rfl rfl dX10_feed_19 ?_
    refine q_iload_n (i := 1) dX10_feed_22 rfl rfl ?_
    refine q_callVv (ci := 8) (o := 15) (As := [.int x1]) (st := []) cv_X10_89 ⟨_, _, rfl⟩ (by decide) rfl rfl (Nat.le_refl _) (Nat.le_of_ble_eq_true rfl) (by decide) dX10_feed_23 rfl hF (fun h1 hF => ?_)
    refine q_aload_n (i := 0) dX10_feed_26 rfl rfl ?_
    refine q_getP 11 0 15 fl_X10_22 (by decide) rfl rfl rfl dX10_feed_27 ?_
    refine q_iload_n (i := 2) dX10_feed_30 rfl rfl ?_
    refine q_callVv (ci := 8) (o := 15) (As := [.int x2]) (st := []) cv_X10_89 ⟨_, _, rfl⟩ (by decide) rfl rfl (Nat.le_refl _) (Nat.le_of_ble_eq_true rfl) (by decide) dX10_feed_31 rfl hF (fun h2 hF => ?_)
    refine q_aload_n (i := 0) dX10_feed_34 rfl rfl ?_
    refine q_getP 11 0 15 fl_X10_22 (by decide) rfl rfl rfl dX10_feed_35 ?_
    refine q_iload_n (i := 3) dX10_feed_38 rfl rfl ?_
    refine q_callVv (ci := 8) (o := 15) (As := [.int x3]) (st := []) cv_X10_89 ⟨_, _, rfl⟩ (by decide) rfl rfl (Nat.le_refl _) (Nat.le_of_ble_eq_true rfl) (by decide) dX10_feed_39 rfl hF (fun h3 hF => ?_)
    refine q_aload_n (i := 0) dX10_feed_42 rfl rfl ?_
    refine q_getP 11 0 15 fl_X10_22 (by decide) rfl rfl rfl dX10_feed_43 ?_
    refine q_iload dX10_feed_46 rfl ?_
    refine q_callVv (ci := 8) (o := 15) (As := [.int x4]) (st := []) cv_X10_89 ⟨_, _, rfl⟩ (by decide) rfl rfl (Nat.le_refl _) (Nat.le_of_ble_eq_true rfl) (by decide) dX10_feed_48 rfl hF (fun h4 hF => ?_)
    refine q_aload_n (i := 0) dX10_feed_51 rfl rfl ?_
    refine q_getP 11 0 15 fl_X10_22 (by decide) rfl rfl rfl dX10_feed_52 ?_
    refine q_iload dX10_feed_55 rfl ?_
    refine q_callVv (ci := 8) (o := 15) (As := [.int x5]) (st := []) cv_X10_89 ⟨_, _, rfl⟩ (by decide) rfl rfl (Nat.le_refl _) (Nat.le_of_ble_eq_true rfl) (by decide) dX10_feed_57 rfl hF (fun h5 hF => ?_)
    refine q_aload_n (i := 0) dX10_feed_60 rfl rfl ?_
    refine q_getP 11 0 15 fl_X10_22 (by decide) rfl rfl rfl dX10_feed_61 ?_
    refine q_getIv (v := h5.I 15 1) 8 1 fl_X10_86 (by decide) rfl rfl (rfl) dX10_feed_64 ?_
    exact q_iret rfl (by decide) (by decide) dX10_feed_67 hF
  · have hF := hF.2 hb
    refine q_iconst (v := (-1)) dX10_feed_16 (by decide) ?_
    exact q_iret rfl (by decide) (by decide) dX10_feed_17 hF
def m_X10_build : qm := (RX10, cX10_build, 3, (some .int), [], false)
set_option maxRecDepth 100000 in
set_option maxHeartbeats 4000000 in
theorem x_X10_build (G : qG) (d : Nat) (x1 : Int32) (h : qh) (Q : qr → qh → Prop)  (hF : (x1 < 0 → (Q (.inl (some (.int (-2)))) h)) ∧ (¬ x1 < 0 → ((x1 ≤ (h.I 15 1) → (q_M0 G d yX8_cut [.ref 17, .int x1] h (q_rv (fun h1 => ∃ c2, h1.R 0 8 = some c2 ∧ q_cir c2 ∧ (q_M0 G d yX2_make [.ref 21, .ref c2] (h1.sI 15 1 0) (q_rv (fun h3 => q_M0 G d yX2_faultKind [.ref 21] h3 (q_ri (fun r5 h4 => q_M0 G d yX2_faultPlace [.ref 21] (h4.sI 0 10 r5) (q_ri (fun r7 h6 => ((h6.I 0 10) = 0 → (∃ c8, h6.R 0 7 = some c8 ∧ q_cir c8 ∧ (∃ c9, h6.R 0 8 = some c9 ∧ q_cir c9 ∧ (q_M0 G d yJ7_fill_53178 [.ref 42, .int 0] ((((h6.sI 0 11 r7).sR 0 7 (some c9)).sR 0 8 (some c8)).sI 0 9 1) (q_rv (fun h10 => q_M0 G d yX3_clear [.ref 31] h10 (q_rv (fun h11 => q_M0 G d yX9_forget [.ref 38] h11 (q_rv (fun h12 => Q (.inl (some (.int 0))) h12) (fun E h => Q (.inr E) h))) (fun E h => Q (.inr E) h))) (fun E h => Q (.inr E) h)))))) ∧ (¬ (h6.I 0 10) = 0 → (Q (.inl (some (.int (-1)))) (h6.sI 0 11 r7)))) (fun E h => Q (.inr E) h))) (fun E h => Q (.inr E) h))) (fun E h => Q (.inr E) h)))) (fun E h => Q (.inr E) h)))) ∧ (¬ x1 ≤ (h.I 15 1) → (Q (.inl (some (.int (-2)))) h))))) : q_M0 G (d + 1) yX10_build [.ref 0, .int x1] h Q := by
  refine q_of (M := m_X10_build) (by decide +kernel) rfl rfl cd_X10_build (by decide) (Nat.le_of_ble_eq_true rfl) ?_
  show q_N0 G m_X10_build (d + 1) Q 0 [.ref 0, .int x1, .null] [] h
  refine q_iload_n (i := 1) dX10_build_0 rfl rfl ?_
  refine q_if_lt (tgt := 15) dX10_build_1 (by decide) (fun hb => ?_) (fun hb => ?_)
  · have hF := hF.1 hb
    refine q_bipush (v := (-2)) dX10_build_15 (by decide) ?_
    exact q_iret rfl (by decide) (by decide) dX10_build_17 hF
  · have hF := hF.2 hb
    refine q_iload_n (i := 1) dX10_build_4 rfl rfl ?_
    refine q_aload_n (i := 0) dX10_build_5 rfl rfl ?_
    refine q_getP 11 0 15 fl_X10_22 (by decide) rfl rfl rfl dX10_build_6 ?_
    refine q_getIv (v := h.I 15 1) 8 1 fl_X10_86 (by decide) rfl rfl (rfl) dX10_build_9 ?_
    refine q_icmp_le (tgt := 18) dX10_build_12 (by decide) (fun hb => ?_) (fun hb => ?_)
    · have hF := hF.1 hb
      refine q_aload_n (i := 0) dX10_build_18 rfl rfl ?_
      refine q_getP 11 1 17 fl_X10_35 (by decide) rfl rfl rfl dX10_build_19 ?_
      refine q_iload_n (i := 1) dX10_build_22 rfl rfl ?_
      refine q_callVv (ci := 9) (o := 17) (As := [.int x1]) (st := []) cv_X10_93 ⟨_, _, rfl⟩ (by decide) rfl rfl (Nat.le_refl _) (Nat.le_of_ble_eq_true rfl) (by decide) dX10_build_23 rfl hF (fun h1 hF => ?_)
      refine q_aload_n (i := 0) dX10_build_26 rfl rfl ?_
      refine q_getP 11 0 15 fl_X10_22 (by decide) rfl rfl rfl dX10_build_27 ?_
      refine q_iconst (v := 0) dX10_build_30 (by decide) ?_
      refine q_putI 8 1 fp_X10_86 (Or.inr ⟨_, _, _, rfl, rfl⟩) (by decide) rfl rfl dX10_build_31 ?_
      refine q_aload_n (i := 0) dX10_build_34 rfl rfl ?_
      refine q_getP 11 2 21 fl_X10_44 (by decide) rfl rfl rfl dX10_build_35 ?_
      refine q_aload_n (i := 0) dX10_build_38 rfl rfl ?_
      obtain ⟨c2, hrc2, hc2, hF⟩ := hF
      refine q_getR (k := c2) 11 8 fl_X10_16 (by decide) rfl rfl hrc2 dX10_build_39 ?_
      refine q_callVv (ci := 3) (o := 21) (As := [.ref c2]) (st := []) cv_X10_96 ⟨_, _, rfl⟩ (by decide) rfl rfl (Nat.le_refl _) (Nat.le_of_ble_eq_true rfl) (by decide) dX10_build_42 rfl hF (fun h3 hF => ?_)
      refine q_aload_n (i := 0) dX10_build_45 rfl rfl ?_
      refine q_aload_n (i := 0) dX10_build_46 rfl rfl ?_
      refine q_getP 11 2 21 fl_X10_44 (by decide) rfl rfl rfl dX10_build_47 ?_
      refine q_callVi (ci := 3) (o := 21) (As := []) (st := [.ref 0]) cv_X10_100 ⟨_, _, rfl⟩ (by decide) rfl rfl (Nat.le_refl _) (Nat.le_of_ble_eq_true rfl) (by decide) dX10_build_50 rfl hF (fun r5 h4 hF => ?_)
      refine q_putI 11 10 fp_X10_79 (Or.inr ⟨_, _, _, rfl, rfl⟩) (by decide) rfl rfl dX10_build_53 ?_
      refine q_aload_n (i := 0) dX10_build_56 rfl rfl ?_
      refine q_aload_n (i := 0) dX10_build_57 rfl rfl ?_
      refine q_getP 11 2 21 fl_X10_44 (by decide) rfl rfl rfl dX10_build_58 ?_
      refine q_callVi (ci := 3) (o := 21) (As := []) (st := [.ref 0]) cv_X10_103 ⟨_, _, rfl⟩ (by decide) rfl rfl (Nat.le_refl _) (Nat.le_of_ble_eq_true rfl) (by decide) dX10_build_61 rfl hF (fun r7 h6 hF => ?_)
      refine q_putI 11 11 fp_X10_83 (Or.inr ⟨_, _, _, rfl, rfl⟩) (by decide) rfl rfl dX10_build_64 ?_
      refine q_aload_n (i := 0) dX10_build_67 rfl rfl ?_
      refine q_getIv (v := h6.I 0 10) 11 10 fl_X10_79 (by decide) rfl rfl ((q_I_nek (by decide)).trans (rfl)) dX10_build_68 ?_
      refine q_if_eq (tgt := 76) dX10_build_71 (by decide) (fun hb => ?_) (fun hb => ?_)
      · have hF := hF.1 hb
        refine q_aload_n (i := 0) dX10_build_76 rfl rfl ?_
        obtain ⟨c8, hrc8, hc8, hF⟩ := hF
        refine q_getR (k := c8) 11 7 fl_X10_12 (by decide) rfl rfl hrc8 dX10_build_77 ?_
        refine q_astore_n (i := 2) dX10_build_80 rfl (by decide) rfl ?_
        refine q_aload_n (i := 0) dX10_build_81 rfl rfl ?_
        refine q_aload_n (i := 0) dX10_build_82 rfl rfl ?_
        obtain ⟨c9, hrc9, hc9, hF⟩ := hF
        refine q_getR (k := c9) 11 8 fl_X10_16 (by decide) rfl rfl hrc9 dX10_build_83 ?_
        refine q_putR (v := c9) 11 7 fp_X10_12 (Or.inr ⟨_, _, _, rfl, rfl⟩) (by decide) rfl rfl (by rfl) (Or.inl ⟨_, rfl⟩) dX10_build_86 ?_
        refine q_aload_n (i := 0) dX10_build_89 rfl rfl ?_
        refine q_aload_n (i := 2) dX10_build_90 rfl rfl ?_
        refine q_putR (v := c8) 11 8 fp_X10_16 (Or.inr ⟨_, _, _, rfl, rfl⟩) (by decide) rfl rfl (by rfl) (Or.inl ⟨_, rfl⟩) dX10_build_91 ?_
        refine q_aload_n (i := 0) dX10_build_94 rfl rfl ?_
        refine q_iconst (v := 1) dX10_build_95 (by decide) ?_
        refine q_putZ 11 9 fp_X10_75 (Or.inr ⟨_, _, _, rfl, rfl⟩) (by decide) rfl rfl (by decide) dX10_build_96 ?_
        refine q_aload_n (i := 0) dX10_build_99 rfl rfl ?_
        refine q_getP 11 6 42 fl_X10_71 (by decide) rfl rfl rfl dX10_build_100 ?_
        refine q_iconst (v := 0) dX10_build_103 (by decide) ?_
        refine q_callSv (As := [.ref 42, .int 0]) (st := []) cs_X10_105 rfl (Nat.le_refl _) (Nat.le_of_ble_eq_true rfl) (by decide) dX10_build_104 rfl hF (fun h10 hF => ?_)
        refine q_aload_n (i := 0) dX10_build_107 rfl rfl ?_
        refine q_getP 11 3 31 fl_X10_51 (by decide) rfl rfl rfl dX10_build_108 ?_
        refine q_callVv (ci := 4) (o := 31) (As := []) (st := []) cv_X10_111 ⟨_, _, rfl⟩ (by decide) rfl rfl (Nat.le_refl _) (Nat.le_of_ble_eq_true rfl) (by decide) dX10_build_111 rfl hF (fun h11 hF => ?_)
        refine q_aload_n (i := 0) dX10_build_114 rfl rfl ?_
        refine q_getP 11 5 38 fl_X10_67 (by decide) rfl rfl rfl dX10_build_115 ?_
        refine q_callVv (ci := 10) (o := 38) (As := []) (st := []) cv_X10_114 ⟨_, _, rfl⟩ (by decide) rfl rfl (Nat.le_refl _) (Nat.le_of_ble_eq_true rfl) (by decide) dX10_build_118 rfl hF (fun h12 hF => ?_)
        refine q_iconst (v := 0) dX10_build_121 (by decide) ?_
        exact q_iret rfl (by decide) (by decide) dX10_build_122 hF
      · have hF := hF.2 hb
        refine q_iconst (v := (-1)) dX10_build_74 (by decide) ?_
        exact q_iret rfl (by decide) (by decide) dX10_build_75 hF
    · have hF := hF.2 hb
      refine q_bipush (v := (-2)) dX10_build_15 (by decide) ?_
      exact q_iret rfl (by decide) (by decide) dX10_build_17 hF
def m_X10_fault : qm := (RX10, cX10_fault, 2, (some .int), [], false)
set_option maxRecDepth 100000 in
set_option maxHeartbeats 4000000 in
theorem x_X10_fault (G : qG) (d : Nat) (x1 : Int32) (h : qh) (Q : qr → qh → Prop)  (hF : (x1 = 0 → (Q (.inl (some (.int (h.I 0 10)))) h)) ∧ (x1 = 1 → (Q (.inl (some (.int (h.I 0 11)))) h)) ∧ (¬ x1 = 0 ∧ ¬ x1 = 1 → (Q (.inl (some (.int (-1)))) h))) : q_M0 G (d + 1) yX10_fault [.ref 0, .int x1] h Q := by
  refine q_of (M := m_X10_fault) (by decide +kernel) rfl rfl cd_X10_fault (by decide) (Nat.le_of_ble_eq_true rfl) ?_
  show q_N0 G m_X10_fault (d + 1) Q 0 [.ref 0, .int x1] [] h
  refine q_iload_n (i := 1) dX10_fault_0 rfl rfl ?_
  refine q_by (x1 = 0) (fun hs1_0 => ?_) (fun hs1_0 => ?_)
  · have hF := hF.1 hs1_0
    refine q_lookup (tgt := 28) dX10_fault_1 (by decide) (by first | (rw [hs1_0]; done) | (rw [hs1_0]; rfl)) (by decide) ?_
    refine q_aload_n (i := 0) dX10_fault_28 rfl rfl ?_
    refine q_getIv (v := h.I 0 10) 11 10 fl_X10_79 (by decide) rfl rfl (rfl) dX10_fault_29 ?_
    exact q_iret rfl (by decide) (by decide) dX10_fault_32 hF
  have hF := hF.2
  refine q_by (x1 = 1) (fun hs1_1 => ?_) (fun hs1_1 => ?_)
  · have hF := hF.1 hs1_1
    refine q_lookup (tgt := 33) dX10_fault_1 (by decide) (by first | (rw [hs1_1]; done) | (rw [hs1_1]; rfl)) (by decide) ?_
    refine q_aload_n (i := 0) dX10_fault_33 rfl rfl ?_
    refine q_getIv (v := h.I 0 11) 11 11 fl_X10_83 (by decide) rfl rfl (rfl) dX10_fault_34 ?_
    exact q_iret rfl (by decide) (by decide) dX10_fault_37 hF
  have hF := hF.2
  refine q_lookup (off := 37) (tgt := 38) dX10_fault_1 (by decide) (by first | (rw [lv_osw hs1_0 (a := 0) (by decide), lv_osw hs1_1 (a := 1) (by decide)]; done) | (rw [lv_osw hs1_0 (a := 0) (by decide), lv_osw hs1_1 (a := 1) (by decide)]; rfl)) (by decide) ?_
  have hF := hF ⟨hs1_0, hs1_1⟩
  refine q_iconst (v := (-1)) dX10_fault_38 (by decide) ?_
  exact q_iret rfl (by decide) (by decide) dX10_fault_39 hF
def m_X10_latency : qm := (RX10, cX10_latency, 2, (some .int), [], false)
set_option maxRecDepth 100000 in
set_option maxHeartbeats 4000000 in
theorem x_X10_latency (G : qG) (d : Nat) (x1 : Int32) (h : qh) (Q : qr → qh → Prop)  (hF : (x1 < 1 → (Q (.inl (some (.int (-1)))) h)) ∧ (¬ x1 < 1 → ((64 < x1 → (Q (.inl (some (.int (-1)))) h)) ∧ (¬ 64 < x1 → (((h.I 31 5) < 32 → (q_M0 G d yX3_addRow [.ref 31, .int x1] h (q_rv (fun h1 => Q (.inl (some (.int (h1.I 31 5)))) h1) (fun E h => Q (.inr E) h)))) ∧ (¬ (h.I 31 5) < 32 → (Q (.inl (some (.int (-1)))) h))))))) : q_M0 G (d + 1) yX10_latency [.ref 0, .int x1] h Q := by
  refine q_of (M := m_X10_latency) (by decide +kernel) rfl rfl cd_X10_latency (by decide) (Nat.le_of_ble_eq_true rfl) ?_
  show q_N0 G m_X10_latency (d + 1) Q 0 [.ref 0, .int x1] [] h
  refine q_iload_n (i := 1) dX10_latency_0 rfl rfl ?_
  refine q_iconst (v := 1) dX10_latency_1 (by decide) ?_
  refine q_icmp_lt (tgt := 23) dX10_latency_2 (by decide) (fun hb => ?_) (fun hb => ?_)
  · have hF := hF.1 hb
    refine q_iconst (v := (-1)) dX10_latency_23 (by decide) ?_
    exact q_iret rfl (by decide) (by decide) dX10_latency_24 hF
  · have hF := hF.2 hb
    refine q_iload_n (i := 1) dX10_latency_5 rfl rfl ?_
    refine q_bipush (v := 64) dX10_latency_6 (by decide) ?_
    refine q_icmp_gt (tgt := 23) dX10_latency_8 (by decide) (fun hb => ?_) (fun hb => ?_)
    · have hF := hF.1 hb
      refine q_iconst (v := (-1)) dX10_latency_23 (by decide) ?_
      exact q_iret rfl (by decide) (by decide) dX10_latency_24 hF
    · have hF := hF.2 hb
      refine q_aload_n (i := 0) dX10_latency_11 rfl rfl ?_
      refine q_getP 11 3 31 fl_X10_51 (by decide) rfl rfl rfl dX10_latency_12 ?_
      refine q_getIv (v := h.I 31 5) 4 5 fl_X10_141 (by decide) rfl rfl (rfl) dX10_latency_15 ?_
      refine q_bipush (v := 32) dX10_latency_18 (by decide) ?_
      refine q_icmp_lt (tgt := 25) dX10_latency_20 (by decide) (fun hb => ?_) (fun hb => ?_)
      · have hF := hF.1 hb
        refine q_aload_n (i := 0) dX10_latency_25 rfl rfl ?_
        refine q_getP 11 3 31 fl_X10_51 (by decide) rfl rfl rfl dX10_latency_26 ?_
        refine q_iload_n (i := 1) dX10_latency_29 rfl rfl ?_
        refine q_callVv (ci := 4) (o := 31) (As := [.int x1]) (st := []) cv_X10_144 ⟨_, _, rfl⟩ (by decide) rfl rfl (Nat.le_refl _) (Nat.le_of_ble_eq_true rfl) (by decide) dX10_latency_30 rfl hF (fun h1 hF => ?_)
        refine q_aload_n (i := 0) dX10_latency_33 rfl rfl ?_
        refine q_getP 11 3 31 fl_X10_51 (by decide) rfl rfl rfl dX10_latency_34 ?_
        refine q_getIv (v := h1.I 31 5) 4 5 fl_X10_141 (by decide) rfl rfl (rfl) dX10_latency_37 ?_
        exact q_iret rfl (by decide) (by decide) dX10_latency_40 hF
      · have hF := hF.2 hb
        refine q_iconst (v := (-1)) dX10_latency_23 (by decide) ?_
        exact q_iret rfl (by decide) (by decide) dX10_latency_24 hF
def m_X10_free : qm := (RX10, cX10_free, 2, (some .int), [], false)
set_option maxRecDepth 100000 in
set_option maxHeartbeats 4000000 in
theorem x_X10_free (G : qG) (d : Nat)  (h : qh) (Q : qr → qh → Prop)  (hF : Q (.inl (some (.int (h.I 31 5)))) (h.sI 31 5 0)) : q_M0 G (d + 1) yX10_free [.ref 0] h Q := by
  refine q_of (M := m_X10_free) (by decide +kernel) rfl rfl cd_X10_free (by decide) (Nat.le_of_ble_eq_true rfl) ?_
  show q_N0 G m_X10_free (d + 1) Q 0 [.ref 0, .null] [] h
  refine q_aload_n (i := 0) dX10_free_0 rfl rfl ?_
  refine q_getP 11 3 31 fl_X10_51 (by decide) rfl rfl rfl dX10_free_1 ?_
  refine q_getIv (v := h.I 31 5) 4 5 fl_X10_141 (by decide) rfl rfl (rfl) dX10_free_4 ?_
  refine q_istore_n (i := 1) dX10_free_7 rfl (by decide) rfl ?_
  refine q_aload_n (i := 0) dX10_free_8 rfl rfl ?_
  refine q_getP 11 3 31 fl_X10_51 (by decide) rfl rfl rfl dX10_free_9 ?_
  refine q_iconst (v := 0) dX10_free_12 (by decide) ?_
  refine q_putI 4 5 fp_X10_141 (Or.inr ⟨_, _, _, rfl, rfl⟩) (by decide) rfl rfl dX10_free_13 ?_
  refine q_iload_n (i := 1) dX10_free_16 rfl rfl ?_
  exact q_iret rfl (by decide) (by decide) dX10_free_17 hF
def m_X10_stall : qm := (RX10, cX10_stall, 5, (some .long), [], false)
set_option maxRecDepth 100000 in
set_option maxHeartbeats 4000000 in
theorem x_X10_stall (G : qG) (d : Nat) (x1 : Int64) (h : qh) (Q : qr → qh → Prop)  (hF : (¬ (lg_cmp x1 (-1)) = 0 → (Q (.inl (some (.long (h.L 37 0)))) (h.sL 37 0 x1))) ∧ ((lg_cmp x1 (-1)) = 0 → (Q (.inl (some (.long (h.L 37 0)))) (h.sL 37 0 0)))) : q_M0 G (d + 1) yX10_stall [.ref 0, .long x1] h Q := by
  refine q_of (M := m_X10_stall) (by decide +kernel) rfl rfl cd_X10_stall (by decide) (Nat.le_of_ble_eq_true rfl) ?_
  show q_N0 G m_X10_stall (d + 1) Q 0 [.ref 0, .long x1, .null, .null, .null] [] h
  refine q_aload_n (i := 0) dX10_stall_0 rfl rfl ?_
  refine q_getP 11 4 37 fl_X10_58 (by decide) rfl rfl rfl dX10_stall_1 ?_
  refine q_getLv (v := h.L 37 0) 7 0 fl_X10_147 (by decide) rfl rfl (rfl) dX10_stall_4 ?_
  refine q_lstore_n (i := 3) dX10_stall_7 rfl (by decide) rfl ?_
  refine q_aload_n (i := 0) dX10_stall_8 rfl rfl ?_
  refine q_getP 11 4 37 fl_X10_58 (by decide) rfl rfl rfl dX10_stall_9 ?_
  refine q_lload_n (i := 1) dX10_stall_12 rfl rfl ?_
  refine q_ldc2 cl_X10_151 dX10_stall_13 ?_
  refine q_lcmp dX10_stall_16 ?_
  refine q_if_ne (tgt := 24) dX10_stall_17 (by decide) (fun hb => ?_) (fun hb => ?_)
  · have hF := hF.1 hb
    refine q_lload_n (i := 1) dX10_stall_24 rfl rfl ?_
    refine q_putL 7 0 fp_X10_147 (Or.inr ⟨_, _, _, rfl, rfl⟩) (by decide) rfl rfl dX10_stall_25 ?_
    refine q_lload_n (i := 3) dX10_stall_28 rfl rfl ?_
    exact q_lret rfl (by decide) (by decide) dX10_stall_29 hF
  · have hF := hF.2 hb
    refine q_lconst (v := 0) dX10_stall_20 (by decide) ?_
    refine q_goto (tgt := 25) dX10_stall_21 (by decide) ?_
    refine q_putL 7 0 fp_X10_147 (Or.inr ⟨_, _, _, rfl, rfl⟩) (by decide) rfl rfl dX10_stall_25 ?_
    refine q_lload_n (i := 3) dX10_stall_28 rfl rfl ?_
    exact q_lret rfl (by decide) (by decide) dX10_stall_29 hF
def m_X10_run : qm := (RX10, cX10_run, 2, (some .int), [], false)
set_option maxRecDepth 100000 in
set_option maxHeartbeats 4000000 in
theorem x_X10_run (G : qG) (d : Nat) (x1 : Int32) (h : qh) (Q : qr → qh → Prop)  (hF : ((h.I 0 9) = 0 → (Q (.inl (some (.int (-1)))) h)) ∧ (¬ (h.I 0 9) = 0 → ((x1 < 1 → (Q (.inl (some (.int (-1)))) h)) ∧ (¬ x1 < 1 → ((x1 ≤ 3000 → (∃ c1, h.R 0 7 = some c1 ∧ q_cir c1 ∧ (q_M0 G d yX9_perform [.ref 38, .ref c1, .ref 42, .int x1] h (q_ri (fun r3 h2 => Q (.inl (some (.int r3))) h2) (fun E h => Q (.inr E) h))))) ∧ (¬ x1 ≤ 3000 → (Q (.inl (some (.int (-1)))) h))))))) : q_M0 G (d + 1) yX10_run [.ref 0, .int x1] h Q := by
  refine q_of (M := m_X10_run) (by decide +kernel) rfl rfl cd_X10_run (by decide) (Nat.le_of_ble_eq_true rfl) ?_
  show q_N0 G m_X10_run (d + 1) Q 0 [.ref 0, .int x1] [] h
  refine q_aload_n (i := 0) dX10_run_0 rfl rfl ?_
  refine q_getIv (v := h.I 0 9) 11 9 fl_X10_75 (by decide) rfl rfl (rfl) dX10_run_1 ?_
  refine q_if_eq (tgt := 19) dX10_run_4 (by decide) (fun hb => ?_) (fun hb => ?_)
  · have hF := hF.1 hb
    refine q_iconst (v := (-1)) dX10_run_19 (by decide) ?_
    exact q_iret rfl (by decide) (by decide) dX10_run_20 hF
  · have hF := hF.2 hb
    refine q_iload_n (i := 1) dX10_run_7 rfl rfl ?_
    refine q_iconst (v := 1) dX10_run_8 (by decide) ?_
    refine q_icmp_lt (tgt := 19) dX10_run_9 (by decide) (fun hb => ?_) (fun hb => ?_)
    · have hF := hF.1 hb
      refine q_iconst (v := (-1)) dX10_run_19 (by decide) ?_
      exact q_iret rfl (by decide) (by decide) dX10_run_20 hF
    · have hF := hF.2 hb
      refine q_iload_n (i := 1) dX10_run_12 rfl rfl ?_
      refine q_sipush (v := 3000) dX10_run_13 (by decide) ?_
      refine q_icmp_le (tgt := 21) dX10_run_16 (by decide) (fun hb => ?_) (fun hb => ?_)
      · have hF := hF.1 hb
        refine q_aload_n (i := 0) dX10_run_21 rfl rfl ?_
        refine q_getP 11 5 38 fl_X10_67 (by decide) rfl rfl rfl dX10_run_22 ?_
        refine q_aload_n (i := 0) dX10_run_25 rfl rfl ?_
        obtain ⟨c1, hrc1, hc1, hF⟩ := hF
        refine q_getR (k := c1) 11 7 fl_X10_12 (by decide) rfl rfl hrc1 dX10_run_26 ?_
        refine q_aload_n (i := 0) dX10_run_29 rfl rfl ?_
        refine q_getP 11 6 42 fl_X10_71 (by decide) rfl rfl rfl dX10_run_30 ?_
        refine q_iload_n (i := 1) dX10_run_33 rfl rfl ?_
        refine q_callVi (ci := 10) (o := 38) (As := [.ref c1, .ref 42, .int x1]) (st := []) cv_X10_153 ⟨_, _, rfl⟩ (by decide) rfl rfl (Nat.le_refl _) (Nat.le_of_ble_eq_true rfl) (by decide) dX10_run_34 rfl hF (fun r3 h2 hF => ?_)
        exact q_iret rfl (by decide) (by decide) dX10_run_37 hF
      · have hF := hF.2 hb
        refine q_iconst (v := (-1)) dX10_run_19 (by decide) ?_
        exact q_iret rfl (by decide) (by decide) dX10_run_20 hF
def m_X10_told : qm := (RX10, cX10_told, 2, (some .int), [], false)
set_option maxRecDepth 100000 in
set_option maxHeartbeats 4000000 in
theorem x_X10_told (G : qG) (d : Nat) (x1 : Int32) (h : qh) (Q : qr → qh → Prop)  (hF : (x1 = 0 → (Q (.inl (some (.int (h.I 38 9)))) h)) ∧ (x1 = 1 → (Q (.inl (some (.int (h.I 38 10)))) h)) ∧ (x1 = 2 → (Q (.inl (some (.int (h.I 38 11)))) h)) ∧ (x1 = 3 → (Q (.inl (some (.int (h.I 31 6)))) h)) ∧ (x1 = 4 → (Q (.inl (some (.int (h.I 31 7)))) h)) ∧ (x1 = 5 → (Q (.inl (some (.int (h.I 37 1)))) h)) ∧ (¬ x1 = 0 ∧ ¬ x1 = 1 ∧ ¬ x1 = 2 ∧ ¬ x1 = 3 ∧ ¬ x1 = 4 ∧ ¬ x1 = 5 → (Q (.inl (some (.int (-1)))) h))) : q_M0 G (d + 1) yX10_told [.ref 0, .int x1] h Q := by
  refine q_of (M := m_X10_told) (by decide +kernel) rfl rfl cd_X10_told (by decide) (Nat.le_of_ble_eq_true rfl) ?_
  show q_N0 G m_X10_told (d + 1) Q 0 [.ref 0, .int x1] [] h
  refine q_iload_n (i := 1) dX10_told_0 rfl rfl ?_
  refine q_by (x1 = 0) (fun hs1_0 => ?_) (fun hs1_0 => ?_)
  · have hF := hF.1 hs1_0
    refine q_tableIn (tgt := 40) dX10_told_1 (by rw [hs1_0]; decide) (by rw [hs1_0]; decide) (by first | (rw [hs1_0]; done) | (rw [hs1_0]; rfl)) (by decide) ?_
    refine q_aload_n (i := 0) dX10_told_40 rfl rfl ?_
    refine q_getP 11 5 38 fl_X10_67 (by decide) rfl rfl rfl dX10_told_41 ?_
    refine q_getIv (v := h.I 38 9) 10 9 fl_X10_157 (by decide) rfl rfl (rfl) dX10_told_44 ?_
    exact q_iret rfl (by decide) (by decide) dX10_told_47 hF
  have hF := hF.2
  refine q_by (x1 = 1) (fun hs1_1 => ?_) (fun hs1_1 => ?_)
  · have hF := hF.1 hs1_1
    refine q_tableIn (tgt := 48) dX10_told_1 (by rw [hs1_1]; decide) (by rw [hs1_1]; decide) (by first | (rw [hs1_1]; done) | (rw [hs1_1]; rfl)) (by decide) ?_
    refine q_aload_n (i := 0) dX10_told_48 rfl rfl ?_
    refine q_getP 11 5 38 fl_X10_67 (by decide) rfl rfl rfl dX10_told_49 ?_
    refine q_getIv (v := h.I 38 10) 10 10 fl_X10_160 (by decide) rfl rfl (rfl) dX10_told_52 ?_
    exact q_iret rfl (by decide) (by decide) dX10_told_55 hF
  have hF := hF.2
  refine q_by (x1 = 2) (fun hs1_2 => ?_) (fun hs1_2 => ?_)
  · have hF := hF.1 hs1_2
    refine q_tableIn (tgt := 56) dX10_told_1 (by rw [hs1_2]; decide) (by rw [hs1_2]; decide) (by first | (rw [hs1_2]; done) | (rw [hs1_2]; rfl)) (by decide) ?_
    refine q_aload_n (i := 0) dX10_told_56 rfl rfl ?_
    refine q_getP 11 5 38 fl_X10_67 (by decide) rfl rfl rfl dX10_told_57 ?_
    refine q_getIv (v := h.I 38 11) 10 11 fl_X10_163 (by decide) rfl rfl (rfl) dX10_told_60 ?_
    exact q_iret rfl (by decide) (by decide) dX10_told_63 hF
  have hF := hF.2
  refine q_by (x1 = 3) (fun hs1_3 => ?_) (fun hs1_3 => ?_)
  · have hF := hF.1 hs1_3
    refine q_tableIn (tgt := 64) dX10_told_1 (by rw [hs1_3]; decide) (by rw [hs1_3]; decide) (by first | (rw [hs1_3]; done) | (rw [hs1_3]; rfl)) (by decide) ?_
    refine q_aload_n (i := 0) dX10_told_64 rfl rfl ?_
    refine q_getP 11 3 31 fl_X10_51 (by decide) rfl rfl rfl dX10_told_65 ?_
    refine q_getIv (v := h.I 31 6) 4 6 fl_X10_166 (by decide) rfl rfl (rfl) dX10_told_68 ?_
    exact q_iret rfl (by decide) (by decide) dX10_told_71 hF
  have hF := hF.2
  refine q_by (x1 = 4) (fun hs1_4 => ?_) (fun hs1_4 => ?_)
  · have hF := hF.1 hs1_4
    refine q_tableIn (tgt := 72) dX10_told_1 (by rw [hs1_4]; decide) (by rw [hs1_4]; decide) (by first | (rw [hs1_4]; done) | (rw [hs1_4]; rfl)) (by decide) ?_
    refine q_aload_n (i := 0) dX10_told_72 rfl rfl ?_
    refine q_getP 11 3 31 fl_X10_51 (by decide) rfl rfl rfl dX10_told_73 ?_
    refine q_getIv (v := h.I 31 7) 4 7 fl_X10_169 (by decide) rfl rfl (rfl) dX10_told_76 ?_
    exact q_iret rfl (by decide) (by decide) dX10_told_79 hF
  have hF := hF.2
  refine q_by (x1 = 5) (fun hs1_5 => ?_) (fun hs1_5 => ?_)
  · have hF := hF.1 hs1_5
    refine q_tableIn (tgt := 80) dX10_told_1 (by rw [hs1_5]; decide) (by rw [hs1_5]; decide) (by first | (rw [hs1_5]; done) | (rw [hs1_5]; rfl)) (by decide) ?_
    refine q_aload_n (i := 0) dX10_told_80 rfl rfl ?_
    refine q_getP 11 4 37 fl_X10_58 (by decide) rfl rfl rfl dX10_told_81 ?_
    refine q_getIv (v := h.I 37 1) 7 1 fl_X10_172 (by decide) rfl rfl (rfl) dX10_told_84 ?_
    exact q_iret rfl (by decide) (by decide) dX10_told_87 hF
  have hF := hF.2
  refine q_tableOut (tgt := 88) dX10_told_1 (by have n0 := lv_neT hs1_0 (a := 0) (by decide); have n1 := lv_neT hs1_1 (a := 1) (by decide); have n2 := lv_neT hs1_2 (a := 2) (by decide); have n3 := lv_neT hs1_3 (a := 3) (by decide); have n4 := lv_neT hs1_4 (a := 4) (by decide); have n5 := lv_neT hs1_5 (a := 5) (by decide); omega) (by decide) ?_
  have hF := hF ⟨hs1_0, hs1_1, hs1_2, hs1_3, hs1_4, hs1_5⟩
  refine q_iconst (v := (-1)) dX10_told_88 (by decide) ?_
  exact q_iret rfl (by decide) (by decide) dX10_told_89 hF
def m_X10_count : qm := (RX10, cX10_count, 2, (some .int), [], false)
set_option maxRecDepth 100000 in
set_option maxHeartbeats 4000000 in
theorem x_X10_count (G : qG) (d : Nat) (x1 : Int32) (h : qh) (Q : qr → qh → Prop)  (hF : (x1 = 0 → (Q (.inl (some (.int (h.I 15 1)))) h)) ∧ (x1 = 1 → (Q (.inl (some (.int (if (h.I 0 9) = 0 then (0 : Int32) else 1)))) h)) ∧ (x1 = 2 → (∃ c4, h.R 0 7 = some c4 ∧ q_cir c4 ∧ (Q (.inl (some (.int (h.I c4 8)))) h))) ∧ (x1 = 3 → (∃ c5, h.R 0 7 = some c5 ∧ q_cir c5 ∧ (Q (.inl (some (.int (h.I c5 9)))) h))) ∧ (x1 = 4 → (∃ c6, h.R 0 7 = some c6 ∧ q_cir c6 ∧ (Q (.inl (some (.int (h.I c6 10)))) h))) ∧ (x1 = 5 → (∃ c7, h.R 0 7 = some c7 ∧ q_cir c7 ∧ (Q (.inl (some (.int (h.I c7 11)))) h))) ∧ (x1 = 6 → (Q (.inl (some (.int (h.I 31 5)))) h)) ∧ (x1 = 7 → (Q (.inl (some (.int (h.I 38 13)))) h)) ∧ (x1 = 8 → (Q (.inl (some (.int (h.I 38 14)))) h)) ∧ (x1 = 9 → (Q (.inl (some (.int (h.I 38 15)))) h)) ∧ (x1 = 10 → (Q (.inl (some (.int (h.I 31 9)))) h)) ∧ (¬ x1 = 0 ∧ ¬ x1 = 1 ∧ ¬ x1 = 2 ∧ ¬ x1 = 3 ∧ ¬ x1 = 4 ∧ ¬ x1 = 5 ∧ ¬ x1 = 6 ∧ ¬ x1 = 7 ∧ ¬ x1 = 8 ∧ ¬ x1 = 9 ∧ ¬ x1 = 10 → (Q (.inl (some (.int (-1)))) h))) : q_M0 G (d + 1) yX10_count [.ref 0, .int x1] h Q := by
  refine q_of (M := m_X10_count) (by decide +kernel) rfl rfl cd_X10_count (by decide) (Nat.le_of_ble_eq_true rfl) ?_
  show q_N0 G m_X10_count (d + 1) Q 0 [.ref 0, .int x1] [] h
  refine q_iload_n (i := 1) dX10_count_0 rfl rfl ?_
  refine q_by (x1 = 0) (fun hs1_0 => ?_) (fun hs1_0 => ?_)
  · have hF := hF.1 hs1_0
    refine q_tableIn (tgt := 60) dX10_count_1 (by rw [hs1_0]; decide) (by rw [hs1_0]; decide) (by first | (rw [hs1_0]; done) | (rw [hs1_0]; rfl)) (by decide) ?_
    refine q_aload_n (i := 0) dX10_count_60 rfl rfl ?_
    refine q_getP 11 0 15 fl_X10_22 (by decide) rfl rfl rfl dX10_count_61 ?_
    refine q_getIv (v := h.I 15 1) 8 1 fl_X10_86 (by decide) rfl rfl (rfl) dX10_count_64 ?_
    exact q_iret rfl (by decide) (by decide) dX10_count_67 hF
  have hF := hF.2
  refine q_by (x1 = 1) (fun hs1_1 => ?_) (fun hs1_1 => ?_)
  · have hF := hF.1 hs1_1
    refine q_tableIn (tgt := 68) dX10_count_1 (by rw [hs1_1]; decide) (by rw [hs1_1]; decide) (by first | (rw [hs1_1]; done) | (rw [hs1_1]; rfl)) (by decide) ?_
    refine q_aload_n (i := 0) dX10_count_68 rfl rfl ?_
    refine q_getIv (v := h.I 0 9) 11 9 fl_X10_75 (by decide) rfl rfl (rfl) dX10_count_69 ?_
    have K3 := q_ite (c := (h.I 0 9) = 0) (X := fun v => q_N0 G m_X10_count (d + 1) Q 80 [.ref 0, .int x1] (.int v :: []) h) (a := 0) (b := 1) (by
      exact q_iret rfl (by decide) (by decide) dX10_count_80 hF)
    refine q_if_eq (tgt := 79) dX10_count_72 (by decide) (fun hb => ?_) (fun hb => ?_)
    · refine q_iconst (v := 0) dX10_count_79 (by decide) ?_
      exact K3.1 hb
    · refine q_iconst (v := 1) dX10_count_75 (by decide) ?_
      refine q_goto (tgt := 80) dX10_count_76 (by decide) ?_
      exact K3.2 hb
  have hF := hF.2
  refine q_by (x1 = 2) (fun hs1_2 => ?_) (fun hs1_2 => ?_)
  · have hF := hF.1 hs1_2
    refine q_tableIn (tgt := 81) dX10_count_1 (by rw [hs1_2]; decide) (by rw [hs1_2]; decide) (by first | (rw [hs1_2]; done) | (rw [hs1_2]; rfl)) (by decide) ?_
    refine q_aload_n (i := 0) dX10_count_81 rfl rfl ?_
    obtain ⟨c4, hrc4, hc4, hF⟩ := hF
    refine q_getR (k := c4) 11 7 fl_X10_12 (by decide) rfl rfl hrc4 dX10_count_82 ?_
    refine q_getIv (v := h.I c4 8) 1 8 fl_X10_186 (q_cir_n hc4 0) (q_cir_K hc4) rfl (rfl) dX10_count_85 ?_
    exact q_iret rfl (by decide) (by decide) dX10_count_88 hF
  have hF := hF.2
  refine q_by (x1 = 3) (fun hs1_3 => ?_) (fun hs1_3 => ?_)
  · have hF := hF.1 hs1_3
    refine q_tableIn (tgt := 89) dX10_count_1 (by rw [hs1_3]; decide) (by rw [hs1_3]; decide) (by first | (rw [hs1_3]; done) | (rw [hs1_3]; rfl)) (by decide) ?_
    refine q_aload_n (i := 0) dX10_count_89 rfl rfl ?_
    obtain ⟨c5, hrc5, hc5, hF⟩ := hF
    refine q_getR (k := c5) 11 7 fl_X10_12 (by decide) rfl rfl hrc5 dX10_count_90 ?_
    refine q_getIv (v := h.I c5 9) 1 9 fl_X10_117 (q_cir_n hc5 0) (q_cir_K hc5) rfl (rfl) dX10_count_93 ?_
    exact q_iret rfl (by decide) (by decide) dX10_count_96 hF
  have hF := hF.2
  refine q_by (x1 = 4) (fun hs1_4 => ?_) (fun hs1_4 => ?_)
  · have hF := hF.1 hs1_4
    refine q_tableIn (tgt := 97) dX10_count_1 (by rw [hs1_4]; decide) (by rw [hs1_4]; decide) (by first | (rw [hs1_4]; done) | (rw [hs1_4]; rfl)) (by decide) ?_
    refine q_aload_n (i := 0) dX10_count_97 rfl rfl ?_
    obtain ⟨c6, hrc6, hc6, hF⟩ := hF
    refine q_getR (k := c6) 11 7 fl_X10_12 (by decide) rfl rfl hrc6 dX10_count_98 ?_
    refine q_getIv (v := h.I c6 10) 1 10 fl_X10_189 (q_cir_n hc6 0) (q_cir_K hc6) rfl (rfl) dX10_count_101 ?_
    exact q_iret rfl (by decide) (by decide) dX10_count_104 hF
  have hF := hF.2
  refine q_by (x1 = 5) (fun hs1_5 => ?_) (fun hs1_5 => ?_)
  · have hF := hF.1 hs1_5
    refine q_tableIn (tgt := 105) dX10_count_1 (by rw [hs1_5]; decide) (by rw [hs1_5]; decide) (by first | (rw [hs1_5]; done) | (rw [hs1_5]; rfl)) (by decide) ?_
    refine q_aload_n (i := 0) dX10_count_105 rfl rfl ?_
    obtain ⟨c7, hrc7, hc7, hF⟩ := hF
    refine q_getR (k := c7) 11 7 fl_X10_12 (by decide) rfl rfl hrc7 dX10_count_106 ?_
    refine q_getIv (v := h.I c7 11) 1 11 fl_X10_192 (q_cir_n hc7 0) (q_cir_K hc7) rfl (rfl) dX10_count_109 ?_
    exact q_iret rfl (by decide) (by decide) dX10_count_112 hF
  have hF := hF.2
  refine q_by (x1 = 6) (fun hs1_6 => ?_) (fun hs1_6 => ?_)
  · have hF := hF.1 hs1_6
    refine q_tableIn (tgt := 113) dX10_count_1 (by rw [hs1_6]; decide) (by rw [hs1_6]; decide) (by first | (rw [hs1_6]; done) | (rw [hs1_6]; rfl)) (by decide) ?_
    refine q_aload_n (i := 0) dX10_count_113 rfl rfl ?_
    refine q_getP 11 3 31 fl_X10_51 (by decide) rfl rfl rfl dX10_count_114 ?_
    refine q_getIv (v := h.I 31 5) 4 5 fl_X10_141 (by decide) rfl rfl (rfl) dX10_count_117 ?_
    exact q_iret rfl (by decide) (by decide) dX10_count_120 hF
  have hF := hF.2
  refine q_by (x1 = 7) (fun hs1_7 => ?_) (fun hs1_7 => ?_)
  · have hF := hF.1 hs1_7
    refine q_tableIn (tgt := 121) dX10_count_1 (by rw [hs1_7]; decide) (by rw [hs1_7]; decide) (by first | (rw [hs1_7]; done) | (rw [hs1_7]; rfl)) (by decide) ?_
    refine q_aload_n (i := 0) dX10_count_121 rfl rfl ?_
    refine q_getP 11 5 38 fl_X10_67 (by decide) rfl rfl rfl dX10_count_122 ?_
    refine q_getIv (v := h.I 38 13) 10 13 fl_X10_195 (by decide) rfl rfl (rfl) dX10_count_125 ?_
    exact q_iret rfl (by decide) (by decide) dX10_count_128 hF
  have hF := hF.2
  refine q_by (x1 = 8) (fun hs1_8 => ?_) (fun hs1_8 => ?_)
  · have hF := hF.1 hs1_8
    refine q_tableIn (tgt := 129) dX10_count_1 (by rw [hs1_8]; decide) (by rw [hs1_8]; decide) (by first | (rw [hs1_8]; done) | (rw [hs1_8]; rfl)) (by decide) ?_
    refine q_aload_n (i := 0) dX10_count_129 rfl rfl ?_
    refine q_getP 11 5 38 fl_X10_67 (by decide) rfl rfl rfl dX10_count_130 ?_
    refine q_getIv (v := h.I 38 14) 10 14 fl_X10_198 (by decide) rfl rfl (rfl) dX10_count_133 ?_
    exact q_iret rfl (by decide) (by decide) dX10_count_136 hF
  have hF := hF.2
  refine q_by (x1 = 9) (fun hs1_9 => ?_) (fun hs1_9 => ?_)
  · have hF := hF.1 hs1_9
    refine q_tableIn (tgt := 137) dX10_count_1 (by rw [hs1_9]; decide) (by rw [hs1_9]; decide) (by first | (rw [hs1_9]; done) | (rw [hs1_9]; rfl)) (by decide) ?_
    refine q_aload_n (i := 0) dX10_count_137 rfl rfl ?_
    refine q_getP 11 5 38 fl_X10_67 (by decide) rfl rfl rfl dX10_count_138 ?_
    refine q_getIv (v := h.I 38 15) 10 15 fl_X10_201 (by decide) rfl rfl (rfl) dX10_count_141 ?_
    exact q_iret rfl (by decide) (by decide) dX10_count_144 hF
  have hF := hF.2
  refine q_by (x1 = 10) (fun hs1_10 => ?_) (fun hs1_10 => ?_)
  · have hF := hF.1 hs1_10
    refine q_tableIn (tgt := 145) dX10_count_1 (by rw [hs1_10]; decide) (by rw [hs1_10]; decide) (by first | (rw [hs1_10]; done) | (rw [hs1_10]; rfl)) (by decide) ?_
    refine q_aload_n (i := 0) dX10_count_145 rfl rfl ?_
    refine q_getP 11 3 31 fl_X10_51 (by decide) rfl rfl rfl dX10_count_146 ?_
    refine q_getIv (v := h.I 31 9) 4 9 fl_X10_204 (by decide) rfl rfl (rfl) dX10_count_149 ?_
    exact q_iret rfl (by decide) (by decide) dX10_count_152 hF
  have hF := hF.2
  refine q_tableOut (tgt := 153) dX10_count_1 (by have n0 := lv_neT hs1_0 (a := 0) (by decide); have n1 := lv_neT hs1_1 (a := 1) (by decide); have n2 := lv_neT hs1_2 (a := 2) (by decide); have n3 := lv_neT hs1_3 (a := 3) (by decide); have n4 := lv_neT hs1_4 (a := 4) (by decide); have n5 := lv_neT hs1_5 (a := 5) (by decide); have n6 := lv_neT hs1_6 (a := 6) (by decide); have n7 := lv_neT hs1_7 (a := 7) (by decide); have n8 := lv_neT hs1_8 (a := 8) (by decide); have n9 := lv_neT hs1_9 (a := 9) (by decide); have n10 := lv_neT hs1_10 (a := 10) (by decide); omega) (by decide) ?_
  have hF := hF ⟨hs1_0, hs1_1, hs1_2, hs1_3, hs1_4, hs1_5, hs1_6, hs1_7, hs1_8, hs1_9, hs1_10⟩
  refine q_iconst (v := (-1)) dX10_count_153 (by decide) ?_
  exact q_iret rfl (by decide) (by decide) dX10_count_154 hF
def m_X10_size : qm := (RX10, cX10_size, 2, (some .int), [], false)
set_option maxRecDepth 100000 in
set_option maxHeartbeats 4000000 in
theorem x_X10_size (G : qG) (d : Nat) (x1 : Int32) (h : qh) (Q : qr → qh → Prop)  (hF : ∃ c1, h.R 0 7 = some c1 ∧ q_cir c1 ∧ (q_M0 G d yX0_cellsOf [.ref c1, .int x1] h (q_ri (fun r3 h2 => Q (.inl (some (.int r3))) h2) (fun E h => Q (.inr E) h)))) : q_M0 G (d + 1) yX10_size [.ref 0, .int x1] h Q := by
  refine q_of (M := m_X10_size) (by decide +kernel) rfl rfl cd_X10_size (by decide) (Nat.le_of_ble_eq_true rfl) ?_
  show q_N0 G m_X10_size (d + 1) Q 0 [.ref 0, .int x1] [] h
  refine q_aload_n (i := 0) dX10_size_0 rfl rfl ?_
  obtain ⟨c1, hrc1, hc1, hF⟩ := hF
  refine q_getR (k := c1) 11 7 fl_X10_12 (by decide) rfl rfl hrc1 dX10_size_1 ?_
  refine q_iload_n (i := 1) dX10_size_4 rfl rfl ?_
  refine q_callVi (ci := 1) (o := c1) (As := [.int x1]) (st := []) cv_X10_207 ⟨_, _, rfl⟩ (q_cir_n hc1 0) (q_cir_K hc1) rfl (Nat.le_refl _) (Nat.le_of_ble_eq_true rfl) (by decide) dX10_size_5 rfl hF (fun r3 h2 hF => ?_)
  exact q_iret rfl (by decide) (by decide) dX10_size_8 hF
def m_X10_isCell : qm := (RX10, cX10_isCell, 3, (some .boolean), [], false)
set_option maxRecDepth 100000 in
set_option maxHeartbeats 4000000 in
theorem x_X10_isCell (G : qG) (d : Nat) (x1 : Int32) (x2 : Int32) (h : qh) (Q : qr → qh → Prop)  (hF : (x2 < 0 → (Q (.inl (some (.int 0))) h)) ∧ (¬ x2 < 0 → (∃ c1, h.R 0 7 = some c1 ∧ q_cir c1 ∧ (q_M0 G d yX0_cellsOf [.ref c1, .int x1] h (q_ri (fun r3 h2 => ((if r3 ≤ x2 then (0 : Int32) else 1) = 0 ∨ (if r3 ≤ x2 then (0 : Int32) else 1) = 1) ∧ Q (.inl (some (.int (if r3 ≤ x2 then (0 : Int32) else 1)))) h2) (fun E h => Q (.inr E) h)))))) : q_M0 G (d + 1) yX10_isCell [.ref 0, .int x1, .int x2] h Q := by
  refine q_of (M := m_X10_isCell) (by decide +kernel) rfl rfl cd_X10_isCell (by decide) (Nat.le_of_ble_eq_true rfl) ?_
  show q_N0 G m_X10_isCell (d + 1) Q 0 [.ref 0, .int x1, .int x2] [] h
  refine q_iload_n (i := 2) dX10_isCell_0 rfl rfl ?_
  refine q_if_lt (tgt := 20) dX10_isCell_1 (by decide) (fun hb => ?_) (fun hb => ?_)
  · have hF := hF.1 hb
    refine q_iconst (v := 0) dX10_isCell_20 (by decide) ?_
    exact q_zret rfl (by decide) (by decide) (by decide) dX10_isCell_21 hF
  · have hF := hF.2 hb
    refine q_iload_n (i := 2) dX10_isCell_4 rfl rfl ?_
    refine q_aload_n (i := 0) dX10_isCell_5 rfl rfl ?_
    obtain ⟨c1, hrc1, hc1, hF⟩ := hF
    refine q_getR (k := c1) 11 7 fl_X10_12 (by decide) rfl rfl hrc1 dX10_isCell_6 ?_
    refine q_iload_n (i := 1) dX10_isCell_9 rfl rfl ?_
    refine q_callVi (ci := 1) (o := c1) (As := [.int x1]) (st := [.int x2]) cv_X10_207 ⟨_, _, rfl⟩ (q_cir_n hc1 0) (q_cir_K hc1) rfl (Nat.le_refl _) (Nat.le_of_ble_eq_true rfl) (by decide) dX10_isCell_10 rfl hF (fun r3 h2 hF => ?_)
    have K4 := q_ite (c := r3 ≤ x2) (X := fun v => q_N0 G m_X10_isCell (d + 1) Q 21 [.ref 0, .int x1, .int x2] (.int v :: []) h2) (a := 0) (b := 1) (by
      exact q_zret rfl hF.1 (by decide) (by decide) dX10_isCell_21 hF.2)
    refine q_icmp_ge (tgt := 20) dX10_isCell_13 (by decide) (fun hb => ?_) (fun hb => ?_)
    · refine q_iconst (v := 0) dX10_isCell_20 (by decide) ?_
      exact K4.1 hb
    · refine q_iconst (v := 1) dX10_isCell_16 (by decide) ?_
      refine q_goto (tgt := 21) dX10_isCell_17 (by decide) ?_
      exact K4.2 hb
def m_X11_clear : qm := (RX11, cX11_clear, 1, none, [], false)
set_option maxRecDepth 100000 in
set_option maxHeartbeats 4000000 in
theorem x_X11_clear (G : qG) (d : Nat) (p : Nat) (h : qh) (Q : qr → qh → Prop) (hp : q_prg p) (hF : Q (.inl none) ((((((((h.sI p 0 0).sI p 1 0).sI p 2 0).sI p 3 0).sI p 4 0).sI p 5 0).sI p 6 0).sI p 7 (-1))) : q_M0 G (d + 1) yX11_clear [.ref p] h Q := by
  refine q_of (M := m_X11_clear) (by decide +kernel) rfl rfl cd_X11_clear (by decide) (Nat.le_of_ble_eq_true rfl) ?_
  show q_N0 G m_X11_clear (d + 1) Q 0 [.ref p] [] h
  refine q_aload_n (i := 0) dX11_clear_0 rfl rfl ?_
  refine q_iconst (v := 0) dX11_clear_1 (by decide) ?_
  refine q_putI 12 0 fp_X11_42 (Or.inr ⟨_, _, _, rfl, rfl⟩) (q_prg_n hp 0) (q_prg_K hp) rfl dX11_clear_2 ?_
  refine q_aload_n (i := 0) dX11_clear_5 rfl rfl ?_
  refine q_iconst (v := 0) dX11_clear_6 (by decide) ?_
  refine q_putI 12 1 fp_X11_46 (Or.inr ⟨_, _, _, rfl, rfl⟩) (q_prg_n hp 0) (q_prg_K hp) rfl dX11_clear_7 ?_
  refine q_aload_n (i := 0) dX11_clear_10 rfl rfl ?_
  refine q_iconst (v := 0) dX11_clear_11 (by decide) ?_
  refine q_putI 12 2 fp_X11_49 (Or.inr ⟨_, _, _, rfl, rfl⟩) (q_prg_n hp 0) (q_prg_K hp) rfl dX11_clear_12 ?_
  refine q_aload_n (i := 0) dX11_clear_15 rfl rfl ?_
  refine q_iconst (v := 0) dX11_clear_16 (by decide) ?_
  refine q_putI 12 3 fp_X11_52 (Or.inr ⟨_, _, _, rfl, rfl⟩) (q_prg_n hp 0) (q_prg_K hp) rfl dX11_clear_17 ?_
  refine q_aload_n (i := 0) dX11_clear_20 rfl rfl ?_
  refine q_iconst (v := 0) dX11_clear_21 (by decide) ?_
  refine q_putI 12 4 fp_X11_55 (Or.inr ⟨_, _, _, rfl, rfl⟩) (q_prg_n hp 0) (q_prg_K hp) rfl dX11_clear_22 ?_
  refine q_aload_n (i := 0) dX11_clear_25 rfl rfl ?_
  refine q_iconst (v := 0) dX11_clear_26 (by decide) ?_
  refine q_putI 12 5 fp_X11_58 (Or.inr ⟨_, _, _, rfl, rfl⟩) (q_prg_n hp 0) (q_prg_K hp) rfl dX11_clear_27 ?_
  refine q_aload_n (i := 0) dX11_clear_30 rfl rfl ?_
  refine q_iconst (v := 0) dX11_clear_31 (by decide) ?_
  refine q_putI 12 6 fp_X11_61 (Or.inr ⟨_, _, _, rfl, rfl⟩) (q_prg_n hp 0) (q_prg_K hp) rfl dX11_clear_32 ?_
  refine q_aload_n (i := 0) dX11_clear_35 rfl rfl ?_
  refine q_iconst (v := (-1)) dX11_clear_36 (by decide) ?_
  refine q_putI 12 7 fp_X11_64 (Or.inr ⟨_, _, _, rfl, rfl⟩) (q_prg_n hp 0) (q_prg_K hp) rfl dX11_clear_37 ?_
  exact q_vret rfl (by decide) (by decide) dX11_clear_40 hF
def m_J9_floorMod_7cf53 : qm := (RJ9, cJ9_floorMod_7cf53, 3, (some .int), [], false)
set_option maxRecDepth 100000 in
set_option maxHeartbeats 4000000 in
theorem x_J9_floorMod_7cf53 (G : qG) (d : Nat) (x1 : Int32) (x2 : Int32) (h : qh) (Q : qr → qh → Prop)  (hF : ¬ x2 = 0 ∧ ((0 ≤ (x1 ^^^ x2) → (Q (.inl (some (.int (x1 - x1 / x2 * x2)))) h)) ∧ (¬ 0 ≤ (x1 ^^^ x2) → (((x1 - x1 / x2 * x2) = 0 → (Q (.inl (some (.int (x1 - x1 / x2 * x2)))) h)) ∧ (¬ (x1 - x1 / x2 * x2) = 0 → (Q (.inl (some (.int ((x1 - x1 / x2 * x2) + x2)))) h)))))) : q_M0 G (d + 1) yJ9_floorMod_7cf53 [.int x1, .int x2] h Q := by
  refine q_of (M := m_J9_floorMod_7cf53) (by decide +kernel) rfl rfl cd_J9_floorMod_7cf53 (by decide) (Nat.le_of_ble_eq_true rfl) ?_
  show q_N0 G m_J9_floorMod_7cf53 (d + 1) Q 0 [.int x1, .int x2, .null] [] h
  refine q_iload_n (i := 0) dJ9_floorMod_7cf53_0 rfl rfl ?_
  refine q_iload_n (i := 1) dJ9_floorMod_7cf53_1 rfl rfl ?_
  obtain ⟨hn, hF⟩ := hF
  refine q_irem dJ9_floorMod_7cf53_2 hn ?_
  refine q_istore_n (i := 2) dJ9_floorMod_7cf53_3 rfl (by decide) rfl ?_
  refine q_iload_n (i := 0) dJ9_floorMod_7cf53_4 rfl rfl ?_
  refine q_iload_n (i := 1) dJ9_floorMod_7cf53_5 rfl rfl ?_
  refine q_ixor dJ9_floorMod_7cf53_6 ?_
  refine q_if_ge (tgt := 18) dJ9_floorMod_7cf53_7 (by decide) (fun hb => ?_) (fun hb => ?_)
  · have hF := hF.1 hb
    refine q_iload_n (i := 2) dJ9_floorMod_7cf53_18 rfl rfl ?_
    exact q_iret rfl (by decide) (by decide) dJ9_floorMod_7cf53_19 hF
  · have hF := hF.2 hb
    refine q_iload_n (i := 2) dJ9_floorMod_7cf53_10 rfl rfl ?_
    refine q_if_eq (tgt := 18) dJ9_floorMod_7cf53_11 (by decide) (fun hb => ?_) (fun hb => ?_)
    · have hF := hF.1 hb
      refine q_iload_n (i := 2) dJ9_floorMod_7cf53_18 rfl rfl ?_
      exact q_iret rfl (by decide) (by decide) dJ9_floorMod_7cf53_19 hF
    · have hF := hF.2 hb
      refine q_iload_n (i := 2) dJ9_floorMod_7cf53_14 rfl rfl ?_
      refine q_iload_n (i := 1) dJ9_floorMod_7cf53_15 rfl rfl ?_
      refine q_iadd dJ9_floorMod_7cf53_16 ?_
      exact q_iret rfl (by decide) (by decide) dJ9_floorMod_7cf53_17 hF
def m_J9_max_7cf53 : qm := (RJ9, cJ9_max_7cf53, 2, (some .int), [], false)
set_option maxRecDepth 100000 in
set_option maxHeartbeats 4000000 in
theorem x_J9_max_7cf53 (G : qG) (d : Nat) (x1 : Int32) (x2 : Int32) (h : qh) (Q : qr → qh → Prop)  (hF : Q (.inl (some (.int (if x1 < x2 then (x2 : Int32) else x1)))) h) : q_M0 G (d + 1) yJ9_max_7cf53 [.int x1, .int x2] h Q := by
  refine q_of (M := m_J9_max_7cf53) (by decide +kernel) rfl rfl cd_J9_max_7cf53 (by decide) (Nat.le_of_ble_eq_true rfl) ?_
  show q_N0 G m_J9_max_7cf53 (d + 1) Q 0 [.int x1, .int x2] [] h
  refine q_iload_n (i := 0) dJ9_max_7cf53_0 rfl rfl ?_
  refine q_iload_n (i := 1) dJ9_max_7cf53_1 rfl rfl ?_
  have K1 := q_ite (c := x1 < x2) (X := fun v => q_N0 G m_J9_max_7cf53 (d + 1) Q 10 [.int x1, .int x2] (.int v :: []) h) (a := x2) (b := x1) (by
    exact q_iret rfl (by decide) (by decide) dJ9_max_7cf53_10 hF)
  refine q_icmp_lt (tgt := 9) dJ9_max_7cf53_2 (by decide) (fun hb => ?_) (fun hb => ?_)
  · refine q_iload_n (i := 1) dJ9_max_7cf53_9 rfl rfl ?_
    exact K1.1 hb
  · refine q_iload_n (i := 0) dJ9_max_7cf53_5 rfl rfl ?_
    refine q_goto (tgt := 10) dJ9_max_7cf53_6 (by decide) ?_
    exact K1.2 hb
def m_J9_min_7cf53 : qm := (RJ9, cJ9_min_7cf53, 2, (some .int), [], false)
set_option maxRecDepth 100000 in
set_option maxHeartbeats 4000000 in
theorem x_J9_min_7cf53 (G : qG) (d : Nat) (x1 : Int32) (x2 : Int32) (h : qh) (Q : qr → qh → Prop)  (hF : Q (.inl (some (.int (if x2 < x1 then (x2 : Int32) else x1)))) h) : q_M0 G (d + 1) yJ9_min_7cf53 [.int x1, .int x2] h Q := by
  refine q_of (M := m_J9_min_7cf53) (by decide +kernel) rfl rfl cd_J9_min_7cf53 (by decide) (Nat.le_of_ble_eq_true rfl) ?_
  show q_N0 G m_J9_min_7cf53 (d + 1) Q 0 [.int x1, .int x2] [] h
  refine q_iload_n (i := 0) dJ9_min_7cf53_0 rfl rfl ?_
  refine q_iload_n (i := 1) dJ9_min_7cf53_1 rfl rfl ?_
  have K1 := q_ite (c := x2 < x1) (X := fun v => q_N0 G m_J9_min_7cf53 (d + 1) Q 10 [.int x1, .int x2] (.int v :: []) h) (a := x2) (b := x1) (by
    exact q_iret rfl (by decide) (by decide) dJ9_min_7cf53_10 hF)
  refine q_icmp_gt (tgt := 9) dJ9_min_7cf53_2 (by decide) (fun hb => ?_) (fun hb => ?_)
  · refine q_iload_n (i := 1) dJ9_min_7cf53_9 rfl rfl ?_
    exact K1.1 hb
  · refine q_iload_n (i := 0) dJ9_min_7cf53_5 rfl rfl ?_
    refine q_goto (tgt := 10) dJ9_min_7cf53_6 (by decide) ?_
    exact K1.2 hb
def m_J9_min_f86c9 : qm := (RJ9, cJ9_min_f86c9, 4, (some .long), [], false)
set_option maxRecDepth 100000 in
set_option maxHeartbeats 4000000 in
theorem x_J9_min_f86c9 (G : qG) (d : Nat) (x1 : Int64) (x2 : Int64) (h : qh) (Q : qr → qh → Prop)  (hF : (0 < (lg_cmp x1 x2) → (Q (.inl (some (.long x2))) h)) ∧ (¬ 0 < (lg_cmp x1 x2) → (Q (.inl (some (.long x1))) h))) : q_M0 G (d + 1) yJ9_min_f86c9 [.long x1, .long x2] h Q := by
  refine q_of (M := m_J9_min_f86c9) (by decide +kernel) rfl rfl cd_J9_min_f86c9 (by decide) (Nat.le_of_ble_eq_true rfl) ?_
  show q_N0 G m_J9_min_f86c9 (d + 1) Q 0 [.long x1, .null, .long x2, .null] [] h
  refine q_lload_n (i := 0) dJ9_min_f86c9_0 rfl rfl ?_
  refine q_lload_n (i := 2) dJ9_min_f86c9_1 rfl rfl ?_
  refine q_lcmp dJ9_min_f86c9_2 ?_
  refine q_if_gt (tgt := 10) dJ9_min_f86c9_3 (by decide) (fun hb => ?_) (fun hb => ?_)
  · have hF := hF.1 hb
    refine q_lload_n (i := 2) dJ9_min_f86c9_10 rfl rfl ?_
    exact q_lret rfl (by decide) (by decide) dJ9_min_f86c9_11 hF
  · have hF := hF.2 hb
    refine q_lload_n (i := 0) dJ9_min_f86c9_6 rfl rfl ?_
    refine q_goto (tgt := 11) dJ9_min_f86c9_7 (by decide) ?_
    exact q_lret rfl (by decide) (by decide) dJ9_min_f86c9_11 hF
def m_J7_fill_53178 : qm := (RJ7, cJ7_fill_53178, 4, none, [], false)
set_option maxRecDepth 100000 in
set_option maxHeartbeats 4000000 in
theorem x_J7_fill_53178 (G : qG) (d : Nat) (x2 : Int32) (h : qh) (Q : qr → qh → Prop)  (hF : q_N0 G m_J7_fill_53178 (d + 1) Q 5 [.ref 42, .int x2, .int 0, .int 4] [] h) : q_M0 G (d + 1) yJ7_fill_53178 [.ref 42, .int x2] h Q := by
  refine q_of (M := m_J7_fill_53178) (by decide +kernel) rfl rfl cd_J7_fill_53178 (by decide) (Nat.le_of_ble_eq_true rfl) ?_
  show q_N0 G m_J7_fill_53178 (d + 1) Q 0 [.ref 42, .int x2, .null, .null] [] h
  refine q_iconst (v := 0) dJ7_fill_53178_0 (by decide) ?_
  refine q_istore_n (i := 2) dJ7_fill_53178_1 rfl (by decide) rfl ?_
  refine q_aload_n (i := 0) dJ7_fill_53178_2 rfl rfl ?_
  refine q_alen (t := 0) (n := 4) (v := 4) (by decide) rfl (by decide) (by decide) dJ7_fill_53178_3 ?_
  refine q_istore_n (i := 3) dJ7_fill_53178_4 rfl (by decide) rfl ?_
  exact hF
set_option maxRecDepth 100000 in
set_option maxHeartbeats 4000000 in
theorem x_J7_fill_53178_5 (G : qG) (d : Nat) (l1 : Int32) (l2 : Int32) (l3 : Int32) (h : qh) (Q : qr → qh → Prop)  (hF : (l3 ≤ l2 → (Q (.inl none) h)) ∧ (¬ l3 ≤ l2 → (vp_in l2 4 ∧ (q_N0 G m_J7_fill_53178 (d + 1) Q 5 [.ref 42, .int l1, .int (l2 + 1), .int l3] [] (h.sI 42 l2.toNatClampNeg l1))))) : q_N0 G m_J7_fill_53178 (d + 1) Q 5 [.ref 42, .int l1, .int l2, .int l3] [] h := by
  refine q_iload_n (i := 2) dJ7_fill_53178_5 rfl rfl ?_
  refine q_iload_n (i := 3) dJ7_fill_53178_6 rfl rfl ?_
  refine q_icmp_ge (tgt := 20) dJ7_fill_53178_7 (by decide) (fun hb => ?_) (fun hb => ?_)
  · have hF := hF.1 hb
    exact q_vret rfl (by decide) (by decide) dJ7_fill_53178_20 hF
  · have hF := hF.2 hb
    refine q_aload_n (i := 0) dJ7_fill_53178_10 rfl rfl ?_
    refine q_iload_n (i := 2) dJ7_fill_53178_11 rfl rfl ?_
    refine q_iload_n (i := 1) dJ7_fill_53178_12 rfl rfl ?_
    obtain ⟨hi1, hF⟩ := hF
    refine q_iastore (n := 4) (by decide) rfl hi1 dJ7_fill_53178_13 ?_
    refine q_iinc (v := l2 + 1) dJ7_fill_53178_14 rfl rfl (by decide) rfl ?_
    refine q_goto (tgt := 5) dJ7_fill_53178_17 (by decide) ?_
    exact hF
