def m_X0_clear : qm := (RX0, cX0_clear, 1, none, [], false)
set_option maxRecDepth 100000 in
set_option maxHeartbeats 4000000 in
theorem x_X0_clear (G : qG) (d : Nat) (c : Nat) (h : qh) (Q : qr → qh → Prop) (hc : q_cir c) (hF : Q (.inl none) ((((((h.sI c 6 0).sI c 7 0).sI c 8 0).sI c 9 0).sI c 10 0).sI c 11 0)) : q_M0 G (d + 1) yX0_clear [.ref c] h Q := by
  refine q_of (M := m_X0_clear) (by decide +kernel) rfl rfl cd_X0_clear (by decide) (Nat.le_of_ble_eq_true rfl) ?_
  show q_N0 G m_X0_clear (d + 1) Q 0 [.ref c] [] h
  refine q_aload_n (i := 0) dX0_clear_0 rfl rfl ?_
  refine q_iconst (v := 0) dX0_clear_1 (by decide) ?_
  refine q_putI 1 6 fp_X0_30 (Or.inr ⟨_, _, _, rfl, rfl⟩) (q_cir_n hc 0) (q_cir_K hc) rfl dX0_clear_2 ?_
  refine q_aload_n (i := 0) dX0_clear_5 rfl rfl ?_
  refine q_iconst (v := 0) dX0_clear_6 (by decide) ?_
  refine q_putI 1 7 fp_X0_34 (Or.inr ⟨_, _, _, rfl, rfl⟩) (q_cir_n hc 0) (q_cir_K hc) rfl dX0_clear_7 ?_
  refine q_aload_n (i := 0) dX0_clear_10 rfl rfl ?_
  refine q_iconst (v := 0) dX0_clear_11 (by decide) ?_
  refine q_putI 1 8 fp_X0_37 (Or.inr ⟨_, _, _, rfl, rfl⟩) (q_cir_n hc 0) (q_cir_K hc) rfl dX0_clear_12 ?_
  refine q_aload_n (i := 0) dX0_clear_15 rfl rfl ?_
  refine q_iconst (v := 0) dX0_clear_16 (by decide) ?_
  refine q_putI 1 9 fp_X0_40 (Or.inr ⟨_, _, _, rfl, rfl⟩) (q_cir_n hc 0) (q_cir_K hc) rfl dX0_clear_17 ?_
  refine q_aload_n (i := 0) dX0_clear_20 rfl rfl ?_
  refine q_iconst (v := 0) dX0_clear_21 (by decide) ?_
  refine q_putI 1 10 fp_X0_43 (Or.inr ⟨_, _, _, rfl, rfl⟩) (q_cir_n hc 0) (q_cir_K hc) rfl dX0_clear_22 ?_
  refine q_aload_n (i := 0) dX0_clear_25 rfl rfl ?_
  refine q_iconst (v := 0) dX0_clear_26 (by decide) ?_
  refine q_putI 1 11 fp_X0_46 (Or.inr ⟨_, _, _, rfl, rfl⟩) (q_cir_n hc 0) (q_cir_K hc) rfl dX0_clear_27 ?_
  exact q_vret rfl (by decide) (by decide) dX0_clear_30 hF
def m_X0_lay : qm := (RX0, cX0_lay, 5, (some .int), [], false)
set_option maxRecDepth 100000 in
set_option maxHeartbeats 4000000 in
theorem x_X0_lay (G : qG) (d : Nat) (c : Nat) (x1 : Int32) (x2 : Int32) (x3 : Int32) (x4 : Int32) (h : qh) (Q : qr → qh → Prop) (hc : q_cir c) (hF : ((h.I c 6) < 1400 → (vp_in (h.I c 6) 1400 ∧ (vp_in (h.I c 6) 1400 ∧ (vp_in (h.I c 6) 1400 ∧ (vp_in (h.I c 6) 1400 ∧ (Q (.inl (some (.int (((h.I c 6) + 1) - 1)))) (((((h.sI (c + 1) ((h.I c 6).toNatClampNeg) x1).sI (c + 2) ((h.I c 6).toNatClampNeg) x2).sI (c + 3) ((h.I c 6).toNatClampNeg) x3).sI (c + 4) ((h.I c 6).toNatClampNeg) x4).sI c 6 ((h.I c 6) + 1)))))))) ∧ (¬ (h.I c 6) < 1400 → (Q (.inl (some (.int (-1)))) h))) : q_M0 G (d + 1) yX0_lay [.ref c, .int x1, .int x2, .int x3, .int x4] h Q := by
  refine q_of (M := m_X0_lay) (by decide +kernel) rfl rfl cd_X0_lay (by decide) (Nat.le_of_ble_eq_true rfl) ?_
  show q_N0 G m_X0_lay (d + 1) Q 0 [.ref c, .int x1, .int x2, .int x3, .int x4] [] h
  refine q_aload_n (i := 0) dX0_lay_0 rfl rfl ?_
  refine q_getIv (v := h.I c 6) 1 6 fl_X0_30 (q_cir_n hc 0) (q_cir_K hc) rfl (rfl) dX0_lay_1 ?_
  refine q_sipush (v := 1400) dX0_lay_4 (by decide) ?_
  refine q_icmp_lt (tgt := 12) dX0_lay_7 (by decide) (fun hb => ?_) (fun hb => ?_)
  · have hF := hF.1 hb
    refine q_aload_n (i := 0) dX0_lay_12 rfl rfl ?_
    refine q_getP 1 0 (c + 1) fl_X0_9 (q_cir_n hc 0) (q_cir_K hc) rfl (q_cir_P hc 0) dX0_lay_13 ?_
    refine q_aload_n (i := 0) dX0_lay_16 rfl rfl ?_
    refine q_getIv (v := h.I c 6) 1 6 fl_X0_30 (q_cir_n hc 0) (q_cir_K hc) rfl (rfl) dX0_lay_17 ?_
    refine q_iload_n (i := 1) dX0_lay_20 rfl rfl ?_
    obtain ⟨hi1, hF⟩ := hF
    refine q_iastore (n := 1400) (q_cir_n hc 1) (q_cir_A hc 0) hi1 dX0_lay_21 ?_
    refine q_aload_n (i := 0) dX0_lay_22 rfl rfl ?_
    refine q_getP 1 1 (c + 2) fl_X0_15 (q_cir_n hc 0) (q_cir_K hc) rfl (q_cir_P hc 1) dX0_lay_23 ?_
    refine q_aload_n (i := 0) dX0_lay_26 rfl rfl ?_
    refine q_getIv (v := h.I c 6) 1 6 fl_X0_30 (q_cir_n hc 0) (q_cir_K hc) rfl ((q_I_neo (by omega)).trans (rfl)) dX0_lay_27 ?_
    refine q_iload_n (i := 2) dX0_lay_30 rfl rfl ?_
    obtain ⟨hi2, hF⟩ := hF
    refine q_iastore (n := 1400) (q_cir_n hc 2) (q_cir_A hc 1) hi2 dX0_lay_31 ?_
    refine q_aload_n (i := 0) dX0_lay_32 rfl rfl ?_
    refine q_getP 1 2 (c + 3) fl_X0_18 (q_cir_n hc 0) (q_cir_K hc) rfl (q_cir_P hc 2) dX0_lay_33 ?_
    refine q_aload_n (i := 0) dX0_lay_36 rfl rfl ?_
    refine q_getIv (v := h.I c 6) 1 6 fl_X0_30 (q_cir_n hc 0) (q_cir_K hc) rfl ((q_I_neo (by omega)).trans ( (q_I_neo (by omega)).trans (rfl))) dX0_lay_37 ?_
    refine q_iload_n (i := 3) dX0_lay_40 rfl rfl ?_
    obtain ⟨hi3, hF⟩ := hF
    refine q_iastore (n := 1400) (q_cir_n hc 3) (q_cir_A hc 2) hi3 dX0_lay_41 ?_
    refine q_aload_n (i := 0) dX0_lay_42 rfl rfl ?_
    refine q_getP 1 3 (c + 4) fl_X0_21 (q_cir_n hc 0) (q_cir_K hc) rfl (q_cir_P hc 3) dX0_lay_43 ?_
    refine q_aload_n (i := 0) dX0_lay_46 rfl rfl ?_
    refine q_getIv (v := h.I c 6) 1 6 fl_X0_30 (q_cir_n hc 0) (q_cir_K hc) rfl ((q_I_neo (by omega)).trans ( (q_I_neo (by omega)).trans ( (q_I_neo (by omega)).trans (rfl)))) dX0_lay_47 ?_
    refine q_iload dX0_lay_50 rfl ?_
    obtain ⟨hi4, hF⟩ := hF
    refine q_iastore (n := 1400) (q_cir_n hc 4) (q_cir_A hc 3) hi4 dX0_lay_52 ?_
    refine q_aload_n (i := 0) dX0_lay_53 rfl rfl ?_
    refine q_dup dX0_lay_54 rfl ?_
    refine q_getIv (v := h.I c 6) 1 6 fl_X0_30 (q_cir_n hc 0) (q_cir_K hc) rfl ((q_I_neo (by omega)).trans ( (q_I_neo (by omega)).trans ( (q_I_neo (by omega)).trans ( (q_I_neo (by omega)).trans (rfl))))) dX0_lay_55 ?_
    refine q_iconst (v := 1) dX0_lay_58 (by decide) ?_
    refine q_iadd dX0_lay_59 ?_
    refine q_putI 1 6 fp_X0_30 (Or.inr ⟨_, _, _, rfl, rfl⟩) (q_cir_n hc 0) (q_cir_K hc) rfl dX0_lay_60 ?_
    refine q_aload_n (i := 0) dX0_lay_63 rfl rfl ?_
    refine q_getIv (v := (h.I c 6) + 1) 1 6 fl_X0_30 (q_cir_n hc 0) (q_cir_K hc) rfl (q_I_same _ _ _ _) dX0_lay_64 ?_
    refine q_iconst (v := 1) dX0_lay_67 (by decide) ?_
    refine q_isub dX0_lay_68 ?_
    exact q_iret rfl (by decide) (by decide) dX0_lay_69 hF
  · have hF := hF.2 hb
    refine q_iconst (v := (-1)) dX0_lay_10 (by decide) ?_
    exact q_iret rfl (by decide) (by decide) dX0_lay_11 hF
def m_X0_junction : qm := (RX0, cX0_junction, 1, (some .int), [], false)
set_option maxRecDepth 100000 in
set_option maxHeartbeats 4000000 in
theorem x_X0_junction (G : qG) (d : Nat) (c : Nat) (h : qh) (Q : qr → qh → Prop) (hc : q_cir c) (hF : ((h.I c 7) < 80 → (vp_in (h.I c 7) 80 ∧ (Q (.inl (some (.int (((h.I c 7) + 1) - 1)))) ((h.sI (c + 5) ((h.I c 7).toNatClampNeg) (-1)).sI c 7 ((h.I c 7) + 1))))) ∧ (¬ (h.I c 7) < 80 → (Q (.inl (some (.int (-1)))) h))) : q_M0 G (d + 1) yX0_junction [.ref c] h Q := by
  refine q_of (M := m_X0_junction) (by decide +kernel) rfl rfl cd_X0_junction (by decide) (Nat.le_of_ble_eq_true rfl) ?_
  show q_N0 G m_X0_junction (d + 1) Q 0 [.ref c] [] h
  refine q_aload_n (i := 0) dX0_junction_0 rfl rfl ?_
  refine q_getIv (v := h.I c 7) 1 7 fl_X0_34 (q_cir_n hc 0) (q_cir_K hc) rfl (rfl) dX0_junction_1 ?_
  refine q_bipush (v := 80) dX0_junction_4 (by decide) ?_
  refine q_icmp_lt (tgt := 11) dX0_junction_6 (by decide) (fun hb => ?_) (fun hb => ?_)
  · have hF := hF.1 hb
    refine q_aload_n (i := 0) dX0_junction_11 rfl rfl ?_
    refine q_getP 1 4 (c + 5) fl_X0_24 (q_cir_n hc 0) (q_cir_K hc) rfl (q_cir_P hc 4) dX0_junction_12 ?_
    refine q_aload_n (i := 0) dX0_junction_15 rfl rfl ?_
    refine q_getIv (v := h.I c 7) 1 7 fl_X0_34 (q_cir_n hc 0) (q_cir_K hc) rfl (rfl) dX0_junction_16 ?_
    refine q_iconst (v := (-1)) dX0_junction_19 (by decide) ?_
    obtain ⟨hi1, hF⟩ := hF
    refine q_iastore (n := 80) (q_cir_n hc 5) (q_cir_A hc 4) hi1 dX0_junction_20 ?_
    refine q_aload_n (i := 0) dX0_junction_21 rfl rfl ?_
    refine q_dup dX0_junction_22 rfl ?_
    refine q_getIv (v := h.I c 7) 1 7 fl_X0_34 (q_cir_n hc 0) (q_cir_K hc) rfl ((q_I_neo (by omega)).trans (rfl)) dX0_junction_23 ?_
    refine q_iconst (v := 1) dX0_junction_26 (by decide) ?_
    refine q_iadd dX0_junction_27 ?_
    refine q_putI 1 7 fp_X0_34 (Or.inr ⟨_, _, _, rfl, rfl⟩) (q_cir_n hc 0) (q_cir_K hc) rfl dX0_junction_28 ?_
    refine q_aload_n (i := 0) dX0_junction_31 rfl rfl ?_
    refine q_getIv (v := (h.I c 7) + 1) 1 7 fl_X0_34 (q_cir_n hc 0) (q_cir_K hc) rfl (q_I_same _ _ _ _) dX0_junction_32 ?_
    refine q_iconst (v := 1) dX0_junction_35 (by decide) ?_
    refine q_isub dX0_junction_36 ?_
    exact q_iret rfl (by decide) (by decide) dX0_junction_37 hF
  · have hF := hF.2 hb
    refine q_iconst (v := (-1)) dX0_junction_9 (by decide) ?_
    exact q_iret rfl (by decide) (by decide) dX0_junction_10 hF
def m_X0_join : qm := (RX0, cX0_join, 2, none, [], false)
set_option maxRecDepth 100000 in
set_option maxHeartbeats 4000000 in
theorem x_X0_join (G : qG) (d : Nat) (c : Nat) (x1 : Int32) (h : qh) (Q : qr → qh → Prop) (hc : q_cir c) (hF : (x1 < 0 → (q_M0 G d yX0_lay [.ref c, .int 7, .int (-1), .int (-1), .int (-1)] h (q_ri (fun r2 h1 => Q (.inl none) h1) (fun E h => Q (.inr E) h)))) ∧ (¬ x1 < 0 → (((h.I c 7) ≤ x1 → (q_M0 G d yX0_lay [.ref c, .int 7, .int (-1), .int (-1), .int (-1)] h (q_ri (fun r4 h3 => Q (.inl none) h3) (fun E h => Q (.inr E) h)))) ∧ (¬ (h.I c 7) ≤ x1 → ((80 ≤ x1 → (q_M0 G d yX0_lay [.ref c, .int 7, .int (-1), .int (-1), .int (-1)] h (q_ri (fun r6 h5 => Q (.inl none) h5) (fun E h => Q (.inr E) h)))) ∧ (¬ 80 ≤ x1 → (vp_in x1 80 ∧ (q_M0 G d yX0_lay [.ref c, .int 7, .int (-1), .int (-1), .int (-1)] (h.sI (c + 5) x1.toNatClampNeg (h.I c 6)) (q_ri (fun r9 h8 => Q (.inl none) h8) (fun E h => Q (.inr E) h)))))))))) : q_M0 G (d + 1) yX0_join [.ref c, .int x1] h Q := by
  refine q_of (M := m_X0_join) (by decide +kernel) rfl rfl cd_X0_join (by decide) (Nat.le_of_ble_eq_true rfl) ?_
  show q_N0 G m_X0_join (d + 1) Q 0 [.ref c, .int x1] [] h
  refine q_iload_n (i := 1) dX0_join_0 rfl rfl ?_
  refine q_if_lt (tgt := 28) dX0_join_1 (by decide) (fun hb => ?_) (fun hb => ?_)
  · have hF := hF.1 hb
    refine q_aload_n (i := 0) dX0_join_28 rfl rfl ?_
    refine q_bipush (v := 7) dX0_join_29 (by decide) ?_
    refine q_iconst (v := (-1)) dX0_join_31 (by decide) ?_
    refine q_iconst (v := (-1)) dX0_join_32 (by decide) ?_
    refine q_iconst (v := (-1)) dX0_join_33 (by decide) ?_
    refine q_callVi (ci := 1) (o := c) (As := [.int 7, .int (-1), .int (-1), .int (-1)]) (st := []) cv_X0_49 ⟨_, _, rfl⟩ (q_cir_n hc 0) (q_cir_K hc) rfl (Nat.le_refl _) (Nat.le_of_ble_eq_true rfl) (by decide) dX0_join_34 rfl hF (fun r2 h1 hF => ?_)
    refine q_pop dX0_join_37 rfl ?_
    exact q_vret rfl (by decide) (by decide) dX0_join_38 hF
  · have hF := hF.2 hb
    refine q_iload_n (i := 1) dX0_join_4 rfl rfl ?_
    refine q_aload_n (i := 0) dX0_join_5 rfl rfl ?_
    refine q_getIv (v := h.I c 7) 1 7 fl_X0_34 (q_cir_n hc 0) (q_cir_K hc) rfl (rfl) dX0_join_6 ?_
    refine q_icmp_ge (tgt := 28) dX0_join_9 (by decide) (fun hb => ?_) (fun hb => ?_)
    · have hF := hF.1 hb
      refine q_aload_n (i := 0) dX0_join_28 rfl rfl ?_
      refine q_bipush (v := 7) dX0_join_29 (by decide) ?_
      refine q_iconst (v := (-1)) dX0_join_31 (by decide) ?_
      refine q_iconst (v := (-1)) dX0_join_32 (by decide) ?_
      refine q_iconst (v := (-1)) dX0_join_33 (by decide) ?_
      refine q_callVi (ci := 1) (o := c) (As := [.int 7, .int (-1), .int (-1), .int (-1)]) (st := []) cv_X0_49 ⟨_, _, rfl⟩ (q_cir_n hc 0) (q_cir_K hc) rfl (Nat.le_refl _) (Nat.le_of_ble_eq_true rfl) (by decide) dX0_join_34 rfl hF (fun r4 h3 hF => ?_)
      refine q_pop dX0_join_37 rfl ?_
      exact q_vret rfl (by decide) (by decide) dX0_join_38 hF
    · have hF := hF.2 hb
      refine q_iload_n (i := 1) dX0_join_12 rfl rfl ?_
      refine q_bipush (v := 80) dX0_join_13 (by decide) ?_
      refine q_icmp_ge (tgt := 28) dX0_join_15 (by decide) (fun hb => ?_) (fun hb => ?_)
      · have hF := hF.1 hb
        refine q_aload_n (i := 0) dX0_join_28 rfl rfl ?_
        refine q_bipush (v := 7) dX0_join_29 (by decide) ?_
        refine q_iconst (v := (-1)) dX0_join_31 (by decide) ?_
        refine q_iconst (v := (-1)) dX0_join_32 (by decide) ?_
        refine q_iconst (v := (-1)) dX0_join_33 (by decide) ?_
        refine q_callVi (ci := 1) (o := c) (As := [.int 7, .int (-1), .int (-1), .int (-1)]) (st := []) cv_X0_49 ⟨_, _, rfl⟩ (q_cir_n hc 0) (q_cir_K hc) rfl (Nat.le_refl _) (Nat.le_of_ble_eq_true rfl) (by decide) dX0_join_34 rfl hF (fun r6 h5 hF => ?_)
        refine q_pop dX0_join_37 rfl ?_
        exact q_vret rfl (by decide) (by decide) dX0_join_38 hF
      · have hF := hF.2 hb
        refine q_aload_n (i := 0) dX0_join_18 rfl rfl ?_
        refine q_getP 1 4 (c + 5) fl_X0_24 (q_cir_n hc 0) (q_cir_K hc) rfl (q_cir_P hc 4) dX0_join_19 ?_
        refine q_iload_n (i := 1) dX0_join_22 rfl rfl ?_
        refine q_aload_n (i := 0) dX0_join_23 rfl rfl ?_
        refine q_getIv (v := h.I c 6) 1 6 fl_X0_30 (q_cir_n hc 0) (q_cir_K hc) rfl (rfl) dX0_join_24 ?_
        obtain ⟨hi7, hF⟩ := hF
        refine q_iastore (n := 80) (q_cir_n hc 5) (q_cir_A hc 4) hi7 dX0_join_27 ?_
        refine q_aload_n (i := 0) dX0_join_28 rfl rfl ?_
        refine q_bipush (v := 7) dX0_join_29 (by decide) ?_
        refine q_iconst (v := (-1)) dX0_join_31 (by decide) ?_
        refine q_iconst (v := (-1)) dX0_join_32 (by decide) ?_
        refine q_iconst (v := (-1)) dX0_join_33 (by decide) ?_
        refine q_callVi (ci := 1) (o := c) (As := [.int 7, .int (-1), .int (-1), .int (-1)]) (st := []) cv_X0_49 ⟨_, _, rfl⟩ (q_cir_n hc 0) (q_cir_K hc) rfl (Nat.le_refl _) (Nat.le_of_ble_eq_true rfl) (by decide) dX0_join_34 rfl hF (fun r9 h8 hF => ?_)
        refine q_pop dX0_join_37 rfl ?_
        exact q_vret rfl (by decide) (by decide) dX0_join_38 hF
def m_X0_leadsTo : qm := (RX0, cX0_leadsTo, 2, (some .int), [], false)
set_option maxRecDepth 100000 in
set_option maxHeartbeats 4000000 in
theorem x_X0_leadsTo (G : qG) (d : Nat) (c : Nat) (x1 : Int32) (h : qh) (Q : qr → qh → Prop) (hc : q_cir c) (hF : (x1 < 0 → (Q (.inl (some (.int (-1)))) h)) ∧ (¬ x1 < 0 → (((h.I c 7) ≤ x1 → (Q (.inl (some (.int (-1)))) h)) ∧ (¬ (h.I c 7) ≤ x1 → ((80 ≤ x1 → (Q (.inl (some (.int (-1)))) h)) ∧ (¬ 80 ≤ x1 → (vp_in x1 80 ∧ (Q (.inl (some (.int (h.I (c + 5) x1.toNatClampNeg)))) h)))))))) : q_M0 G (d + 1) yX0_leadsTo [.ref c, .int x1] h Q := by
  refine q_of (M := m_X0_leadsTo) (by decide +kernel) rfl rfl cd_X0_leadsTo (by decide) (Nat.le_of_ble_eq_true rfl) ?_
  show q_N0 G m_X0_leadsTo (d + 1) Q 0 [.ref c, .int x1] [] h
  refine q_iload_n (i := 1) dX0_leadsTo_0 rfl rfl ?_
  refine q_if_lt (tgt := 27) dX0_leadsTo_1 (by decide) (fun hb => ?_) (fun hb => ?_)
  · have hF := hF.1 hb
    refine q_iconst (v := (-1)) dX0_leadsTo_27 (by decide) ?_
    exact q_iret rfl (by decide) (by decide) dX0_leadsTo_28 hF
  · have hF := hF.2 hb
    refine q_iload_n (i := 1) dX0_leadsTo_4 rfl rfl ?_
    refine q_aload_n (i := 0) dX0_leadsTo_5 rfl rfl ?_
    refine q_getIv (v := h.I c 7) 1 7 fl_X0_34 (q_cir_n hc 0) (q_cir_K hc) rfl (rfl) dX0_leadsTo_6 ?_
    refine q_icmp_ge (tgt := 27) dX0_leadsTo_9 (by decide) (fun hb => ?_) (fun hb => ?_)
    · have hF := hF.1 hb
      refine q_iconst (v := (-1)) dX0_leadsTo_27 (by decide) ?_
      exact q_iret rfl (by decide) (by decide) dX0_leadsTo_28 hF
    · have hF := hF.2 hb
      refine q_iload_n (i := 1) dX0_leadsTo_12 rfl rfl ?_
      refine q_bipush (v := 80) dX0_leadsTo_13 (by decide) ?_
      refine q_icmp_ge (tgt := 27) dX0_leadsTo_15 (by decide) (fun hb => ?_) (fun hb => ?_)
      · have hF := hF.1 hb
        refine q_iconst (v := (-1)) dX0_leadsTo_27 (by decide) ?_
        exact q_iret rfl (by decide) (by decide) dX0_leadsTo_28 hF
      · have hF := hF.2 hb
        refine q_aload_n (i := 0) dX0_leadsTo_18 rfl rfl ?_
        refine q_getP 1 4 (c + 5) fl_X0_24 (q_cir_n hc 0) (q_cir_K hc) rfl (q_cir_P hc 4) dX0_leadsTo_19 ?_
        refine q_iload_n (i := 1) dX0_leadsTo_22 rfl rfl ?_
        obtain ⟨hi1, hF⟩ := hF
        refine q_ialoadv (v := h.I (c + 5) x1.toNatClampNeg) (n := 80) (q_cir_n hc 5) (q_cir_A hc 4) hi1 (rfl) dX0_leadsTo_23 ?_
        refine q_goto (tgt := 28) dX0_leadsTo_24 (by decide) ?_
        exact q_iret rfl (by decide) (by decide) dX0_leadsTo_28 hF
def m_X0_addArray : qm := (RX0, cX0_addArray, 2, none, [], false)
set_option maxRecDepth 100000 in
set_option maxHeartbeats 4000000 in
theorem x_X0_addArray (G : qG) (d : Nat) (c : Nat) (x1 : Int32) (h : qh) (Q : qr → qh → Prop) (hc : q_cir c) (hF : (8 ≤ (h.I c 8) → (Q (.inl none) h)) ∧ (¬ 8 ≤ (h.I c 8) → (vp_in (h.I c 8) 8 ∧ (Q (.inl none) ((h.sI (c + 6) ((h.I c 8).toNatClampNeg) x1).sI c 8 ((h.I c 8) + 1)))))) : q_M0 G (d + 1) yX0_addArray [.ref c, .int x1] h Q := by
  refine q_of (M := m_X0_addArray) (by decide +kernel) rfl rfl cd_X0_addArray (by decide) (Nat.le_of_ble_eq_true rfl) ?_
  show q_N0 G m_X0_addArray (d + 1) Q 0 [.ref c, .int x1] [] h
  refine q_aload_n (i := 0) dX0_addArray_0 rfl rfl ?_
  refine q_getIv (v := h.I c 8) 1 8 fl_X0_37 (q_cir_n hc 0) (q_cir_K hc) rfl (rfl) dX0_addArray_1 ?_
  refine q_bipush (v := 8) dX0_addArray_4 (by decide) ?_
  refine q_icmp_ge (tgt := 29) dX0_addArray_6 (by decide) (fun hb => ?_) (fun hb => ?_)
  · have hF := hF.1 hb
    exact q_vret rfl (by decide) (by decide) dX0_addArray_29 hF
  · have hF := hF.2 hb
    refine q_aload_n (i := 0) dX0_addArray_9 rfl rfl ?_
    refine q_getP 1 5 (c + 6) fl_X0_27 (q_cir_n hc 0) (q_cir_K hc) rfl (q_cir_P hc 5) dX0_addArray_10 ?_
    refine q_aload_n (i := 0) dX0_addArray_13 rfl rfl ?_
    refine q_getIv (v := h.I c 8) 1 8 fl_X0_37 (q_cir_n hc 0) (q_cir_K hc) rfl (rfl) dX0_addArray_14 ?_
    refine q_iload_n (i := 1) dX0_addArray_17 rfl rfl ?_
    obtain ⟨hi1, hF⟩ := hF
    refine q_iastore (n := 8) (q_cir_n hc 6) (q_cir_A hc 5) hi1 dX0_addArray_18 ?_
    refine q_aload_n (i := 0) dX0_addArray_19 rfl rfl ?_
    refine q_dup dX0_addArray_20 rfl ?_
    refine q_getIv (v := h.I c 8) 1 8 fl_X0_37 (q_cir_n hc 0) (q_cir_K hc) rfl ((q_I_neo (by omega)).trans (rfl)) dX0_addArray_21 ?_
    refine q_iconst (v := 1) dX0_addArray_24 (by decide) ?_
    refine q_iadd dX0_addArray_25 ?_
    refine q_putI 1 8 fp_X0_37 (Or.inr ⟨_, _, _, rfl, rfl⟩) (q_cir_n hc 0) (q_cir_K hc) rfl dX0_addArray_26 ?_
    exact q_vret rfl (by decide) (by decide) dX0_addArray_29 hF
def m_X0_cellsOf : qm := (RX0, cX0_cellsOf, 2, (some .int), [], false)
set_option maxRecDepth 100000 in
set_option maxHeartbeats 4000000 in
theorem x_X0_cellsOf (G : qG) (d : Nat) (c : Nat) (x1 : Int32) (h : qh) (Q : qr → qh → Prop) (hc : q_cir c) (hF : (x1 < 0 → (Q (.inl (some (.int (-1)))) h)) ∧ (¬ x1 < 0 → (((h.I c 8) ≤ x1 → (Q (.inl (some (.int (-1)))) h)) ∧ (¬ (h.I c 8) ≤ x1 → ((8 ≤ x1 → (Q (.inl (some (.int (-1)))) h)) ∧ (¬ 8 ≤ x1 → (vp_in x1 8 ∧ (Q (.inl (some (.int (h.I (c + 6) x1.toNatClampNeg)))) h)))))))) : q_M0 G (d + 1) yX0_cellsOf [.ref c, .int x1] h Q := by
  refine q_of (M := m_X0_cellsOf) (by decide +kernel) rfl rfl cd_X0_cellsOf (by decide) (Nat.le_of_ble_eq_true rfl) ?_
  show q_N0 G m_X0_cellsOf (d + 1) Q 0 [.ref c, .int x1] [] h
  refine q_iload_n (i := 1) dX0_cellsOf_0 rfl rfl ?_
  refine q_if_lt (tgt := 27) dX0_cellsOf_1 (by decide) (fun hb => ?_) (fun hb => ?_)
  · have hF := hF.1 hb
    refine q_iconst (v := (-1)) dX0_cellsOf_27 (by decide) ?_
    exact q_iret rfl (by decide) (by decide) dX0_cellsOf_28 hF
  · have hF := hF.2 hb
    refine q_iload_n (i := 1) dX0_cellsOf_4 rfl rfl ?_
    refine q_aload_n (i := 0) dX0_cellsOf_5 rfl rfl ?_
    refine q_getIv (v := h.I c 8) 1 8 fl_X0_37 (q_cir_n hc 0) (q_cir_K hc) rfl (rfl) dX0_cellsOf_6 ?_
    refine q_icmp_ge (tgt := 27) dX0_cellsOf_9 (by decide) (fun hb => ?_) (fun hb => ?_)
    · have hF := hF.1 hb
      refine q_iconst (v := (-1)) dX0_cellsOf_27 (by decide) ?_
      exact q_iret rfl (by decide) (by decide) dX0_cellsOf_28 hF
    · have hF := hF.2 hb
      refine q_iload_n (i := 1) dX0_cellsOf_12 rfl rfl ?_
      refine q_bipush (v := 8) dX0_cellsOf_13 (by decide) ?_
      refine q_icmp_ge (tgt := 27) dX0_cellsOf_15 (by decide) (fun hb => ?_) (fun hb => ?_)
      · have hF := hF.1 hb
        refine q_iconst (v := (-1)) dX0_cellsOf_27 (by decide) ?_
        exact q_iret rfl (by decide) (by decide) dX0_cellsOf_28 hF
      · have hF := hF.2 hb
        refine q_aload_n (i := 0) dX0_cellsOf_18 rfl rfl ?_
        refine q_getP 1 5 (c + 6) fl_X0_27 (q_cir_n hc 0) (q_cir_K hc) rfl (q_cir_P hc 5) dX0_cellsOf_19 ?_
        refine q_iload_n (i := 1) dX0_cellsOf_22 rfl rfl ?_
        obtain ⟨hi1, hF⟩ := hF
        refine q_ialoadv (v := h.I (c + 6) x1.toNatClampNeg) (n := 8) (q_cir_n hc 6) (q_cir_A hc 5) hi1 (rfl) dX0_cellsOf_23 ?_
        refine q_goto (tgt := 28) dX0_cellsOf_24 (by decide) ?_
        exact q_iret rfl (by decide) (by decide) dX0_cellsOf_28 hF
def m_X1_begin : qm := (RX1, cX1_begin, 2, none, [], false)
set_option maxRecDepth 100000 in
set_option maxHeartbeats 4000000 in
theorem x_X1_begin (G : qG) (d : Nat) (x1 : Nat) (h : qh) (Q : qr → qh → Prop) (hx1 : q_cir x1) (hF : Q (.inl none) ((h.sR 27 5 (some x1)).sI 27 8 0)) : q_M0 G (d + 1) yX1_begin [.ref 27, .ref x1] h Q := by
  refine q_of (M := m_X1_begin) (by decide +kernel) rfl rfl cd_X1_begin (by decide) (Nat.le_of_ble_eq_true rfl) ?_
  show q_N0 G m_X1_begin (d + 1) Q 0 [.ref 27, .ref x1] [] h
  refine q_aload_n (i := 0) dX1_begin_0 rfl rfl ?_
  refine q_aload_n (i := 1) dX1_begin_1 rfl rfl ?_
  refine q_putR (v := x1) 2 5 fp_X1_29 (Or.inr ⟨_, _, _, rfl, rfl⟩) (by decide) rfl rfl (by rfl) (Or.inl ⟨_, rfl⟩) dX1_begin_2 ?_
  refine q_aload_n (i := 0) dX1_begin_5 rfl rfl ?_
  refine q_iconst (v := 0) dX1_begin_6 (by decide) ?_
  refine q_putI 2 8 fp_X1_33 (Or.inr ⟨_, _, _, rfl, rfl⟩) (by decide) rfl rfl dX1_begin_7 ?_
  exact q_vret rfl (by decide) (by decide) dX1_begin_10 hF
def m_X1_read : qm := (RX1, cX1_read, 3, (some .boolean), [], false)
set_option maxRecDepth 100000 in
set_option maxHeartbeats 4000000 in
theorem x_X1_read (G : qG) (d : Nat)  (h : qh) (Q : qr → qh → Prop)  (hF : q_N0 G m_X1_read (d + 1) Q 17 [.ref 27, .int 0, .null] [] (((h.sI 27 6 0).sI 27 7 0).sI 27 9 1)) : q_M0 G (d + 1) yX1_read [.ref 27] h Q := by
  refine q_of (M := m_X1_read) (by decide +kernel) rfl rfl cd_X1_read (by decide) (Nat.le_of_ble_eq_true rfl) ?_
  show q_N0 G m_X1_read (d + 1) Q 0 [.ref 27, .null, .null] [] h
  refine q_aload_n (i := 0) dX1_read_0 rfl rfl ?_
  refine q_iconst (v := 0) dX1_read_1 (by decide) ?_
  refine q_putI 2 6 fp_X1_37 (Or.inr ⟨_, _, _, rfl, rfl⟩) (by decide) rfl rfl dX1_read_2 ?_
  refine q_aload_n (i := 0) dX1_read_5 rfl rfl ?_
  refine q_iconst (v := 0) dX1_read_6 (by decide) ?_
  refine q_putI 2 7 fp_X1_40 (Or.inr ⟨_, _, _, rfl, rfl⟩) (by decide) rfl rfl dX1_read_7 ?_
  refine q_aload_n (i := 0) dX1_read_10 rfl rfl ?_
  refine q_iconst (v := 1) dX1_read_11 (by decide) ?_
  refine q_putZ 2 9 fp_X1_43 (Or.inr ⟨_, _, _, rfl, rfl⟩) (by decide) rfl rfl (by decide) dX1_read_12 ?_
  refine q_iconst (v := 0) dX1_read_15 (by decide) ?_
  refine q_istore_n (i := 1) dX1_read_16 rfl (by decide) rfl ?_
  exact hF
set_option maxRecDepth 100000 in
set_option maxHeartbeats 4000000 in
theorem x_X1_read_17 (G : qG) (d : Nat) (l1 : Int32) (h : qh) (Q : qr → qh → Prop)  (hF : (2001 < l1 → (Q (.inl (some (.int 0))) h)) ∧ (¬ 2001 < l1 → (((h.I 27 9) = 0 → (q_M0 G d yX1_layOnes [.ref 27] h (q_rv (fun h1 => q_M0 G d yX1_levelOf [.int (h1.I 22 3)] h1 (q_ri (fun r3 h2 => q_M0 G d yJ9_max_7cf53 [.int r3, .int 1] h2 (q_ri (fun r5 h4 => q_M0 G d yX1_layTwos [.ref 27, .int r5] h4 (q_rv (fun h6 => (¬ r3 = 0 → ((r3 ≤ 0 → (q_M0 G d yX1_readClosing [.ref 27] h6 (q_ri (fun r8 h7 => (¬ r8 = 0 → (q_N0 G m_X1_read (d + 1) Q 17 [.ref 27, .int (l1 + 1), .null] [] h7)) ∧ (r8 = 0 → (Q (.inl (some (.int 0))) h7))) (fun E h => Q (.inr E) h)))) ∧ (¬ r3 ≤ 0 → (q_M0 G d yX1_readTwo [.ref 27] h6 (q_ri (fun r10 h9 => (r10 = 0 → (Q (.inl (some (.int 0))) h9)) ∧ (¬ r10 = 0 → (q_N0 G m_X1_read (d + 1) Q 17 [.ref 27, .int (l1 + 1), .null] [] h9))) (fun E h => Q (.inr E) h)))))) ∧ (r3 = 0 → ((¬ (h6.I 27 6) = 0 → ((r3 ≤ 0 → (q_M0 G d yX1_readClosing [.ref 27] h6 (q_ri (fun r12 h11 => (¬ r12 = 0 → (q_N0 G m_X1_read (d + 1) Q 17 [.ref 27, .int (l1 + 1), .null] [] h11)) ∧ (r12 = 0 → (Q (.inl (some (.int 0))) h11))) (fun E h => Q (.inr E) h)))) ∧ (¬ r3 ≤ 0 → (q_M0 G d yX1_readTwo [.ref 27] h6 (q_ri (fun r14 h13 => (r14 = 0 → (Q (.inl (some (.int 0))) h13)) ∧ (¬ r14 = 0 → (q_N0 G m_X1_read (d + 1) Q 17 [.ref 27, .int (l1 + 1), .null] [] h13))) (fun E h => Q (.inr E) h)))))) ∧ ((h6.I 27 6) = 0 → (Q (.inl (some (.int 1))) h6))))) (fun E h => Q (.inr E) h))) (fun E h => Q (.inr E) h))) (fun E h => Q (.inr E) h))) (fun E h => Q (.inr E) h)))) ∧ (¬ (h.I 27 9) = 0 → (q_M0 G d yX1_readOperand [.ref 27] h (q_ri (fun r16 h15 => (¬ r16 = 0 → (q_N0 G m_X1_read (d + 1) Q 17 [.ref 27, .int (l1 + 1), .null] [] h15)) ∧ (r16 = 0 → (Q (.inl (some (.int 0))) h15))) (fun E h => Q (.inr E) h))))))) : q_N0 G m_X1_read (d + 1) Q 17 [.ref 27, .int l1, .null] [] h := by
  refine q_iload_n (i := 1) dX1_read_17 rfl rfl ?_
  refine q_sipush (v := 2001) dX1_read_18 (by decide) ?_
  refine q_icmp_gt (tgt := 106) dX1_read_21 (by decide) (fun hb => ?_) (fun hb => ?_)
  · have hF := hF.1 hb
    refine q_iconst (v := 0) dX1_read_106 (by decide) ?_
    exact q_zret rfl (by decide) (by decide) (by decide) dX1_read_107 hF
  · have hF := hF.2 hb
    refine q_aload_n (i := 0) dX1_read_24 rfl rfl ?_
    refine q_getIv (v := h.I 27 9) 2 9 fl_X1_43 (by decide) rfl rfl (rfl) dX1_read_25 ?_
    refine q_if_eq (tgt := 40) dX1_read_28 (by decide) (fun hb => ?_) (fun hb => ?_)
    · have hF := hF.1 hb
      refine q_aload_n (i := 0) dX1_read_40 rfl rfl ?_
      refine q_callVv (ci := 2) (o := 27) (As := []) (st := []) cv_X1_51 ⟨_, _, rfl⟩ (by decide) rfl rfl (Nat.le_refl _) (Nat.le_of_ble_eq_true rfl) (by decide) dX1_read_41 rfl hF (fun h1 hF => ?_)
      refine q_aload_n (i := 0) dX1_read_44 rfl rfl ?_
      refine q_getP 2 0 22 fl_X1_21 (by decide) rfl rfl rfl dX1_read_45 ?_
      refine q_getIv (v := h1.I 22 3) 5 3 fl_X1_54 (by decide) rfl rfl (rfl) dX1_read_48 ?_
      refine q_callSi (As := [.int (h1.I 22 3)]) (st := []) cs_X1_59 rfl (Nat.le_refl _) (Nat.le_of_ble_eq_true rfl) (by decide) dX1_read_51 rfl hF (fun r3 h2 hF => ?_)
      refine q_istore_n (i := 2) dX1_read_54 rfl (by decide) rfl ?_
      refine q_aload_n (i := 0) dX1_read_55 rfl rfl ?_
      refine q_iload_n (i := 2) dX1_read_56 rfl rfl ?_
      refine q_iconst (v := 1) dX1_read_57 (by decide) ?_
      refine q_callSi (As := [.int r3, .int 1]) (st := [.ref 27]) cs_X1_63 rfl (Nat.le_refl _) (Nat.le_of_ble_eq_true rfl) (by decide) dX1_read_58 rfl hF (fun r5 h4 hF => ?_)
      refine q_callVv (ci := 2) (o := 27) (As := [.int r5]) (st := []) cv_X1_69 ⟨_, _, rfl⟩ (by decide) rfl rfl (Nat.le_refl _) (Nat.le_of_ble_eq_true rfl) (by decide) dX1_read_61 rfl hF (fun h6 hF => ?_)
      refine q_iload_n (i := 2) dX1_read_64 rfl rfl ?_
      refine q_if_ne (tgt := 77) dX1_read_65 (by decide) (fun hb => ?_) (fun hb => ?_)
      · have hF := hF.1 hb
        refine q_iload_n (i := 2) dX1_read_77 rfl rfl ?_
        refine q_if_le (tgt := 91) dX1_read_78 (by decide) (fun hb => ?_) (fun hb => ?_)
        · have hF := hF.1 hb
          refine q_aload_n (i := 0) dX1_read_91 rfl rfl ?_
          refine q_callVi (ci := 2) (o := 27) (As := []) (st := []) cv_X1_76 ⟨_, _, rfl⟩ (by decide) rfl rfl (Nat.le_refl _) (Nat.le_of_ble_eq_true rfl) (by decide) dX1_read_92 rfl hF (fun r8 h7 hF => ?_)
          refine q_if_ne (tgt := 100) dX1_read_95 (by decide) (fun hb => ?_) (fun hb => ?_)
          · have hF := hF.1 hb
            refine q_iinc (v := l1 + 1) dX1_read_100 rfl rfl (by decide) rfl ?_
            refine q_goto (tgt := 17) dX1_read_103 (by decide) ?_
            show q_N0 G m_X1_read (d + 1) Q 17 [.ref 27, .int (l1 + 1), .int r3] [] h7
            exact q_fgt (l' := [.ref 27, .int (l1 + 1), .null]) (And.intro (Or.inr rfl) ( And.intro (Or.inr rfl) ( And.intro (Or.inl rfl) (trivial)))) hF
          · have hF := hF.2 hb
            refine q_iconst (v := 0) dX1_read_98 (by decide) ?_
            exact q_zret rfl (by decide) (by decide) (by decide) dX1_read_99 hF
        · have hF := hF.2 hb
          refine q_aload_n (i := 0) dX1_read_81 rfl rfl ?_
          refine q_callVi (ci := 2) (o := 27) (As := []) (st := []) cv_X1_73 ⟨_, _, rfl⟩ (by decide) rfl rfl (Nat.le_refl _) (Nat.le_of_ble_eq_true rfl) (by decide) dX1_read_82 rfl hF (fun r10 h9 hF => ?_)
          refine q_if_eq (tgt := 98) dX1_read_85 (by decide) (fun hb => ?_) (fun hb => ?_)
          · have hF := hF.1 hb
            refine q_iconst (v := 0) dX1_read_98 (by decide) ?_
            exact q_zret rfl (by decide) (by decide) (by decide) dX1_read_99 hF
          · have hF := hF.2 hb
            refine q_goto (tgt := 100) dX1_read_88 (by decide) ?_
            refine q_iinc (v := l1 + 1) dX1_read_100 rfl rfl (by decide) rfl ?_
            refine q_goto (tgt := 17) dX1_read_103 (by decide) ?_
            show q_N0 G m_X1_read (d + 1) Q 17 [.ref 27, .int (l1 + 1), .int r3] [] h9
            exact q_fgt (l' := [.ref 27, .int (l1 + 1), .null]) (And.intro (Or.inr rfl) ( And.intro (Or.inr rfl) ( And.intro (Or.inl rfl) (trivial)))) hF
      · have hF := hF.2 hb
        refine q_aload_n (i := 0) dX1_read_68 rfl rfl ?_
        refine q_getIv (v := h6.I 27 6) 2 6 fl_X1_37 (by decide) rfl rfl (rfl) dX1_read_69 ?_
        refine q_if_ne (tgt := 77) dX1_read_72 (by decide) (fun hb => ?_) (fun hb => ?_)
        · have hF := hF.1 hb
          refine q_iload_n (i := 2) dX1_read_77 rfl rfl ?_
          refine q_if_le (tgt := 91) dX1_read_78 (by decide) (fun hb => ?_) (fun hb => ?_)
          · have hF := hF.1 hb
            refine q_aload_n (i := 0) dX1_read_91 rfl rfl ?_
            refine q_callVi (ci := 2) (o := 27) (As := []) (st := []) cv_X1_76 ⟨_, _, rfl⟩ (by decide) rfl rfl (Nat.le_refl _) (Nat.le_of_ble_eq_true rfl) (by decide) dX1_read_92 rfl hF (fun r12 h11 hF => ?_)
            refine q_if_ne (tgt := 100) dX1_read_95 (by decide) (fun hb => ?_) (fun hb => ?_)
            · have hF := hF.1 hb
              refine q_iinc (v := l1 + 1) dX1_read_100 rfl rfl (by decide) rfl ?_
              refine q_goto (tgt := 17) dX1_read_103 (by decide) ?_
              show q_N0 G m_X1_read (d + 1) Q 17 [.ref 27, .int (l1 + 1), .int r3] [] h11
              exact q_fgt (l' := [.ref 27, .int (l1 + 1), .null]) (And.intro (Or.inr rfl) ( And.intro (Or.inr rfl) ( And.intro (Or.inl rfl) (trivial)))) hF
            · have hF := hF.2 hb
              refine q_iconst (v := 0) dX1_read_98 (by decide) ?_
              exact q_zret rfl (by decide) (by decide) (by decide) dX1_read_99 hF
          · have hF := hF.2 hb
            refine q_aload_n (i := 0) dX1_read_81 rfl rfl ?_
            refine q_callVi (ci := 2) (o := 27) (As := []) (st := []) cv_X1_73 ⟨_, _, rfl⟩ (by decide) rfl rfl (Nat.le_refl _) (Nat.le_of_ble_eq_true rfl) (by decide) dX1_read_82 rfl hF (fun r14 h13 hF => ?_)
            refine q_if_eq (tgt := 98) dX1_read_85 (by decide) (fun hb => ?_) (fun hb => ?_)
            · have hF := hF.1 hb
              refine q_iconst (v := 0) dX1_read_98 (by decide) ?_
              exact q_zret rfl (by decide) (by decide) (by decide) dX1_read_99 hF
            · have hF := hF.2 hb
              refine q_goto (tgt := 100) dX1_read_88 (by decide) ?_
              refine q_iinc (v := l1 + 1) dX1_read_100 rfl rfl (by decide) rfl ?_
              refine q_goto (tgt := 17) dX1_read_103 (by decide) ?_
              show q_N0 G m_X1_read (d + 1) Q 17 [.ref 27, .int (l1 + 1), .int r3] [] h13
              exact q_fgt (l' := [.ref 27, .int (l1 + 1), .null]) (And.intro (Or.inr rfl) ( And.intro (Or.inr rfl) ( And.intro (Or.inl rfl) (trivial)))) hF
        · have hF := hF.2 hb
          refine q_iconst (v := 1) dX1_read_75 (by decide) ?_
          exact q_zret rfl (by decide) (by decide) (by decide) dX1_read_76 hF
    · have hF := hF.2 hb
      refine q_aload_n (i := 0) dX1_read_31 rfl rfl ?_
      refine q_callVi (ci := 2) (o := 27) (As := []) (st := []) cv_X1_47 ⟨_, _, rfl⟩ (by decide) rfl rfl (Nat.le_refl _) (Nat.le_of_ble_eq_true rfl) (by decide) dX1_read_32 rfl hF (fun r16 h15 hF => ?_)
      refine q_if_ne (tgt := 100) dX1_read_35 (by decide) (fun hb => ?_) (fun hb => ?_)
      · have hF := hF.1 hb
        refine q_iinc (v := l1 + 1) dX1_read_100 rfl rfl (by decide) rfl ?_
        refine q_goto (tgt := 17) dX1_read_103 (by decide) ?_
        exact hF
      · have hF := hF.2 hb
        refine q_iconst (v := 0) dX1_read_38 (by decide) ?_
        exact q_zret rfl (by decide) (by decide) (by decide) dX1_read_39 hF
def m_X1_result : qm := (RX1, cX1_result, 1, (some .int), [], false)
set_option maxRecDepth 100000 in
set_option maxHeartbeats 4000000 in
theorem x_X1_result (G : qG) (d : Nat)  (h : qh) (Q : qr → qh → Prop)  (hF : q_M0 G d yX1_pop [.ref 27] h (q_ri (fun r2 h1 => Q (.inl (some (.int r2))) h1) (fun E h => Q (.inr E) h))) : q_M0 G (d + 1) yX1_result [.ref 27] h Q := by
  refine q_of (M := m_X1_result) (by decide +kernel) rfl rfl cd_X1_result (by decide) (Nat.le_of_ble_eq_true rfl) ?_
  show q_N0 G m_X1_result (d + 1) Q 0 [.ref 27] [] h
  refine q_aload_n (i := 0) dX1_result_0 rfl rfl ?_
  refine q_callVi (ci := 2) (o := 27) (As := []) (st := []) cv_X1_79 ⟨_, _, rfl⟩ (by decide) rfl rfl (Nat.le_refl _) (Nat.le_of_ble_eq_true rfl) (by decide) dX1_result_1 rfl hF (fun r2 h1 hF => ?_)
  exact q_iret rfl (by decide) (by decide) dX1_result_4 hF
def m_X1_readOperand : qm := (RX1, cX1_readOperand, 7, (some .boolean), [], false)
set_option maxRecDepth 100000 in
set_option maxHeartbeats 4000000 in
theorem x_X1_readOperand (G : qG) (d : Nat)  (h : qh) (Q : qr → qh → Prop)  (hF : ((h.I 22 3) = 2 → (q_M0 G d yX4_advance [.ref 22] h (q_rv (fun h3 => q_M0 G d yX5_find [.ref 23, .long (h.L 22 5)] h3 (q_ri (fun r6 h5 => q_M0 G d yX5_faultOfUse [.ref 23, .int r6, .int (if (h3.I 22 3) = 91 then (1 : Int32) else 0)] h5 (q_ri (fun r8 h7 => q_M0 G d yX4_blame [.ref 22, .int r8, .int (h.I 22 4)] h7 (q_rv (fun h9 => q_M0 G d yX1_countWorked [.ref 27, .int (h.I 22 4)] h9 (q_rv (fun h10 => ((if (h3.I 22 3) = 91 then (1 : Int32) else 0) = 0 → (q_M0 G d yX5_numberOf [.ref 23, .int r6] h10 (q_ri (fun r12 h11 => q_M0 G d yX1_layOperand [.ref 27, .int 2, .int (-1), .int r12] h11 (q_rv (fun h13 => Q (.inl (some (.int 1))) h13) (fun E h => Q (.inr E) h))) (fun E h => Q (.inr E) h)))) ∧ (¬ (if (h3.I 22 3) = 91 then (1 : Int32) else 0) = 0 → (q_M0 G d yX4_enter [.ref 22, .int 91] h10 (q_ri (fun r15 h14 => (r15 = 0 → (Q (.inl (some (.int 0))) h14)) ∧ (¬ r15 = 0 → (q_M0 G d yX5_numberOf [.ref 23, .int r6] h14 (q_ri (fun r17 h16 => q_M0 G d yX1_await [.ref 27, .int 91, .int r17] h16 (q_ri (fun r19 h18 => ((if r19 = 0 then (0 : Int32) else 1) = 0 ∨ (if r19 = 0 then (0 : Int32) else 1) = 1) ∧ Q (.inl (some (.int (if r19 = 0 then (0 : Int32) else 1)))) h18) (fun E h => Q (.inr E) h))) (fun E h => Q (.inr E) h))))) (fun E h => Q (.inr E) h))))) (fun E h => Q (.inr E) h))) (fun E h => Q (.inr E) h))) (fun E h => Q (.inr E) h))) (fun E h => Q (.inr E) h))) (fun E h => Q (.inr E) h)))) ∧ ((h.I 22 3) = 3 → (q_M0 G d yX1_countWorked [.ref 27, .int (h.I 22 4)] h (q_rv (fun h21 => q_M0 G d yX4_advance [.ref 22] h21 (q_rv (fun h22 => q_M0 G d yX1_layOperand [.ref 27, .int 1, .int (-1), .int ((h.L 22 5).toInt32)] h22 (q_rv (fun h23 => Q (.inl (some (.int 1))) h23) (fun E h => Q (.inr E) h))) (fun E h => Q (.inr E) h))) (fun E h => Q (.inr E) h)))) ∧ ((h.I 22 3) = 33 → (q_M0 G d yX1_countWorked [.ref 27, .int (h.I 22 4)] h (q_rv (fun h24 => q_M0 G d yX4_enter [.ref 22, .int (h.I 22 3)] h24 (q_ri (fun r26 h25 => (r26 = 0 → (Q (.inl (some (.int 0))) h25)) ∧ (¬ r26 = 0 → (q_M0 G d yX1_await [.ref 27, .int (-(h.I 22 3)), .int (-1)] h25 (q_ri (fun r28 h27 => ((if r28 = 0 then (0 : Int32) else 1) = 0 ∨ (if r28 = 0 then (0 : Int32) else 1) = 1) ∧ Q (.inl (some (.int (if r28 = 0 then (0 : Int32) else 1)))) h27) (fun E h => Q (.inr E) h))))) (fun E h => Q (.inr E) h))) (fun E h => Q (.inr E) h)))) ∧ ((h.I 22 3) = 40 → (q_M0 G d yX4_enter [.ref 22, .int (h.I 22 3)] h (q_ri (fun r31 h30 => (r31 = 0 → (Q (.inl (some (.int 0))) h30)) ∧ (¬ r31 = 0 → (q_M0 G d yX1_await [.ref 27, .int (h.I 22 3), .int (-1)] h30 (q_ri (fun r33 h32 => ((if r33 = 0 then (0 : Int32) else 1) = 0 ∨ (if r33 = 0 then (0 : Int32) else 1) = 1) ∧ Q (.inl (some (.int (if r33 = 0 then (0 : Int32) else 1)))) h32) (fun E h => Q (.inr E) h))))) (fun E h => Q (.inr E) h)))) ∧ ((h.I 22 3) = 45 → (q_M0 G d yX1_countWorked [.ref 27, .int (h.I 22 4)] h (q_rv (fun h35 => q_M0 G d yX4_enter [.ref 22, .int (h.I 22 3)] h35 (q_ri (fun r37 h36 => (r37 = 0 → (Q (.inl (some (.int 0))) h36)) ∧ (¬ r37 = 0 → (q_M0 G d yX1_await [.ref 27, .int (-(h.I 22 3)), .int (-1)] h36 (q_ri (fun r39 h38 => ((if r39 = 0 then (0 : Int32) else 1) = 0 ∨ (if r39 = 0 then (0 : Int32) else 1) = 1) ∧ Q (.inl (some (.int (if r39 = 0 then (0 : Int32) else 1)))) h38) (fun E h => Q (.inr E) h))))) (fun E h => Q (.inr E) h))) (fun E h => Q (.inr E) h)))) ∧ ((h.I 22 3) = 126 → (q_M0 G d yX1_countWorked [.ref 27, .int (h.I 22 4)] h (q_rv (fun h41 => q_M0 G d yX4_enter [.ref 22, .int (h.I 22 3)] h41 (q_ri (fun r43 h42 => (r43 = 0 → (Q (.inl (some (.int 0))) h42)) ∧ (¬ r43 = 0 → (q_M0 G d yX1_await [.ref 27, .int (-(h.I 22 3)), .int (-1)] h42 (q_ri (fun r45 h44 => ((if r45 = 0 then (0 : Int32) else 1) = 0 ∨ (if r45 = 0 then (0 : Int32) else 1) = 1) ∧ Q (.inl (some (.int (if r45 = 0 then (0 : Int32) else 1)))) h44) (fun E h => Q (.inr E) h))))) (fun E h => Q (.inr E) h))) (fun E h => Q (.inr E) h)))) ∧ (¬ (h.I 22 3) = 2 ∧ ¬ (h.I 22 3) = 3 ∧ ¬ (h.I 22 3) = 33 ∧ ¬ (h.I 22 3) = 40 ∧ ¬ (h.I 22 3) = 45 ∧ ¬ (h.I 22 3) = 126 → (q_M0 G d yX4_refuse [.ref 22] h (q_ri (fun r48 h47 => (r48 = 0 ∨ r48 = 1) ∧ Q (.inl (some (.int r48))) h47) (fun E h => Q (.inr E) h))))) : q_M0 G (d + 1) yX1_readOperand [.ref 27] h Q := by
  refine q_of (M := m_X1_readOperand) (by decide +kernel) rfl rfl cd_X1_readOperand (by decide) (Nat.le_of_ble_eq_true rfl) ?_
  show q_N0 G m_X1_readOperand (d + 1) Q 0 [.ref 27, .null, .null, .null, .null, .null, .null] [] h
  refine q_aload_n (i := 0) dX1_readOperand_0 rfl rfl ?_
  refine q_getP 2 0 22 fl_X1_21 (by decide) rfl rfl rfl dX1_readOperand_1 ?_
  refine q_getIv (v := h.I 22 3) 5 3 fl_X1_54 (by decide) rfl rfl (rfl) dX1_readOperand_4 ?_
  refine q_istore_n (i := 1) dX1_readOperand_7 rfl (by decide) rfl ?_
  refine q_aload_n (i := 0) dX1_readOperand_8 rfl rfl ?_
  refine q_getP 2 0 22 fl_X1_21 (by decide) rfl rfl rfl dX1_readOperand_9 ?_
  refine q_getIv (v := h.I 22 4) 5 4 fl_X1_83 (by decide) rfl rfl (rfl) dX1_readOperand_12 ?_
  refine q_istore_n (i := 2) dX1_readOperand_15 rfl (by decide) rfl ?_
  refine q_aload_n (i := 0) dX1_readOperand_16 rfl rfl ?_
  refine q_getP 2 0 22 fl_X1_21 (by decide) rfl rfl rfl dX1_readOperand_17 ?_
  refine q_getLv (v := h.L 22 5) 5 5 fl_X1_86 (by decide) rfl rfl (rfl) dX1_readOperand_20 ?_
  refine q_lstore_n (i := 3) dX1_readOperand_23 rfl (by decide) rfl ?_
  refine q_iload_n (i := 1) dX1_readOperand_24 rfl rfl ?_
  refine q_by ((h.I 22 3) = 2) (fun hs1_0 => ?_) (fun hs1_0 => ?_)
  · have hF := hF.1 hs1_0
    refine q_lookup (tgt := 164) dX1_readOperand_25 (by decide) (by first | (rw [hs1_0]; done) | (rw [hs1_0]; rfl)) (by decide) ?_
    refine q_aload_n (i := 0) dX1_readOperand_164 rfl rfl ?_
    refine q_getP 2 0 22 fl_X1_21 (by decide) rfl rfl rfl dX1_readOperand_165 ?_
    refine q_callVv (ci := 5) (o := 22) (As := []) (st := []) cv_X1_101 ⟨_, _, rfl⟩ (by decide) rfl rfl (Nat.le_refl _) (Nat.le_of_ble_eq_true rfl) (by decide) dX1_readOperand_168 rfl hF (fun h3 hF => ?_)
    refine q_aload_n (i := 0) dX1_readOperand_171 rfl rfl ?_
    refine q_getP 2 0 22 fl_X1_21 (by decide) rfl rfl rfl dX1_readOperand_172 ?_
    refine q_getIv (v := h3.I 22 3) 5 3 fl_X1_54 (by decide) rfl rfl (rfl) dX1_readOperand_175 ?_
    refine q_bipush (v := 91) dX1_readOperand_178 (by decide) ?_
    have K4 := q_ite (c := (h3.I 22 3) = 91) (X := fun v => q_N0 G m_X1_readOperand (d + 1) Q 188 [.ref 27, .int (h.I 22 3), .int (h.I 22 4), .long (h.L 22 5), .null, .null, .null] (.int v :: []) h3) (a := 1) (b := 0) (by
      refine q_istore dX1_readOperand_188 (by decide) rfl ?_
      refine q_aload_n (i := 0) dX1_readOperand_190 rfl rfl ?_
      refine q_getP 2 1 23 fl_X1_25 (by decide) rfl rfl rfl dX1_readOperand_191 ?_
      refine q_lload_n (i := 3) dX1_readOperand_194 rfl rfl ?_
      refine q_callVi (ci := 6) (o := 23) (As := [.long (h.L 22 5)]) (st := []) cv_X1_108 ⟨_, _, rfl⟩ (by decide) rfl rfl (Nat.le_refl _) (Nat.le_of_ble_eq_true rfl) (by decide) dX1_readOperand_195 rfl hF (fun r6 h5 hF => ?_)
      refine q_istore dX1_readOperand_198 (by decide) rfl ?_
      refine q_aload_n (i := 0) dX1_readOperand_200 rfl rfl ?_
      refine q_getP 2 0 22 fl_X1_21 (by decide) rfl rfl rfl dX1_readOperand_201 ?_
      refine q_aload_n (i := 0) dX1_readOperand_204 rfl rfl ?_
      refine q_getP 2 1 23 fl_X1_25 (by decide) rfl rfl rfl dX1_readOperand_205 ?_
      refine q_iload dX1_readOperand_208 rfl ?_
      refine q_iload dX1_readOperand_210 rfl ?_
      refine q_callVi (ci := 6) (o := 23) (As := [.int r6, .int (if (h3.I 22 3) = 91 then (1 : Int32) else 0)]) (st := [.ref 22]) cv_X1_114 ⟨_, _, rfl⟩ (by decide) rfl rfl (Nat.le_refl _) (Nat.le_of_ble_eq_true rfl) (by decide) dX1_readOperand_212 rfl hF (fun r8 h7 hF => ?_)
      refine q_iload_n (i := 2) dX1_readOperand_215 rfl rfl ?_
      refine q_callVv (ci := 5) (o := 22) (As := [.int r8, .int (h.I 22 4)]) (st := []) cv_X1_118 ⟨_, _, rfl⟩ (by decide) rfl rfl (Nat.le_refl _) (Nat.le_of_ble_eq_true rfl) (by decide) dX1_readOperand_216 rfl hF (fun h9 hF => ?_)
      refine q_aload_n (i := 0) dX1_readOperand_219 rfl rfl ?_
      refine q_iload_n (i := 2) dX1_readOperand_220 rfl rfl ?_
      refine q_callVv (ci := 2) (o := 27) (As := [.int (h.I 22 4)]) (st := []) cv_X1_98 ⟨_, _, rfl⟩ (by decide) rfl rfl (Nat.le_refl _) (Nat.le_of_ble_eq_true rfl) (by decide) dX1_readOperand_221 rfl hF (fun h10 hF => ?_)
      refine q_iload dX1_readOperand_224 rfl ?_
      refine q_if_eq (tgt := 265) dX1_readOperand_226 (by decide) (fun hb => ?_) (fun hb => ?_)
      · have hF := hF.1 hb
        refine q_aload_n (i := 0) dX1_readOperand_265 rfl rfl ?_
        refine q_iconst (v := 2) dX1_readOperand_266 (by decide) ?_
        refine q_iconst (v := (-1)) dX1_readOperand_267 (by decide) ?_
        refine q_aload_n (i := 0) dX1_readOperand_268 rfl rfl ?_
        refine q_getP 2 1 23 fl_X1_25 (by decide) rfl rfl rfl dX1_readOperand_269 ?_
        refine q_iload dX1_readOperand_272 rfl ?_
        refine q_callVi (ci := 6) (o := 23) (As := [.int r6]) (st := [.int (-1), .int 2, .ref 27]) cv_X1_122 ⟨_, _, rfl⟩ (by decide) rfl rfl (Nat.le_refl _) (Nat.le_of_ble_eq_true rfl) (by decide) dX1_readOperand_274 rfl hF (fun r12 h11 hF => ?_)
        refine q_callVv (ci := 2) (o := 27) (As := [.int 2, .int (-1), .int r12]) (st := []) cv_X1_104 ⟨_, _, rfl⟩ (by decide) rfl rfl (Nat.le_refl _) (Nat.le_of_ble_eq_true rfl) (by decide) dX1_readOperand_277 rfl hF (fun h13 hF => ?_)
        refine q_iconst (v := 1) dX1_readOperand_280 (by decide) ?_
        exact q_zret rfl (by decide) (by decide) (by decide) dX1_readOperand_281 hF
      · have hF := hF.2 hb
        refine q_aload_n (i := 0) dX1_readOperand_229 rfl rfl ?_
        refine q_getP 2 0 22 fl_X1_21 (by decide) rfl rfl rfl dX1_readOperand_230 ?_
        refine q_bipush (v := 91) dX1_readOperand_233 (by decide) ?_
        refine q_callVi (ci := 5) (o := 22) (As := [.int 91]) (st := []) cv_X1_90 ⟨_, _, rfl⟩ (by decide) rfl rfl (Nat.le_refl _) (Nat.le_of_ble_eq_true rfl) (by decide) dX1_readOperand_235 rfl hF (fun r15 h14 hF => ?_)
        refine q_if_eq (tgt := 263) dX1_readOperand_238 (by decide) (fun hb => ?_) (fun hb => ?_)
        · have hF := hF.1 hb
          refine q_iconst (v := 0) dX1_readOperand_263 (by decide) ?_
          exact q_zret rfl (by decide) (by decide) (by decide) dX1_readOperand_264 hF
        · have hF := hF.2 hb
          refine q_aload_n (i := 0) dX1_readOperand_241 rfl rfl ?_
          refine q_bipush (v := 91) dX1_readOperand_242 (by decide) ?_
          refine q_aload_n (i := 0) dX1_readOperand_244 rfl rfl ?_
          refine q_getP 2 1 23 fl_X1_25 (by decide) rfl rfl rfl dX1_readOperand_245 ?_
          refine q_iload dX1_readOperand_248 rfl ?_
          refine q_callVi (ci := 6) (o := 23) (As := [.int r6]) (st := [.int 91, .ref 27]) cv_X1_122 ⟨_, _, rfl⟩ (by decide) rfl rfl (Nat.le_refl _) (Nat.le_of_ble_eq_true rfl) (by decide) dX1_readOperand_250 rfl hF (fun r17 h16 hF => ?_)
          refine q_callVi (ci := 2) (o := 27) (As := [.int 91, .int r17]) (st := []) cv_X1_94 ⟨_, _, rfl⟩ (by decide) rfl rfl (Nat.le_refl _) (Nat.le_of_ble_eq_true rfl) (by decide) dX1_readOperand_253 rfl hF (fun r19 h18 hF => ?_)
          have K20 := q_ite (c := r19 = 0) (X := fun v => q_N0 G m_X1_readOperand (d + 1) Q 264 [.ref 27, .int (h.I 22 3), .int (h.I 22 4), .long (h.L 22 5), .null, .int (if (h3.I 22 3) = 91 then (1 : Int32) else 0), .int r6] (.int v :: []) h18) (a := 0) (b := 1) (by
            exact q_zret rfl hF.1 (by decide) (by decide) dX1_readOperand_264 hF.2)
          refine q_if_eq (tgt := 263) dX1_readOperand_256 (by decide) (fun hb => ?_) (fun hb => ?_)
          · refine q_iconst (v := 0) dX1_readOperand_263 (by decide) ?_
            exact K20.1 hb
          · refine q_iconst (v := 1) dX1_readOperand_259 (by decide) ?_
            refine q_goto (tgt := 264) dX1_readOperand_260 (by decide) ?_
            exact K20.2 hb)
    refine q_icmp_ne (tgt := 187) dX1_readOperand_180 (by decide) (fun hb => ?_) (fun hb => ?_)
    · refine q_iconst (v := 0) dX1_readOperand_187 (by decide) ?_
      exact K4.2 hb
    · refine q_iconst (v := 1) dX1_readOperand_183 (by decide) ?_
      refine q_goto (tgt := 188) dX1_readOperand_184 (by decide) ?_
      exact K4.1 hb
  have hF := hF.2
  refine q_by ((h.I 22 3) = 3) (fun hs1_1 => ?_) (fun hs1_1 => ?_)
  · have hF := hF.1 hs1_1
    refine q_lookup (tgt := 142) dX1_readOperand_25 (by decide) (by first | (rw [hs1_1]; done) | (rw [hs1_1]; rfl)) (by decide) ?_
    refine q_aload_n (i := 0) dX1_readOperand_142 rfl rfl ?_
    refine q_iload_n (i := 2) dX1_readOperand_143 rfl rfl ?_
    refine q_callVv (ci := 2) (o := 27) (As := [.int (h.I 22 4)]) (st := []) cv_X1_98 ⟨_, _, rfl⟩ (by decide) rfl rfl (Nat.le_refl _) (Nat.le_of_ble_eq_true rfl) (by decide) dX1_readOperand_144 rfl hF (fun h21 hF => ?_)
    refine q_aload_n (i := 0) dX1_readOperand_147 rfl rfl ?_
    refine q_getP 2 0 22 fl_X1_21 (by decide) rfl rfl rfl dX1_readOperand_148 ?_
    refine q_callVv (ci := 5) (o := 22) (As := []) (st := []) cv_X1_101 ⟨_, _, rfl⟩ (by decide) rfl rfl (Nat.le_refl _) (Nat.le_of_ble_eq_true rfl) (by decide) dX1_readOperand_151 rfl hF (fun h22 hF => ?_)
    refine q_aload_n (i := 0) dX1_readOperand_154 rfl rfl ?_
    refine q_iconst (v := 1) dX1_readOperand_155 (by decide) ?_
    refine q_iconst (v := (-1)) dX1_readOperand_156 (by decide) ?_
    refine q_lload_n (i := 3) dX1_readOperand_157 rfl rfl ?_
    refine q_l2i (v := (h.L 22 5).toInt32) dX1_readOperand_158 rfl ?_
    refine q_callVv (ci := 2) (o := 27) (As := [.int 1, .int (-1), .int ((h.L 22 5).toInt32)]) (st := []) cv_X1_104 ⟨_, _, rfl⟩ (by decide) rfl rfl (Nat.le_refl _) (Nat.le_of_ble_eq_true rfl) (by decide) dX1_readOperand_159 rfl hF (fun h23 hF => ?_)
    refine q_iconst (v := 1) dX1_readOperand_162 (by decide) ?_
    exact q_zret rfl (by decide) (by decide) (by decide) dX1_readOperand_163 hF
  have hF := hF.2
  refine q_by ((h.I 22 3) = 33) (fun hs1_2 => ?_) (fun hs1_2 => ?_)
  · have hF := hF.1 hs1_2
    refine q_lookup (tgt := 110) dX1_readOperand_25 (by decide) (by first | (rw [hs1_2]; done) | (rw [hs1_2]; rfl)) (by decide) ?_
    refine q_aload_n (i := 0) dX1_readOperand_110 rfl rfl ?_
    refine q_iload_n (i := 2) dX1_readOperand_111 rfl rfl ?_
    refine q_callVv (ci := 2) (o := 27) (As := [.int (h.I 22 4)]) (st := []) cv_X1_98 ⟨_, _, rfl⟩ (by decide) rfl rfl (Nat.le_refl _) (Nat.le_of_ble_eq_true rfl) (by decide) dX1_readOperand_112 rfl hF (fun h24 hF => ?_)
    refine q_aload_n (i := 0) dX1_readOperand_115 rfl rfl ?_
    refine q_getP 2 0 22 fl_X1_21 (by decide) rfl rfl rfl dX1_readOperand_116 ?_
    refine q_iload_n (i := 1) dX1_readOperand_119 rfl rfl ?_
    refine q_callVi (ci := 5) (o := 22) (As := [.int (h.I 22 3)]) (st := []) cv_X1_90 ⟨_, _, rfl⟩ (by decide) rfl rfl (Nat.le_refl _) (Nat.le_of_ble_eq_true rfl) (by decide) dX1_readOperand_120 rfl hF (fun r26 h25 hF => ?_)
    refine q_if_eq (tgt := 140) dX1_readOperand_123 (by decide) (fun hb => ?_) (fun hb => ?_)
    · have hF := hF.1 hb
      refine q_iconst (v := 0) dX1_readOperand_140 (by decide) ?_
      exact q_zret rfl (by decide) (by decide) (by decide) dX1_readOperand_141 hF
    · have hF := hF.2 hb
      refine q_aload_n (i := 0) dX1_readOperand_126 rfl rfl ?_
      refine q_iload_n (i := 1) dX1_readOperand_127 rfl rfl ?_
      refine q_ineg dX1_readOperand_128 ?_
      refine q_iconst (v := (-1)) dX1_readOperand_129 (by decide) ?_
      refine q_callVi (ci := 2) (o := 27) (As := [.int (-(h.I 22 3)), .int (-1)]) (st := []) cv_X1_94 ⟨_, _, rfl⟩ (by decide) rfl rfl (Nat.le_refl _) (Nat.le_of_ble_eq_true rfl) (by decide) dX1_readOperand_130 rfl hF (fun r28 h27 hF => ?_)
      have K29 := q_ite (c := r28 = 0) (X := fun v => q_N0 G m_X1_readOperand (d + 1) Q 141 [.ref 27, .int (h.I 22 3), .int (h.I 22 4), .long (h.L 22 5), .null, .null, .null] (.int v :: []) h27) (a := 0) (b := 1) (by
        exact q_zret rfl hF.1 (by decide) (by decide) dX1_readOperand_141 hF.2)
      refine q_if_eq (tgt := 140) dX1_readOperand_133 (by decide) (fun hb => ?_) (fun hb => ?_)
      · refine q_iconst (v := 0) dX1_readOperand_140 (by decide) ?_
        exact K29.1 hb
      · refine q_iconst (v := 1) dX1_readOperand_136 (by decide) ?_
        refine q_goto (tgt := 141) dX1_readOperand_137 (by decide) ?_
        exact K29.2 hb
  have hF := hF.2
  refine q_by ((h.I 22 3) = 40) (fun hs1_3 => ?_) (fun hs1_3 => ?_)
  · have hF := hF.1 hs1_3
    refine q_lookup (tgt := 84) dX1_readOperand_25 (by decide) (by first | (rw [hs1_3]; done) | (rw [hs1_3]; rfl)) (by decide) ?_
    refine q_aload_n (i := 0) dX1_readOperand_84 rfl rfl ?_
    refine q_getP 2 0 22 fl_X1_21 (by decide) rfl rfl rfl dX1_readOperand_85 ?_
    refine q_iload_n (i := 1) dX1_readOperand_88 rfl rfl ?_
    refine q_callVi (ci := 5) (o := 22) (As := [.int (h.I 22 3)]) (st := []) cv_X1_90 ⟨_, _, rfl⟩ (by decide) rfl rfl (Nat.le_refl _) (Nat.le_of_ble_eq_true rfl) (by decide) dX1_readOperand_89 rfl hF (fun r31 h30 hF => ?_)
    refine q_if_eq (tgt := 108) dX1_readOperand_92 (by decide) (fun hb => ?_) (fun hb => ?_)
    · have hF := hF.1 hb
      refine q_iconst (v := 0) dX1_readOperand_108 (by decide) ?_
      exact q_zret rfl (by decide) (by decide) (by decide) dX1_readOperand_109 hF
    · have hF := hF.2 hb
      refine q_aload_n (i := 0) dX1_readOperand_95 rfl rfl ?_
      refine q_iload_n (i := 1) dX1_readOperand_96 rfl rfl ?_
      refine q_iconst (v := (-1)) dX1_readOperand_97 (by decide) ?_
      refine q_callVi (ci := 2) (o := 27) (As := [.int (h.I 22 3), .int (-1)]) (st := []) cv_X1_94 ⟨_, _, rfl⟩ (by decide) rfl rfl (Nat.le_refl _) (Nat.le_of_ble_eq_true rfl) (by decide) dX1_readOperand_98 rfl hF (fun r33 h32 hF => ?_)
      have K34 := q_ite (c := r33 = 0) (X := fun v => q_N0 G m_X1_readOperand (d + 1) Q 109 [.ref 27, .int (h.I 22 3), .int (h.I 22 4), .long (h.L 22 5), .null, .null, .null] (.int v :: []) h32) (a := 0) (b := 1) (by
        exact q_zret rfl hF.1 (by decide) (by decide) dX1_readOperand_109 hF.2)
      refine q_if_eq (tgt := 108) dX1_readOperand_101 (by decide) (fun hb => ?_) (fun hb => ?_)
      · refine q_iconst (v := 0) dX1_readOperand_108 (by decide) ?_
        exact K34.1 hb
      · refine q_iconst (v := 1) dX1_readOperand_104 (by decide) ?_
        refine q_goto (tgt := 109) dX1_readOperand_105 (by decide) ?_
        exact K34.2 hb
  have hF := hF.2
  refine q_by ((h.I 22 3) = 45) (fun hs1_4 => ?_) (fun hs1_4 => ?_)
  · have hF := hF.1 hs1_4
    refine q_lookup (tgt := 110) dX1_readOperand_25 (by decide) (by first | (rw [hs1_4]; done) | (rw [hs1_4]; rfl)) (by decide) ?_
    refine q_aload_n (i := 0) dX1_readOperand_110 rfl rfl ?_
    refine q_iload_n (i := 2) dX1_readOperand_111 rfl rfl ?_
    refine q_callVv (ci := 2) (o := 27) (As := [.int (h.I 22 4)]) (st := []) cv_X1_98 ⟨_, _, rfl⟩ (by decide) rfl rfl (Nat.le_refl _) (Nat.le_of_ble_eq_true rfl) (by decide) dX1_readOperand_112 rfl hF (fun h35 hF => ?_)
    refine q_aload_n (i := 0) dX1_readOperand_115 rfl rfl ?_
    refine q_getP 2 0 22 fl_X1_21 (by decide) rfl rfl rfl dX1_readOperand_116 ?_
    refine q_iload_n (i := 1) dX1_readOperand_119 rfl rfl ?_
    refine q_callVi (ci := 5) (o := 22) (As := [.int (h.I 22 3)]) (st := []) cv_X1_90 ⟨_, _, rfl⟩ (by decide) rfl rfl (Nat.le_refl _) (Nat.le_of_ble_eq_true rfl) (by decide) dX1_readOperand_120 rfl hF (fun r37 h36 hF => ?_)
    refine q_if_eq (tgt := 140) dX1_readOperand_123 (by decide) (fun hb => ?_) (fun hb => ?_)
    · have hF := hF.1 hb
      refine q_iconst (v := 0) dX1_readOperand_140 (by decide) ?_
      exact q_zret rfl (by decide) (by decide) (by decide) dX1_readOperand_141 hF
    · have hF := hF.2 hb
      refine q_aload_n (i := 0) dX1_readOperand_126 rfl rfl ?_
      refine q_iload_n (i := 1) dX1_readOperand_127 rfl rfl ?_
      refine q_ineg dX1_readOperand_128 ?_
      refine q_iconst (v := (-1)) dX1_readOperand_129 (by decide) ?_
      refine q_callVi (ci := 2) (o := 27) (As := [.int (-(h.I 22 3)), .int (-1)]) (st := []) cv_X1_94 ⟨_, _, rfl⟩ (by decide) rfl rfl (Nat.le_refl _) (Nat.le_of_ble_eq_true rfl) (by decide) dX1_readOperand_130 rfl hF (fun r39 h38 hF => ?_)
      have K40 := q_ite (c := r39 = 0) (X := fun v => q_N0 G m_X1_readOperand (d + 1) Q 141 [.ref 27, .int (h.I 22 3), .int (h.I 22 4), .long (h.L 22 5), .null, .null, .null] (.int v :: []) h38) (a := 0) (b := 1) (by
        exact q_zret rfl hF.1 (by decide) (by decide) dX1_readOperand_141 hF.2)
      refine q_if_eq (tgt := 140) dX1_readOperand_133 (by decide) (fun hb => ?_) (fun hb => ?_)
      · refine q_iconst (v := 0) dX1_readOperand_140 (by decide) ?_
        exact K40.1 hb
      · refine q_iconst (v := 1) dX1_readOperand_136 (by decide) ?_
        refine q_goto (tgt := 141) dX1_readOperand_137 (by decide) ?_
        exact K40.2 hb
  have hF := hF.2
  refine q_by ((h.I 22 3) = 126) (fun hs1_5 => ?_) (fun hs1_5 => ?_)
  · have hF := hF.1 hs1_5
    refine q_lookup (tgt := 110) dX1_readOperand_25 (by decide) (by first | (rw [hs1_5]; done) | (rw [hs1_5]; rfl)) (by decide) ?_
    refine q_aload_n (i := 0) dX1_readOperand_110 rfl rfl ?_
    refine q_iload_n (i := 2) dX1_readOperand_111 rfl rfl ?_
    refine q_callVv (ci := 2) (o := 27) (As := [.int (h.I 22 4)]) (st := []) cv_X1_98 ⟨_, _, rfl⟩ (by decide) rfl rfl (Nat.le_refl _) (Nat.le_of_ble_eq_true rfl) (by decide) dX1_readOperand_112 rfl hF (fun h41 hF => ?_)
    refine q_aload_n (i := 0) dX1_readOperand_115 rfl rfl ?_
    refine q_getP 2 0 22 fl_X1_21 (by decide) rfl rfl rfl dX1_readOperand_116 ?_
    refine q_iload_n (i := 1) dX1_readOperand_119 rfl rfl ?_
    refine q_callVi (ci := 5) (o := 22) (As := [.int (h.I 22 3)]) (st := []) cv_X1_90 ⟨_, _, rfl⟩ (by decide) rfl rfl (Nat.le_refl _) (Nat.le_of_ble_eq_true rfl) (by decide) dX1_readOperand_120 rfl hF (fun r43 h42 hF => ?_)
    refine q_if_eq (tgt := 140) dX1_readOperand_123 (by decide) (fun hb => ?_) (fun hb => ?_)
    · have hF := hF.1 hb
      refine q_iconst (v := 0) dX1_readOperand_140 (by decide) ?_
      exact q_zret rfl (by decide) (by decide) (by decide) dX1_readOperand_141 hF
    · have hF := hF.2 hb
      refine q_aload_n (i := 0) dX1_readOperand_126 rfl rfl ?_
      refine q_iload_n (i := 1) dX1_readOperand_127 rfl rfl ?_
      refine q_ineg dX1_readOperand_128 ?_
      refine q_iconst (v := (-1)) dX1_readOperand_129 (by decide) ?_
      refine q_callVi (ci := 2) (o := 27) (As := [.int (-(h.I 22 3)), .int (-1)]) (st := []) cv_X1_94 ⟨_, _, rfl⟩ (by decide) rfl rfl (Nat.le_refl _) (Nat.le_of_ble_eq_true rfl) (by decide) dX1_readOperand_130 rfl hF (fun r45 h44 hF => ?_)
      have K46 := q_ite (c := r45 = 0) (X := fun v => q_N0 G m_X1_readOperand (d + 1) Q 141 [.ref 27, .int (h.I 22 3), .int (h.I 22 4), .long (h.L 22 5), .null, .null, .null] (.int v :: []) h44) (a := 0) (b := 1) (by
        exact q_zret rfl hF.1 (by decide) (by decide) dX1_readOperand_141 hF.2)
      refine q_if_eq (tgt := 140) dX1_readOperand_133 (by decide) (fun hb => ?_) (fun hb => ?_)
      · refine q_iconst (v := 0) dX1_readOperand_140 (by decide) ?_
        exact K46.1 hb
      · refine q_iconst (v := 1) dX1_readOperand_136 (by decide) ?_
        refine q_goto (tgt := 141) dX1_readOperand_137 (by decide) ?_
        exact K46.2 hb
  have hF := hF.2
  refine q_lookup (off := 257) (tgt := 282) dX1_readOperand_25 (by decide) (by first | (rw [lv_osw hs1_0 (a := 2) (by decide), lv_osw hs1_1 (a := 3) (by decide), lv_osw hs1_2 (a := 33) (by decide), lv_osw hs1_3 (a := 40) (by decide), lv_osw hs1_4 (a := 45) (by decide), lv_osw hs1_5 (a := 126) (by decide)]; done) | (rw [lv_osw hs1_0 (a := 2) (by decide), lv_osw hs1_1 (a := 3) (by decide), lv_osw hs1_2 (a := 33) (by decide), lv_osw hs1_3 (a := 40) (by decide), lv_osw hs1_4 (a := 45) (by decide), lv_osw hs1_5 (a := 126) (by decide)]; rfl)) (by decide) ?_
  have hF := hF ⟨hs1_0, hs1_1, hs1_2, hs1_3, hs1_4, hs1_5⟩
  refine q_aload_n (i := 0) dX1_readOperand_282 rfl rfl ?_
  refine q_getP 2 0 22 fl_X1_21 (by decide) rfl rfl rfl dX1_readOperand_283 ?_
  refine q_callVi (ci := 5) (o := 22) (As := []) (st := []) cv_X1_125 ⟨_, _, rfl⟩ (by decide) rfl rfl (Nat.le_refl _) (Nat.le_of_ble_eq_true rfl) (by decide) dX1_readOperand_286 rfl hF (fun r48 h47 hF => ?_)
  exact q_zret rfl hF.1 (by decide) (by decide) dX1_readOperand_289 hF.2
def m_X1_readTwo : qm := (RX1, cX1_readTwo, 2, (some .boolean), [], false)
set_option maxRecDepth 100000 in
set_option maxHeartbeats 4000000 in
theorem x_X1_readTwo (G : qG) (d : Nat)  (h : qh) (Q : qr → qh → Prop)  (hF : q_M0 G d yX1_countWorked [.ref 27, .int (h.I 22 4)] h (q_rv (fun h1 => q_M0 G d yX4_advance [.ref 22] h1 (q_rv (fun h2 => q_M0 G d yX1_await [.ref 27, .int (h.I 22 3), .int (-1)] (h2.sI 27 9 1) (q_ri (fun r4 h3 => (r4 = 0 ∨ r4 = 1) ∧ Q (.inl (some (.int r4))) h3) (fun E h => Q (.inr E) h))) (fun E h => Q (.inr E) h))) (fun E h => Q (.inr E) h))) : q_M0 G (d + 1) yX1_readTwo [.ref 27] h Q := by
  refine q_of (M := m_X1_readTwo) (by decide +kernel) rfl rfl cd_X1_readTwo (by decide) (Nat.le_of_ble_eq_true rfl) ?_
  show q_N0 G m_X1_readTwo (d + 1) Q 0 [.ref 27, .null] [] h
  refine q_aload_n (i := 0) dX1_readTwo_0 rfl rfl ?_
  refine q_getP 2 0 22 fl_X1_21 (by decide) rfl rfl rfl dX1_readTwo_1 ?_
  refine q_getIv (v := h.I 22 3) 5 3 fl_X1_54 (by decide) rfl rfl (rfl) dX1_readTwo_4 ?_
  refine q_istore_n (i := 1) dX1_readTwo_7 rfl (by decide) rfl ?_
  refine q_aload_n (i := 0) dX1_readTwo_8 rfl rfl ?_
  refine q_aload_n (i := 0) dX1_readTwo_9 rfl rfl ?_
  refine q_getP 2 0 22 fl_X1_21 (by decide) rfl rfl rfl dX1_readTwo_10 ?_
  refine q_getIv (v := h.I 22 4) 5 4 fl_X1_83 (by decide) rfl rfl (rfl) dX1_readTwo_13 ?_
  refine q_callVv (ci := 2) (o := 27) (As := [.int (h.I 22 4)]) (st := []) cv_X1_98 ⟨_, _, rfl⟩ (by decide) rfl rfl (Nat.le_refl _) (Nat.le_of_ble_eq_true rfl) (by decide) dX1_readTwo_16 rfl hF (fun h1 hF => ?_)
  refine q_aload_n (i := 0) dX1_readTwo_19 rfl rfl ?_
  refine q_getP 2 0 22 fl_X1_21 (by decide) rfl rfl rfl dX1_readTwo_20 ?_
  refine q_callVv (ci := 5) (o := 22) (As := []) (st := []) cv_X1_101 ⟨_, _, rfl⟩ (by decide) rfl rfl (Nat.le_refl _) (Nat.le_of_ble_eq_true rfl) (by decide) dX1_readTwo_23 rfl hF (fun h2 hF => ?_)
  refine q_aload_n (i := 0) dX1_readTwo_26 rfl rfl ?_
  refine q_iconst (v := 1) dX1_readTwo_27 (by decide) ?_
  refine q_putZ 2 9 fp_X1_43 (Or.inr ⟨_, _, _, rfl, rfl⟩) (by decide) rfl rfl (by decide) dX1_readTwo_28 ?_
  refine q_aload_n (i := 0) dX1_readTwo_31 rfl rfl ?_
  refine q_iload_n (i := 1) dX1_readTwo_32 rfl rfl ?_
  refine q_iconst (v := (-1)) dX1_readTwo_33 (by decide) ?_
  refine q_callVi (ci := 2) (o := 27) (As := [.int (h.I 22 3), .int (-1)]) (st := []) cv_X1_94 ⟨_, _, rfl⟩ (by decide) rfl rfl (Nat.le_refl _) (Nat.le_of_ble_eq_true rfl) (by decide) dX1_readTwo_34 rfl hF (fun r4 h3 hF => ?_)
  exact q_zret rfl hF.1 (by decide) (by decide) dX1_readTwo_37 hF.2
def m_X1_readClosing : qm := (RX1, cX1_readClosing, 2, (some .boolean), [], false)
set_option maxRecDepth 100000 in
set_option maxHeartbeats 4000000 in
theorem x_X1_readClosing (G : qG) (d : Nat)  (h : qh) (Q : qr → qh → Prop)  (hF : q_M0 G d yX1_lastWaiting [.ref 27] h (q_ri (fun r2 h1 => q_M0 G d yX4_pass [.ref 22, .int (if (if r2 = 91 then (1 : Int32) else 0) = 0 then (41 : Int32) else 93)] h1 (q_ri (fun r6 h5 => (¬ r6 = 0 → (q_M0 G d yX4_leave [.ref 22] h5 (q_rv (fun h7 => ((if r2 = 91 then (1 : Int32) else 0) = 0 → (Q (.inl (some (.int 1))) (h7.sI 27 6 ((h7.I 27 6) - 1)))) ∧ (¬ (if r2 = 91 then (1 : Int32) else 0) = 0 → ((((h7.I 27 6) - 1) < 0 → (Q (.inl (some (.int 1))) (h7.sI 27 6 ((h7.I 27 6) - 1)))) ∧ (¬ ((h7.I 27 6) - 1) < 0 → ((186 ≤ ((h7.I 27 6) - 1) → (Q (.inl (some (.int 1))) (h7.sI 27 6 ((h7.I 27 6) - 1)))) ∧ (¬ 186 ≤ ((h7.I 27 6) - 1) → (q_M0 G d yX1_pop [.ref 27] (h7.sI 27 6 ((h7.I 27 6) - 1)) (q_ri (fun r9 h8 => vp_in (h8.I 27 6) 186 ∧ (q_M0 G d yX1_layOperand [.ref 27, .int 3, .int r9, .int (h8.I 29 ((h8.I 27 6).toNatClampNeg))] h8 (q_rv (fun h11 => Q (.inl (some (.int 1))) h11) (fun E h => Q (.inr E) h)))) (fun E h => Q (.inr E) h))))))))) (fun E h => Q (.inr E) h)))) ∧ (r6 = 0 → (Q (.inl (some (.int 0))) h5))) (fun E h => Q (.inr E) h))) (fun E h => Q (.inr E) h))) : q_M0 G (d + 1) yX1_readClosing [.ref 27] h Q := by
  refine q_of (M := m_X1_readClosing) (by decide +kernel) rfl rfl cd_X1_readClosing (by decide) (Nat.le_of_ble_eq_true rfl) ?_
  show q_N0 G m_X1_readClosing (d + 1) Q 0 [.ref 27, .null] [] h
  refine q_aload_n (i := 0) dX1_readClosing_0 rfl rfl ?_
  refine q_callVi (ci := 2) (o := 27) (As := []) (st := []) cv_X1_128 ⟨_, _, rfl⟩ (by decide) rfl rfl (Nat.le_refl _) (Nat.le_of_ble_eq_true rfl) (by decide) dX1_readClosing_1 rfl hF (fun r2 h1 hF => ?_)
  refine q_bipush (v := 91) dX1_readClosing_4 (by decide) ?_
  have K3 := q_ite (c := r2 = 91) (X := fun v => q_N0 G m_X1_readClosing (d + 1) Q 14 [.ref 27, .null] (.int v :: []) h1) (a := 1) (b := 0) (by
    refine q_istore_n (i := 1) dX1_readClosing_14 rfl (by decide) rfl ?_
    refine q_aload_n (i := 0) dX1_readClosing_15 rfl rfl ?_
    refine q_getP 2 0 22 fl_X1_21 (by decide) rfl rfl rfl dX1_readClosing_16 ?_
    refine q_iload_n (i := 1) dX1_readClosing_19 rfl rfl ?_
    have K4 := q_ite (c := (if r2 = 91 then (1 : Int32) else 0) = 0) (X := fun v => q_N0 G m_X1_readClosing (d + 1) Q 30 [.ref 27, .int (if r2 = 91 then (1 : Int32) else 0)] (.int v :: [.ref 22]) h1) (a := 41) (b := 93) (by
      refine q_callVi (ci := 5) (o := 22) (As := [.int (if (if r2 = 91 then (1 : Int32) else 0) = 0 then (41 : Int32) else 93)]) (st := []) cv_X1_131 ⟨_, _, rfl⟩ (by decide) rfl rfl (Nat.le_refl _) (Nat.le_of_ble_eq_true rfl) (by decide) dX1_readClosing_30 rfl hF (fun r6 h5 hF => ?_)
      refine q_if_ne (tgt := 38) dX1_readClosing_33 (by decide) (fun hb => ?_) (fun hb => ?_)
      · have hF := hF.1 hb
        refine q_aload_n (i := 0) dX1_readClosing_38 rfl rfl ?_
        refine q_getP 2 0 22 fl_X1_21 (by decide) rfl rfl rfl dX1_readClosing_39 ?_
        refine q_callVv (ci := 5) (o := 22) (As := []) (st := []) cv_X1_134 ⟨_, _, rfl⟩ (by decide) rfl rfl (Nat.le_refl _) (Nat.le_of_ble_eq_true rfl) (by decide) dX1_readClosing_42 rfl hF (fun h7 hF => ?_)
        refine q_aload_n (i := 0) dX1_readClosing_45 rfl rfl ?_
        refine q_dup dX1_readClosing_46 rfl ?_
        refine q_getIv (v := h7.I 27 6) 2 6 fl_X1_37 (by decide) rfl rfl (rfl) dX1_readClosing_47 ?_
        refine q_iconst (v := 1) dX1_readClosing_50 (by decide) ?_
        refine q_isub dX1_readClosing_51 ?_
        refine q_putI 2 6 fp_X1_37 (Or.inr ⟨_, _, _, rfl, rfl⟩) (by decide) rfl rfl dX1_readClosing_52 ?_
        refine q_iload_n (i := 1) dX1_readClosing_55 rfl rfl ?_
        refine q_if_eq (tgt := 94) dX1_readClosing_56 (by decide) (fun hb => ?_) (fun hb => ?_)
        · have hF := hF.1 hb
          refine q_iconst (v := 1) dX1_readClosing_94 (by decide) ?_
          exact q_zret rfl (by decide) (by decide) (by decide) dX1_readClosing_95 hF
        · have hF := hF.2 hb
          refine q_aload_n (i := 0) dX1_readClosing_59 rfl rfl ?_
          refine q_getIv (v := (h7.I 27 6) - 1) 2 6 fl_X1_37 (by decide) rfl rfl (q_I_same _ _ _ _) dX1_readClosing_60 ?_
          refine q_if_lt (tgt := 94) dX1_readClosing_63 (by decide) (fun hb => ?_) (fun hb => ?_)
          · have hF := hF.1 hb
            refine q_iconst (v := 1) dX1_readClosing_94 (by decide) ?_
            exact q_zret rfl (by decide) (by decide) (by decide) dX1_readClosing_95 hF
          · have hF := hF.2 hb
            refine q_aload_n (i := 0) dX1_readClosing_66 rfl rfl ?_
            refine q_getIv (v := (h7.I 27 6) - 1) 2 6 fl_X1_37 (by decide) rfl rfl (q_I_same _ _ _ _) dX1_readClosing_67 ?_
            refine q_sipush (v := 186) dX1_readClosing_70 (by decide) ?_
            refine q_icmp_ge (tgt := 94) dX1_readClosing_73 (by decide) (fun hb => ?_) (fun hb => ?_)
            · have hF := hF.1 hb
              refine q_iconst (v := 1) dX1_readClosing_94 (by decide) ?_
              exact q_zret rfl (by decide) (by decide) (by decide) dX1_readClosing_95 hF
            · have hF := hF.2 hb
              refine q_aload_n (i := 0) dX1_readClosing_76 rfl rfl ?_
              refine q_iconst (v := 3) dX1_readClosing_77 (by decide) ?_
              refine q_aload_n (i := 0) dX1_readClosing_78 rfl rfl ?_
              refine q_callVi (ci := 2) (o := 27) (As := []) (st := [.int 3, .ref 27]) cv_X1_79 ⟨_, _, rfl⟩ (by decide) rfl rfl (Nat.le_refl _) (Nat.le_of_ble_eq_true rfl) (by decide) dX1_readClosing_79 rfl hF (fun r9 h8 hF => ?_)
              refine q_aload_n (i := 0) dX1_readClosing_82 rfl rfl ?_
              refine q_getP 2 3 29 fl_X1_15 (by decide) rfl rfl rfl dX1_readClosing_83 ?_
              refine q_aload_n (i := 0) dX1_readClosing_86 rfl rfl ?_
              refine q_getIv (v := h8.I 27 6) 2 6 fl_X1_37 (by decide) rfl rfl (rfl) dX1_readClosing_87 ?_
              obtain ⟨hi10, hF⟩ := hF
              refine q_ialoadv (v := h8.I 29 ((h8.I 27 6).toNatClampNeg)) (n := 186) (by decide) rfl hi10 (rfl) dX1_readClosing_90 ?_
              refine q_callVv (ci := 2) (o := 27) (As := [.int 3, .int r9, .int (h8.I 29 ((h8.I 27 6).toNatClampNeg))]) (st := []) cv_X1_104 ⟨_, _, rfl⟩ (by decide) rfl rfl (Nat.le_refl _) (Nat.le_of_ble_eq_true rfl) (by decide) dX1_readClosing_91 rfl hF (fun h11 hF => ?_)
              refine q_iconst (v := 1) dX1_readClosing_94 (by decide) ?_
              exact q_zret rfl (by decide) (by decide) (by decide) dX1_readClosing_95 hF
      · have hF := hF.2 hb
        refine q_iconst (v := 0) dX1_readClosing_36 (by decide) ?_
        exact q_zret rfl (by decide) (by decide) (by decide) dX1_readClosing_37 hF)
    refine q_if_eq (tgt := 28) dX1_readClosing_20 (by decide) (fun hb => ?_) (fun hb => ?_)
    · refine q_bipush (v := 41) dX1_readClosing_28 (by decide) ?_
      exact K4.1 hb
    · refine q_bipush (v := 93) dX1_readClosing_23 (by decide) ?_
      refine q_goto (tgt := 30) dX1_readClosing_25 (by decide) ?_
      exact K4.2 hb)
  refine q_icmp_ne (tgt := 13) dX1_readClosing_6 (by decide) (fun hb => ?_) (fun hb => ?_)
  · refine q_iconst (v := 0) dX1_readClosing_13 (by decide) ?_
    exact K3.2 hb
  · refine q_iconst (v := 1) dX1_readClosing_9 (by decide) ?_
    refine q_goto (tgt := 14) dX1_readClosing_10 (by decide) ?_
    exact K3.1 hb
def m_X1_layOperand : qm := (RX1, cX1_layOperand, 4, none, [], false)
set_option maxRecDepth 100000 in
set_option maxHeartbeats 4000000 in
theorem x_X1_layOperand (G : qG) (d : Nat) (x1 : Int32) (x2 : Int32) (x3 : Int32) (h : qh) (Q : qr → qh → Prop)  (hF : ∃ c1, h.R 27 5 = some c1 ∧ q_cir c1 ∧ (q_M0 G d yX0_lay [.ref c1, .int x1, .int x2, .int (-1), .int x3] h (q_ri (fun r3 h2 => q_M0 G d yX1_push [.ref 27, .int r3] h2 (q_rv (fun h4 => Q (.inl none) (h4.sI 27 9 0)) (fun E h => Q (.inr E) h))) (fun E h => Q (.inr E) h)))) : q_M0 G (d + 1) yX1_layOperand [.ref 27, .int x1, .int x2, .int x3] h Q := by
  refine q_of (M := m_X1_layOperand) (by decide +kernel) rfl rfl cd_X1_layOperand (by decide) (Nat.le_of_ble_eq_true rfl) ?_
  show q_N0 G m_X1_layOperand (d + 1) Q 0 [.ref 27, .int x1, .int x2, .int x3] [] h
  refine q_aload_n (i := 0) dX1_layOperand_0 rfl rfl ?_
  refine q_aload_n (i := 0) dX1_layOperand_1 rfl rfl ?_
  obtain ⟨c1, hrc1, hc1, hF⟩ := hF
  refine q_getR (k := c1) 2 5 fl_X1_29 (by decide) rfl rfl hrc1 dX1_layOperand_2 ?_
  refine q_iload_n (i := 1) dX1_layOperand_5 rfl rfl ?_
  refine q_iload_n (i := 2) dX1_layOperand_6 rfl rfl ?_
  refine q_iconst (v := (-1)) dX1_layOperand_7 (by decide) ?_
  refine q_iload_n (i := 3) dX1_layOperand_8 rfl rfl ?_
  refine q_callVi (ci := 1) (o := c1) (As := [.int x1, .int x2, .int (-1), .int x3]) (st := [.ref 27]) cv_X1_137 ⟨_, _, rfl⟩ (q_cir_n hc1 0) (q_cir_K hc1) rfl (Nat.le_refl _) (Nat.le_of_ble_eq_true rfl) (by decide) dX1_layOperand_9 rfl hF (fun r3 h2 hF => ?_)
  refine q_callVv (ci := 2) (o := 27) (As := [.int r3]) (st := []) cv_X1_143 ⟨_, _, rfl⟩ (by decide) rfl rfl (Nat.le_refl _) (Nat.le_of_ble_eq_true rfl) (by decide) dX1_layOperand_12 rfl hF (fun h4 hF => ?_)
  refine q_aload_n (i := 0) dX1_layOperand_15 rfl rfl ?_
  refine q_iconst (v := 0) dX1_layOperand_16 (by decide) ?_
  refine q_putZ 2 9 fp_X1_43 (Or.inr ⟨_, _, _, rfl, rfl⟩) (by decide) rfl rfl (by decide) dX1_layOperand_17 ?_
  exact q_vret rfl (by decide) (by decide) dX1_layOperand_20 hF
def m_X1_layOnes : qm := (RX1, cX1_layOnes, 1, none, [], false)
set_option maxRecDepth 100000 in
set_option maxHeartbeats 4000000 in
theorem x_X1_layOnes (G : qG) (d : Nat)  (h : qh) (Q : qr → qh → Prop)  (hF : q_N0 G m_X1_layOnes (d + 1) Q 0 [.ref 27] [] h) : q_M0 G (d + 1) yX1_layOnes [.ref 27] h Q := by
  refine q_of (M := m_X1_layOnes) (by decide +kernel) rfl rfl cd_X1_layOnes (by decide) (Nat.le_of_ble_eq_true rfl) ?_
  show q_N0 G m_X1_layOnes (d + 1) Q 0 [.ref 27] [] h
  exact hF
set_option maxRecDepth 100000 in
set_option maxHeartbeats 4000000 in
theorem x_X1_layOnes_0 (G : qG) (d : Nat)  (h : qh) (Q : qr → qh → Prop)  (hF : ((h.I 27 6) ≤ 0 → (Q (.inl none) h)) ∧ (¬ (h.I 27 6) ≤ 0 → (q_M0 G d yX1_lastWaiting [.ref 27] h (q_ri (fun r2 h1 => (0 ≤ r2 → (Q (.inl none) h1)) ∧ (¬ 0 ≤ r2 → (∃ c3, h1.R 27 5 = some c3 ∧ q_cir c3 ∧ (q_M0 G d yX1_lastWaiting [.ref 27] h1 (q_ri (fun r5 h4 => q_M0 G d yX1_pop [.ref 27] h4 (q_ri (fun r7 h6 => q_M0 G d yX0_lay [.ref c3, .int r5, .int r7, .int (-1), .int (-1)] h6 (q_ri (fun r9 h8 => q_M0 G d yX1_push [.ref 27, .int r9] h8 (q_rv (fun h10 => q_M0 G d yX4_leave [.ref 22] (h10.sI 27 6 ((h10.I 27 6) - 1)) (q_rv (fun h11 => q_N0 G m_X1_layOnes (d + 1) Q 0 [.ref 27] [] h11) (fun E h => Q (.inr E) h))) (fun E h => Q (.inr E) h))) (fun E h => Q (.inr E) h))) (fun E h => Q (.inr E) h))) (fun E h => Q (.inr E) h)))))) (fun E h => Q (.inr E) h))))) : q_N0 G m_X1_layOnes (d + 1) Q 0 [.ref 27] [] h := by
  refine q_aload_n (i := 0) dX1_layOnes_0 rfl rfl ?_
  refine q_getIv (v := h.I 27 6) 2 6 fl_X1_37 (by decide) rfl rfl (rfl) dX1_layOnes_1 ?_
  refine q_if_le (tgt := 55) dX1_layOnes_4 (by decide) (fun hb => ?_) (fun hb => ?_)
  · have hF := hF.1 hb
    exact q_vret rfl (by decide) (by decide) dX1_layOnes_55 hF
  · have hF := hF.2 hb
    refine q_aload_n (i := 0) dX1_layOnes_7 rfl rfl ?_
    refine q_callVi (ci := 2) (o := 27) (As := []) (st := []) cv_X1_128 ⟨_, _, rfl⟩ (by decide) rfl rfl (Nat.le_refl _) (Nat.le_of_ble_eq_true rfl) (by decide) dX1_layOnes_8 rfl hF (fun r2 h1 hF => ?_)
    refine q_if_ge (tgt := 55) dX1_layOnes_11 (by decide) (fun hb => ?_) (fun hb => ?_)
    · have hF := hF.1 hb
      exact q_vret rfl (by decide) (by decide) dX1_layOnes_55 hF
    · have hF := hF.2 hb
      refine q_aload_n (i := 0) dX1_layOnes_14 rfl rfl ?_
      refine q_aload_n (i := 0) dX1_layOnes_15 rfl rfl ?_
      obtain ⟨c3, hrc3, hc3, hF⟩ := hF
      refine q_getR (k := c3) 2 5 fl_X1_29 (by decide) rfl rfl hrc3 dX1_layOnes_16 ?_
      refine q_aload_n (i := 0) dX1_layOnes_19 rfl rfl ?_
      refine q_callVi (ci := 2) (o := 27) (As := []) (st := [.ref c3, .ref 27]) cv_X1_128 ⟨_, _, rfl⟩ (by decide) rfl rfl (Nat.le_refl _) (Nat.le_of_ble_eq_true rfl) (by decide) dX1_layOnes_20 rfl hF (fun r5 h4 hF => ?_)
      refine q_aload_n (i := 0) dX1_layOnes_23 rfl rfl ?_
      refine q_callVi (ci := 2) (o := 27) (As := []) (st := [.int r5, .ref c3, .ref 27]) cv_X1_79 ⟨_, _, rfl⟩ (by decide) rfl rfl (Nat.le_refl _) (Nat.le_of_ble_eq_true rfl) (by decide) dX1_layOnes_24 rfl hF (fun r7 h6 hF => ?_)
      refine q_iconst (v := (-1)) dX1_layOnes_27 (by decide) ?_
      refine q_iconst (v := (-1)) dX1_layOnes_28 (by decide) ?_
      refine q_callVi (ci := 1) (o := c3) (As := [.int r5, .int r7, .int (-1), .int (-1)]) (st := [.ref 27]) cv_X1_137 ⟨_, _, rfl⟩ (q_cir_n hc3 0) (q_cir_K hc3) rfl (Nat.le_refl _) (Nat.le_of_ble_eq_true rfl) (by decide) dX1_layOnes_29 rfl hF (fun r9 h8 hF => ?_)
      refine q_callVv (ci := 2) (o := 27) (As := [.int r9]) (st := []) cv_X1_143 ⟨_, _, rfl⟩ (by decide) rfl rfl (Nat.le_refl _) (Nat.le_of_ble_eq_true rfl) (by decide) dX1_layOnes_32 rfl hF (fun h10 hF => ?_)
      refine q_aload_n (i := 0) dX1_layOnes_35 rfl rfl ?_
      refine q_dup dX1_layOnes_36 rfl ?_
      refine q_getIv (v := h10.I 27 6) 2 6 fl_X1_37 (by decide) rfl rfl (rfl) dX1_layOnes_37 ?_
      refine q_iconst (v := 1) dX1_layOnes_40 (by decide) ?_
      refine q_isub dX1_layOnes_41 ?_
      refine q_putI 2 6 fp_X1_37 (Or.inr ⟨_, _, _, rfl, rfl⟩) (by decide) rfl rfl dX1_layOnes_42 ?_
      refine q_aload_n (i := 0) dX1_layOnes_45 rfl rfl ?_
      refine q_getP 2 0 22 fl_X1_21 (by decide) rfl rfl rfl dX1_layOnes_46 ?_
      refine q_callVv (ci := 5) (o := 22) (As := []) (st := []) cv_X1_134 ⟨_, _, rfl⟩ (by decide) rfl rfl (Nat.le_refl _) (Nat.le_of_ble_eq_true rfl) (by decide) dX1_layOnes_49 rfl hF (fun h11 hF => ?_)
      refine q_goto (tgt := 0) dX1_layOnes_52 (by decide) ?_
      exact hF
def m_X1_layTwos : qm := (RX1, cX1_layTwos, 4, none, [], false)
set_option maxRecDepth 100000 in
set_option maxHeartbeats 4000000 in
theorem x_X1_layTwos (G : qG) (d : Nat) (x1 : Int32) (h : qh) (Q : qr → qh → Prop)  (hF : q_N0 G m_X1_layTwos (d + 1) Q 0 [.ref 27, .int x1, .null, .null] [] h) : q_M0 G (d + 1) yX1_layTwos [.ref 27, .int x1] h Q := by
  refine q_of (M := m_X1_layTwos) (by decide +kernel) rfl rfl cd_X1_layTwos (by decide) (Nat.le_of_ble_eq_true rfl) ?_
  show q_N0 G m_X1_layTwos (d + 1) Q 0 [.ref 27, .int x1, .null, .null] [] h
  exact hF
set_option maxRecDepth 100000 in
set_option maxHeartbeats 4000000 in
theorem x_X1_layTwos_0 (G : qG) (d : Nat) (l1 : Int32) (h : qh) (Q : qr → qh → Prop)  (hF : ((h.I 27 6) ≤ 0 → (Q (.inl none) h)) ∧ (¬ (h.I 27 6) ≤ 0 → (q_M0 G d yX1_lastWaiting [.ref 27] h (q_ri (fun r2 h1 => q_M0 G d yX1_levelOf [.int r2] h1 (q_ri (fun r4 h3 => (r4 < l1 → (Q (.inl none) h3)) ∧ (¬ r4 < l1 → (q_M0 G d yX1_pop [.ref 27] h3 (q_ri (fun r6 h5 => q_M0 G d yX1_pop [.ref 27] h5 (q_ri (fun r8 h7 => ∃ c9, h7.R 27 5 = some c9 ∧ q_cir c9 ∧ (q_M0 G d yX1_lastWaiting [.ref 27] h7 (q_ri (fun r11 h10 => q_M0 G d yX0_lay [.ref c9, .int r11, .int r8, .int r6, .int (-1)] h10 (q_ri (fun r13 h12 => q_M0 G d yX1_push [.ref 27, .int r13] h12 (q_rv (fun h14 => q_N0 G m_X1_layTwos (d + 1) Q 0 [.ref 27, .int l1, .null, .null] [] (h14.sI 27 6 ((h14.I 27 6) - 1))) (fun E h => Q (.inr E) h))) (fun E h => Q (.inr E) h))) (fun E h => Q (.inr E) h)))) (fun E h => Q (.inr E) h))) (fun E h => Q (.inr E) h))))) (fun E h => Q (.inr E) h))) (fun E h => Q (.inr E) h))))) : q_N0 G m_X1_layTwos (d + 1) Q 0 [.ref 27, .int l1, .null, .null] [] h := by
  refine q_aload_n (i := 0) dX1_layTwos_0 rfl rfl ?_
  refine q_getIv (v := h.I 27 6) 2 6 fl_X1_37 (by decide) rfl rfl (rfl) dX1_layTwos_1 ?_
  refine q_if_le (tgt := 59) dX1_layTwos_4 (by decide) (fun hb => ?_) (fun hb => ?_)
  · have hF := hF.1 hb
    exact q_vret rfl (by decide) (by decide) dX1_layTwos_59 hF
  · have hF := hF.2 hb
    refine q_aload_n (i := 0) dX1_layTwos_7 rfl rfl ?_
    refine q_callVi (ci := 2) (o := 27) (As := []) (st := []) cv_X1_128 ⟨_, _, rfl⟩ (by decide) rfl rfl (Nat.le_refl _) (Nat.le_of_ble_eq_true rfl) (by decide) dX1_layTwos_8 rfl hF (fun r2 h1 hF => ?_)
    refine q_callSi (As := [.int r2]) (st := []) cs_X1_59 rfl (Nat.le_refl _) (Nat.le_of_ble_eq_true rfl) (by decide) dX1_layTwos_11 rfl hF (fun r4 h3 hF => ?_)
    refine q_iload_n (i := 1) dX1_layTwos_14 rfl rfl ?_
    refine q_icmp_lt (tgt := 59) dX1_layTwos_15 (by decide) (fun hb => ?_) (fun hb => ?_)
    · have hF := hF.1 hb
      exact q_vret rfl (by decide) (by decide) dX1_layTwos_59 hF
    · have hF := hF.2 hb
      refine q_aload_n (i := 0) dX1_layTwos_18 rfl rfl ?_
      refine q_callVi (ci := 2) (o := 27) (As := []) (st := []) cv_X1_79 ⟨_, _, rfl⟩ (by decide) rfl rfl (Nat.le_refl _) (Nat.le_of_ble_eq_true rfl) (by decide) dX1_layTwos_19 rfl hF (fun r6 h5 hF => ?_)
      refine q_istore_n (i := 2) dX1_layTwos_22 rfl (by decide) rfl ?_
      refine q_aload_n (i := 0) dX1_layTwos_23 rfl rfl ?_
      refine q_callVi (ci := 2) (o := 27) (As := []) (st := []) cv_X1_79 ⟨_, _, rfl⟩ (by decide) rfl rfl (Nat.le_refl _) (Nat.le_of_ble_eq_true rfl) (by decide) dX1_layTwos_24 rfl hF (fun r8 h7 hF => ?_)
      refine q_istore_n (i := 3) dX1_layTwos_27 rfl (by decide) rfl ?_
      refine q_aload_n (i := 0) dX1_layTwos_28 rfl rfl ?_
      refine q_aload_n (i := 0) dX1_layTwos_29 rfl rfl ?_
      obtain ⟨c9, hrc9, hc9, hF⟩ := hF
      refine q_getR (k := c9) 2 5 fl_X1_29 (by decide) rfl rfl hrc9 dX1_layTwos_30 ?_
      refine q_aload_n (i := 0) dX1_layTwos_33 rfl rfl ?_
      refine q_callVi (ci := 2) (o := 27) (As := []) (st := [.ref c9, .ref 27]) cv_X1_128 ⟨_, _, rfl⟩ (by decide) rfl rfl (Nat.le_refl _) (Nat.le_of_ble_eq_true rfl) (by decide) dX1_layTwos_34 rfl hF (fun r11 h10 hF => ?_)
      refine q_iload_n (i := 3) dX1_layTwos_37 rfl rfl ?_
      refine q_iload_n (i := 2) dX1_layTwos_38 rfl rfl ?_
      refine q_iconst (v := (-1)) dX1_layTwos_39 (by decide) ?_
      refine q_callVi (ci := 1) (o := c9) (As := [.int r11, .int r8, .int r6, .int (-1)]) (st := [.ref 27]) cv_X1_137 ⟨_, _, rfl⟩ (q_cir_n hc9 0) (q_cir_K hc9) rfl (Nat.le_refl _) (Nat.le_of_ble_eq_true rfl) (by decide) dX1_layTwos_40 rfl hF (fun r13 h12 hF => ?_)
      refine q_callVv (ci := 2) (o := 27) (As := [.int r13]) (st := []) cv_X1_143 ⟨_, _, rfl⟩ (by decide) rfl rfl (Nat.le_refl _) (Nat.le_of_ble_eq_true rfl) (by decide) dX1_layTwos_43 rfl hF (fun h14 hF => ?_)
      refine q_aload_n (i := 0) dX1_layTwos_46 rfl rfl ?_
      refine q_dup dX1_layTwos_47 rfl ?_
      refine q_getIv (v := h14.I 27 6) 2 6 fl_X1_37 (by decide) rfl rfl (rfl) dX1_layTwos_48 ?_
      refine q_iconst (v := 1) dX1_layTwos_51 (by decide) ?_
      refine q_isub dX1_layTwos_52 ?_
      refine q_putI 2 6 fp_X1_37 (Or.inr ⟨_, _, _, rfl, rfl⟩) (by decide) rfl rfl dX1_layTwos_53 ?_
      refine q_goto (tgt := 0) dX1_layTwos_56 (by decide) ?_
      show q_N0 G m_X1_layTwos (d + 1) Q 0 [.ref 27, .int l1, .int r6, .int r8] [] (h14.sI 27 6 ((h14.I 27 6) - 1))
      exact q_fgt (l' := [.ref 27, .int l1, .null, .null]) (And.intro (Or.inr rfl) ( And.intro (Or.inr rfl) ( And.intro (Or.inl rfl) ( And.intro (Or.inl rfl) (trivial))))) hF
def m_X1_countWorked : qm := (RX1, cX1_countWorked, 2, none, [], false)
set_option maxRecDepth 100000 in
set_option maxHeartbeats 4000000 in
theorem x_X1_countWorked (G : qG) (d : Nat) (x1 : Int32) (h : qh) (Q : qr → qh → Prop)  (hF : q_M0 G d yX4_blame [.ref 22, .int (if ((h.I 27 8) + 1) ≤ 400 then (0 : Int32) else 6), .int x1] (h.sI 27 8 ((h.I 27 8) + 1)) (q_rv (fun h2 => Q (.inl none) h2) (fun E h => Q (.inr E) h))) : q_M0 G (d + 1) yX1_countWorked [.ref 27, .int x1] h Q := by
  refine q_of (M := m_X1_countWorked) (by decide +kernel) rfl rfl cd_X1_countWorked (by decide) (Nat.le_of_ble_eq_true rfl) ?_
  show q_N0 G m_X1_countWorked (d + 1) Q 0 [.ref 27, .int x1] [] h
  refine q_aload_n (i := 0) dX1_countWorked_0 rfl rfl ?_
  refine q_dup dX1_countWorked_1 rfl ?_
  refine q_getIv (v := h.I 27 8) 2 8 fl_X1_33 (by decide) rfl rfl (rfl) dX1_countWorked_2 ?_
  refine q_iconst (v := 1) dX1_countWorked_5 (by decide) ?_
  refine q_iadd dX1_countWorked_6 ?_
  refine q_putI 2 8 fp_X1_33 (Or.inr ⟨_, _, _, rfl, rfl⟩) (by decide) rfl rfl dX1_countWorked_7 ?_
  refine q_aload_n (i := 0) dX1_countWorked_10 rfl rfl ?_
  refine q_getP 2 0 22 fl_X1_21 (by decide) rfl rfl rfl dX1_countWorked_11 ?_
  refine q_aload_n (i := 0) dX1_countWorked_14 rfl rfl ?_
  refine q_getIv (v := (h.I 27 8) + 1) 2 8 fl_X1_33 (by decide) rfl rfl (q_I_same _ _ _ _) dX1_countWorked_15 ?_
  refine q_sipush (v := 400) dX1_countWorked_18 (by decide) ?_
  have K1 := q_ite (c := ((h.I 27 8) + 1) ≤ 400) (X := fun v => q_N0 G m_X1_countWorked (d + 1) Q 30 [.ref 27, .int x1] (.int v :: [.ref 22]) (h.sI 27 8 ((h.I 27 8) + 1))) (a := 0) (b := 6) (by
    refine q_iload_n (i := 1) dX1_countWorked_30 rfl rfl ?_
    refine q_callVv (ci := 5) (o := 22) (As := [.int (if ((h.I 27 8) + 1) ≤ 400 then (0 : Int32) else 6), .int x1]) (st := []) cv_X1_118 ⟨_, _, rfl⟩ (by decide) rfl rfl (Nat.le_refl _) (Nat.le_of_ble_eq_true rfl) (by decide) dX1_countWorked_31 rfl hF (fun h2 hF => ?_)
    exact q_vret rfl (by decide) (by decide) dX1_countWorked_34 hF)
  refine q_icmp_le (tgt := 29) dX1_countWorked_21 (by decide) (fun hb => ?_) (fun hb => ?_)
  · refine q_iconst (v := 0) dX1_countWorked_29 (by decide) ?_
    exact K1.1 hb
  · refine q_bipush (v := 6) dX1_countWorked_24 (by decide) ?_
    refine q_goto (tgt := 30) dX1_countWorked_26 (by decide) ?_
    exact K1.2 hb
def m_X1_await : qm := (RX1, cX1_await, 3, (some .boolean), [], false)
set_option maxRecDepth 100000 in
set_option maxHeartbeats 4000000 in
theorem x_X1_await (G : qG) (d : Nat) (x1 : Int32) (x2 : Int32) (h : qh) (Q : qr → qh → Prop)  (hF : ((h.I 27 6) < 0 → (q_M0 G d yX4_refuse [.ref 22] h (q_ri (fun r2 h1 => (r2 = 0 ∨ r2 = 1) ∧ Q (.inl (some (.int r2))) h1) (fun E h => Q (.inr E) h)))) ∧ (¬ (h.I 27 6) < 0 → (((h.I 27 6) < 186 → (vp_in (h.I 27 6) 186 ∧ (vp_in (h.I 27 6) 186 ∧ (Q (.inl (some (.int 1))) (((h.sI 28 ((h.I 27 6).toNatClampNeg) x1).sI 29 ((h.I 27 6).toNatClampNeg) x2).sI 27 6 ((h.I 27 6) + 1)))))) ∧ (¬ (h.I 27 6) < 186 → (q_M0 G d yX4_refuse [.ref 22] h (q_ri (fun r6 h5 => (r6 = 0 ∨ r6 = 1) ∧ Q (.inl (some (.int r6))) h5) (fun E h => Q (.inr E) h))))))) : q_M0 G (d + 1) yX1_await [.ref 27, .int x1, .int x2] h Q := by
  refine q_of (M := m_X1_await) (by decide +kernel) rfl rfl cd_X1_await (by decide) (Nat.le_of_ble_eq_true rfl) ?_
  show q_N0 G m_X1_await (d + 1) Q 0 [.ref 27, .int x1, .int x2] [] h
  refine q_aload_n (i := 0) dX1_await_0 rfl rfl ?_
  refine q_getIv (v := h.I 27 6) 2 6 fl_X1_37 (by decide) rfl rfl (rfl) dX1_await_1 ?_
  refine q_if_lt (tgt := 17) dX1_await_4 (by decide) (fun hb => ?_) (fun hb => ?_)
  · have hF := hF.1 hb
    refine q_aload_n (i := 0) dX1_await_17 rfl rfl ?_
    refine q_getP 2 0 22 fl_X1_21 (by decide) rfl rfl rfl dX1_await_18 ?_
    refine q_callVi (ci := 5) (o := 22) (As := []) (st := []) cv_X1_125 ⟨_, _, rfl⟩ (by decide) rfl rfl (Nat.le_refl _) (Nat.le_of_ble_eq_true rfl) (by decide) dX1_await_21 rfl hF (fun r2 h1 hF => ?_)
    exact q_zret rfl hF.1 (by decide) (by decide) dX1_await_24 hF.2
  · have hF := hF.2 hb
    refine q_aload_n (i := 0) dX1_await_7 rfl rfl ?_
    refine q_getIv (v := h.I 27 6) 2 6 fl_X1_37 (by decide) rfl rfl (rfl) dX1_await_8 ?_
    refine q_sipush (v := 186) dX1_await_11 (by decide) ?_
    refine q_icmp_lt (tgt := 25) dX1_await_14 (by decide) (fun hb => ?_) (fun hb => ?_)
    · have hF := hF.1 hb
      refine q_aload_n (i := 0) dX1_await_25 rfl rfl ?_
      refine q_getP 2 2 28 fl_X1_9 (by decide) rfl rfl rfl dX1_await_26 ?_
      refine q_aload_n (i := 0) dX1_await_29 rfl rfl ?_
      refine q_getIv (v := h.I 27 6) 2 6 fl_X1_37 (by decide) rfl rfl (rfl) dX1_await_30 ?_
      refine q_iload_n (i := 1) dX1_await_33 rfl rfl ?_
      obtain ⟨hi3, hF⟩ := hF
      refine q_iastore (n := 186) (by decide) rfl hi3 dX1_await_34 ?_
      refine q_aload_n (i := 0) dX1_await_35 rfl rfl ?_
      refine q_getP 2 3 29 fl_X1_15 (by decide) rfl rfl rfl dX1_await_36 ?_
      refine q_aload_n (i := 0) dX1_await_39 rfl rfl ?_
      refine q_getIv (v := h.I 27 6) 2 6 fl_X1_37 (by decide) rfl rfl ((q_I_neo (by decide)).trans (rfl)) dX1_await_40 ?_
      refine q_iload_n (i := 2) dX1_await_43 rfl rfl ?_
      obtain ⟨hi4, hF⟩ := hF
      refine q_iastore (n := 186) (by decide) rfl hi4 dX1_await_44 ?_
      refine q_aload_n (i := 0) dX1_await_45 rfl rfl ?_
      refine q_dup dX1_await_46 rfl ?_
      refine q_getIv (v := h.I 27 6) 2 6 fl_X1_37 (by decide) rfl rfl ((q_I_neo (by decide)).trans ( (q_I_neo (by decide)).trans (rfl))) dX1_await_47 ?_
      refine q_iconst (v := 1) dX1_await_50 (by decide) ?_
      refine q_iadd dX1_await_51 ?_
      refine q_putI 2 6 fp_X1_37 (Or.inr ⟨_, _, _, rfl, rfl⟩) (by decide) rfl rfl dX1_await_52 ?_
      refine q_iconst (v := 1) dX1_await_55 (by decide) ?_
      exact q_zret rfl (by decide) (by decide) (by decide) dX1_await_56 hF
    · have hF := hF.2 hb
      refine q_aload_n (i := 0) dX1_await_17 rfl rfl ?_
      refine q_getP 2 0 22 fl_X1_21 (by decide) rfl rfl rfl dX1_await_18 ?_
      refine q_callVi (ci := 5) (o := 22) (As := []) (st := []) cv_X1_125 ⟨_, _, rfl⟩ (by decide) rfl rfl (Nat.le_refl _) (Nat.le_of_ble_eq_true rfl) (by decide) dX1_await_21 rfl hF (fun r6 h5 hF => ?_)
      exact q_zret rfl hF.1 (by decide) (by decide) dX1_await_24 hF.2
def m_X1_lastWaiting : qm := (RX1, cX1_lastWaiting, 1, (some .int), [], false)
set_option maxRecDepth 100000 in
set_option maxHeartbeats 4000000 in
theorem x_X1_lastWaiting (G : qG) (d : Nat)  (h : qh) (Q : qr → qh → Prop)  (hF : ((h.I 27 6) ≤ 0 → (Q (.inl (some (.int 0))) h)) ∧ (¬ (h.I 27 6) ≤ 0 → ((186 < (h.I 27 6) → (Q (.inl (some (.int 0))) h)) ∧ (¬ 186 < (h.I 27 6) → (vp_in ((h.I 27 6) - 1) 186 ∧ (Q (.inl (some (.int (h.I 28 (((h.I 27 6) - 1).toNatClampNeg))))) h)))))) : q_M0 G (d + 1) yX1_lastWaiting [.ref 27] h Q := by
  refine q_of (M := m_X1_lastWaiting) (by decide +kernel) rfl rfl cd_X1_lastWaiting (by decide) (Nat.le_of_ble_eq_true rfl) ?_
  show q_N0 G m_X1_lastWaiting (d + 1) Q 0 [.ref 27] [] h
  refine q_aload_n (i := 0) dX1_lastWaiting_0 rfl rfl ?_
  refine q_getIv (v := h.I 27 6) 2 6 fl_X1_37 (by decide) rfl rfl (rfl) dX1_lastWaiting_1 ?_
  refine q_if_le (tgt := 31) dX1_lastWaiting_4 (by decide) (fun hb => ?_) (fun hb => ?_)
  · have hF := hF.1 hb
    refine q_iconst (v := 0) dX1_lastWaiting_31 (by decide) ?_
    exact q_iret rfl (by decide) (by decide) dX1_lastWaiting_32 hF
  · have hF := hF.2 hb
    refine q_aload_n (i := 0) dX1_lastWaiting_7 rfl rfl ?_
    refine q_getIv (v := h.I 27 6) 2 6 fl_X1_37 (by decide) rfl rfl (rfl) dX1_lastWaiting_8 ?_
    refine q_sipush (v := 186) dX1_lastWaiting_11 (by decide) ?_
    refine q_icmp_gt (tgt := 31) dX1_lastWaiting_14 (by decide) (fun hb => ?_) (fun hb => ?_)
    · have hF := hF.1 hb
      refine q_iconst (v := 0) dX1_lastWaiting_31 (by decide) ?_
      exact q_iret rfl (by decide) (by decide) dX1_lastWaiting_32 hF
    · have hF := hF.2 hb
      refine q_aload_n (i := 0) dX1_lastWaiting_17 rfl rfl ?_
      refine q_getP 2 2 28 fl_X1_9 (by decide) rfl rfl rfl dX1_lastWaiting_18 ?_
      refine q_aload_n (i := 0) dX1_lastWaiting_21 rfl rfl ?_
      refine q_getIv (v := h.I 27 6) 2 6 fl_X1_37 (by decide) rfl rfl (rfl) dX1_lastWaiting_22 ?_
      refine q_iconst (v := 1) dX1_lastWaiting_25 (by decide) ?_
      refine q_isub dX1_lastWaiting_26 ?_
      obtain ⟨hi1, hF⟩ := hF
      refine q_ialoadv (v := h.I 28 (((h.I 27 6) - 1).toNatClampNeg)) (n := 186) (by decide) rfl hi1 (rfl) dX1_lastWaiting_27 ?_
      refine q_goto (tgt := 32) dX1_lastWaiting_28 (by decide) ?_
      exact q_iret rfl (by decide) (by decide) dX1_lastWaiting_32 hF
def m_X1_push : qm := (RX1, cX1_push, 2, none, [], false)
set_option maxRecDepth 100000 in
set_option maxHeartbeats 4000000 in
theorem x_X1_push (G : qG) (d : Nat) (x1 : Int32) (h : qh) (Q : qr → qh → Prop)  (hF : ((h.I 27 7) < 0 → (Q (.inl none) h)) ∧ (¬ (h.I 27 7) < 0 → ((186 < (h.I 27 7) → (Q (.inl none) h)) ∧ (¬ 186 < (h.I 27 7) → (vp_in (h.I 27 7) 187 ∧ (Q (.inl none) ((h.sI 30 ((h.I 27 7).toNatClampNeg) x1).sI 27 7 ((h.I 27 7) + 1)))))))) : q_M0 G (d + 1) yX1_push [.ref 27, .int x1] h Q := by
  refine q_of (M := m_X1_push) (by decide +kernel) rfl rfl cd_X1_push (by decide) (Nat.le_of_ble_eq_true rfl) ?_
  show q_N0 G m_X1_push (d + 1) Q 0 [.ref 27, .int x1] [] h
  refine q_aload_n (i := 0) dX1_push_0 rfl rfl ?_
  refine q_getIv (v := h.I 27 7) 2 7 fl_X1_40 (by decide) rfl rfl (rfl) dX1_push_1 ?_
  refine q_if_lt (tgt := 37) dX1_push_4 (by decide) (fun hb => ?_) (fun hb => ?_)
  · have hF := hF.1 hb
    exact q_vret rfl (by decide) (by decide) dX1_push_37 hF
  · have hF := hF.2 hb
    refine q_aload_n (i := 0) dX1_push_7 rfl rfl ?_
    refine q_getIv (v := h.I 27 7) 2 7 fl_X1_40 (by decide) rfl rfl (rfl) dX1_push_8 ?_
    refine q_sipush (v := 186) dX1_push_11 (by decide) ?_
    refine q_icmp_gt (tgt := 37) dX1_push_14 (by decide) (fun hb => ?_) (fun hb => ?_)
    · have hF := hF.1 hb
      exact q_vret rfl (by decide) (by decide) dX1_push_37 hF
    · have hF := hF.2 hb
      refine q_aload_n (i := 0) dX1_push_17 rfl rfl ?_
      refine q_getP 2 4 30 fl_X1_18 (by decide) rfl rfl rfl dX1_push_18 ?_
      refine q_aload_n (i := 0) dX1_push_21 rfl rfl ?_
      refine q_getIv (v := h.I 27 7) 2 7 fl_X1_40 (by decide) rfl rfl (rfl) dX1_push_22 ?_
      refine q_iload_n (i := 1) dX1_push_25 rfl rfl ?_
      obtain ⟨hi1, hF⟩ := hF
      refine q_iastore (n := 187) (by decide) rfl hi1 dX1_push_26 ?_
      refine q_aload_n (i := 0) dX1_push_27 rfl rfl ?_
      refine q_dup dX1_push_28 rfl ?_
      refine q_getIv (v := h.I 27 7) 2 7 fl_X1_40 (by decide) rfl rfl ((q_I_neo (by decide)).trans (rfl)) dX1_push_29 ?_
      refine q_iconst (v := 1) dX1_push_32 (by decide) ?_
      refine q_iadd dX1_push_33 ?_
      refine q_putI 2 7 fp_X1_40 (Or.inr ⟨_, _, _, rfl, rfl⟩) (by decide) rfl rfl dX1_push_34 ?_
      exact q_vret rfl (by decide) (by decide) dX1_push_37 hF
def m_X1_pop : qm := (RX1, cX1_pop, 1, (some .int), [], false)
set_option maxRecDepth 100000 in
set_option maxHeartbeats 4000000 in
theorem x_X1_pop (G : qG) (d : Nat)  (h : qh) (Q : qr → qh → Prop)  (hF : ((h.I 27 7) ≤ 0 → (Q (.inl (some (.int (-1)))) h)) ∧ (¬ (h.I 27 7) ≤ 0 → (((h.I 27 7) ≤ 187 → (vp_in ((h.I 27 7) - 1) 187 ∧ (Q (.inl (some (.int (h.I 30 (((h.I 27 7) - 1).toNatClampNeg))))) (h.sI 27 7 ((h.I 27 7) - 1))))) ∧ (¬ (h.I 27 7) ≤ 187 → (Q (.inl (some (.int (-1)))) h))))) : q_M0 G (d + 1) yX1_pop [.ref 27] h Q := by
  refine q_of (M := m_X1_pop) (by decide +kernel) rfl rfl cd_X1_pop (by decide) (Nat.le_of_ble_eq_true rfl) ?_
  show q_N0 G m_X1_pop (d + 1) Q 0 [.ref 27] [] h
  refine q_aload_n (i := 0) dX1_pop_0 rfl rfl ?_
  refine q_getIv (v := h.I 27 7) 2 7 fl_X1_40 (by decide) rfl rfl (rfl) dX1_pop_1 ?_
  refine q_if_le (tgt := 17) dX1_pop_4 (by decide) (fun hb => ?_) (fun hb => ?_)
  · have hF := hF.1 hb
    refine q_iconst (v := (-1)) dX1_pop_17 (by decide) ?_
    exact q_iret rfl (by decide) (by decide) dX1_pop_18 hF
  · have hF := hF.2 hb
    refine q_aload_n (i := 0) dX1_pop_7 rfl rfl ?_
    refine q_getIv (v := h.I 27 7) 2 7 fl_X1_40 (by decide) rfl rfl (rfl) dX1_pop_8 ?_
    refine q_sipush (v := 187) dX1_pop_11 (by decide) ?_
    refine q_icmp_le (tgt := 19) dX1_pop_14 (by decide) (fun hb => ?_) (fun hb => ?_)
    · have hF := hF.1 hb
      refine q_aload_n (i := 0) dX1_pop_19 rfl rfl ?_
      refine q_dup dX1_pop_20 rfl ?_
      refine q_getIv (v := h.I 27 7) 2 7 fl_X1_40 (by decide) rfl rfl (rfl) dX1_pop_21 ?_
      refine q_iconst (v := 1) dX1_pop_24 (by decide) ?_
      refine q_isub dX1_pop_25 ?_
      refine q_putI 2 7 fp_X1_40 (Or.inr ⟨_, _, _, rfl, rfl⟩) (by decide) rfl rfl dX1_pop_26 ?_
      refine q_aload_n (i := 0) dX1_pop_29 rfl rfl ?_
      refine q_getP 2 4 30 fl_X1_18 (by decide) rfl rfl rfl dX1_pop_30 ?_
      refine q_aload_n (i := 0) dX1_pop_33 rfl rfl ?_
      refine q_getIv (v := (h.I 27 7) - 1) 2 7 fl_X1_40 (by decide) rfl rfl (q_I_same _ _ _ _) dX1_pop_34 ?_
      obtain ⟨hi1, hF⟩ := hF
      refine q_ialoadv (v := h.I 30 (((h.I 27 7) - 1).toNatClampNeg)) (n := 187) (by decide) rfl hi1 ((q_I_neo (by decide)).trans (rfl)) dX1_pop_37 ?_
      exact q_iret rfl (by decide) (by decide) dX1_pop_38 hF
    · have hF := hF.2 hb
      refine q_iconst (v := (-1)) dX1_pop_17 (by decide) ?_
      exact q_iret rfl (by decide) (by decide) dX1_pop_18 hF
def m_X1_levelOf : qm := (RX1, cX1_levelOf, 1, (some .int), [], false)
set_option maxRecDepth 100000 in
set_option maxHeartbeats 4000000 in
theorem x_X1_levelOf (G : qG) (d : Nat) (x1 : Int32) (h : qh) (Q : qr → qh → Prop)  (hF : (x1 = 37 → (Q (.inl (some (.int 10))) h)) ∧ (x1 = 38 → (Q (.inl (some (.int 5))) h)) ∧ (x1 = 42 → (Q (.inl (some (.int 10))) h)) ∧ (x1 = 43 → (Q (.inl (some (.int 9))) h)) ∧ (x1 = 45 → (Q (.inl (some (.int 9))) h)) ∧ (x1 = 47 → (Q (.inl (some (.int 10))) h)) ∧ (x1 = 60 → (Q (.inl (some (.int 7))) h)) ∧ (x1 = 62 → (Q (.inl (some (.int 7))) h)) ∧ (x1 = 94 → (Q (.inl (some (.int 4))) h)) ∧ (x1 = 124 → (Q (.inl (some (.int 3))) h)) ∧ (x1 = 8509 → (Q (.inl (some (.int 6))) h)) ∧ (x1 = 9766 → (Q (.inl (some (.int 2))) h)) ∧ (x1 = 15420 → (Q (.inl (some (.int 8))) h)) ∧ (x1 = 15421 → (Q (.inl (some (.int 7))) h)) ∧ (x1 = 15677 → (Q (.inl (some (.int 6))) h)) ∧ (x1 = 15933 → (Q (.inl (some (.int 7))) h)) ∧ (x1 = 15934 → (Q (.inl (some (.int 8))) h)) ∧ (x1 = 31868 → (Q (.inl (some (.int 1))) h)) ∧ (¬ x1 = 37 ∧ ¬ x1 = 38 ∧ ¬ x1 = 42 ∧ ¬ x1 = 43 ∧ ¬ x1 = 45 ∧ ¬ x1 = 47 ∧ ¬ x1 = 60 ∧ ¬ x1 = 62 ∧ ¬ x1 = 94 ∧ ¬ x1 = 124 ∧ ¬ x1 = 8509 ∧ ¬ x1 = 9766 ∧ ¬ x1 = 15420 ∧ ¬ x1 = 15421 ∧ ¬ x1 = 15677 ∧ ¬ x1 = 15933 ∧ ¬ x1 = 15934 ∧ ¬ x1 = 31868 → (Q (.inl (some (.int 0))) h))) : q_M0 G (d + 1) yX1_levelOf [.int x1] h Q := by
  refine q_of (M := m_X1_levelOf) (by decide +kernel) rfl rfl cd_X1_levelOf (by decide) (Nat.le_of_ble_eq_true rfl) ?_
  show q_N0 G m_X1_levelOf (d + 1) Q 0 [.int x1] [] h
  refine q_iload_n (i := 0) dX1_levelOf_0 rfl rfl ?_
  refine q_by (x1 = 37) (fun hs1_0 => ?_) (fun hs1_0 => ?_)
  · have hF := hF.1 hs1_0
    refine q_lookup (tgt := 178) dX1_levelOf_1 (by decide) (by first | (rw [hs1_0]; done) | (rw [hs1_0]; rfl)) (by decide) ?_
    refine q_bipush (v := 10) dX1_levelOf_178 (by decide) ?_
    exact q_iret rfl (by decide) (by decide) dX1_levelOf_180 hF
  have hF := hF.2
  refine q_by (x1 = 38) (fun hs1_1 => ?_) (fun hs1_1 => ?_)
  · have hF := hF.1 hs1_1
    refine q_lookup (tgt := 164) dX1_levelOf_1 (by decide) (by first | (rw [hs1_1]; done) | (rw [hs1_1]; rfl)) (by decide) ?_
    refine q_iconst (v := 5) dX1_levelOf_164 (by decide) ?_
    exact q_iret rfl (by decide) (by decide) dX1_levelOf_165 hF
  have hF := hF.2
  refine q_by (x1 = 42) (fun hs1_2 => ?_) (fun hs1_2 => ?_)
  · have hF := hF.1 hs1_2
    refine q_lookup (tgt := 178) dX1_levelOf_1 (by decide) (by first | (rw [hs1_2]; done) | (rw [hs1_2]; rfl)) (by decide) ?_
    refine q_bipush (v := 10) dX1_levelOf_178 (by decide) ?_
    exact q_iret rfl (by decide) (by decide) dX1_levelOf_180 hF
  have hF := hF.2
  refine q_by (x1 = 43) (fun hs1_3 => ?_) (fun hs1_3 => ?_)
  · have hF := hF.1 hs1_3
    refine q_lookup (tgt := 175) dX1_levelOf_1 (by decide) (by first | (rw [hs1_3]; done) | (rw [hs1_3]; rfl)) (by decide) ?_
    refine q_bipush (v := 9) dX1_levelOf_175 (by decide) ?_
    exact q_iret rfl (by decide) (by decide) dX1_levelOf_177 hF
  have hF := hF.2
  refine q_by (x1 = 45) (fun hs1_4 => ?_) (fun hs1_4 => ?_)
  · have hF := hF.1 hs1_4
    refine q_lookup (tgt := 175) dX1_levelOf_1 (by decide) (by first | (rw [hs1_4]; done) | (rw [hs1_4]; rfl)) (by decide) ?_
    refine q_bipush (v := 9) dX1_levelOf_175 (by decide) ?_
    exact q_iret rfl (by decide) (by decide) dX1_levelOf_177 hF
  have hF := hF.2
  refine q_by (x1 = 47) (fun hs1_5 => ?_) (fun hs1_5 => ?_)
  · have hF := hF.1 hs1_5
    refine q_lookup (tgt := 178) dX1_levelOf_1 (by decide) (by first | (rw [hs1_5]; done) | (rw [hs1_5]; rfl)) (by decide) ?_
    refine q_bipush (v := 10) dX1_levelOf_178 (by decide) ?_
    exact q_iret rfl (by decide) (by decide) dX1_levelOf_180 hF
  have hF := hF.2
  refine q_by (x1 = 60) (fun hs1_6 => ?_) (fun hs1_6 => ?_)
  · have hF := hF.1 hs1_6
    refine q_lookup (tgt := 169) dX1_levelOf_1 (by decide) (by first | (rw [hs1_6]; done) | (rw [hs1_6]; rfl)) (by decide) ?_
    refine q_bipush (v := 7) dX1_levelOf_169 (by decide) ?_
    exact q_iret rfl (by decide) (by decide) dX1_levelOf_171 hF
  have hF := hF.2
  refine q_by (x1 = 62) (fun hs1_7 => ?_) (fun hs1_7 => ?_)
  · have hF := hF.1 hs1_7
    refine q_lookup (tgt := 169) dX1_levelOf_1 (by decide) (by first | (rw [hs1_7]; done) | (rw [hs1_7]; rfl)) (by decide) ?_
    refine q_bipush (v := 7) dX1_levelOf_169 (by decide) ?_
    exact q_iret rfl (by decide) (by decide) dX1_levelOf_171 hF
  have hF := hF.2
  refine q_by (x1 = 94) (fun hs1_8 => ?_) (fun hs1_8 => ?_)
  · have hF := hF.1 hs1_8
    refine q_lookup (tgt := 162) dX1_levelOf_1 (by decide) (by first | (rw [hs1_8]; done) | (rw [hs1_8]; rfl)) (by decide) ?_
    refine q_iconst (v := 4) dX1_levelOf_162 (by decide) ?_
    exact q_iret rfl (by decide) (by decide) dX1_levelOf_163 hF
  have hF := hF.2
  refine q_by (x1 = 124) (fun hs1_9 => ?_) (fun hs1_9 => ?_)
  · have hF := hF.1 hs1_9
    refine q_lookup (tgt := 160) dX1_levelOf_1 (by decide) (by first | (rw [hs1_9]; done) | (rw [hs1_9]; rfl)) (by decide) ?_
    refine q_iconst (v := 3) dX1_levelOf_160 (by decide) ?_
    exact q_iret rfl (by decide) (by decide) dX1_levelOf_161 hF
  have hF := hF.2
  refine q_by (x1 = 8509) (fun hs1_10 => ?_) (fun hs1_10 => ?_)
  · have hF := hF.1 hs1_10
    refine q_lookup (tgt := 166) dX1_levelOf_1 (by decide) (by first | (rw [hs1_10]; done) | (rw [hs1_10]; rfl)) (by decide) ?_
    refine q_bipush (v := 6) dX1_levelOf_166 (by decide) ?_
    exact q_iret rfl (by decide) (by decide) dX1_levelOf_168 hF
  have hF := hF.2
  refine q_by (x1 = 9766) (fun hs1_11 => ?_) (fun hs1_11 => ?_)
  · have hF := hF.1 hs1_11
    refine q_lookup (tgt := 158) dX1_levelOf_1 (by decide) (by first | (rw [hs1_11]; done) | (rw [hs1_11]; rfl)) (by decide) ?_
    refine q_iconst (v := 2) dX1_levelOf_158 (by decide) ?_
    exact q_iret rfl (by decide) (by decide) dX1_levelOf_159 hF
  have hF := hF.2
  refine q_by (x1 = 15420) (fun hs1_12 => ?_) (fun hs1_12 => ?_)
  · have hF := hF.1 hs1_12
    refine q_lookup (tgt := 172) dX1_levelOf_1 (by decide) (by first | (rw [hs1_12]; done) | (rw [hs1_12]; rfl)) (by decide) ?_
    refine q_bipush (v := 8) dX1_levelOf_172 (by decide) ?_
    exact q_iret rfl (by decide) (by decide) dX1_levelOf_174 hF
  have hF := hF.2
  refine q_by (x1 = 15421) (fun hs1_13 => ?_) (fun hs1_13 => ?_)
  · have hF := hF.1 hs1_13
    refine q_lookup (tgt := 169) dX1_levelOf_1 (by decide) (by first | (rw [hs1_13]; done) | (rw [hs1_13]; rfl)) (by decide) ?_
    refine q_bipush (v := 7) dX1_levelOf_169 (by decide) ?_
    exact q_iret rfl (by decide) (by decide) dX1_levelOf_171 hF
  have hF := hF.2
  refine q_by (x1 = 15677) (fun hs1_14 => ?_) (fun hs1_14 => ?_)
  · have hF := hF.1 hs1_14
    refine q_lookup (tgt := 166) dX1_levelOf_1 (by decide) (by first | (rw [hs1_14]; done) | (rw [hs1_14]; rfl)) (by decide) ?_
    refine q_bipush (v := 6) dX1_levelOf_166 (by decide) ?_
    exact q_iret rfl (by decide) (by decide) dX1_levelOf_168 hF
  have hF := hF.2
  refine q_by (x1 = 15933) (fun hs1_15 => ?_) (fun hs1_15 => ?_)
  · have hF := hF.1 hs1_15
    refine q_lookup (tgt := 169) dX1_levelOf_1 (by decide) (by first | (rw [hs1_15]; done) | (rw [hs1_15]; rfl)) (by decide) ?_
    refine q_bipush (v := 7) dX1_levelOf_169 (by decide) ?_
    exact q_iret rfl (by decide) (by decide) dX1_levelOf_171 hF
  have hF := hF.2
  refine q_by (x1 = 15934) (fun hs1_16 => ?_) (fun hs1_16 => ?_)
  · have hF := hF.1 hs1_16
    refine q_lookup (tgt := 172) dX1_levelOf_1 (by decide) (by first | (rw [hs1_16]; done) | (rw [hs1_16]; rfl)) (by decide) ?_
    refine q_bipush (v := 8) dX1_levelOf_172 (by decide) ?_
    exact q_iret rfl (by decide) (by decide) dX1_levelOf_174 hF
  have hF := hF.2
  refine q_by (x1 = 31868) (fun hs1_17 => ?_) (fun hs1_17 => ?_)
  · have hF := hF.1 hs1_17
    refine q_lookup (tgt := 156) dX1_levelOf_1 (by decide) (by first | (rw [hs1_17]; done) | (rw [hs1_17]; rfl)) (by decide) ?_
    refine q_iconst (v := 1) dX1_levelOf_156 (by decide) ?_
    exact q_iret rfl (by decide) (by decide) dX1_levelOf_157 hF
  have hF := hF.2
  refine q_lookup (off := 180) (tgt := 181) dX1_levelOf_1 (by decide) (by first | (rw [lv_osw hs1_0 (a := 37) (by decide), lv_osw hs1_1 (a := 38) (by decide), lv_osw hs1_2 (a := 42) (by decide), lv_osw hs1_3 (a := 43) (by decide), lv_osw hs1_4 (a := 45) (by decide), lv_osw hs1_5 (a := 47) (by decide), lv_osw hs1_6 (a := 60) (by decide), lv_osw hs1_7 (a := 62) (by decide), lv_osw hs1_8 (a := 94) (by decide), lv_osw hs1_9 (a := 124) (by decide), lv_osw hs1_10 (a := 8509) (by decide), lv_osw hs1_11 (a := 9766) (by decide), lv_osw hs1_12 (a := 15420) (by decide), lv_osw hs1_13 (a := 15421) (by decide), lv_osw hs1_14 (a := 15677) (by decide), lv_osw hs1_15 (a := 15933) (by decide), lv_osw hs1_16 (a := 15934) (by decide), lv_osw hs1_17 (a := 31868) (by decide)]; done) | (rw [lv_osw hs1_0 (a := 37) (by decide), lv_osw hs1_1 (a := 38) (by decide), lv_osw hs1_2 (a := 42) (by decide), lv_osw hs1_3 (a := 43) (by decide), lv_osw hs1_4 (a := 45) (by decide), lv_osw hs1_5 (a := 47) (by decide), lv_osw hs1_6 (a := 60) (by decide), lv_osw hs1_7 (a := 62) (by decide), lv_osw hs1_8 (a := 94) (by decide), lv_osw hs1_9 (a := 124) (by decide), lv_osw hs1_10 (a := 8509) (by decide), lv_osw hs1_11 (a := 9766) (by decide), lv_osw hs1_12 (a := 15420) (by decide), lv_osw hs1_13 (a := 15421) (by decide), lv_osw hs1_14 (a := 15677) (by decide), lv_osw hs1_15 (a := 15933) (by decide), lv_osw hs1_16 (a := 15934) (by decide), lv_osw hs1_17 (a := 31868) (by decide)]; rfl)) (by decide) ?_
  have hF := hF ⟨hs1_0, hs1_1, hs1_2, hs1_3, hs1_4, hs1_5, hs1_6, hs1_7, hs1_8, hs1_9, hs1_10, hs1_11, hs1_12, hs1_13, hs1_14, hs1_15, hs1_16, hs1_17⟩
  refine q_iconst (v := 0) dX1_levelOf_181 (by decide) ?_
  exact q_iret rfl (by decide) (by decide) dX1_levelOf_182 hF
def m_X2_faultKind : qm := (RX2, cX2_faultKind, 1, (some .int), [], false)
set_option maxRecDepth 100000 in
set_option maxHeartbeats 4000000 in
theorem x_X2_faultKind (G : qG) (d : Nat)  (h : qh) (Q : qr → qh → Prop)  (hF : Q (.inl (some (.int (h.I 22 6)))) h) : q_M0 G (d + 1) yX2_faultKind [.ref 21] h Q := by
  refine q_of (M := m_X2_faultKind) (by decide +kernel) rfl rfl cd_X2_faultKind (by decide) (Nat.le_of_ble_eq_true rfl) ?_
  show q_N0 G m_X2_faultKind (d + 1) Q 0 [.ref 21] [] h
  refine q_aload_n (i := 0) dX2_faultKind_0 rfl rfl ?_
  refine q_getP 3 0 22 fl_X2_14 (by decide) rfl rfl rfl dX2_faultKind_1 ?_
  refine q_getIv (v := h.I 22 6) 5 6 fl_X2_40 (by decide) rfl rfl (rfl) dX2_faultKind_4 ?_
  exact q_iret rfl (by decide) (by decide) dX2_faultKind_7 hF
def m_X2_faultPlace : qm := (RX2, cX2_faultPlace, 1, (some .int), [], false)
set_option maxRecDepth 100000 in
set_option maxHeartbeats 4000000 in
theorem x_X2_faultPlace (G : qG) (d : Nat)  (h : qh) (Q : qr → qh → Prop)  (hF : Q (.inl (some (.int (h.I 22 7)))) h) : q_M0 G (d + 1) yX2_faultPlace [.ref 21] h Q := by
  refine q_of (M := m_X2_faultPlace) (by decide +kernel) rfl rfl cd_X2_faultPlace (by decide) (Nat.le_of_ble_eq_true rfl) ?_
  show q_N0 G m_X2_faultPlace (d + 1) Q 0 [.ref 21] [] h
  refine q_aload_n (i := 0) dX2_faultPlace_0 rfl rfl ?_
  refine q_getP 3 0 22 fl_X2_14 (by decide) rfl rfl rfl dX2_faultPlace_1 ?_
  refine q_getIv (v := h.I 22 7) 5 7 fl_X2_44 (by decide) rfl rfl (rfl) dX2_faultPlace_4 ?_
  exact q_iret rfl (by decide) (by decide) dX2_faultPlace_7 hF
def m_X2_make : qm := (RX2, cX2_make, 2, none, [], false)
set_option maxRecDepth 100000 in
set_option maxHeartbeats 4000000 in
theorem x_X2_make (G : qG) (d : Nat) (x1 : Nat) (h : qh) (Q : qr → qh → Prop) (hx1 : q_cir x1) (hF : q_M0 G d yX0_clear [.ref x1] (h.sR 21 3 (some x1)) (q_rv (fun h1 => q_M0 G d yX4_begin [.ref 22] h1 (q_rv (fun h2 => ∃ c3, h2.R 21 3 = some c3 ∧ q_cir c3 ∧ (q_M0 G d yX1_begin [.ref 27, .ref c3] (h2.sI 23 3 0) (q_rv (fun h4 => q_M0 G d yX2_readArrays [.ref 21] ((h4.sI 21 4 (-1)).sI 21 5 (-1)) (q_ri (fun r6 h5 => (r6 = 0 → (Q (.inl none) h5)) ∧ (¬ r6 = 0 → (q_M0 G d yX2_readParameters [.ref 21] h5 (q_ri (fun r8 h7 => (r8 = 0 → (Q (.inl none) h7)) ∧ (¬ r8 = 0 → (∃ c9, h7.R 21 3 = some c9 ∧ q_cir c9 ∧ (q_M0 G d yX0_lay [.ref c9, .int 7, .int (-1), .int (-1), .int (-1)] h7 (q_ri (fun r11 h10 => q_M0 G d yX2_readBlock [.ref 21] h10 (q_ri (fun r13 h12 => (r13 = 0 → (∃ c14, h12.R 21 3 = some c14 ∧ q_cir c14 ∧ (q_M0 G d yX0_lay [.ref c14, .int 1, .int (-1), .int (-1), .int 0] h12 (q_ri (fun r16 h15 => q_M0 G d yX0_lay [.ref c14, .int 9, .int r16, .int (-1), .int (-1)] h15 (q_ri (fun r18 h17 => Q (.inl none) h17) (fun E h => Q (.inr E) h))) (fun E h => Q (.inr E) h))))) ∧ (¬ r13 = 0 → (((h12.I 22 3) = 0 → (∃ c19, h12.R 21 3 = some c19 ∧ q_cir c19 ∧ (q_M0 G d yX0_lay [.ref c19, .int 1, .int (-1), .int (-1), .int 0] h12 (q_ri (fun r21 h20 => q_M0 G d yX0_lay [.ref c19, .int 9, .int r21, .int (-1), .int (-1)] h20 (q_ri (fun r23 h22 => Q (.inl none) h22) (fun E h => Q (.inr E) h))) (fun E h => Q (.inr E) h))))) ∧ (¬ (h12.I 22 3) = 0 → (q_M0 G d yX4_refuse [.ref 22] h12 (q_ri (fun r25 h24 => ∃ c26, h24.R 21 3 = some c26 ∧ q_cir c26 ∧ (q_M0 G d yX0_lay [.ref c26, .int 1, .int (-1), .int (-1), .int 0] h24 (q_ri (fun r28 h27 => q_M0 G d yX0_lay [.ref c26, .int 9, .int r28, .int (-1), .int (-1)] h27 (q_ri (fun r30 h29 => Q (.inl none) h29) (fun E h => Q (.inr E) h))) (fun E h => Q (.inr E) h)))) (fun E h => Q (.inr E) h))))))) (fun E h => Q (.inr E) h))) (fun E h => Q (.inr E) h)))))) (fun E h => Q (.inr E) h))))) (fun E h => Q (.inr E) h))) (fun E h => Q (.inr E) h)))) (fun E h => Q (.inr E) h))) (fun E h => Q (.inr E) h))) : q_M0 G (d + 1) yX2_make [.ref 21, .ref x1] h Q := by
  refine q_of (M := m_X2_make) (by decide +kernel) rfl rfl cd_X2_make (by decide) (Nat.le_of_ble_eq_true rfl) ?_
  show q_N0 G m_X2_make (d + 1) Q 0 [.ref 21, .ref x1] [] h
  refine q_aload_n (i := 0) dX2_make_0 rfl rfl ?_
  refine q_aload_n (i := 1) dX2_make_1 rfl rfl ?_
  refine q_putR (v := x1) 3 3 fp_X2_36 (Or.inr ⟨_, _, _, rfl, rfl⟩) (by decide) rfl rfl (by rfl) (Or.inl ⟨_, rfl⟩) dX2_make_2 ?_
  refine q_aload_n (i := 0) dX2_make_5 rfl rfl ?_
  refine q_getR (k := x1) 3 3 fl_X2_36 (by decide) rfl rfl (by rfl) dX2_make_6 ?_
  refine q_callVv (ci := 1) (o := x1) (As := []) (st := []) cv_X2_47 ⟨_, _, rfl⟩ (q_cir_n hx1 0) (q_cir_K hx1) rfl (Nat.le_refl _) (Nat.le_of_ble_eq_true rfl) (by decide) dX2_make_9 rfl hF (fun h1 hF => ?_)
  refine q_aload_n (i := 0) dX2_make_12 rfl rfl ?_
  refine q_getP 3 0 22 fl_X2_14 (by decide) rfl rfl rfl dX2_make_13 ?_
  refine q_callVv (ci := 5) (o := 22) (As := []) (st := []) cv_X2_52 ⟨_, _, rfl⟩ (by decide) rfl rfl (Nat.le_refl _) (Nat.le_of_ble_eq_true rfl) (by decide) dX2_make_16 rfl hF (fun h2 hF => ?_)
  refine q_aload_n (i := 0) dX2_make_19 rfl rfl ?_
  refine q_getP 3 1 23 fl_X2_23 (by decide) rfl rfl rfl dX2_make_20 ?_
  refine q_iconst (v := 0) dX2_make_23 (by decide) ?_
  refine q_putI 6 3 fp_X2_55 (Or.inr ⟨_, _, _, rfl, rfl⟩) (by decide) rfl rfl dX2_make_24 ?_
  refine q_aload_n (i := 0) dX2_make_27 rfl rfl ?_
  refine q_getP 3 2 27 fl_X2_32 (by decide) rfl rfl rfl dX2_make_28 ?_
  refine q_aload_n (i := 0) dX2_make_31 rfl rfl ?_
  obtain ⟨c3, hrc3, hc3, hF⟩ := hF
  refine q_getR (k := c3) 3 3 fl_X2_36 (by decide) rfl rfl hrc3 dX2_make_32 ?_
  refine q_callVv (ci := 2) (o := 27) (As := [.ref c3]) (st := []) cv_X2_58 ⟨_, _, rfl⟩ (by decide) rfl rfl (Nat.le_refl _) (Nat.le_of_ble_eq_true rfl) (by decide) dX2_make_35 rfl hF (fun h4 hF => ?_)
  refine q_aload_n (i := 0) dX2_make_38 rfl rfl ?_
  refine q_iconst (v := (-1)) dX2_make_39 (by decide) ?_
  refine q_putI 3 4 fp_X2_61 (Or.inr ⟨_, _, _, rfl, rfl⟩) (by decide) rfl rfl dX2_make_40 ?_
  refine q_aload_n (i := 0) dX2_make_43 rfl rfl ?_
  refine q_iconst (v := (-1)) dX2_make_44 (by decide) ?_
  refine q_putI 3 5 fp_X2_64 (Or.inr ⟨_, _, _, rfl, rfl⟩) (by decide) rfl rfl dX2_make_45 ?_
  refine q_aload_n (i := 0) dX2_make_48 rfl rfl ?_
  refine q_callVi (ci := 3) (o := 21) (As := []) (st := []) cv_X2_67 ⟨_, _, rfl⟩ (by decide) rfl rfl (Nat.le_refl _) (Nat.le_of_ble_eq_true rfl) (by decide) dX2_make_49 rfl hF (fun r6 h5 hF => ?_)
  refine q_if_eq (tgt := 123) dX2_make_52 (by decide) (fun hb => ?_) (fun hb => ?_)
  · have hF := hF.1 hb
    exact q_vret rfl (by decide) (by decide) dX2_make_123 hF
  · have hF := hF.2 hb
    refine q_aload_n (i := 0) dX2_make_55 rfl rfl ?_
    refine q_callVi (ci := 3) (o := 21) (As := []) (st := []) cv_X2_71 ⟨_, _, rfl⟩ (by decide) rfl rfl (Nat.le_refl _) (Nat.le_of_ble_eq_true rfl) (by decide) dX2_make_56 rfl hF (fun r8 h7 hF => ?_)
    refine q_if_eq (tgt := 123) dX2_make_59 (by decide) (fun hb => ?_) (fun hb => ?_)
    · have hF := hF.1 hb
      exact q_vret rfl (by decide) (by decide) dX2_make_123 hF
    · have hF := hF.2 hb
      refine q_aload_n (i := 0) dX2_make_62 rfl rfl ?_
      obtain ⟨c9, hrc9, hc9, hF⟩ := hF
      refine q_getR (k := c9) 3 3 fl_X2_36 (by decide) rfl rfl hrc9 dX2_make_63 ?_
      refine q_bipush (v := 7) dX2_make_66 (by decide) ?_
      refine q_iconst (v := (-1)) dX2_make_68 (by decide) ?_
      refine q_iconst (v := (-1)) dX2_make_69 (by decide) ?_
      refine q_iconst (v := (-1)) dX2_make_70 (by decide) ?_
      refine q_callVi (ci := 1) (o := c9) (As := [.int 7, .int (-1), .int (-1), .int (-1)]) (st := []) cv_X2_74 ⟨_, _, rfl⟩ (q_cir_n hc9 0) (q_cir_K hc9) rfl (Nat.le_refl _) (Nat.le_of_ble_eq_true rfl) (by decide) dX2_make_71 rfl hF (fun r11 h10 hF => ?_)
      refine q_pop dX2_make_74 rfl ?_
      refine q_aload_n (i := 0) dX2_make_75 rfl rfl ?_
      refine q_callVi (ci := 3) (o := 21) (As := []) (st := []) cv_X2_78 ⟨_, _, rfl⟩ (by decide) rfl rfl (Nat.le_refl _) (Nat.le_of_ble_eq_true rfl) (by decide) dX2_make_76 rfl hF (fun r13 h12 hF => ?_)
      refine q_if_eq (tgt := 100) dX2_make_79 (by decide) (fun hb => ?_) (fun hb => ?_)
      · have hF := hF.1 hb
        refine q_aload_n (i := 0) dX2_make_100 rfl rfl ?_
        obtain ⟨c14, hrc14, hc14, hF⟩ := hF
        refine q_getR (k := c14) 3 3 fl_X2_36 (by decide) rfl rfl hrc14 dX2_make_101 ?_
        refine q_bipush (v := 9) dX2_make_104 (by decide) ?_
        refine q_aload_n (i := 0) dX2_make_106 rfl rfl ?_
        refine q_getR (k := c14) 3 3 fl_X2_36 (by decide) rfl rfl hrc14 dX2_make_107 ?_
        refine q_iconst (v := 1) dX2_make_110 (by decide) ?_
        refine q_iconst (v := (-1)) dX2_make_111 (by decide) ?_
        refine q_iconst (v := (-1)) dX2_make_112 (by decide) ?_
        refine q_iconst (v := 0) dX2_make_113 (by decide) ?_
        refine q_callVi (ci := 1) (o := c14) (As := [.int 1, .int (-1), .int (-1), .int 0]) (st := [.int 9, .ref c14]) cv_X2_74 ⟨_, _, rfl⟩ (q_cir_n hc14 0) (q_cir_K hc14) rfl (Nat.le_refl _) (Nat.le_of_ble_eq_true rfl) (by decide) dX2_make_114 rfl hF (fun r16 h15 hF => ?_)
        refine q_iconst (v := (-1)) dX2_make_117 (by decide) ?_
        refine q_iconst (v := (-1)) dX2_make_118 (by decide) ?_
        refine q_callVi (ci := 1) (o := c14) (As := [.int 9, .int r16, .int (-1), .int (-1)]) (st := []) cv_X2_74 ⟨_, _, rfl⟩ (q_cir_n hc14 0) (q_cir_K hc14) rfl (Nat.le_refl _) (Nat.le_of_ble_eq_true rfl) (by decide) dX2_make_119 rfl hF (fun r18 h17 hF => ?_)
        refine q_pop dX2_make_122 rfl ?_
        exact q_vret rfl (by decide) (by decide) dX2_make_123 hF
      · have hF := hF.2 hb
        refine q_aload_n (i := 0) dX2_make_82 rfl rfl ?_
        refine q_getP 3 0 22 fl_X2_14 (by decide) rfl rfl rfl dX2_make_83 ?_
        refine q_getIv (v := h12.I 22 3) 5 3 fl_X2_81 (by decide) rfl rfl (rfl) dX2_make_86 ?_
        refine q_if_eq (tgt := 100) dX2_make_89 (by decide) (fun hb => ?_) (fun hb => ?_)
        · have hF := hF.1 hb
          refine q_aload_n (i := 0) dX2_make_100 rfl rfl ?_
          obtain ⟨c19, hrc19, hc19, hF⟩ := hF
          refine q_getR (k := c19) 3 3 fl_X2_36 (by decide) rfl rfl hrc19 dX2_make_101 ?_
          refine q_bipush (v := 9) dX2_make_104 (by decide) ?_
          refine q_aload_n (i := 0) dX2_make_106 rfl rfl ?_
          refine q_getR (k := c19) 3 3 fl_X2_36 (by decide) rfl rfl hrc19 dX2_make_107 ?_
          refine q_iconst (v := 1) dX2_make_110 (by decide) ?_
          refine q_iconst (v := (-1)) dX2_make_111 (by decide) ?_
          refine q_iconst (v := (-1)) dX2_make_112 (by decide) ?_
          refine q_iconst (v := 0) dX2_make_113 (by decide) ?_
          refine q_callVi (ci := 1) (o := c19) (As := [.int 1, .int (-1), .int (-1), .int 0]) (st := [.int 9, .ref c19]) cv_X2_74 ⟨_, _, rfl⟩ (q_cir_n hc19 0) (q_cir_K hc19) rfl (Nat.le_refl _) (Nat.le_of_ble_eq_true rfl) (by decide) dX2_make_114 rfl hF (fun r21 h20 hF => ?_)
          refine q_iconst (v := (-1)) dX2_make_117 (by decide) ?_
          refine q_iconst (v := (-1)) dX2_make_118 (by decide) ?_
          refine q_callVi (ci := 1) (o := c19) (As := [.int 9, .int r21, .int (-1), .int (-1)]) (st := []) cv_X2_74 ⟨_, _, rfl⟩ (q_cir_n hc19 0) (q_cir_K hc19) rfl (Nat.le_refl _) (Nat.le_of_ble_eq_true rfl) (by decide) dX2_make_119 rfl hF (fun r23 h22 hF => ?_)
          refine q_pop dX2_make_122 rfl ?_
          exact q_vret rfl (by decide) (by decide) dX2_make_123 hF
        · have hF := hF.2 hb
          refine q_aload_n (i := 0) dX2_make_92 rfl rfl ?_
          refine q_getP 3 0 22 fl_X2_14 (by decide) rfl rfl rfl dX2_make_93 ?_
          refine q_callVi (ci := 5) (o := 22) (As := []) (st := []) cv_X2_84 ⟨_, _, rfl⟩ (by decide) rfl rfl (Nat.le_refl _) (Nat.le_of_ble_eq_true rfl) (by decide) dX2_make_96 rfl hF (fun r25 h24 hF => ?_)
          refine q_pop dX2_make_99 rfl ?_
          refine q_aload_n (i := 0) dX2_make_100 rfl rfl ?_
          obtain ⟨c26, hrc26, hc26, hF⟩ := hF
          refine q_getR (k := c26) 3 3 fl_X2_36 (by decide) rfl rfl hrc26 dX2_make_101 ?_
          refine q_bipush (v := 9) dX2_make_104 (by decide) ?_
          refine q_aload_n (i := 0) dX2_make_106 rfl rfl ?_
          refine q_getR (k := c26) 3 3 fl_X2_36 (by decide) rfl rfl hrc26 dX2_make_107 ?_
          refine q_iconst (v := 1) dX2_make_110 (by decide) ?_
          refine q_iconst (v := (-1)) dX2_make_111 (by decide) ?_
          refine q_iconst (v := (-1)) dX2_make_112 (by decide) ?_
          refine q_iconst (v := 0) dX2_make_113 (by decide) ?_
          refine q_callVi (ci := 1) (o := c26) (As := [.int 1, .int (-1), .int (-1), .int 0]) (st := [.int 9, .ref c26]) cv_X2_74 ⟨_, _, rfl⟩ (q_cir_n hc26 0) (q_cir_K hc26) rfl (Nat.le_refl _) (Nat.le_of_ble_eq_true rfl) (by decide) dX2_make_114 rfl hF (fun r28 h27 hF => ?_)
          refine q_iconst (v := (-1)) dX2_make_117 (by decide) ?_
          refine q_iconst (v := (-1)) dX2_make_118 (by decide) ?_
          refine q_callVi (ci := 1) (o := c26) (As := [.int 9, .int r28, .int (-1), .int (-1)]) (st := []) cv_X2_74 ⟨_, _, rfl⟩ (q_cir_n hc26 0) (q_cir_K hc26) rfl (Nat.le_refl _) (Nat.le_of_ble_eq_true rfl) (by decide) dX2_make_119 rfl hF (fun r30 h29 hF => ?_)
          refine q_pop dX2_make_122 rfl ?_
          exact q_vret rfl (by decide) (by decide) dX2_make_123 hF
def m_X2_readArrays : qm := (RX2, cX2_readArrays, 2, (some .boolean), [], false)
set_option maxRecDepth 100000 in
set_option maxHeartbeats 4000000 in
theorem x_X2_readArrays (G : qG) (d : Nat)  (h : qh) (Q : qr → qh → Prop)  (hF : q_N0 G m_X2_readArrays (d + 1) Q 2 [.ref 21, .int 0] [] h) : q_M0 G (d + 1) yX2_readArrays [.ref 21] h Q := by
  refine q_of (M := m_X2_readArrays) (by decide +kernel) rfl rfl cd_X2_readArrays (by decide) (Nat.le_of_ble_eq_true rfl) ?_
  show q_N0 G m_X2_readArrays (d + 1) Q 0 [.ref 21, .null] [] h
  refine q_iconst (v := 0) dX2_readArrays_0 (by decide) ?_
  refine q_istore_n (i := 1) dX2_readArrays_1 rfl (by decide) rfl ?_
  exact hF
set_option maxRecDepth 100000 in
set_option maxHeartbeats 4000000 in
theorem x_X2_readArrays_2 (G : qG) (d : Nat) (l1 : Int32) (h : qh) (Q : qr → qh → Prop)  (hF : (2001 ≤ l1 → (Q (.inl (some (.int 0))) h)) ∧ (¬ 2001 ≤ l1 → (q_M0 G d yX4_pass [.ref 22, .int 4] h (q_ri (fun r2 h1 => (r2 = 0 → (Q (.inl (some (.int 0))) h1)) ∧ (¬ r2 = 0 → (q_M0 G d yX2_readNewName [.ref 21] h1 (q_ri (fun r4 h3 => (¬ r4 = 0 → (((h3.I 22 3) = 91 → (∃ c5, h3.R 21 3 = some c5 ∧ q_cir c5 ∧ (q_M0 G d yX4_blame [.ref 22, .int (if (h3.I c5 8) < 8 then (0 : Int32) else 6), .int (h3.I 21 7)] h3 (q_rv (fun h7 => ∃ c8, h7.R 21 3 = some c8 ∧ q_cir c8 ∧ (q_M0 G d yX5_tell [.ref 23, .long (h7.L 21 6), .int 1, .int (h7.I c8 8)] h7 (q_rv (fun h9 => q_M0 G d yX2_readCells [.ref 21] h9 (q_ri (fun r11 h10 => (¬ r11 = 0 → (q_N0 G m_X2_readArrays (d + 1) Q 2 [.ref 21, .int (l1 + 1)] [] h10)) ∧ (r11 = 0 → (Q (.inl (some (.int 0))) h10))) (fun E h => Q (.inr E) h))) (fun E h => Q (.inr E) h)))) (fun E h => Q (.inr E) h))))) ∧ (¬ (h3.I 22 3) = 91 → (q_M0 G d yX5_tell [.ref 23, .long (h3.L 21 6), .int 2, .int 0] h3 (q_rv (fun h12 => Q (.inl (some (.int 1))) h12) (fun E h => Q (.inr E) h)))))) ∧ (r4 = 0 → (Q (.inl (some (.int 0))) h3))) (fun E h => Q (.inr E) h))))) (fun E h => Q (.inr E) h))))) : q_N0 G m_X2_readArrays (d + 1) Q 2 [.ref 21, .int l1] [] h := by
  refine q_iload_n (i := 1) dX2_readArrays_2 rfl rfl ?_
  refine q_sipush (v := 2001) dX2_readArrays_3 (by decide) ?_
  refine q_icmp_ge (tgt := 119) dX2_readArrays_6 (by decide) (fun hb => ?_) (fun hb => ?_)
  · have hF := hF.1 hb
    refine q_iconst (v := 0) dX2_readArrays_119 (by decide) ?_
    exact q_zret rfl (by decide) (by decide) (by decide) dX2_readArrays_120 hF
  · have hF := hF.2 hb
    refine q_aload_n (i := 0) dX2_readArrays_9 rfl rfl ?_
    refine q_getP 3 0 22 fl_X2_14 (by decide) rfl rfl rfl dX2_readArrays_10 ?_
    refine q_iconst (v := 4) dX2_readArrays_13 (by decide) ?_
    refine q_callVi (ci := 5) (o := 22) (As := [.int 4]) (st := []) cv_X2_87 ⟨_, _, rfl⟩ (by decide) rfl rfl (Nat.le_refl _) (Nat.le_of_ble_eq_true rfl) (by decide) dX2_readArrays_14 rfl hF (fun r2 h1 hF => ?_)
    refine q_if_eq (tgt := 27) dX2_readArrays_17 (by decide) (fun hb => ?_) (fun hb => ?_)
    · have hF := hF.1 hb
      refine q_iconst (v := 0) dX2_readArrays_27 (by decide) ?_
      exact q_zret rfl (by decide) (by decide) (by decide) dX2_readArrays_28 hF
    · have hF := hF.2 hb
      refine q_aload_n (i := 0) dX2_readArrays_20 rfl rfl ?_
      refine q_callVi (ci := 3) (o := 21) (As := []) (st := []) cv_X2_91 ⟨_, _, rfl⟩ (by decide) rfl rfl (Nat.le_refl _) (Nat.le_of_ble_eq_true rfl) (by decide) dX2_readArrays_21 rfl hF (fun r4 h3 hF => ?_)
      refine q_if_ne (tgt := 29) dX2_readArrays_24 (by decide) (fun hb => ?_) (fun hb => ?_)
      · have hF := hF.1 hb
        refine q_aload_n (i := 0) dX2_readArrays_29 rfl rfl ?_
        refine q_getP 3 0 22 fl_X2_14 (by decide) rfl rfl rfl dX2_readArrays_30 ?_
        refine q_getIv (v := h3.I 22 3) 5 3 fl_X2_81 (by decide) rfl rfl (rfl) dX2_readArrays_33 ?_
        refine q_bipush (v := 91) dX2_readArrays_36 (by decide) ?_
        refine q_icmp_eq (tgt := 56) dX2_readArrays_38 (by decide) (fun hb => ?_) (fun hb => ?_)
        · have hF := hF.1 hb
          refine q_aload_n (i := 0) dX2_readArrays_56 rfl rfl ?_
          refine q_getP 3 0 22 fl_X2_14 (by decide) rfl rfl rfl dX2_readArrays_57 ?_
          refine q_aload_n (i := 0) dX2_readArrays_60 rfl rfl ?_
          obtain ⟨c5, hrc5, hc5, hF⟩ := hF
          refine q_getR (k := c5) 3 3 fl_X2_36 (by decide) rfl rfl hrc5 dX2_readArrays_61 ?_
          refine q_getIv (v := h3.I c5 8) 1 8 fl_X2_102 (q_cir_n hc5 0) (q_cir_K hc5) rfl (rfl) dX2_readArrays_64 ?_
          refine q_bipush (v := 8) dX2_readArrays_67 (by decide) ?_
          have K6 := q_ite (c := (h3.I c5 8) < 8) (X := fun v => q_N0 G m_X2_readArrays (d + 1) Q 78 [.ref 21, .int l1] (.int v :: [.ref 22]) h3) (a := 0) (b := 6) (by
            refine q_aload_n (i := 0) dX2_readArrays_78 rfl rfl ?_
            refine q_getIv (v := h3.I 21 7) 3 7 fl_X2_105 (by decide) rfl rfl (rfl) dX2_readArrays_79 ?_
            refine q_callVv (ci := 5) (o := 22) (As := [.int (if (h3.I c5 8) < 8 then (0 : Int32) else 6), .int (h3.I 21 7)]) (st := []) cv_X2_108 ⟨_, _, rfl⟩ (by decide) rfl rfl (Nat.le_refl _) (Nat.le_of_ble_eq_true rfl) (by decide) dX2_readArrays_82 rfl hF (fun h7 hF => ?_)
            refine q_aload_n (i := 0) dX2_readArrays_85 rfl rfl ?_
            refine q_getP 3 1 23 fl_X2_23 (by decide) rfl rfl rfl dX2_readArrays_86 ?_
            refine q_aload_n (i := 0) dX2_readArrays_89 rfl rfl ?_
            refine q_getLv (v := h7.L 21 6) 3 6 fl_X2_94 (by decide) rfl rfl (rfl) dX2_readArrays_90 ?_
            refine q_iconst (v := 1) dX2_readArrays_93 (by decide) ?_
            refine q_aload_n (i := 0) dX2_readArrays_94 rfl rfl ?_
            obtain ⟨c8, hrc8, hc8, hF⟩ := hF
            refine q_getR (k := c8) 3 3 fl_X2_36 (by decide) rfl rfl hrc8 dX2_readArrays_95 ?_
            refine q_getIv (v := h7.I c8 8) 1 8 fl_X2_102 (q_cir_n hc8 0) (q_cir_K hc8) rfl (rfl) dX2_readArrays_98 ?_
            refine q_callVv (ci := 6) (o := 23) (As := [.long (h7.L 21 6), .int 1, .int (h7.I c8 8)]) (st := []) cv_X2_98 ⟨_, _, rfl⟩ (by decide) rfl rfl (Nat.le_refl _) (Nat.le_of_ble_eq_true rfl) (by decide) dX2_readArrays_101 rfl hF (fun h9 hF => ?_)
            refine q_aload_n (i := 0) dX2_readArrays_104 rfl rfl ?_
            refine q_callVi (ci := 3) (o := 21) (As := []) (st := []) cv_X2_112 ⟨_, _, rfl⟩ (by decide) rfl rfl (Nat.le_refl _) (Nat.le_of_ble_eq_true rfl) (by decide) dX2_readArrays_105 rfl hF (fun r11 h10 hF => ?_)
            refine q_if_ne (tgt := 113) dX2_readArrays_108 (by decide) (fun hb => ?_) (fun hb => ?_)
            · have hF := hF.1 hb
              refine q_iinc (v := l1 + 1) dX2_readArrays_113 rfl rfl (by decide) rfl ?_
              refine q_goto (tgt := 2) dX2_readArrays_116 (by decide) ?_
              exact hF
            · have hF := hF.2 hb
              refine q_iconst (v := 0) dX2_readArrays_111 (by decide) ?_
              exact q_zret rfl (by decide) (by decide) (by decide) dX2_readArrays_112 hF)
          refine q_icmp_lt (tgt := 77) dX2_readArrays_69 (by decide) (fun hb => ?_) (fun hb => ?_)
          · refine q_iconst (v := 0) dX2_readArrays_77 (by decide) ?_
            exact K6.1 hb
          · refine q_bipush (v := 6) dX2_readArrays_72 (by decide) ?_
            refine q_goto (tgt := 78) dX2_readArrays_74 (by decide) ?_
            exact K6.2 hb
        · have hF := hF.2 hb
          refine q_aload_n (i := 0) dX2_readArrays_41 rfl rfl ?_
          refine q_getP 3 1 23 fl_X2_23 (by decide) rfl rfl rfl dX2_readArrays_42 ?_
          refine q_aload_n (i := 0) dX2_readArrays_45 rfl rfl ?_
          refine q_getLv (v := h3.L 21 6) 3 6 fl_X2_94 (by decide) rfl rfl (rfl) dX2_readArrays_46 ?_
          refine q_iconst (v := 2) dX2_readArrays_49 (by decide) ?_
          refine q_iconst (v := 0) dX2_readArrays_50 (by decide) ?_
          refine q_callVv (ci := 6) (o := 23) (As := [.long (h3.L 21 6), .int 2, .int 0]) (st := []) cv_X2_98 ⟨_, _, rfl⟩ (by decide) rfl rfl (Nat.le_refl _) (Nat.le_of_ble_eq_true rfl) (by decide) dX2_readArrays_51 rfl hF (fun h12 hF => ?_)
          refine q_iconst (v := 1) dX2_readArrays_54 (by decide) ?_
          exact q_zret rfl (by decide) (by decide) (by decide) dX2_readArrays_55 hF
      · have hF := hF.2 hb
        refine q_iconst (v := 0) dX2_readArrays_27 (by decide) ?_
        exact q_zret rfl (by decide) (by decide) (by decide) dX2_readArrays_28 hF
def m_X2_readCells : qm := (RX2, cX2_readCells, 4, (some .boolean), [], false)
set_option maxRecDepth 100000 in
set_option maxHeartbeats 4000000 in
theorem x_X2_readCells (G : qG) (d : Nat)  (h : qh) (Q : qr → qh → Prop)  (hF : q_M0 G d yX4_enter [.ref 22, .int 91] h (q_ri (fun r2 h1 => (¬ r2 = 0 → (q_M0 G d yX4_pass [.ref 22, .int 3] h1 (q_ri (fun r4 h3 => (¬ r4 = 0 → (((lg_cmp (h1.L 22 5) 1) < 0 → (q_M0 G d yX4_blame [.ref 22, .int 6, .int (h1.I 22 4)] h3 (q_rv (fun h5 => ∃ c6, h5.R 21 3 = some c6 ∧ q_cir c6 ∧ (q_M0 G d yX0_addArray [.ref c6, .int ((h1.L 22 5).toInt32)] h5 (q_rv (fun h7 => q_M0 G d yX4_leave [.ref 22] h7 (q_rv (fun h8 => q_M0 G d yX4_pass [.ref 22, .int 93] h8 (q_ri (fun r10 h9 => (r10 = 0 → (Q (.inl (some (.int 0))) h9)) ∧ (¬ r10 = 0 → (q_M0 G d yX4_pass [.ref 22, .int 59] h9 (q_ri (fun r12 h11 => ((if r12 = 0 then (0 : Int32) else 1) = 0 ∨ (if r12 = 0 then (0 : Int32) else 1) = 1) ∧ Q (.inl (some (.int (if r12 = 0 then (0 : Int32) else 1)))) h11) (fun E h => Q (.inr E) h))))) (fun E h => Q (.inr E) h))) (fun E h => Q (.inr E) h))) (fun E h => Q (.inr E) h)))) (fun E h => Q (.inr E) h)))) ∧ (¬ (lg_cmp (h1.L 22 5) 1) < 0 → (q_M0 G d yX4_blame [.ref 22, .int (if (lg_cmp (h1.L 22 5) 256) ≤ 0 then (0 : Int32) else 6), .int (h1.I 22 4)] h3 (q_rv (fun h15 => ∃ c16, h15.R 21 3 = some c16 ∧ q_cir c16 ∧ (q_M0 G d yX0_addArray [.ref c16, .int ((h1.L 22 5).toInt32)] h15 (q_rv (fun h17 => q_M0 G d yX4_leave [.ref 22] h17 (q_rv (fun h18 => q_M0 G d yX4_pass [.ref 22, .int 93] h18 (q_ri (fun r20 h19 => (r20 = 0 → (Q (.inl (some (.int 0))) h19)) ∧ (¬ r20 = 0 → (q_M0 G d yX4_pass [.ref 22, .int 59] h19 (q_ri (fun r22 h21 => ((if r22 = 0 then (0 : Int32) else 1) = 0 ∨ (if r22 = 0 then (0 : Int32) else 1) = 1) ∧ Q (.inl (some (.int (if r22 = 0 then (0 : Int32) else 1)))) h21) (fun E h => Q (.inr E) h))))) (fun E h => Q (.inr E) h))) (fun E h => Q (.inr E) h))) (fun E h => Q (.inr E) h)))) (fun E h => Q (.inr E) h)))))) ∧ (r4 = 0 → (Q (.inl (some (.int 0))) h3))) (fun E h => Q (.inr E) h)))) ∧ (r2 = 0 → (Q (.inl (some (.int 0))) h1))) (fun E h => Q (.inr E) h))) : q_M0 G (d + 1) yX2_readCells [.ref 21] h Q := by
  refine q_of (M := m_X2_readCells) (by decide +kernel) rfl rfl cd_X2_readCells (by decide) (Nat.le_of_ble_eq_true rfl) ?_
  show q_N0 G m_X2_readCells (d + 1) Q 0 [.ref 21, .null, .null, .null] [] h
  refine q_aload_n (i := 0) dX2_readCells_0 rfl rfl ?_
  refine q_getP 3 0 22 fl_X2_14 (by decide) rfl rfl rfl dX2_readCells_1 ?_
  refine q_bipush (v := 91) dX2_readCells_4 (by decide) ?_
  refine q_callVi (ci := 5) (o := 22) (As := [.int 91]) (st := []) cv_X2_115 ⟨_, _, rfl⟩ (by decide) rfl rfl (Nat.le_refl _) (Nat.le_of_ble_eq_true rfl) (by decide) dX2_readCells_6 rfl hF (fun r2 h1 hF => ?_)
  refine q_if_ne (tgt := 14) dX2_readCells_9 (by decide) (fun hb => ?_) (fun hb => ?_)
  · have hF := hF.1 hb
    refine q_aload_n (i := 0) dX2_readCells_14 rfl rfl ?_
    refine q_getP 3 0 22 fl_X2_14 (by decide) rfl rfl rfl dX2_readCells_15 ?_
    refine q_getLv (v := h1.L 22 5) 5 5 fl_X2_118 (by decide) rfl rfl (rfl) dX2_readCells_18 ?_
    refine q_lstore_n (i := 1) dX2_readCells_21 rfl (by decide) rfl ?_
    refine q_aload_n (i := 0) dX2_readCells_22 rfl rfl ?_
    refine q_getP 3 0 22 fl_X2_14 (by decide) rfl rfl rfl dX2_readCells_23 ?_
    refine q_getIv (v := h1.I 22 4) 5 4 fl_X2_121 (by decide) rfl rfl (rfl) dX2_readCells_26 ?_
    refine q_istore_n (i := 3) dX2_readCells_29 rfl (by decide) rfl ?_
    refine q_aload_n (i := 0) dX2_readCells_30 rfl rfl ?_
    refine q_getP 3 0 22 fl_X2_14 (by decide) rfl rfl rfl dX2_readCells_31 ?_
    refine q_iconst (v := 3) dX2_readCells_34 (by decide) ?_
    refine q_callVi (ci := 5) (o := 22) (As := [.int 3]) (st := []) cv_X2_87 ⟨_, _, rfl⟩ (by decide) rfl rfl (Nat.le_refl _) (Nat.le_of_ble_eq_true rfl) (by decide) dX2_readCells_35 rfl hF (fun r4 h3 hF => ?_)
    refine q_if_ne (tgt := 43) dX2_readCells_38 (by decide) (fun hb => ?_) (fun hb => ?_)
    · have hF := hF.1 hb
      refine q_aload_n (i := 0) dX2_readCells_43 rfl rfl ?_
      refine q_getP 3 0 22 fl_X2_14 (by decide) rfl rfl rfl dX2_readCells_44 ?_
      refine q_lload_n (i := 1) dX2_readCells_47 rfl rfl ?_
      refine q_lconst (v := 1) dX2_readCells_48 (by decide) ?_
      refine q_lcmp dX2_readCells_49 ?_
      refine q_if_lt (tgt := 61) dX2_readCells_50 (by decide) (fun hb => ?_) (fun hb => ?_)
      · have hF := hF.1 hb
        refine q_bipush (v := 6) dX2_readCells_61 (by decide) ?_
        refine q_goto (tgt := 67) dX2_readCells_63 (by decide) ?_
        refine q_iload_n (i := 3) dX2_readCells_67 rfl rfl ?_
        refine q_callVv (ci := 5) (o := 22) (As := [.int 6, .int (h1.I 22 4)]) (st := []) cv_X2_108 ⟨_, _, rfl⟩ (by decide) rfl rfl (Nat.le_refl _) (Nat.le_of_ble_eq_true rfl) (by decide) dX2_readCells_68 rfl hF (fun h5 hF => ?_)
        refine q_aload_n (i := 0) dX2_readCells_71 rfl rfl ?_
        obtain ⟨c6, hrc6, hc6, hF⟩ := hF
        refine q_getR (k := c6) 3 3 fl_X2_36 (by decide) rfl rfl hrc6 dX2_readCells_72 ?_
        refine q_lload_n (i := 1) dX2_readCells_75 rfl rfl ?_
        refine q_l2i (v := (h1.L 22 5).toInt32) dX2_readCells_76 rfl ?_
        refine q_callVv (ci := 1) (o := c6) (As := [.int ((h1.L 22 5).toInt32)]) (st := []) cv_X2_126 ⟨_, _, rfl⟩ (q_cir_n hc6 0) (q_cir_K hc6) rfl (Nat.le_refl _) (Nat.le_of_ble_eq_true rfl) (by decide) dX2_readCells_77 rfl hF (fun h7 hF => ?_)
        refine q_aload_n (i := 0) dX2_readCells_80 rfl rfl ?_
        refine q_getP 3 0 22 fl_X2_14 (by decide) rfl rfl rfl dX2_readCells_81 ?_
        refine q_callVv (ci := 5) (o := 22) (As := []) (st := []) cv_X2_130 ⟨_, _, rfl⟩ (by decide) rfl rfl (Nat.le_refl _) (Nat.le_of_ble_eq_true rfl) (by decide) dX2_readCells_84 rfl hF (fun h8 hF => ?_)
        refine q_aload_n (i := 0) dX2_readCells_87 rfl rfl ?_
        refine q_getP 3 0 22 fl_X2_14 (by decide) rfl rfl rfl dX2_readCells_88 ?_
        refine q_bipush (v := 93) dX2_readCells_91 (by decide) ?_
        refine q_callVi (ci := 5) (o := 22) (As := [.int 93]) (st := []) cv_X2_87 ⟨_, _, rfl⟩ (by decide) rfl rfl (Nat.le_refl _) (Nat.le_of_ble_eq_true rfl) (by decide) dX2_readCells_93 rfl hF (fun r10 h9 hF => ?_)
        refine q_if_eq (tgt := 115) dX2_readCells_96 (by decide) (fun hb => ?_) (fun hb => ?_)
        · have hF := hF.1 hb
          refine q_iconst (v := 0) dX2_readCells_115 (by decide) ?_
          exact q_zret rfl (by decide) (by decide) (by decide) dX2_readCells_116 hF
        · have hF := hF.2 hb
          refine q_aload_n (i := 0) dX2_readCells_99 rfl rfl ?_
          refine q_getP 3 0 22 fl_X2_14 (by decide) rfl rfl rfl dX2_readCells_100 ?_
          refine q_bipush (v := 59) dX2_readCells_103 (by decide) ?_
          refine q_callVi (ci := 5) (o := 22) (As := [.int 59]) (st := []) cv_X2_87 ⟨_, _, rfl⟩ (by decide) rfl rfl (Nat.le_refl _) (Nat.le_of_ble_eq_true rfl) (by decide) dX2_readCells_105 rfl hF (fun r12 h11 hF => ?_)
          have K13 := q_ite (c := r12 = 0) (X := fun v => q_N0 G m_X2_readCells (d + 1) Q 116 [.ref 21, .long (h1.L 22 5), .null, .int (h1.I 22 4)] (.int v :: []) h11) (a := 0) (b := 1) (by
            exact q_zret rfl hF.1 (by decide) (by decide) dX2_readCells_116 hF.2)
          refine q_if_eq (tgt := 115) dX2_readCells_108 (by decide) (fun hb => ?_) (fun hb => ?_)
          · refine q_iconst (v := 0) dX2_readCells_115 (by decide) ?_
            exact K13.1 hb
          · refine q_iconst (v := 1) dX2_readCells_111 (by decide) ?_
            refine q_goto (tgt := 116) dX2_readCells_112 (by decide) ?_
            exact K13.2 hb
      · have hF := hF.2 hb
        refine q_lload_n (i := 1) dX2_readCells_53 rfl rfl ?_
        refine q_ldc2 cl_X2_124 dX2_readCells_54 ?_
        refine q_lcmp dX2_readCells_57 ?_
        have K14 := q_ite (c := (lg_cmp (h1.L 22 5) 256) ≤ 0) (X := fun v => q_N0 G m_X2_readCells (d + 1) Q 67 [.ref 21, .long (h1.L 22 5), .null, .int (h1.I 22 4)] (.int v :: [.ref 22]) h3) (a := 0) (b := 6) (by
          refine q_iload_n (i := 3) dX2_readCells_67 rfl rfl ?_
          refine q_callVv (ci := 5) (o := 22) (As := [.int (if (lg_cmp (h1.L 22 5) 256) ≤ 0 then (0 : Int32) else 6), .int (h1.I 22 4)]) (st := []) cv_X2_108 ⟨_, _, rfl⟩ (by decide) rfl rfl (Nat.le_refl _) (Nat.le_of_ble_eq_true rfl) (by decide) dX2_readCells_68 rfl hF (fun h15 hF => ?_)
          refine q_aload_n (i := 0) dX2_readCells_71 rfl rfl ?_
          obtain ⟨c16, hrc16, hc16, hF⟩ := hF
          refine q_getR (k := c16) 3 3 fl_X2_36 (by decide) rfl rfl hrc16 dX2_readCells_72 ?_
          refine q_lload_n (i := 1) dX2_readCells_75 rfl rfl ?_
          refine q_l2i (v := (h1.L 22 5).toInt32) dX2_readCells_76 rfl ?_
          refine q_callVv (ci := 1) (o := c16) (As := [.int ((h1.L 22 5).toInt32)]) (st := []) cv_X2_126 ⟨_, _, rfl⟩ (q_cir_n hc16 0) (q_cir_K hc16) rfl (Nat.le_refl _) (Nat.le_of_ble_eq_true rfl) (by decide) dX2_readCells_77 rfl hF (fun h17 hF => ?_)
          refine q_aload_n (i := 0) dX2_readCells_80 rfl rfl ?_
          refine q_getP 3 0 22 fl_X2_14 (by decide) rfl rfl rfl dX2_readCells_81 ?_
          refine q_callVv (ci := 5) (o := 22) (As := []) (st := []) cv_X2_130 ⟨_, _, rfl⟩ (by decide) rfl rfl (Nat.le_refl _) (Nat.le_of_ble_eq_true rfl) (by decide) dX2_readCells_84 rfl hF (fun h18 hF => ?_)
          refine q_aload_n (i := 0) dX2_readCells_87 rfl rfl ?_
          refine q_getP 3 0 22 fl_X2_14 (by decide) rfl rfl rfl dX2_readCells_88 ?_
          refine q_bipush (v := 93) dX2_readCells_91 (by decide) ?_
          refine q_callVi (ci := 5) (o := 22) (As := [.int 93]) (st := []) cv_X2_87 ⟨_, _, rfl⟩ (by decide) rfl rfl (Nat.le_refl _) (Nat.le_of_ble_eq_true rfl) (by decide) dX2_readCells_93 rfl hF (fun r20 h19 hF => ?_)
          refine q_if_eq (tgt := 115) dX2_readCells_96 (by decide) (fun hb => ?_) (fun hb => ?_)
          · have hF := hF.1 hb
            refine q_iconst (v := 0) dX2_readCells_115 (by decide) ?_
            exact q_zret rfl (by decide) (by decide) (by decide) dX2_readCells_116 hF
          · have hF := hF.2 hb
            refine q_aload_n (i := 0) dX2_readCells_99 rfl rfl ?_
            refine q_getP 3 0 22 fl_X2_14 (by decide) rfl rfl rfl dX2_readCells_100 ?_
            refine q_bipush (v := 59) dX2_readCells_103 (by decide) ?_
            refine q_callVi (ci := 5) (o := 22) (As := [.int 59]) (st := []) cv_X2_87 ⟨_, _, rfl⟩ (by decide) rfl rfl (Nat.le_refl _) (Nat.le_of_ble_eq_true rfl) (by decide) dX2_readCells_105 rfl hF (fun r22 h21 hF => ?_)
            have K23 := q_ite (c := r22 = 0) (X := fun v => q_N0 G m_X2_readCells (d + 1) Q 116 [.ref 21, .long (h1.L 22 5), .null, .int (h1.I 22 4)] (.int v :: []) h21) (a := 0) (b := 1) (by
              exact q_zret rfl hF.1 (by decide) (by decide) dX2_readCells_116 hF.2)
            refine q_if_eq (tgt := 115) dX2_readCells_108 (by decide) (fun hb => ?_) (fun hb => ?_)
            · refine q_iconst (v := 0) dX2_readCells_115 (by decide) ?_
              exact K23.1 hb
            · refine q_iconst (v := 1) dX2_readCells_111 (by decide) ?_
              refine q_goto (tgt := 116) dX2_readCells_112 (by decide) ?_
              exact K23.2 hb)
        refine q_if_le (tgt := 66) dX2_readCells_58 (by decide) (fun hb => ?_) (fun hb => ?_)
        · refine q_iconst (v := 0) dX2_readCells_66 (by decide) ?_
          exact K14.1 hb
        · refine q_bipush (v := 6) dX2_readCells_61 (by decide) ?_
          refine q_goto (tgt := 67) dX2_readCells_63 (by decide) ?_
          exact K14.2 hb
    · have hF := hF.2 hb
      refine q_iconst (v := 0) dX2_readCells_41 (by decide) ?_
      exact q_zret rfl (by decide) (by decide) (by decide) dX2_readCells_42 hF
  · have hF := hF.2 hb
    refine q_iconst (v := 0) dX2_readCells_12 (by decide) ?_
    exact q_zret rfl (by decide) (by decide) (by decide) dX2_readCells_13 hF
def m_X2_readParameters : qm := (RX2, cX2_readParameters, 3, (some .boolean), [], false)
set_option maxRecDepth 100000 in
set_option maxHeartbeats 4000000 in
theorem x_X2_readParameters (G : qG) (d : Nat)  (h : qh) (Q : qr → qh → Prop)  (hF : q_M0 G d yX4_enter [.ref 22, .int 40] h (q_ri (fun r2 h1 => (¬ r2 = 0 → (q_N0 G m_X2_readParameters (d + 1) Q 34 [.ref 21, .int (if (h1.I 22 3) = 41 then (0 : Int32) else 1), .int 0] [] h1)) ∧ (r2 = 0 → (Q (.inl (some (.int 0))) h1))) (fun E h => Q (.inr E) h))) : q_M0 G (d + 1) yX2_readParameters [.ref 21] h Q := by
  refine q_of (M := m_X2_readParameters) (by decide +kernel) rfl rfl cd_X2_readParameters (by decide) (Nat.le_of_ble_eq_true rfl) ?_
  show q_N0 G m_X2_readParameters (d + 1) Q 0 [.ref 21, .null, .null] [] h
  refine q_aload_n (i := 0) dX2_readParameters_0 rfl rfl ?_
  refine q_getP 3 0 22 fl_X2_14 (by decide) rfl rfl rfl dX2_readParameters_1 ?_
  refine q_bipush (v := 40) dX2_readParameters_4 (by decide) ?_
  refine q_callVi (ci := 5) (o := 22) (As := [.int 40]) (st := []) cv_X2_115 ⟨_, _, rfl⟩ (by decide) rfl rfl (Nat.le_refl _) (Nat.le_of_ble_eq_true rfl) (by decide) dX2_readParameters_6 rfl hF (fun r2 h1 hF => ?_)
  refine q_if_ne (tgt := 14) dX2_readParameters_9 (by decide) (fun hb => ?_) (fun hb => ?_)
  · have hF := hF.1 hb
    refine q_aload_n (i := 0) dX2_readParameters_14 rfl rfl ?_
    refine q_getP 3 0 22 fl_X2_14 (by decide) rfl rfl rfl dX2_readParameters_15 ?_
    refine q_getIv (v := h1.I 22 3) 5 3 fl_X2_81 (by decide) rfl rfl (rfl) dX2_readParameters_18 ?_
    refine q_bipush (v := 41) dX2_readParameters_21 (by decide) ?_
    have K3 := q_ite (c := (h1.I 22 3) = 41) (X := fun v => q_N0 G m_X2_readParameters (d + 1) Q 31 [.ref 21, .null, .null] (.int v :: []) h1) (a := 0) (b := 1) (by
      refine q_istore_n (i := 1) dX2_readParameters_31 rfl (by decide) rfl ?_
      refine q_iconst (v := 0) dX2_readParameters_32 (by decide) ?_
      refine q_istore_n (i := 2) dX2_readParameters_33 rfl (by decide) rfl ?_
      exact hF)
    refine q_icmp_eq (tgt := 30) dX2_readParameters_23 (by decide) (fun hb => ?_) (fun hb => ?_)
    · refine q_iconst (v := 0) dX2_readParameters_30 (by decide) ?_
      exact K3.1 hb
    · refine q_iconst (v := 1) dX2_readParameters_26 (by decide) ?_
      refine q_goto (tgt := 31) dX2_readParameters_27 (by decide) ?_
      exact K3.2 hb
  · have hF := hF.2 hb
    refine q_iconst (v := 0) dX2_readParameters_12 (by decide) ?_
    exact q_zret rfl (by decide) (by decide) (by decide) dX2_readParameters_13 hF
set_option maxRecDepth 100000 in
set_option maxHeartbeats 4000000 in
theorem x_X2_readParameters_34 (G : qG) (d : Nat) (l1 : Int32) (l2 : Int32) (h : qh) (Q : qr → qh → Prop)  (hF : (2001 ≤ l2 → (q_M0 G d yX4_leave [.ref 22] h (q_rv (fun h4 => q_M0 G d yX4_pass [.ref 22, .int 41] h4 (q_ri (fun r6 h5 => (r6 = 0 ∨ r6 = 1) ∧ Q (.inl (some (.int r6))) h5) (fun E h => Q (.inr E) h))) (fun E h => Q (.inr E) h)))) ∧ (¬ 2001 ≤ l2 → ((l1 = 0 → (q_M0 G d yX4_leave [.ref 22] h (q_rv (fun h7 => q_M0 G d yX4_pass [.ref 22, .int 41] h7 (q_ri (fun r9 h8 => (r9 = 0 ∨ r9 = 1) ∧ Q (.inl (some (.int r9))) h8) (fun E h => Q (.inr E) h))) (fun E h => Q (.inr E) h)))) ∧ (¬ l1 = 0 → (q_M0 G d yX4_pass [.ref 22, .int 4] h (q_ri (fun r11 h10 => (r11 = 0 → (Q (.inl (some (.int 0))) h10)) ∧ (¬ r11 = 0 → (q_M0 G d yX2_readNewName [.ref 21] h10 (q_ri (fun r13 h12 => (¬ r13 = 0 → (∃ c14, h12.R 21 3 = some c14 ∧ q_cir c14 ∧ (q_M0 G d yX4_blame [.ref 22, .int (if (h12.I c14 9) < 4 then (0 : Int32) else 6), .int (h12.I 21 7)] h12 (q_rv (fun h16 => ∃ c17, h16.R 21 3 = some c17 ∧ q_cir c17 ∧ (q_M0 G d yX5_tell [.ref 23, .long (h16.L 21 6), .int 3, .int (h16.I c17 10)] h16 (q_rv (fun h18 => ∃ c19, h18.R 21 3 = some c19 ∧ q_cir c19 ∧ (((if (h18.I 22 3) = 44 then (1 : Int32) else 0) = 0 → (q_N0 G m_X2_readParameters (d + 1) Q 34 [.ref 21, .int (if (h18.I 22 3) = 44 then (1 : Int32) else 0), .int (l2 + 1)] [] ((h18.sI c19 9 ((h18.I c19 9) + 1)).sI c19 10 ((h18.I c19 10) + 1)))) ∧ (¬ (if (h18.I 22 3) = 44 then (1 : Int32) else 0) = 0 → (q_M0 G d yX4_advance [.ref 22] ((h18.sI c19 9 ((h18.I c19 9) + 1)).sI c19 10 ((h18.I c19 10) + 1)) (q_rv (fun h21 => q_N0 G m_X2_readParameters (d + 1) Q 34 [.ref 21, .int (if (h18.I 22 3) = 44 then (1 : Int32) else 0), .int (l2 + 1)] [] h21) (fun E h => Q (.inr E) h)))))) (fun E h => Q (.inr E) h)))) (fun E h => Q (.inr E) h))))) ∧ (r13 = 0 → (Q (.inl (some (.int 0))) h12))) (fun E h => Q (.inr E) h))))) (fun E h => Q (.inr E) h))))))) : q_N0 G m_X2_readParameters (d + 1) Q 34 [.ref 21, .int l1, .int l2] [] h := by
  refine q_iload_n (i := 2) dX2_readParameters_34 rfl rfl ?_
  refine q_sipush (v := 2001) dX2_readParameters_35 (by decide) ?_
  refine q_icmp_ge (tgt := 173) dX2_readParameters_38 (by decide) (fun hb => ?_) (fun hb => ?_)
  · have hF := hF.1 hb
    refine q_aload_n (i := 0) dX2_readParameters_173 rfl rfl ?_
    refine q_getP 3 0 22 fl_X2_14 (by decide) rfl rfl rfl dX2_readParameters_174 ?_
    refine q_callVv (ci := 5) (o := 22) (As := []) (st := []) cv_X2_130 ⟨_, _, rfl⟩ (by decide) rfl rfl (Nat.le_refl _) (Nat.le_of_ble_eq_true rfl) (by decide) dX2_readParameters_177 rfl hF (fun h4 hF => ?_)
    refine q_aload_n (i := 0) dX2_readParameters_180 rfl rfl ?_
    refine q_getP 3 0 22 fl_X2_14 (by decide) rfl rfl rfl dX2_readParameters_181 ?_
    refine q_bipush (v := 41) dX2_readParameters_184 (by decide) ?_
    refine q_callVi (ci := 5) (o := 22) (As := [.int 41]) (st := []) cv_X2_87 ⟨_, _, rfl⟩ (by decide) rfl rfl (Nat.le_refl _) (Nat.le_of_ble_eq_true rfl) (by decide) dX2_readParameters_186 rfl hF (fun r6 h5 hF => ?_)
    exact q_zret rfl hF.1 (by decide) (by decide) dX2_readParameters_189 hF.2
  · have hF := hF.2 hb
    refine q_iload_n (i := 1) dX2_readParameters_41 rfl rfl ?_
    refine q_if_eq (tgt := 173) dX2_readParameters_42 (by decide) (fun hb => ?_) (fun hb => ?_)
    · have hF := hF.1 hb
      refine q_aload_n (i := 0) dX2_readParameters_173 rfl rfl ?_
      refine q_getP 3 0 22 fl_X2_14 (by decide) rfl rfl rfl dX2_readParameters_174 ?_
      refine q_callVv (ci := 5) (o := 22) (As := []) (st := []) cv_X2_130 ⟨_, _, rfl⟩ (by decide) rfl rfl (Nat.le_refl _) (Nat.le_of_ble_eq_true rfl) (by decide) dX2_readParameters_177 rfl hF (fun h7 hF => ?_)
      refine q_aload_n (i := 0) dX2_readParameters_180 rfl rfl ?_
      refine q_getP 3 0 22 fl_X2_14 (by decide) rfl rfl rfl dX2_readParameters_181 ?_
      refine q_bipush (v := 41) dX2_readParameters_184 (by decide) ?_
      refine q_callVi (ci := 5) (o := 22) (As := [.int 41]) (st := []) cv_X2_87 ⟨_, _, rfl⟩ (by decide) rfl rfl (Nat.le_refl _) (Nat.le_of_ble_eq_true rfl) (by decide) dX2_readParameters_186 rfl hF (fun r9 h8 hF => ?_)
      exact q_zret rfl hF.1 (by decide) (by decide) dX2_readParameters_189 hF.2
    · have hF := hF.2 hb
      refine q_aload_n (i := 0) dX2_readParameters_45 rfl rfl ?_
      refine q_getP 3 0 22 fl_X2_14 (by decide) rfl rfl rfl dX2_readParameters_46 ?_
      refine q_iconst (v := 4) dX2_readParameters_49 (by decide) ?_
      refine q_callVi (ci := 5) (o := 22) (As := [.int 4]) (st := []) cv_X2_87 ⟨_, _, rfl⟩ (by decide) rfl rfl (Nat.le_refl _) (Nat.le_of_ble_eq_true rfl) (by decide) dX2_readParameters_50 rfl hF (fun r11 h10 hF => ?_)
      refine q_if_eq (tgt := 63) dX2_readParameters_53 (by decide) (fun hb => ?_) (fun hb => ?_)
      · have hF := hF.1 hb
        refine q_iconst (v := 0) dX2_readParameters_63 (by decide) ?_
        exact q_zret rfl (by decide) (by decide) (by decide) dX2_readParameters_64 hF
      · have hF := hF.2 hb
        refine q_aload_n (i := 0) dX2_readParameters_56 rfl rfl ?_
        refine q_callVi (ci := 3) (o := 21) (As := []) (st := []) cv_X2_91 ⟨_, _, rfl⟩ (by decide) rfl rfl (Nat.le_refl _) (Nat.le_of_ble_eq_true rfl) (by decide) dX2_readParameters_57 rfl hF (fun r13 h12 hF => ?_)
        refine q_if_ne (tgt := 65) dX2_readParameters_60 (by decide) (fun hb => ?_) (fun hb => ?_)
        · have hF := hF.1 hb
          refine q_aload_n (i := 0) dX2_readParameters_65 rfl rfl ?_
          refine q_getP 3 0 22 fl_X2_14 (by decide) rfl rfl rfl dX2_readParameters_66 ?_
          refine q_aload_n (i := 0) dX2_readParameters_69 rfl rfl ?_
          obtain ⟨c14, hrc14, hc14, hF⟩ := hF
          refine q_getR (k := c14) 3 3 fl_X2_36 (by decide) rfl rfl hrc14 dX2_readParameters_70 ?_
          refine q_getIv (v := h12.I c14 9) 1 9 fl_X2_133 (q_cir_n hc14 0) (q_cir_K hc14) rfl (rfl) dX2_readParameters_73 ?_
          refine q_iconst (v := 4) dX2_readParameters_76 (by decide) ?_
          have K15 := q_ite (c := (h12.I c14 9) < 4) (X := fun v => q_N0 G m_X2_readParameters (d + 1) Q 86 [.ref 21, .int l1, .int l2] (.int v :: [.ref 22]) h12) (a := 0) (b := 6) (by
            refine q_aload_n (i := 0) dX2_readParameters_86 rfl rfl ?_
            refine q_getIv (v := h12.I 21 7) 3 7 fl_X2_105 (by decide) rfl rfl (rfl) dX2_readParameters_87 ?_
            refine q_callVv (ci := 5) (o := 22) (As := [.int (if (h12.I c14 9) < 4 then (0 : Int32) else 6), .int (h12.I 21 7)]) (st := []) cv_X2_108 ⟨_, _, rfl⟩ (by decide) rfl rfl (Nat.le_refl _) (Nat.le_of_ble_eq_true rfl) (by decide) dX2_readParameters_90 rfl hF (fun h16 hF => ?_)
            refine q_aload_n (i := 0) dX2_readParameters_93 rfl rfl ?_
            refine q_getP 3 1 23 fl_X2_23 (by decide) rfl rfl rfl dX2_readParameters_94 ?_
            refine q_aload_n (i := 0) dX2_readParameters_97 rfl rfl ?_
            refine q_getLv (v := h16.L 21 6) 3 6 fl_X2_94 (by decide) rfl rfl (rfl) dX2_readParameters_98 ?_
            refine q_iconst (v := 3) dX2_readParameters_101 (by decide) ?_
            refine q_aload_n (i := 0) dX2_readParameters_102 rfl rfl ?_
            obtain ⟨c17, hrc17, hc17, hF⟩ := hF
            refine q_getR (k := c17) 3 3 fl_X2_36 (by decide) rfl rfl hrc17 dX2_readParameters_103 ?_
            refine q_getIv (v := h16.I c17 10) 1 10 fl_X2_136 (q_cir_n hc17 0) (q_cir_K hc17) rfl (rfl) dX2_readParameters_106 ?_
            refine q_callVv (ci := 6) (o := 23) (As := [.long (h16.L 21 6), .int 3, .int (h16.I c17 10)]) (st := []) cv_X2_98 ⟨_, _, rfl⟩ (by decide) rfl rfl (Nat.le_refl _) (Nat.le_of_ble_eq_true rfl) (by decide) dX2_readParameters_109 rfl hF (fun h18 hF => ?_)
            refine q_aload_n (i := 0) dX2_readParameters_112 rfl rfl ?_
            obtain ⟨c19, hrc19, hc19, hF⟩ := hF
            refine q_getR (k := c19) 3 3 fl_X2_36 (by decide) rfl rfl hrc19 dX2_readParameters_113 ?_
            refine q_dup dX2_readParameters_116 rfl ?_
            refine q_getIv (v := h18.I c19 9) 1 9 fl_X2_133 (q_cir_n hc19 0) (q_cir_K hc19) rfl (rfl) dX2_readParameters_117 ?_
            refine q_iconst (v := 1) dX2_readParameters_120 (by decide) ?_
            refine q_iadd dX2_readParameters_121 ?_
            refine q_putI 1 9 fp_X2_133 (Or.inr ⟨_, _, _, rfl, rfl⟩) (q_cir_n hc19 0) (q_cir_K hc19) rfl dX2_readParameters_122 ?_
            refine q_aload_n (i := 0) dX2_readParameters_125 rfl rfl ?_
            refine q_getR (k := c19) 3 3 fl_X2_36 (by decide) rfl rfl hrc19 dX2_readParameters_126 ?_
            refine q_dup dX2_readParameters_129 rfl ?_
            refine q_getIv (v := h18.I c19 10) 1 10 fl_X2_136 (q_cir_n hc19 0) (q_cir_K hc19) rfl ((q_I_nek (by decide)).trans (rfl)) dX2_readParameters_130 ?_
            refine q_iconst (v := 1) dX2_readParameters_133 (by decide) ?_
            refine q_iadd dX2_readParameters_134 ?_
            refine q_putI 1 10 fp_X2_136 (Or.inr ⟨_, _, _, rfl, rfl⟩) (q_cir_n hc19 0) (q_cir_K hc19) rfl dX2_readParameters_135 ?_
            refine q_aload_n (i := 0) dX2_readParameters_138 rfl rfl ?_
            refine q_getP 3 0 22 fl_X2_14 (by decide) rfl rfl rfl dX2_readParameters_139 ?_
            refine q_getIv (v := h18.I 22 3) 5 3 fl_X2_81 (by decide) rfl rfl ((q_I_neo (by rcases hc19 with rfl | rfl <;> decide)).trans ( (q_I_neo (by rcases hc19 with rfl | rfl <;> decide)).trans (rfl))) dX2_readParameters_142 ?_
            refine q_bipush (v := 44) dX2_readParameters_145 (by decide) ?_
            have K20 := q_ite (c := (h18.I 22 3) = 44) (X := fun v => q_N0 G m_X2_readParameters (d + 1) Q 155 [.ref 21, .int l1, .int l2] (.int v :: []) ((h18.sI c19 9 ((h18.I c19 9) + 1)).sI c19 10 ((h18.I c19 10) + 1))) (a := 1) (b := 0) (by
              refine q_istore_n (i := 1) dX2_readParameters_155 rfl (by decide) rfl ?_
              refine q_iload_n (i := 1) dX2_readParameters_156 rfl rfl ?_
              refine q_if_eq (tgt := 167) dX2_readParameters_157 (by decide) (fun hb => ?_) (fun hb => ?_)
              · have hF := hF.1 hb
                refine q_iinc (v := l2 + 1) dX2_readParameters_167 rfl rfl (by decide) rfl ?_
                refine q_goto (tgt := 34) dX2_readParameters_170 (by decide) ?_
                exact hF
              · have hF := hF.2 hb
                refine q_aload_n (i := 0) dX2_readParameters_160 rfl rfl ?_
                refine q_getP 3 0 22 fl_X2_14 (by decide) rfl rfl rfl dX2_readParameters_161 ?_
                refine q_callVv (ci := 5) (o := 22) (As := []) (st := []) cv_X2_139 ⟨_, _, rfl⟩ (by decide) rfl rfl (Nat.le_refl _) (Nat.le_of_ble_eq_true rfl) (by decide) dX2_readParameters_164 rfl hF (fun h21 hF => ?_)
                refine q_iinc (v := l2 + 1) dX2_readParameters_167 rfl rfl (by decide) rfl ?_
                refine q_goto (tgt := 34) dX2_readParameters_170 (by decide) ?_
                exact hF)
            refine q_icmp_ne (tgt := 154) dX2_readParameters_147 (by decide) (fun hb => ?_) (fun hb => ?_)
            · refine q_iconst (v := 0) dX2_readParameters_154 (by decide) ?_
              exact K20.2 hb
            · refine q_iconst (v := 1) dX2_readParameters_150 (by decide) ?_
              refine q_goto (tgt := 155) dX2_readParameters_151 (by decide) ?_
              exact K20.1 hb)
          refine q_icmp_lt (tgt := 85) dX2_readParameters_77 (by decide) (fun hb => ?_) (fun hb => ?_)
          · refine q_iconst (v := 0) dX2_readParameters_85 (by decide) ?_
            exact K15.1 hb
          · refine q_bipush (v := 6) dX2_readParameters_80 (by decide) ?_
            refine q_goto (tgt := 86) dX2_readParameters_82 (by decide) ?_
            exact K15.2 hb
        · have hF := hF.2 hb
          refine q_iconst (v := 0) dX2_readParameters_63 (by decide) ?_
          exact q_zret rfl (by decide) (by decide) (by decide) dX2_readParameters_64 hF
def m_X2_readNewName : qm := (RX2, cX2_readNewName, 1, (some .boolean), [], false)
set_option maxRecDepth 100000 in
set_option maxHeartbeats 4000000 in
theorem x_X2_readNewName (G : qG) (d : Nat)  (h : qh) (Q : qr → qh → Prop)  (hF : q_M0 G d yX4_pass [.ref 22, .int 2] ((h.sL 21 6 (h.L 22 5)).sI 21 7 (h.I 22 4)) (q_ri (fun r2 h1 => (¬ r2 = 0 → (q_M0 G d yX5_faultOfTelling [.ref 23, .long (h1.L 21 6)] h1 (q_ri (fun r4 h3 => q_M0 G d yX4_blame [.ref 22, .int r4, .int (h3.I 21 7)] h3 (q_rv (fun h5 => Q (.inl (some (.int 1))) h5) (fun E h => Q (.inr E) h))) (fun E h => Q (.inr E) h)))) ∧ (r2 = 0 → (Q (.inl (some (.int 0))) h1))) (fun E h => Q (.inr E) h))) : q_M0 G (d + 1) yX2_readNewName [.ref 21] h Q := by
  refine q_of (M := m_X2_readNewName) (by decide +kernel) rfl rfl cd_X2_readNewName (by decide) (Nat.le_of_ble_eq_true rfl) ?_
  show q_N0 G m_X2_readNewName (d + 1) Q 0 [.ref 21] [] h
  refine q_aload_n (i := 0) dX2_readNewName_0 rfl rfl ?_
  refine q_aload_n (i := 0) dX2_readNewName_1 rfl rfl ?_
  refine q_getP 3 0 22 fl_X2_14 (by decide) rfl rfl rfl dX2_readNewName_2 ?_
  refine q_getLv (v := h.L 22 5) 5 5 fl_X2_118 (by decide) rfl rfl (rfl) dX2_readNewName_5 ?_
  refine q_putL 3 6 fp_X2_94 (Or.inr ⟨_, _, _, rfl, rfl⟩) (by decide) rfl rfl dX2_readNewName_8 ?_
  refine q_aload_n (i := 0) dX2_readNewName_11 rfl rfl ?_
  refine q_aload_n (i := 0) dX2_readNewName_12 rfl rfl ?_
  refine q_getP 3 0 22 fl_X2_14 (by decide) rfl rfl rfl dX2_readNewName_13 ?_
  refine q_getIv (v := h.I 22 4) 5 4 fl_X2_121 (by decide) rfl rfl ((q_I_L).trans (rfl)) dX2_readNewName_16 ?_
  refine q_putI 3 7 fp_X2_105 (Or.inr ⟨_, _, _, rfl, rfl⟩) (by decide) rfl rfl dX2_readNewName_19 ?_
  refine q_aload_n (i := 0) dX2_readNewName_22 rfl rfl ?_
  refine q_getP 3 0 22 fl_X2_14 (by decide) rfl rfl rfl dX2_readNewName_23 ?_
  refine q_iconst (v := 2) dX2_readNewName_26 (by decide) ?_
  refine q_callVi (ci := 5) (o := 22) (As := [.int 2]) (st := []) cv_X2_87 ⟨_, _, rfl⟩ (by decide) rfl rfl (Nat.le_refl _) (Nat.le_of_ble_eq_true rfl) (by decide) dX2_readNewName_27 rfl hF (fun r2 h1 hF => ?_)
  refine q_if_ne (tgt := 35) dX2_readNewName_30 (by decide) (fun hb => ?_) (fun hb => ?_)
  · have hF := hF.1 hb
    refine q_aload_n (i := 0) dX2_readNewName_35 rfl rfl ?_
    refine q_getP 3 0 22 fl_X2_14 (by decide) rfl rfl rfl dX2_readNewName_36 ?_
    refine q_aload_n (i := 0) dX2_readNewName_39 rfl rfl ?_
    refine q_getP 3 1 23 fl_X2_23 (by decide) rfl rfl rfl dX2_readNewName_40 ?_
    refine q_aload_n (i := 0) dX2_readNewName_43 rfl rfl ?_
    refine q_getLv (v := h1.L 21 6) 3 6 fl_X2_94 (by decide) rfl rfl (rfl) dX2_readNewName_44 ?_
    refine q_callVi (ci := 6) (o := 23) (As := [.long (h1.L 21 6)]) (st := [.ref 22]) cv_X2_142 ⟨_, _, rfl⟩ (by decide) rfl rfl (Nat.le_refl _) (Nat.le_of_ble_eq_true rfl) (by decide) dX2_readNewName_47 rfl hF (fun r4 h3 hF => ?_)
    refine q_aload_n (i := 0) dX2_readNewName_50 rfl rfl ?_
    refine q_getIv (v := h3.I 21 7) 3 7 fl_X2_105 (by decide) rfl rfl (rfl) dX2_readNewName_51 ?_
    refine q_callVv (ci := 5) (o := 22) (As := [.int r4, .int (h3.I 21 7)]) (st := []) cv_X2_108 ⟨_, _, rfl⟩ (by decide) rfl rfl (Nat.le_refl _) (Nat.le_of_ble_eq_true rfl) (by decide) dX2_readNewName_54 rfl hF (fun h5 hF => ?_)
    refine q_iconst (v := 1) dX2_readNewName_57 (by decide) ?_
    exact q_zret rfl (by decide) (by decide) (by decide) dX2_readNewName_58 hF
  · have hF := hF.2 hb
    refine q_iconst (v := 0) dX2_readNewName_33 (by decide) ?_
    exact q_zret rfl (by decide) (by decide) (by decide) dX2_readNewName_34 hF
def m_X2_readBlock : qm := (RX2, cX2_readBlock, 3, (some .boolean), [], false)
set_option maxRecDepth 100000 in
set_option maxHeartbeats 4000000 in
theorem x_X2_readBlock (G : qG) (d : Nat)  (h : qh) (Q : qr → qh → Prop)  (hF : q_M0 G d yX4_enter [.ref 22, .int 123] h (q_ri (fun r2 h1 => (¬ r2 = 0 → (q_N0 G m_X2_readBlock (d + 1) Q 24 [.ref 21, .int (h1.I 23 3), .int 0] [] h1)) ∧ (r2 = 0 → (Q (.inl (some (.int 0))) h1))) (fun E h => Q (.inr E) h))) : q_M0 G (d + 1) yX2_readBlock [.ref 21] h Q := by
  refine q_of (M := m_X2_readBlock) (by decide +kernel) rfl rfl cd_X2_readBlock (by decide) (Nat.le_of_ble_eq_true rfl) ?_
  show q_N0 G m_X2_readBlock (d + 1) Q 0 [.ref 21, .null, .null] [] h
  refine q_aload_n (i := 0) dX2_readBlock_0 rfl rfl ?_
  refine q_getP 3 0 22 fl_X2_14 (by decide) rfl rfl rfl dX2_readBlock_1 ?_
  refine q_bipush (v := 123) dX2_readBlock_4 (by decide) ?_
  refine q_callVi (ci := 5) (o := 22) (As := [.int 123]) (st := []) cv_X2_115 ⟨_, _, rfl⟩ (by decide) rfl rfl (Nat.le_refl _) (Nat.le_of_ble_eq_true rfl) (by decide) dX2_readBlock_6 rfl hF (fun r2 h1 hF => ?_)
  refine q_if_ne (tgt := 14) dX2_readBlock_9 (by decide) (fun hb => ?_) (fun hb => ?_)
  · have hF := hF.1 hb
    refine q_aload_n (i := 0) dX2_readBlock_14 rfl rfl ?_
    refine q_getP 3 1 23 fl_X2_23 (by decide) rfl rfl rfl dX2_readBlock_15 ?_
    refine q_getIv (v := h1.I 23 3) 6 3 fl_X2_55 (by decide) rfl rfl (rfl) dX2_readBlock_18 ?_
    refine q_istore_n (i := 1) dX2_readBlock_21 rfl (by decide) rfl ?_
    refine q_iconst (v := 0) dX2_readBlock_22 (by decide) ?_
    refine q_istore_n (i := 2) dX2_readBlock_23 rfl (by decide) rfl ?_
    exact hF
  · have hF := hF.2 hb
    refine q_iconst (v := 0) dX2_readBlock_12 (by decide) ?_
    exact q_zret rfl (by decide) (by decide) (by decide) dX2_readBlock_13 hF
set_option maxRecDepth 100000 in
set_option maxHeartbeats 4000000 in
theorem x_X2_readBlock_24 (G : qG) (d : Nat) (l1 : Int32) (l2 : Int32) (h : qh) (Q : qr → qh → Prop)  (hF : (2001 ≤ l2 → (q_M0 G d yX4_leave [.ref 22] (h.sI 23 3 l1) (q_rv (fun h3 => q_M0 G d yX4_pass [.ref 22, .int 125] h3 (q_ri (fun r5 h4 => (r5 = 0 ∨ r5 = 1) ∧ Q (.inl (some (.int r5))) h4) (fun E h => Q (.inr E) h))) (fun E h => Q (.inr E) h)))) ∧ (¬ 2001 ≤ l2 → (((h.I 22 3) = 125 → (q_M0 G d yX4_leave [.ref 22] (h.sI 23 3 l1) (q_rv (fun h6 => q_M0 G d yX4_pass [.ref 22, .int 125] h6 (q_ri (fun r8 h7 => (r8 = 0 ∨ r8 = 1) ∧ Q (.inl (some (.int r8))) h7) (fun E h => Q (.inr E) h))) (fun E h => Q (.inr E) h)))) ∧ (¬ (h.I 22 3) = 125 → (q_M0 G d yX2_readStatement [.ref 21] h (q_ri (fun r10 h9 => (¬ r10 = 0 → (q_N0 G m_X2_readBlock (d + 1) Q 24 [.ref 21, .int l1, .int (l2 + 1)] [] h9)) ∧ (r10 = 0 → (Q (.inl (some (.int 0))) h9))) (fun E h => Q (.inr E) h))))))) : q_N0 G m_X2_readBlock (d + 1) Q 24 [.ref 21, .int l1, .int l2] [] h := by
  refine q_iload_n (i := 2) dX2_readBlock_24 rfl rfl ?_
  refine q_sipush (v := 2001) dX2_readBlock_25 (by decide) ?_
  refine q_icmp_ge (tgt := 58) dX2_readBlock_28 (by decide) (fun hb => ?_) (fun hb => ?_)
  · have hF := hF.1 hb
    refine q_aload_n (i := 0) dX2_readBlock_58 rfl rfl ?_
    refine q_getP 3 1 23 fl_X2_23 (by decide) rfl rfl rfl dX2_readBlock_59 ?_
    refine q_iload_n (i := 1) dX2_readBlock_62 rfl rfl ?_
    refine q_putI 6 3 fp_X2_55 (Or.inr ⟨_, _, _, rfl, rfl⟩) (by decide) rfl rfl dX2_readBlock_63 ?_
    refine q_aload_n (i := 0) dX2_readBlock_66 rfl rfl ?_
    refine q_getP 3 0 22 fl_X2_14 (by decide) rfl rfl rfl dX2_readBlock_67 ?_
    refine q_callVv (ci := 5) (o := 22) (As := []) (st := []) cv_X2_130 ⟨_, _, rfl⟩ (by decide) rfl rfl (Nat.le_refl _) (Nat.le_of_ble_eq_true rfl) (by decide) dX2_readBlock_70 rfl hF (fun h3 hF => ?_)
    refine q_aload_n (i := 0) dX2_readBlock_73 rfl rfl ?_
    refine q_getP 3 0 22 fl_X2_14 (by decide) rfl rfl rfl dX2_readBlock_74 ?_
    refine q_bipush (v := 125) dX2_readBlock_77 (by decide) ?_
    refine q_callVi (ci := 5) (o := 22) (As := [.int 125]) (st := []) cv_X2_87 ⟨_, _, rfl⟩ (by decide) rfl rfl (Nat.le_refl _) (Nat.le_of_ble_eq_true rfl) (by decide) dX2_readBlock_79 rfl hF (fun r5 h4 hF => ?_)
    exact q_zret rfl hF.1 (by decide) (by decide) dX2_readBlock_82 hF.2
  · have hF := hF.2 hb
    refine q_aload_n (i := 0) dX2_readBlock_31 rfl rfl ?_
    refine q_getP 3 0 22 fl_X2_14 (by decide) rfl rfl rfl dX2_readBlock_32 ?_
    refine q_getIv (v := h.I 22 3) 5 3 fl_X2_81 (by decide) rfl rfl (rfl) dX2_readBlock_35 ?_
    refine q_bipush (v := 125) dX2_readBlock_38 (by decide) ?_
    refine q_icmp_eq (tgt := 58) dX2_readBlock_40 (by decide) (fun hb => ?_) (fun hb => ?_)
    · have hF := hF.1 hb
      refine q_aload_n (i := 0) dX2_readBlock_58 rfl rfl ?_
      refine q_getP 3 1 23 fl_X2_23 (by decide) rfl rfl rfl dX2_readBlock_59 ?_
      refine q_iload_n (i := 1) dX2_readBlock_62 rfl rfl ?_
      refine q_putI 6 3 fp_X2_55 (Or.inr ⟨_, _, _, rfl, rfl⟩) (by decide) rfl rfl dX2_readBlock_63 ?_
      refine q_aload_n (i := 0) dX2_readBlock_66 rfl rfl ?_
      refine q_getP 3 0 22 fl_X2_14 (by decide) rfl rfl rfl dX2_readBlock_67 ?_
      refine q_callVv (ci := 5) (o := 22) (As := []) (st := []) cv_X2_130 ⟨_, _, rfl⟩ (by decide) rfl rfl (Nat.le_refl _) (Nat.le_of_ble_eq_true rfl) (by decide) dX2_readBlock_70 rfl hF (fun h6 hF => ?_)
      refine q_aload_n (i := 0) dX2_readBlock_73 rfl rfl ?_
      refine q_getP 3 0 22 fl_X2_14 (by decide) rfl rfl rfl dX2_readBlock_74 ?_
      refine q_bipush (v := 125) dX2_readBlock_77 (by decide) ?_
      refine q_callVi (ci := 5) (o := 22) (As := [.int 125]) (st := []) cv_X2_87 ⟨_, _, rfl⟩ (by decide) rfl rfl (Nat.le_refl _) (Nat.le_of_ble_eq_true rfl) (by decide) dX2_readBlock_79 rfl hF (fun r8 h7 hF => ?_)
      exact q_zret rfl hF.1 (by decide) (by decide) dX2_readBlock_82 hF.2
    · have hF := hF.2 hb
      refine q_aload_n (i := 0) dX2_readBlock_43 rfl rfl ?_
      refine q_callVi (ci := 3) (o := 21) (As := []) (st := []) cv_X2_146 ⟨_, _, rfl⟩ (by decide) rfl rfl (Nat.le_refl _) (Nat.le_of_ble_eq_true rfl) (by decide) dX2_readBlock_44 rfl hF (fun r10 h9 hF => ?_)
      refine q_if_ne (tgt := 52) dX2_readBlock_47 (by decide) (fun hb => ?_) (fun hb => ?_)
      · have hF := hF.1 hb
        refine q_iinc (v := l2 + 1) dX2_readBlock_52 rfl rfl (by decide) rfl ?_
        refine q_goto (tgt := 24) dX2_readBlock_55 (by decide) ?_
        exact hF
      · have hF := hF.2 hb
        refine q_iconst (v := 0) dX2_readBlock_50 (by decide) ?_
        exact q_zret rfl (by decide) (by decide) (by decide) dX2_readBlock_51 hF
def m_X2_readStatement : qm := (RX2, cX2_readStatement, 1, (some .boolean), [], false)
set_option maxRecDepth 100000 in
set_option maxHeartbeats 4000000 in
theorem x_X2_readStatement (G : qG) (d : Nat)  (h : qh) (Q : qr → qh → Prop)  (hF : ((h.I 22 3) = 2 → (q_M0 G d yX2_readSetting [.ref 21] h (q_ri (fun r4 h3 => (r4 = 0 ∨ r4 = 1) ∧ Q (.inl (some (.int r4))) h3) (fun E h => Q (.inr E) h)))) ∧ ((h.I 22 3) = 4 → (q_M0 G d yX2_readTelling [.ref 21] h (q_ri (fun r6 h5 => (r6 = 0 ∨ r6 = 1) ∧ Q (.inl (some (.int r6))) h5) (fun E h => Q (.inr E) h)))) ∧ ((h.I 22 3) = 5 → (q_M0 G d yX2_readIf [.ref 21] h (q_ri (fun r8 h7 => (r8 = 0 ∨ r8 = 1) ∧ Q (.inl (some (.int r8))) h7) (fun E h => Q (.inr E) h)))) ∧ ((h.I 22 3) = 7 → (q_M0 G d yX2_readWhile [.ref 21] h (q_ri (fun r10 h9 => (r10 = 0 ∨ r10 = 1) ∧ Q (.inl (some (.int r10))) h9) (fun E h => Q (.inr E) h)))) ∧ ((h.I 22 3) = 8 → (q_M0 G d yX2_readLeap [.ref 21, .int (h.I 21 5)] h (q_ri (fun r12 h11 => (r12 = 0 ∨ r12 = 1) ∧ Q (.inl (some (.int r12))) h11) (fun E h => Q (.inr E) h)))) ∧ ((h.I 22 3) = 9 → (q_M0 G d yX2_readLeap [.ref 21, .int (h.I 21 4)] h (q_ri (fun r14 h13 => (r14 = 0 ∨ r14 = 1) ∧ Q (.inl (some (.int r14))) h13) (fun E h => Q (.inr E) h)))) ∧ ((h.I 22 3) = 10 → (q_M0 G d yX2_readReturn [.ref 21] h (q_ri (fun r16 h15 => (r16 = 0 ∨ r16 = 1) ∧ Q (.inl (some (.int r16))) h15) (fun E h => Q (.inr E) h)))) ∧ ((h.I 22 3) = 123 → (q_M0 G d yX2_readBlock [.ref 21] h (q_ri (fun r18 h17 => (r18 = 0 ∨ r18 = 1) ∧ Q (.inl (some (.int r18))) h17) (fun E h => Q (.inr E) h)))) ∧ (¬ (h.I 22 3) = 2 ∧ ¬ (h.I 22 3) = 4 ∧ ¬ (h.I 22 3) = 5 ∧ ¬ (h.I 22 3) = 7 ∧ ¬ (h.I 22 3) = 8 ∧ ¬ (h.I 22 3) = 9 ∧ ¬ (h.I 22 3) = 10 ∧ ¬ (h.I 22 3) = 123 → (q_M0 G d yX4_refuse [.ref 22] h (q_ri (fun r20 h19 => (r20 = 0 ∨ r20 = 1) ∧ Q (.inl (some (.int r20))) h19) (fun E h => Q (.inr E) h))))) : q_M0 G (d + 1) yX2_readStatement [.ref 21] h Q := by
  refine q_of (M := m_X2_readStatement) (by decide +kernel) rfl rfl cd_X2_readStatement (by decide) (Nat.le_of_ble_eq_true rfl) ?_
  show q_N0 G m_X2_readStatement (d + 1) Q 0 [.ref 21] [] h
  refine q_aload_n (i := 0) dX2_readStatement_0 rfl rfl ?_
  refine q_getP 3 0 22 fl_X2_14 (by decide) rfl rfl rfl dX2_readStatement_1 ?_
  refine q_getIv (v := h.I 22 3) 5 3 fl_X2_81 (by decide) rfl rfl (rfl) dX2_readStatement_4 ?_
  refine q_by ((h.I 22 3) = 2) (fun hs1_0 => ?_) (fun hs1_0 => ?_)
  · have hF := hF.1 hs1_0
    refine q_lookup (tgt := 85) dX2_readStatement_7 (by decide) (by first | (rw [hs1_0]; done) | (rw [hs1_0]; rfl)) (by decide) ?_
    refine q_aload_n (i := 0) dX2_readStatement_85 rfl rfl ?_
    refine q_callVi (ci := 3) (o := 21) (As := []) (st := []) cv_X2_152 ⟨_, _, rfl⟩ (by decide) rfl rfl (Nat.le_refl _) (Nat.le_of_ble_eq_true rfl) (by decide) dX2_readStatement_86 rfl hF (fun r4 h3 hF => ?_)
    exact q_zret rfl hF.1 (by decide) (by decide) dX2_readStatement_89 hF.2
  have hF := hF.2
  refine q_by ((h.I 22 3) = 4) (fun hs1_1 => ?_) (fun hs1_1 => ?_)
  · have hF := hF.1 hs1_1
    refine q_lookup (tgt := 80) dX2_readStatement_7 (by decide) (by first | (rw [hs1_1]; done) | (rw [hs1_1]; rfl)) (by decide) ?_
    refine q_aload_n (i := 0) dX2_readStatement_80 rfl rfl ?_
    refine q_callVi (ci := 3) (o := 21) (As := []) (st := []) cv_X2_149 ⟨_, _, rfl⟩ (by decide) rfl rfl (Nat.le_refl _) (Nat.le_of_ble_eq_true rfl) (by decide) dX2_readStatement_81 rfl hF (fun r6 h5 hF => ?_)
    exact q_zret rfl hF.1 (by decide) (by decide) dX2_readStatement_84 hF.2
  have hF := hF.2
  refine q_by ((h.I 22 3) = 5) (fun hs1_2 => ?_) (fun hs1_2 => ?_)
  · have hF := hF.1 hs1_2
    refine q_lookup (tgt := 90) dX2_readStatement_7 (by decide) (by first | (rw [hs1_2]; done) | (rw [hs1_2]; rfl)) (by decide) ?_
    refine q_aload_n (i := 0) dX2_readStatement_90 rfl rfl ?_
    refine q_callVi (ci := 3) (o := 21) (As := []) (st := []) cv_X2_155 ⟨_, _, rfl⟩ (by decide) rfl rfl (Nat.le_refl _) (Nat.le_of_ble_eq_true rfl) (by decide) dX2_readStatement_91 rfl hF (fun r8 h7 hF => ?_)
    exact q_zret rfl hF.1 (by decide) (by decide) dX2_readStatement_94 hF.2
  have hF := hF.2
  refine q_by ((h.I 22 3) = 7) (fun hs1_3 => ?_) (fun hs1_3 => ?_)
  · have hF := hF.1 hs1_3
    refine q_lookup (tgt := 95) dX2_readStatement_7 (by decide) (by first | (rw [hs1_3]; done) | (rw [hs1_3]; rfl)) (by decide) ?_
    refine q_aload_n (i := 0) dX2_readStatement_95 rfl rfl ?_
    refine q_callVi (ci := 3) (o := 21) (As := []) (st := []) cv_X2_158 ⟨_, _, rfl⟩ (by decide) rfl rfl (Nat.le_refl _) (Nat.le_of_ble_eq_true rfl) (by decide) dX2_readStatement_96 rfl hF (fun r10 h9 hF => ?_)
    exact q_zret rfl hF.1 (by decide) (by decide) dX2_readStatement_99 hF.2
  have hF := hF.2
  refine q_by ((h.I 22 3) = 8) (fun hs1_4 => ?_) (fun hs1_4 => ?_)
  · have hF := hF.1 hs1_4
    refine q_lookup (tgt := 100) dX2_readStatement_7 (by decide) (by first | (rw [hs1_4]; done) | (rw [hs1_4]; rfl)) (by decide) ?_
    refine q_aload_n (i := 0) dX2_readStatement_100 rfl rfl ?_
    refine q_aload_n (i := 0) dX2_readStatement_101 rfl rfl ?_
    refine q_getIv (v := h.I 21 5) 3 5 fl_X2_64 (by decide) rfl rfl (rfl) dX2_readStatement_102 ?_
    refine q_callVi (ci := 3) (o := 21) (As := [.int (h.I 21 5)]) (st := []) cv_X2_161 ⟨_, _, rfl⟩ (by decide) rfl rfl (Nat.le_refl _) (Nat.le_of_ble_eq_true rfl) (by decide) dX2_readStatement_105 rfl hF (fun r12 h11 hF => ?_)
    exact q_zret rfl hF.1 (by decide) (by decide) dX2_readStatement_108 hF.2
  have hF := hF.2
  refine q_by ((h.I 22 3) = 9) (fun hs1_5 => ?_) (fun hs1_5 => ?_)
  · have hF := hF.1 hs1_5
    refine q_lookup (tgt := 109) dX2_readStatement_7 (by decide) (by first | (rw [hs1_5]; done) | (rw [hs1_5]; rfl)) (by decide) ?_
    refine q_aload_n (i := 0) dX2_readStatement_109 rfl rfl ?_
    refine q_aload_n (i := 0) dX2_readStatement_110 rfl rfl ?_
    refine q_getIv (v := h.I 21 4) 3 4 fl_X2_61 (by decide) rfl rfl (rfl) dX2_readStatement_111 ?_
    refine q_callVi (ci := 3) (o := 21) (As := [.int (h.I 21 4)]) (st := []) cv_X2_161 ⟨_, _, rfl⟩ (by decide) rfl rfl (Nat.le_refl _) (Nat.le_of_ble_eq_true rfl) (by decide) dX2_readStatement_114 rfl hF (fun r14 h13 hF => ?_)
    exact q_zret rfl hF.1 (by decide) (by decide) dX2_readStatement_117 hF.2
  have hF := hF.2
  refine q_by ((h.I 22 3) = 10) (fun hs1_6 => ?_) (fun hs1_6 => ?_)
  · have hF := hF.1 hs1_6
    refine q_lookup (tgt := 118) dX2_readStatement_7 (by decide) (by first | (rw [hs1_6]; done) | (rw [hs1_6]; rfl)) (by decide) ?_
    refine q_aload_n (i := 0) dX2_readStatement_118 rfl rfl ?_
    refine q_callVi (ci := 3) (o := 21) (As := []) (st := []) cv_X2_164 ⟨_, _, rfl⟩ (by decide) rfl rfl (Nat.le_refl _) (Nat.le_of_ble_eq_true rfl) (by decide) dX2_readStatement_119 rfl hF (fun r16 h15 hF => ?_)
    exact q_zret rfl hF.1 (by decide) (by decide) dX2_readStatement_122 hF.2
  have hF := hF.2
  refine q_by ((h.I 22 3) = 123) (fun hs1_7 => ?_) (fun hs1_7 => ?_)
  · have hF := hF.1 hs1_7
    refine q_lookup (tgt := 123) dX2_readStatement_7 (by decide) (by first | (rw [hs1_7]; done) | (rw [hs1_7]; rfl)) (by decide) ?_
    refine q_aload_n (i := 0) dX2_readStatement_123 rfl rfl ?_
    refine q_callVi (ci := 3) (o := 21) (As := []) (st := []) cv_X2_78 ⟨_, _, rfl⟩ (by decide) rfl rfl (Nat.le_refl _) (Nat.le_of_ble_eq_true rfl) (by decide) dX2_readStatement_124 rfl hF (fun r18 h17 hF => ?_)
    exact q_zret rfl hF.1 (by decide) (by decide) dX2_readStatement_127 hF.2
  have hF := hF.2
  refine q_lookup (off := 121) (tgt := 128) dX2_readStatement_7 (by decide) (by first | (rw [lv_osw hs1_0 (a := 2) (by decide), lv_osw hs1_1 (a := 4) (by decide), lv_osw hs1_2 (a := 5) (by decide), lv_osw hs1_3 (a := 7) (by decide), lv_osw hs1_4 (a := 8) (by decide), lv_osw hs1_5 (a := 9) (by decide), lv_osw hs1_6 (a := 10) (by decide), lv_osw hs1_7 (a := 123) (by decide)]; done) | (rw [lv_osw hs1_0 (a := 2) (by decide), lv_osw hs1_1 (a := 4) (by decide), lv_osw hs1_2 (a := 5) (by decide), lv_osw hs1_3 (a := 7) (by decide), lv_osw hs1_4 (a := 8) (by decide), lv_osw hs1_5 (a := 9) (by decide), lv_osw hs1_6 (a := 10) (by decide), lv_osw hs1_7 (a := 123) (by decide)]; rfl)) (by decide) ?_
  have hF := hF ⟨hs1_0, hs1_1, hs1_2, hs1_3, hs1_4, hs1_5, hs1_6, hs1_7⟩
  refine q_aload_n (i := 0) dX2_readStatement_128 rfl rfl ?_
  refine q_getP 3 0 22 fl_X2_14 (by decide) rfl rfl rfl dX2_readStatement_129 ?_
  refine q_callVi (ci := 5) (o := 22) (As := []) (st := []) cv_X2_84 ⟨_, _, rfl⟩ (by decide) rfl rfl (Nat.le_refl _) (Nat.le_of_ble_eq_true rfl) (by decide) dX2_readStatement_132 rfl hF (fun r20 h19 hF => ?_)
  exact q_zret rfl hF.1 (by decide) (by decide) dX2_readStatement_135 hF.2
def m_X2_readTelling : qm := (RX2, cX2_readTelling, 2, (some .boolean), [], false)
set_option maxRecDepth 100000 in
set_option maxHeartbeats 4000000 in
theorem x_X2_readTelling (G : qG) (d : Nat)  (h : qh) (Q : qr → qh → Prop)  (hF : q_M0 G d yX4_advance [.ref 22] h (q_rv (fun h1 => q_M0 G d yX2_readNewName [.ref 21] h1 (q_ri (fun r3 h2 => (¬ r3 = 0 → (∃ c4, h2.R 21 3 = some c4 ∧ q_cir c4 ∧ (q_M0 G d yX4_blame [.ref 22, .int (if (h2.I c4 10) < 16 then (0 : Int32) else 6), .int (h2.I 21 7)] h2 (q_rv (fun h6 => ∃ c7, h6.R 21 3 = some c7 ∧ q_cir c7 ∧ (q_M0 G d yX4_pass [.ref 22, .int 61] (h6.sI c7 10 ((h6.I c7 10) + 1)) (q_ri (fun r9 h8 => (r9 = 0 → (Q (.inl (some (.int 0))) h8)) ∧ (¬ r9 = 0 → (q_M0 G d yX1_read [.ref 27] h8 (q_ri (fun r11 h10 => (r11 = 0 → (Q (.inl (some (.int 0))) h10)) ∧ (¬ r11 = 0 → (q_M0 G d yX4_pass [.ref 22, .int 59] h10 (q_ri (fun r13 h12 => (¬ r13 = 0 → (∃ c14, h12.R 21 3 = some c14 ∧ q_cir c14 ∧ (q_M0 G d yX1_result [.ref 27] h12 (q_ri (fun r16 h15 => q_M0 G d yX0_lay [.ref c14, .int 4, .int r16, .int (-1), .int (h6.I c7 10)] h15 (q_ri (fun r18 h17 => q_M0 G d yX5_tell [.ref 23, .long (h17.L 21 6), .int 3, .int (h6.I c7 10)] h17 (q_rv (fun h19 => Q (.inl (some (.int 1))) h19) (fun E h => Q (.inr E) h))) (fun E h => Q (.inr E) h))) (fun E h => Q (.inr E) h))))) ∧ (r13 = 0 → (Q (.inl (some (.int 0))) h12))) (fun E h => Q (.inr E) h))))) (fun E h => Q (.inr E) h))))) (fun E h => Q (.inr E) h)))) (fun E h => Q (.inr E) h))))) ∧ (r3 = 0 → (Q (.inl (some (.int 0))) h2))) (fun E h => Q (.inr E) h))) (fun E h => Q (.inr E) h))) : q_M0 G (d + 1) yX2_readTelling [.ref 21] h Q := by
  refine q_of (M := m_X2_readTelling) (by decide +kernel) rfl rfl cd_X2_readTelling (by decide) (Nat.le_of_ble_eq_true rfl) ?_
  show q_N0 G m_X2_readTelling (d + 1) Q 0 [.ref 21, .null] [] h
  refine q_aload_n (i := 0) dX2_readTelling_0 rfl rfl ?_
  refine q_getP 3 0 22 fl_X2_14 (by decide) rfl rfl rfl dX2_readTelling_1 ?_
  refine q_callVv (ci := 5) (o := 22) (As := []) (st := []) cv_X2_139 ⟨_, _, rfl⟩ (by decide) rfl rfl (Nat.le_refl _) (Nat.le_of_ble_eq_true rfl) (by decide) dX2_readTelling_4 rfl hF (fun h1 hF => ?_)
  refine q_aload_n (i := 0) dX2_readTelling_7 rfl rfl ?_
  refine q_callVi (ci := 3) (o := 21) (As := []) (st := []) cv_X2_91 ⟨_, _, rfl⟩ (by decide) rfl rfl (Nat.le_refl _) (Nat.le_of_ble_eq_true rfl) (by decide) dX2_readTelling_8 rfl hF (fun r3 h2 hF => ?_)
  refine q_if_ne (tgt := 16) dX2_readTelling_11 (by decide) (fun hb => ?_) (fun hb => ?_)
  · have hF := hF.1 hb
    refine q_aload_n (i := 0) dX2_readTelling_16 rfl rfl ?_
    refine q_getP 3 0 22 fl_X2_14 (by decide) rfl rfl rfl dX2_readTelling_17 ?_
    refine q_aload_n (i := 0) dX2_readTelling_20 rfl rfl ?_
    obtain ⟨c4, hrc4, hc4, hF⟩ := hF
    refine q_getR (k := c4) 3 3 fl_X2_36 (by decide) rfl rfl hrc4 dX2_readTelling_21 ?_
    refine q_getIv (v := h2.I c4 10) 1 10 fl_X2_136 (q_cir_n hc4 0) (q_cir_K hc4) rfl (rfl) dX2_readTelling_24 ?_
    refine q_bipush (v := 16) dX2_readTelling_27 (by decide) ?_
    have K5 := q_ite (c := (h2.I c4 10) < 16) (X := fun v => q_N0 G m_X2_readTelling (d + 1) Q 38 [.ref 21, .null] (.int v :: [.ref 22]) h2) (a := 0) (b := 6) (by
      refine q_aload_n (i := 0) dX2_readTelling_38 rfl rfl ?_
      refine q_getIv (v := h2.I 21 7) 3 7 fl_X2_105 (by decide) rfl rfl (rfl) dX2_readTelling_39 ?_
      refine q_callVv (ci := 5) (o := 22) (As := [.int (if (h2.I c4 10) < 16 then (0 : Int32) else 6), .int (h2.I 21 7)]) (st := []) cv_X2_108 ⟨_, _, rfl⟩ (by decide) rfl rfl (Nat.le_refl _) (Nat.le_of_ble_eq_true rfl) (by decide) dX2_readTelling_42 rfl hF (fun h6 hF => ?_)
      refine q_aload_n (i := 0) dX2_readTelling_45 rfl rfl ?_
      obtain ⟨c7, hrc7, hc7, hF⟩ := hF
      refine q_getR (k := c7) 3 3 fl_X2_36 (by decide) rfl rfl hrc7 dX2_readTelling_46 ?_
      refine q_getIv (v := h6.I c7 10) 1 10 fl_X2_136 (q_cir_n hc7 0) (q_cir_K hc7) rfl (rfl) dX2_readTelling_49 ?_
      refine q_istore_n (i := 1) dX2_readTelling_52 rfl (by decide) rfl ?_
      refine q_aload_n (i := 0) dX2_readTelling_53 rfl rfl ?_
      refine q_getR (k := c7) 3 3 fl_X2_36 (by decide) rfl rfl hrc7 dX2_readTelling_54 ?_
      refine q_dup dX2_readTelling_57 rfl ?_
      refine q_getIv (v := h6.I c7 10) 1 10 fl_X2_136 (q_cir_n hc7 0) (q_cir_K hc7) rfl (rfl) dX2_readTelling_58 ?_
      refine q_iconst (v := 1) dX2_readTelling_61 (by decide) ?_
      refine q_iadd dX2_readTelling_62 ?_
      refine q_putI 1 10 fp_X2_136 (Or.inr ⟨_, _, _, rfl, rfl⟩) (q_cir_n hc7 0) (q_cir_K hc7) rfl dX2_readTelling_63 ?_
      refine q_aload_n (i := 0) dX2_readTelling_66 rfl rfl ?_
      refine q_getP 3 0 22 fl_X2_14 (by decide) rfl rfl rfl dX2_readTelling_67 ?_
      refine q_bipush (v := 61) dX2_readTelling_70 (by decide) ?_
      refine q_callVi (ci := 5) (o := 22) (As := [.int 61]) (st := []) cv_X2_87 ⟨_, _, rfl⟩ (by decide) rfl rfl (Nat.le_refl _) (Nat.le_of_ble_eq_true rfl) (by decide) dX2_readTelling_72 rfl hF (fun r9 h8 hF => ?_)
      refine q_if_eq (tgt := 100) dX2_readTelling_75 (by decide) (fun hb => ?_) (fun hb => ?_)
      · have hF := hF.1 hb
        refine q_iconst (v := 0) dX2_readTelling_100 (by decide) ?_
        exact q_zret rfl (by decide) (by decide) (by decide) dX2_readTelling_101 hF
      · have hF := hF.2 hb
        refine q_aload_n (i := 0) dX2_readTelling_78 rfl rfl ?_
        refine q_getP 3 2 27 fl_X2_32 (by decide) rfl rfl rfl dX2_readTelling_79 ?_
        refine q_callVi (ci := 2) (o := 27) (As := []) (st := []) cv_X2_167 ⟨_, _, rfl⟩ (by decide) rfl rfl (Nat.le_refl _) (Nat.le_of_ble_eq_true rfl) (by decide) dX2_readTelling_82 rfl hF (fun r11 h10 hF => ?_)
        refine q_if_eq (tgt := 100) dX2_readTelling_85 (by decide) (fun hb => ?_) (fun hb => ?_)
        · have hF := hF.1 hb
          refine q_iconst (v := 0) dX2_readTelling_100 (by decide) ?_
          exact q_zret rfl (by decide) (by decide) (by decide) dX2_readTelling_101 hF
        · have hF := hF.2 hb
          refine q_aload_n (i := 0) dX2_readTelling_88 rfl rfl ?_
          refine q_getP 3 0 22 fl_X2_14 (by decide) rfl rfl rfl dX2_readTelling_89 ?_
          refine q_bipush (v := 59) dX2_readTelling_92 (by decide) ?_
          refine q_callVi (ci := 5) (o := 22) (As := [.int 59]) (st := []) cv_X2_87 ⟨_, _, rfl⟩ (by decide) rfl rfl (Nat.le_refl _) (Nat.le_of_ble_eq_true rfl) (by decide) dX2_readTelling_94 rfl hF (fun r13 h12 hF => ?_)
          refine q_if_ne (tgt := 102) dX2_readTelling_97 (by decide) (fun hb => ?_) (fun hb => ?_)
          · have hF := hF.1 hb
            refine q_aload_n (i := 0) dX2_readTelling_102 rfl rfl ?_
            obtain ⟨c14, hrc14, hc14, hF⟩ := hF
            refine q_getR (k := c14) 3 3 fl_X2_36 (by decide) rfl rfl hrc14 dX2_readTelling_103 ?_
            refine q_iconst (v := 4) dX2_readTelling_106 (by decide) ?_
            refine q_aload_n (i := 0) dX2_readTelling_107 rfl rfl ?_
            refine q_getP 3 2 27 fl_X2_32 (by decide) rfl rfl rfl dX2_readTelling_108 ?_
            refine q_callVi (ci := 2) (o := 27) (As := []) (st := [.int 4, .ref c14]) cv_X2_170 ⟨_, _, rfl⟩ (by decide) rfl rfl (Nat.le_refl _) (Nat.le_of_ble_eq_true rfl) (by decide) dX2_readTelling_111 rfl hF (fun r16 h15 hF => ?_)
            refine q_iconst (v := (-1)) dX2_readTelling_114 (by decide) ?_
            refine q_iload_n (i := 1) dX2_readTelling_115 rfl rfl ?_
            refine q_callVi (ci := 1) (o := c14) (As := [.int 4, .int r16, .int (-1), .int (h6.I c7 10)]) (st := []) cv_X2_74 ⟨_, _, rfl⟩ (q_cir_n hc14 0) (q_cir_K hc14) rfl (Nat.le_refl _) (Nat.le_of_ble_eq_true rfl) (by decide) dX2_readTelling_116 rfl hF (fun r18 h17 hF => ?_)
            refine q_pop dX2_readTelling_119 rfl ?_
            refine q_aload_n (i := 0) dX2_readTelling_120 rfl rfl ?_
            refine q_getP 3 1 23 fl_X2_23 (by decide) rfl rfl rfl dX2_readTelling_121 ?_
            refine q_aload_n (i := 0) dX2_readTelling_124 rfl rfl ?_
            refine q_getLv (v := h17.L 21 6) 3 6 fl_X2_94 (by decide) rfl rfl (rfl) dX2_readTelling_125 ?_
            refine q_iconst (v := 3) dX2_readTelling_128 (by decide) ?_
            refine q_iload_n (i := 1) dX2_readTelling_129 rfl rfl ?_
            refine q_callVv (ci := 6) (o := 23) (As := [.long (h17.L 21 6), .int 3, .int (h6.I c7 10)]) (st := []) cv_X2_98 ⟨_, _, rfl⟩ (by decide) rfl rfl (Nat.le_refl _) (Nat.le_of_ble_eq_true rfl) (by decide) dX2_readTelling_130 rfl hF (fun h19 hF => ?_)
            refine q_iconst (v := 1) dX2_readTelling_133 (by decide) ?_
            exact q_zret rfl (by decide) (by decide) (by decide) dX2_readTelling_134 hF
          · have hF := hF.2 hb
            refine q_iconst (v := 0) dX2_readTelling_100 (by decide) ?_
            exact q_zret rfl (by decide) (by decide) (by decide) dX2_readTelling_101 hF)
    refine q_icmp_lt (tgt := 37) dX2_readTelling_29 (by decide) (fun hb => ?_) (fun hb => ?_)
    · refine q_iconst (v := 0) dX2_readTelling_37 (by decide) ?_
      exact K5.1 hb
    · refine q_bipush (v := 6) dX2_readTelling_32 (by decide) ?_
      refine q_goto (tgt := 38) dX2_readTelling_34 (by decide) ?_
      exact K5.2 hb
  · have hF := hF.2 hb
    refine q_iconst (v := 0) dX2_readTelling_14 (by decide) ?_
    exact q_zret rfl (by decide) (by decide) (by decide) dX2_readTelling_15 hF
def m_X2_readSetting : qm := (RX2, cX2_readSetting, 6, (some .boolean), [], false)
set_option maxRecDepth 100000 in
set_option maxHeartbeats 4000000 in
theorem x_X2_readSetting (G : qG) (d : Nat)  (h : qh) (Q : qr → qh → Prop)  (hF : q_M0 G d yX5_find [.ref 23, .long (h.L 22 5)] h (q_ri (fun r2 h1 => q_M0 G d yX4_advance [.ref 22] h1 (q_rv (fun h3 => q_M0 G d yX5_faultOfUse [.ref 23, .int r2, .int (if (h3.I 22 3) = 91 then (1 : Int32) else 0)] h3 (q_ri (fun r6 h5 => q_M0 G d yX4_blame [.ref 22, .int r6, .int (h1.I 22 4)] h5 (q_rv (fun h7 => ((if (h3.I 22 3) = 91 then (1 : Int32) else 0) = 0 → (q_M0 G d yX4_pass [.ref 22, .int 61] h7 (q_ri (fun r9 h8 => (r9 = 0 → (Q (.inl (some (.int 0))) h8)) ∧ (¬ r9 = 0 → (q_M0 G d yX1_read [.ref 27] h8 (q_ri (fun r11 h10 => (r11 = 0 → (Q (.inl (some (.int 0))) h10)) ∧ (¬ r11 = 0 → (q_M0 G d yX4_pass [.ref 22, .int 59] h10 (q_ri (fun r13 h12 => (¬ r13 = 0 → (q_M0 G d yX1_result [.ref 27] h12 (q_ri (fun r15 h14 => ((if (h3.I 22 3) = 91 then (1 : Int32) else 0) = 0 → (∃ c16, h14.R 21 3 = some c16 ∧ q_cir c16 ∧ (q_M0 G d yX5_numberOf [.ref 23, .int r2] h14 (q_ri (fun r18 h17 => q_M0 G d yX0_lay [.ref c16, .int 4, .int r15, .int (-1), .int r18] h17 (q_ri (fun r20 h19 => Q (.inl (some (.int 1))) h19) (fun E h => Q (.inr E) h))) (fun E h => Q (.inr E) h))))) ∧ (¬ (if (h3.I 22 3) = 91 then (1 : Int32) else 0) = 0 → (∃ c21, h14.R 21 3 = some c21 ∧ q_cir c21 ∧ (q_M0 G d yX5_numberOf [.ref 23, .int r2] h14 (q_ri (fun r23 h22 => q_M0 G d yX0_lay [.ref c21, .int 5, .int (-1), .int r15, .int r23] h22 (q_ri (fun r25 h24 => Q (.inl (some (.int 1))) h24) (fun E h => Q (.inr E) h))) (fun E h => Q (.inr E) h)))))) (fun E h => Q (.inr E) h)))) ∧ (r13 = 0 → (Q (.inl (some (.int 0))) h12))) (fun E h => Q (.inr E) h))))) (fun E h => Q (.inr E) h))))) (fun E h => Q (.inr E) h)))) ∧ (¬ (if (h3.I 22 3) = 91 then (1 : Int32) else 0) = 0 → (q_M0 G d yX4_enter [.ref 22, .int 91] h7 (q_ri (fun r27 h26 => (r27 = 0 → (Q (.inl (some (.int 0))) h26)) ∧ (¬ r27 = 0 → (q_M0 G d yX1_read [.ref 27] h26 (q_ri (fun r29 h28 => (r29 = 0 → (Q (.inl (some (.int 0))) h28)) ∧ (¬ r29 = 0 → (q_M0 G d yX4_pass [.ref 22, .int 93] h28 (q_ri (fun r31 h30 => (¬ r31 = 0 → (q_M0 G d yX4_leave [.ref 22] h30 (q_rv (fun h32 => q_M0 G d yX1_result [.ref 27] h32 (q_ri (fun r34 h33 => q_M0 G d yX4_pass [.ref 22, .int 61] h33 (q_ri (fun r36 h35 => (r36 = 0 → (Q (.inl (some (.int 0))) h35)) ∧ (¬ r36 = 0 → (q_M0 G d yX1_read [.ref 27] h35 (q_ri (fun r38 h37 => (r38 = 0 → (Q (.inl (some (.int 0))) h37)) ∧ (¬ r38 = 0 → (q_M0 G d yX4_pass [.ref 22, .int 59] h37 (q_ri (fun r40 h39 => (¬ r40 = 0 → (q_M0 G d yX1_result [.ref 27] h39 (q_ri (fun r42 h41 => ((if (h3.I 22 3) = 91 then (1 : Int32) else 0) = 0 → (∃ c43, h41.R 21 3 = some c43 ∧ q_cir c43 ∧ (q_M0 G d yX5_numberOf [.ref 23, .int r2] h41 (q_ri (fun r45 h44 => q_M0 G d yX0_lay [.ref c43, .int 4, .int r42, .int (-1), .int r45] h44 (q_ri (fun r47 h46 => Q (.inl (some (.int 1))) h46) (fun E h => Q (.inr E) h))) (fun E h => Q (.inr E) h))))) ∧ (¬ (if (h3.I 22 3) = 91 then (1 : Int32) else 0) = 0 → (∃ c48, h41.R 21 3 = some c48 ∧ q_cir c48 ∧ (q_M0 G d yX5_numberOf [.ref 23, .int r2] h41 (q_ri (fun r50 h49 => q_M0 G d yX0_lay [.ref c48, .int 5, .int r34, .int r42, .int r50] h49 (q_ri (fun r52 h51 => Q (.inl (some (.int 1))) h51) (fun E h => Q (.inr E) h))) (fun E h => Q (.inr E) h)))))) (fun E h => Q (.inr E) h)))) ∧ (r40 = 0 → (Q (.inl (some (.int 0))) h39))) (fun E h => Q (.inr E) h))))) (fun E h => Q (.inr E) h))))) (fun E h => Q (.inr E) h))) (fun E h => Q (.inr E) h))) (fun E h => Q (.inr E) h)))) ∧ (r31 = 0 → (Q (.inl (some (.int 0))) h30))) (fun E h => Q (.inr E) h))))) (fun E h => Q (.inr E) h))))) (fun E h => Q (.inr E) h))))) (fun E h => Q (.inr E) h))) (fun E h => Q (.inr E) h))) (fun E h => Q (.inr E) h))) (fun E h => Q (.inr E) h))) : q_M0 G (d + 1) yX2_readSetting [.ref 21] h Q := by
  refine q_of (M := m_X2_readSetting) (by decide +kernel) rfl rfl cd_X2_readSetting (by decide) (Nat.le_of_ble_eq_true rfl) ?_
  show q_N0 G m_X2_readSetting (d + 1) Q 0 [.ref 21, .null, .null, .null, .null, .null] [] h
  refine q_aload_n (i := 0) dX2_readSetting_0 rfl rfl ?_
  refine q_getP 3 1 23 fl_X2_23 (by decide) rfl rfl rfl dX2_readSetting_1 ?_
  refine q_aload_n (i := 0) dX2_readSetting_4 rfl rfl ?_
  refine q_getP 3 0 22 fl_X2_14 (by decide) rfl rfl rfl dX2_readSetting_5 ?_
  refine q_getLv (v := h.L 22 5) 5 5 fl_X2_118 (by decide) rfl rfl (rfl) dX2_readSetting_8 ?_
  refine q_callVi (ci := 6) (o := 23) (As := [.long (h.L 22 5)]) (st := []) cv_X2_174 ⟨_, _, rfl⟩ (by decide) rfl rfl (Nat.le_refl _) (Nat.le_of_ble_eq_true rfl) (by decide) dX2_readSetting_11 rfl hF (fun r2 h1 hF => ?_)
  refine q_istore_n (i := 1) dX2_readSetting_14 rfl (by decide) rfl ?_
  refine q_aload_n (i := 0) dX2_readSetting_15 rfl rfl ?_
  refine q_getP 3 0 22 fl_X2_14 (by decide) rfl rfl rfl dX2_readSetting_16 ?_
  refine q_getIv (v := h1.I 22 4) 5 4 fl_X2_121 (by decide) rfl rfl (rfl) dX2_readSetting_19 ?_
  refine q_istore_n (i := 2) dX2_readSetting_22 rfl (by decide) rfl ?_
  refine q_aload_n (i := 0) dX2_readSetting_23 rfl rfl ?_
  refine q_getP 3 0 22 fl_X2_14 (by decide) rfl rfl rfl dX2_readSetting_24 ?_
  refine q_callVv (ci := 5) (o := 22) (As := []) (st := []) cv_X2_139 ⟨_, _, rfl⟩ (by decide) rfl rfl (Nat.le_refl _) (Nat.le_of_ble_eq_true rfl) (by decide) dX2_readSetting_27 rfl hF (fun h3 hF => ?_)
  refine q_aload_n (i := 0) dX2_readSetting_30 rfl rfl ?_
  refine q_getP 3 0 22 fl_X2_14 (by decide) rfl rfl rfl dX2_readSetting_31 ?_
  refine q_getIv (v := h3.I 22 3) 5 3 fl_X2_81 (by decide) rfl rfl (rfl) dX2_readSetting_34 ?_
  refine q_bipush (v := 91) dX2_readSetting_37 (by decide) ?_
  have K4 := q_ite (c := (h3.I 22 3) = 91) (X := fun v => q_N0 G m_X2_readSetting (d + 1) Q 47 [.ref 21, .int r2, .int (h1.I 22 4), .null, .null, .null] (.int v :: []) h3) (a := 1) (b := 0) (by
    refine q_istore_n (i := 3) dX2_readSetting_47 rfl (by decide) rfl ?_
    refine q_aload_n (i := 0) dX2_readSetting_48 rfl rfl ?_
    refine q_getP 3 0 22 fl_X2_14 (by decide) rfl rfl rfl dX2_readSetting_49 ?_
    refine q_aload_n (i := 0) dX2_readSetting_52 rfl rfl ?_
    refine q_getP 3 1 23 fl_X2_23 (by decide) rfl rfl rfl dX2_readSetting_53 ?_
    refine q_iload_n (i := 1) dX2_readSetting_56 rfl rfl ?_
    refine q_iload_n (i := 3) dX2_readSetting_57 rfl rfl ?_
    refine q_callVi (ci := 6) (o := 23) (As := [.int r2, .int (if (h3.I 22 3) = 91 then (1 : Int32) else 0)]) (st := [.ref 22]) cv_X2_177 ⟨_, _, rfl⟩ (by decide) rfl rfl (Nat.le_refl _) (Nat.le_of_ble_eq_true rfl) (by decide) dX2_readSetting_58 rfl hF (fun r6 h5 hF => ?_)
    refine q_iload_n (i := 2) dX2_readSetting_61 rfl rfl ?_
    refine q_callVv (ci := 5) (o := 22) (As := [.int r6, .int (h1.I 22 4)]) (st := []) cv_X2_108 ⟨_, _, rfl⟩ (by decide) rfl rfl (Nat.le_refl _) (Nat.le_of_ble_eq_true rfl) (by decide) dX2_readSetting_62 rfl hF (fun h7 hF => ?_)
    refine q_iconst (v := (-1)) dX2_readSetting_65 (by decide) ?_
    refine q_istore dX2_readSetting_66 (by decide) rfl ?_
    refine q_iload_n (i := 3) dX2_readSetting_68 rfl rfl ?_
    refine q_if_eq (tgt := 124) dX2_readSetting_69 (by decide) (fun hb => ?_) (fun hb => ?_)
    · have hF := hF.1 hb
      refine q_aload_n (i := 0) dX2_readSetting_124 rfl rfl ?_
      refine q_getP 3 0 22 fl_X2_14 (by decide) rfl rfl rfl dX2_readSetting_125 ?_
      refine q_bipush (v := 61) dX2_readSetting_128 (by decide) ?_
      refine q_callVi (ci := 5) (o := 22) (As := [.int 61]) (st := []) cv_X2_87 ⟨_, _, rfl⟩ (by decide) rfl rfl (Nat.le_refl _) (Nat.le_of_ble_eq_true rfl) (by decide) dX2_readSetting_130 rfl hF (fun r9 h8 hF => ?_)
      refine q_if_eq (tgt := 158) dX2_readSetting_133 (by decide) (fun hb => ?_) (fun hb => ?_)
      · have hF := hF.1 hb
        refine q_iconst (v := 0) dX2_readSetting_158 (by decide) ?_
        exact q_zret rfl (by decide) (by decide) (by decide) dX2_readSetting_159 hF
      · have hF := hF.2 hb
        refine q_aload_n (i := 0) dX2_readSetting_136 rfl rfl ?_
        refine q_getP 3 2 27 fl_X2_32 (by decide) rfl rfl rfl dX2_readSetting_137 ?_
        refine q_callVi (ci := 2) (o := 27) (As := []) (st := []) cv_X2_167 ⟨_, _, rfl⟩ (by decide) rfl rfl (Nat.le_refl _) (Nat.le_of_ble_eq_true rfl) (by decide) dX2_readSetting_140 rfl hF (fun r11 h10 hF => ?_)
        refine q_if_eq (tgt := 158) dX2_readSetting_143 (by decide) (fun hb => ?_) (fun hb => ?_)
        · have hF := hF.1 hb
          refine q_iconst (v := 0) dX2_readSetting_158 (by decide) ?_
          exact q_zret rfl (by decide) (by decide) (by decide) dX2_readSetting_159 hF
        · have hF := hF.2 hb
          refine q_aload_n (i := 0) dX2_readSetting_146 rfl rfl ?_
          refine q_getP 3 0 22 fl_X2_14 (by decide) rfl rfl rfl dX2_readSetting_147 ?_
          refine q_bipush (v := 59) dX2_readSetting_150 (by decide) ?_
          refine q_callVi (ci := 5) (o := 22) (As := [.int 59]) (st := []) cv_X2_87 ⟨_, _, rfl⟩ (by decide) rfl rfl (Nat.le_refl _) (Nat.le_of_ble_eq_true rfl) (by decide) dX2_readSetting_152 rfl hF (fun r13 h12 hF => ?_)
          refine q_if_ne (tgt := 160) dX2_readSetting_155 (by decide) (fun hb => ?_) (fun hb => ?_)
          · have hF := hF.1 hb
            refine q_aload_n (i := 0) dX2_readSetting_160 rfl rfl ?_
            refine q_getP 3 2 27 fl_X2_32 (by decide) rfl rfl rfl dX2_readSetting_161 ?_
            refine q_callVi (ci := 2) (o := 27) (As := []) (st := []) cv_X2_170 ⟨_, _, rfl⟩ (by decide) rfl rfl (Nat.le_refl _) (Nat.le_of_ble_eq_true rfl) (by decide) dX2_readSetting_164 rfl hF (fun r15 h14 hF => ?_)
            refine q_istore dX2_readSetting_167 (by decide) rfl ?_
            refine q_iload_n (i := 3) dX2_readSetting_169 rfl rfl ?_
            refine q_if_eq (tgt := 197) dX2_readSetting_170 (by decide) (fun hb => ?_) (fun hb => ?_)
            · have hF := hF.1 hb
              refine q_aload_n (i := 0) dX2_readSetting_197 rfl rfl ?_
              obtain ⟨c16, hrc16, hc16, hF⟩ := hF
              refine q_getR (k := c16) 3 3 fl_X2_36 (by decide) rfl rfl hrc16 dX2_readSetting_198 ?_
              refine q_iconst (v := 4) dX2_readSetting_201 (by decide) ?_
              refine q_iload dX2_readSetting_202 rfl ?_
              refine q_iconst (v := (-1)) dX2_readSetting_204 (by decide) ?_
              refine q_aload_n (i := 0) dX2_readSetting_205 rfl rfl ?_
              refine q_getP 3 1 23 fl_X2_23 (by decide) rfl rfl rfl dX2_readSetting_206 ?_
              refine q_iload_n (i := 1) dX2_readSetting_209 rfl rfl ?_
              refine q_callVi (ci := 6) (o := 23) (As := [.int r2]) (st := [.int (-1), .int r15, .int 4, .ref c16]) cv_X2_181 ⟨_, _, rfl⟩ (by decide) rfl rfl (Nat.le_refl _) (Nat.le_of_ble_eq_true rfl) (by decide) dX2_readSetting_210 rfl hF (fun r18 h17 hF => ?_)
              refine q_callVi (ci := 1) (o := c16) (As := [.int 4, .int r15, .int (-1), .int r18]) (st := []) cv_X2_74 ⟨_, _, rfl⟩ (q_cir_n hc16 0) (q_cir_K hc16) rfl (Nat.le_refl _) (Nat.le_of_ble_eq_true rfl) (by decide) dX2_readSetting_213 rfl hF (fun r20 h19 hF => ?_)
              refine q_pop dX2_readSetting_216 rfl ?_
              refine q_iconst (v := 1) dX2_readSetting_217 (by decide) ?_
              exact q_zret rfl (by decide) (by decide) (by decide) dX2_readSetting_218 hF
            · have hF := hF.2 hb
              refine q_aload_n (i := 0) dX2_readSetting_173 rfl rfl ?_
              obtain ⟨c21, hrc21, hc21, hF⟩ := hF
              refine q_getR (k := c21) 3 3 fl_X2_36 (by decide) rfl rfl hrc21 dX2_readSetting_174 ?_
              refine q_iconst (v := 5) dX2_readSetting_177 (by decide) ?_
              refine q_iload dX2_readSetting_178 rfl ?_
              refine q_iload dX2_readSetting_180 rfl ?_
              refine q_aload_n (i := 0) dX2_readSetting_182 rfl rfl ?_
              refine q_getP 3 1 23 fl_X2_23 (by decide) rfl rfl rfl dX2_readSetting_183 ?_
              refine q_iload_n (i := 1) dX2_readSetting_186 rfl rfl ?_
              refine q_callVi (ci := 6) (o := 23) (As := [.int r2]) (st := [.int r15, .int (-1), .int 5, .ref c21]) cv_X2_181 ⟨_, _, rfl⟩ (by decide) rfl rfl (Nat.le_refl _) (Nat.le_of_ble_eq_true rfl) (by decide) dX2_readSetting_187 rfl hF (fun r23 h22 hF => ?_)
              refine q_callVi (ci := 1) (o := c21) (As := [.int 5, .int (-1), .int r15, .int r23]) (st := []) cv_X2_74 ⟨_, _, rfl⟩ (q_cir_n hc21 0) (q_cir_K hc21) rfl (Nat.le_refl _) (Nat.le_of_ble_eq_true rfl) (by decide) dX2_readSetting_190 rfl hF (fun r25 h24 hF => ?_)
              refine q_pop dX2_readSetting_193 rfl ?_
              refine q_goto (tgt := 217) dX2_readSetting_194 (by decide) ?_
              refine q_iconst (v := 1) dX2_readSetting_217 (by decide) ?_
              exact q_zret rfl (by decide) (by decide) (by decide) dX2_readSetting_218 hF
          · have hF := hF.2 hb
            refine q_iconst (v := 0) dX2_readSetting_158 (by decide) ?_
            exact q_zret rfl (by decide) (by decide) (by decide) dX2_readSetting_159 hF
    · have hF := hF.2 hb
      refine q_aload_n (i := 0) dX2_readSetting_72 rfl rfl ?_
      refine q_getP 3 0 22 fl_X2_14 (by decide) rfl rfl rfl dX2_readSetting_73 ?_
      refine q_bipush (v := 91) dX2_readSetting_76 (by decide) ?_
      refine q_callVi (ci := 5) (o := 22) (As := [.int 91]) (st := []) cv_X2_115 ⟨_, _, rfl⟩ (by decide) rfl rfl (Nat.le_refl _) (Nat.le_of_ble_eq_true rfl) (by decide) dX2_readSetting_78 rfl hF (fun r27 h26 hF => ?_)
      refine q_if_eq (tgt := 106) dX2_readSetting_81 (by decide) (fun hb => ?_) (fun hb => ?_)
      · have hF := hF.1 hb
        refine q_iconst (v := 0) dX2_readSetting_106 (by decide) ?_
        exact q_zret rfl (by decide) (by decide) (by decide) dX2_readSetting_107 hF
      · have hF := hF.2 hb
        refine q_aload_n (i := 0) dX2_readSetting_84 rfl rfl ?_
        refine q_getP 3 2 27 fl_X2_32 (by decide) rfl rfl rfl dX2_readSetting_85 ?_
        refine q_callVi (ci := 2) (o := 27) (As := []) (st := []) cv_X2_167 ⟨_, _, rfl⟩ (by decide) rfl rfl (Nat.le_refl _) (Nat.le_of_ble_eq_true rfl) (by decide) dX2_readSetting_88 rfl hF (fun r29 h28 hF => ?_)
        refine q_if_eq (tgt := 106) dX2_readSetting_91 (by decide) (fun hb => ?_) (fun hb => ?_)
        · have hF := hF.1 hb
          refine q_iconst (v := 0) dX2_readSetting_106 (by decide) ?_
          exact q_zret rfl (by decide) (by decide) (by decide) dX2_readSetting_107 hF
        · have hF := hF.2 hb
          refine q_aload_n (i := 0) dX2_readSetting_94 rfl rfl ?_
          refine q_getP 3 0 22 fl_X2_14 (by decide) rfl rfl rfl dX2_readSetting_95 ?_
          refine q_bipush (v := 93) dX2_readSetting_98 (by decide) ?_
          refine q_callVi (ci := 5) (o := 22) (As := [.int 93]) (st := []) cv_X2_87 ⟨_, _, rfl⟩ (by decide) rfl rfl (Nat.le_refl _) (Nat.le_of_ble_eq_true rfl) (by decide) dX2_readSetting_100 rfl hF (fun r31 h30 hF => ?_)
          refine q_if_ne (tgt := 108) dX2_readSetting_103 (by decide) (fun hb => ?_) (fun hb => ?_)
          · have hF := hF.1 hb
            refine q_aload_n (i := 0) dX2_readSetting_108 rfl rfl ?_
            refine q_getP 3 0 22 fl_X2_14 (by decide) rfl rfl rfl dX2_readSetting_109 ?_
            refine q_callVv (ci := 5) (o := 22) (As := []) (st := []) cv_X2_130 ⟨_, _, rfl⟩ (by decide) rfl rfl (Nat.le_refl _) (Nat.le_of_ble_eq_true rfl) (by decide) dX2_readSetting_112 rfl hF (fun h32 hF => ?_)
            refine q_aload_n (i := 0) dX2_readSetting_115 rfl rfl ?_
            refine q_getP 3 2 27 fl_X2_32 (by decide) rfl rfl rfl dX2_readSetting_116 ?_
            refine q_callVi (ci := 2) (o := 27) (As := []) (st := []) cv_X2_170 ⟨_, _, rfl⟩ (by decide) rfl rfl (Nat.le_refl _) (Nat.le_of_ble_eq_true rfl) (by decide) dX2_readSetting_119 rfl hF (fun r34 h33 hF => ?_)
            refine q_istore dX2_readSetting_122 (by decide) rfl ?_
            refine q_aload_n (i := 0) dX2_readSetting_124 rfl rfl ?_
            refine q_getP 3 0 22 fl_X2_14 (by decide) rfl rfl rfl dX2_readSetting_125 ?_
            refine q_bipush (v := 61) dX2_readSetting_128 (by decide) ?_
            refine q_callVi (ci := 5) (o := 22) (As := [.int 61]) (st := []) cv_X2_87 ⟨_, _, rfl⟩ (by decide) rfl rfl (Nat.le_refl _) (Nat.le_of_ble_eq_true rfl) (by decide) dX2_readSetting_130 rfl hF (fun r36 h35 hF => ?_)
            refine q_if_eq (tgt := 158) dX2_readSetting_133 (by decide) (fun hb => ?_) (fun hb => ?_)
            · have hF := hF.1 hb
              refine q_iconst (v := 0) dX2_readSetting_158 (by decide) ?_
              exact q_zret rfl (by decide) (by decide) (by decide) dX2_readSetting_159 hF
            · have hF := hF.2 hb
              refine q_aload_n (i := 0) dX2_readSetting_136 rfl rfl ?_
              refine q_getP 3 2 27 fl_X2_32 (by decide) rfl rfl rfl dX2_readSetting_137 ?_
              refine q_callVi (ci := 2) (o := 27) (As := []) (st := []) cv_X2_167 ⟨_, _, rfl⟩ (by decide) rfl rfl (Nat.le_refl _) (Nat.le_of_ble_eq_true rfl) (by decide) dX2_readSetting_140 rfl hF (fun r38 h37 hF => ?_)
              refine q_if_eq (tgt := 158) dX2_readSetting_143 (by decide) (fun hb => ?_) (fun hb => ?_)
              · have hF := hF.1 hb
                refine q_iconst (v := 0) dX2_readSetting_158 (by decide) ?_
                exact q_zret rfl (by decide) (by decide) (by decide) dX2_readSetting_159 hF
              · have hF := hF.2 hb
                refine q_aload_n (i := 0) dX2_readSetting_146 rfl rfl ?_
                refine q_getP 3 0 22 fl_X2_14 (by decide) rfl rfl rfl dX2_readSetting_147 ?_
                refine q_bipush (v := 59) dX2_readSetting_150 (by decide) ?_
                refine q_callVi (ci := 5) (o := 22) (As := [.int 59]) (st := []) cv_X2_87 ⟨_, _, rfl⟩ (by decide) rfl rfl (Nat.le_refl _) (Nat.le_of_ble_eq_true rfl) (by decide) dX2_readSetting_152 rfl hF (fun r40 h39 hF => ?_)
                refine q_if_ne (tgt := 160) dX2_readSetting_155 (by decide) (fun hb => ?_) (fun hb => ?_)
                · have hF := hF.1 hb
                  refine q_aload_n (i := 0) dX2_readSetting_160 rfl rfl ?_
                  refine q_getP 3 2 27 fl_X2_32 (by decide) rfl rfl rfl dX2_readSetting_161 ?_
                  refine q_callVi (ci := 2) (o := 27) (As := []) (st := []) cv_X2_170 ⟨_, _, rfl⟩ (by decide) rfl rfl (Nat.le_refl _) (Nat.le_of_ble_eq_true rfl) (by decide) dX2_readSetting_164 rfl hF (fun r42 h41 hF => ?_)
                  refine q_istore dX2_readSetting_167 (by decide) rfl ?_
                  refine q_iload_n (i := 3) dX2_readSetting_169 rfl rfl ?_
                  refine q_if_eq (tgt := 197) dX2_readSetting_170 (by decide) (fun hb => ?_) (fun hb => ?_)
                  · have hF := hF.1 hb
                    refine q_aload_n (i := 0) dX2_readSetting_197 rfl rfl ?_
                    obtain ⟨c43, hrc43, hc43, hF⟩ := hF
                    refine q_getR (k := c43) 3 3 fl_X2_36 (by decide) rfl rfl hrc43 dX2_readSetting_198 ?_
                    refine q_iconst (v := 4) dX2_readSetting_201 (by decide) ?_
                    refine q_iload dX2_readSetting_202 rfl ?_
                    refine q_iconst (v := (-1)) dX2_readSetting_204 (by decide) ?_
                    refine q_aload_n (i := 0) dX2_readSetting_205 rfl rfl ?_
                    refine q_getP 3 1 23 fl_X2_23 (by decide) rfl rfl rfl dX2_readSetting_206 ?_
                    refine q_iload_n (i := 1) dX2_readSetting_209 rfl rfl ?_
                    refine q_callVi (ci := 6) (o := 23) (As := [.int r2]) (st := [.int (-1), .int r42, .int 4, .ref c43]) cv_X2_181 ⟨_, _, rfl⟩ (by decide) rfl rfl (Nat.le_refl _) (Nat.le_of_ble_eq_true rfl) (by decide) dX2_readSetting_210 rfl hF (fun r45 h44 hF => ?_)
                    refine q_callVi (ci := 1) (o := c43) (As := [.int 4, .int r42, .int (-1), .int r45]) (st := []) cv_X2_74 ⟨_, _, rfl⟩ (q_cir_n hc43 0) (q_cir_K hc43) rfl (Nat.le_refl _) (Nat.le_of_ble_eq_true rfl) (by decide) dX2_readSetting_213 rfl hF (fun r47 h46 hF => ?_)
                    refine q_pop dX2_readSetting_216 rfl ?_
                    refine q_iconst (v := 1) dX2_readSetting_217 (by decide) ?_
                    exact q_zret rfl (by decide) (by decide) (by decide) dX2_readSetting_218 hF
                  · have hF := hF.2 hb
                    refine q_aload_n (i := 0) dX2_readSetting_173 rfl rfl ?_
                    obtain ⟨c48, hrc48, hc48, hF⟩ := hF
                    refine q_getR (k := c48) 3 3 fl_X2_36 (by decide) rfl rfl hrc48 dX2_readSetting_174 ?_
                    refine q_iconst (v := 5) dX2_readSetting_177 (by decide) ?_
                    refine q_iload dX2_readSetting_178 rfl ?_
                    refine q_iload dX2_readSetting_180 rfl ?_
                    refine q_aload_n (i := 0) dX2_readSetting_182 rfl rfl ?_
                    refine q_getP 3 1 23 fl_X2_23 (by decide) rfl rfl rfl dX2_readSetting_183 ?_
                    refine q_iload_n (i := 1) dX2_readSetting_186 rfl rfl ?_
                    refine q_callVi (ci := 6) (o := 23) (As := [.int r2]) (st := [.int r42, .int r34, .int 5, .ref c48]) cv_X2_181 ⟨_, _, rfl⟩ (by decide) rfl rfl (Nat.le_refl _) (Nat.le_of_ble_eq_true rfl) (by decide) dX2_readSetting_187 rfl hF (fun r50 h49 hF => ?_)
                    refine q_callVi (ci := 1) (o := c48) (As := [.int 5, .int r34, .int r42, .int r50]) (st := []) cv_X2_74 ⟨_, _, rfl⟩ (q_cir_n hc48 0) (q_cir_K hc48) rfl (Nat.le_refl _) (Nat.le_of_ble_eq_true rfl) (by decide) dX2_readSetting_190 rfl hF (fun r52 h51 hF => ?_)
                    refine q_pop dX2_readSetting_193 rfl ?_
                    refine q_goto (tgt := 217) dX2_readSetting_194 (by decide) ?_
                    refine q_iconst (v := 1) dX2_readSetting_217 (by decide) ?_
                    exact q_zret rfl (by decide) (by decide) (by decide) dX2_readSetting_218 hF
                · have hF := hF.2 hb
                  refine q_iconst (v := 0) dX2_readSetting_158 (by decide) ?_
                  exact q_zret rfl (by decide) (by decide) (by decide) dX2_readSetting_159 hF
          · have hF := hF.2 hb
            refine q_iconst (v := 0) dX2_readSetting_106 (by decide) ?_
            exact q_zret rfl (by decide) (by decide) (by decide) dX2_readSetting_107 hF)
  refine q_icmp_ne (tgt := 46) dX2_readSetting_39 (by decide) (fun hb => ?_) (fun hb => ?_)
  · refine q_iconst (v := 0) dX2_readSetting_46 (by decide) ?_
    exact K4.2 hb
  · refine q_iconst (v := 1) dX2_readSetting_42 (by decide) ?_
    refine q_goto (tgt := 47) dX2_readSetting_43 (by decide) ?_
    exact K4.1 hb
def m_X2_readIf : qm := (RX2, cX2_readIf, 3, (some .boolean), [], false)
set_option maxRecDepth 100000 in
set_option maxHeartbeats 4000000 in
theorem x_X2_readIf (G : qG) (d : Nat)  (h : qh) (Q : qr → qh → Prop)  (hF : q_M0 G d yX2_countBranching [.ref 21] h (q_rv (fun h1 => q_M0 G d yX4_enter [.ref 22, .int 5] h1 (q_ri (fun r3 h2 => (r3 = 0 → (Q (.inl (some (.int 0))) h2)) ∧ (¬ r3 = 0 → (q_M0 G d yX2_readCondition [.ref 21] h2 (q_ri (fun r5 h4 => (¬ r5 = 0 → (∃ c6, h4.R 21 3 = some c6 ∧ q_cir c6 ∧ (q_M0 G d yX0_junction [.ref c6] h4 (q_ri (fun r8 h7 => ∃ c9, h7.R 21 3 = some c9 ∧ q_cir c9 ∧ (q_M0 G d yX1_result [.ref 27] h7 (q_ri (fun r11 h10 => q_M0 G d yX0_lay [.ref c9, .int 6, .int r11, .int (-1), .int r8] h10 (q_ri (fun r13 h12 => ∃ c14, h12.R 21 3 = some c14 ∧ q_cir c14 ∧ (q_M0 G d yX0_lay [.ref c14, .int 7, .int (-1), .int (-1), .int (-1)] h12 (q_ri (fun r16 h15 => q_M0 G d yX2_readBody [.ref 21] h15 (q_ri (fun r18 h17 => (¬ r18 = 0 → ((¬ (h17.I 22 3) = 6 → (∃ c19, h17.R 21 3 = some c19 ∧ q_cir c19 ∧ (q_M0 G d yX0_join [.ref c19, .int r8] h17 (q_rv (fun h20 => q_M0 G d yX4_leave [.ref 22] h20 (q_rv (fun h21 => Q (.inl (some (.int 1))) h21) (fun E h => Q (.inr E) h))) (fun E h => Q (.inr E) h))))) ∧ ((h17.I 22 3) = 6 → (∃ c22, h17.R 21 3 = some c22 ∧ q_cir c22 ∧ (q_M0 G d yX0_junction [.ref c22] h17 (q_ri (fun r24 h23 => ∃ c25, h23.R 21 3 = some c25 ∧ q_cir c25 ∧ (q_M0 G d yX0_lay [.ref c25, .int 8, .int (-1), .int (-1), .int r24] h23 (q_ri (fun r27 h26 => ∃ c28, h26.R 21 3 = some c28 ∧ q_cir c28 ∧ (q_M0 G d yX0_join [.ref c28, .int r8] h26 (q_rv (fun h29 => q_M0 G d yX4_advance [.ref 22] h29 (q_rv (fun h30 => q_M0 G d yX2_readBody [.ref 21] h30 (q_ri (fun r32 h31 => (¬ r32 = 0 → (∃ c33, h31.R 21 3 = some c33 ∧ q_cir c33 ∧ (q_M0 G d yX0_join [.ref c33, .int r24] h31 (q_rv (fun h34 => q_M0 G d yX4_leave [.ref 22] h34 (q_rv (fun h35 => Q (.inl (some (.int 1))) h35) (fun E h => Q (.inr E) h))) (fun E h => Q (.inr E) h))))) ∧ (r32 = 0 → (Q (.inl (some (.int 0))) h31))) (fun E h => Q (.inr E) h))) (fun E h => Q (.inr E) h))) (fun E h => Q (.inr E) h)))) (fun E h => Q (.inr E) h)))) (fun E h => Q (.inr E) h))))))) ∧ (r18 = 0 → (Q (.inl (some (.int 0))) h17))) (fun E h => Q (.inr E) h))) (fun E h => Q (.inr E) h)))) (fun E h => Q (.inr E) h))) (fun E h => Q (.inr E) h)))) (fun E h => Q (.inr E) h))))) ∧ (r5 = 0 → (Q (.inl (some (.int 0))) h4))) (fun E h => Q (.inr E) h))))) (fun E h => Q (.inr E) h))) (fun E h => Q (.inr E) h))) : q_M0 G (d + 1) yX2_readIf [.ref 21] h Q := by
  refine q_of (M := m_X2_readIf) (by decide +kernel) rfl rfl cd_X2_readIf (by decide) (Nat.le_of_ble_eq_true rfl) ?_
  show q_N0 G m_X2_readIf (d + 1) Q 0 [.ref 21, .null, .null] [] h
  refine q_aload_n (i := 0) dX2_readIf_0 rfl rfl ?_
  refine q_callVv (ci := 3) (o := 21) (As := []) (st := []) cv_X2_185 ⟨_, _, rfl⟩ (by decide) rfl rfl (Nat.le_refl _) (Nat.le_of_ble_eq_true rfl) (by decide) dX2_readIf_1 rfl hF (fun h1 hF => ?_)
  refine q_aload_n (i := 0) dX2_readIf_4 rfl rfl ?_
  refine q_getP 3 0 22 fl_X2_14 (by decide) rfl rfl rfl dX2_readIf_5 ?_
  refine q_iconst (v := 5) dX2_readIf_8 (by decide) ?_
  refine q_callVi (ci := 5) (o := 22) (As := [.int 5]) (st := []) cv_X2_115 ⟨_, _, rfl⟩ (by decide) rfl rfl (Nat.le_refl _) (Nat.le_of_ble_eq_true rfl) (by decide) dX2_readIf_9 rfl hF (fun r3 h2 hF => ?_)
  refine q_if_eq (tgt := 22) dX2_readIf_12 (by decide) (fun hb => ?_) (fun hb => ?_)
  · have hF := hF.1 hb
    refine q_iconst (v := 0) dX2_readIf_22 (by decide) ?_
    exact q_zret rfl (by decide) (by decide) (by decide) dX2_readIf_23 hF
  · have hF := hF.2 hb
    refine q_aload_n (i := 0) dX2_readIf_15 rfl rfl ?_
    refine q_callVi (ci := 3) (o := 21) (As := []) (st := []) cv_X2_188 ⟨_, _, rfl⟩ (by decide) rfl rfl (Nat.le_refl _) (Nat.le_of_ble_eq_true rfl) (by decide) dX2_readIf_16 rfl hF (fun r5 h4 hF => ?_)
    refine q_if_ne (tgt := 24) dX2_readIf_19 (by decide) (fun hb => ?_) (fun hb => ?_)
    · have hF := hF.1 hb
      refine q_aload_n (i := 0) dX2_readIf_24 rfl rfl ?_
      obtain ⟨c6, hrc6, hc6, hF⟩ := hF
      refine q_getR (k := c6) 3 3 fl_X2_36 (by decide) rfl rfl hrc6 dX2_readIf_25 ?_
      refine q_callVi (ci := 1) (o := c6) (As := []) (st := []) cv_X2_191 ⟨_, _, rfl⟩ (q_cir_n hc6 0) (q_cir_K hc6) rfl (Nat.le_refl _) (Nat.le_of_ble_eq_true rfl) (by decide) dX2_readIf_28 rfl hF (fun r8 h7 hF => ?_)
      refine q_istore_n (i := 1) dX2_readIf_31 rfl (by decide) rfl ?_
      refine q_aload_n (i := 0) dX2_readIf_32 rfl rfl ?_
      obtain ⟨c9, hrc9, hc9, hF⟩ := hF
      refine q_getR (k := c9) 3 3 fl_X2_36 (by decide) rfl rfl hrc9 dX2_readIf_33 ?_
      refine q_bipush (v := 6) dX2_readIf_36 (by decide) ?_
      refine q_aload_n (i := 0) dX2_readIf_38 rfl rfl ?_
      refine q_getP 3 2 27 fl_X2_32 (by decide) rfl rfl rfl dX2_readIf_39 ?_
      refine q_callVi (ci := 2) (o := 27) (As := []) (st := [.int 6, .ref c9]) cv_X2_170 ⟨_, _, rfl⟩ (by decide) rfl rfl (Nat.le_refl _) (Nat.le_of_ble_eq_true rfl) (by decide) dX2_readIf_42 rfl hF (fun r11 h10 hF => ?_)
      refine q_iconst (v := (-1)) dX2_readIf_45 (by decide) ?_
      refine q_iload_n (i := 1) dX2_readIf_46 rfl rfl ?_
      refine q_callVi (ci := 1) (o := c9) (As := [.int 6, .int r11, .int (-1), .int r8]) (st := []) cv_X2_74 ⟨_, _, rfl⟩ (q_cir_n hc9 0) (q_cir_K hc9) rfl (Nat.le_refl _) (Nat.le_of_ble_eq_true rfl) (by decide) dX2_readIf_47 rfl hF (fun r13 h12 hF => ?_)
      refine q_pop dX2_readIf_50 rfl ?_
      refine q_aload_n (i := 0) dX2_readIf_51 rfl rfl ?_
      obtain ⟨c14, hrc14, hc14, hF⟩ := hF
      refine q_getR (k := c14) 3 3 fl_X2_36 (by decide) rfl rfl hrc14 dX2_readIf_52 ?_
      refine q_bipush (v := 7) dX2_readIf_55 (by decide) ?_
      refine q_iconst (v := (-1)) dX2_readIf_57 (by decide) ?_
      refine q_iconst (v := (-1)) dX2_readIf_58 (by decide) ?_
      refine q_iconst (v := (-1)) dX2_readIf_59 (by decide) ?_
      refine q_callVi (ci := 1) (o := c14) (As := [.int 7, .int (-1), .int (-1), .int (-1)]) (st := []) cv_X2_74 ⟨_, _, rfl⟩ (q_cir_n hc14 0) (q_cir_K hc14) rfl (Nat.le_refl _) (Nat.le_of_ble_eq_true rfl) (by decide) dX2_readIf_60 rfl hF (fun r16 h15 hF => ?_)
      refine q_pop dX2_readIf_63 rfl ?_
      refine q_aload_n (i := 0) dX2_readIf_64 rfl rfl ?_
      refine q_callVi (ci := 3) (o := 21) (As := []) (st := []) cv_X2_194 ⟨_, _, rfl⟩ (by decide) rfl rfl (Nat.le_refl _) (Nat.le_of_ble_eq_true rfl) (by decide) dX2_readIf_65 rfl hF (fun r18 h17 hF => ?_)
      refine q_if_ne (tgt := 73) dX2_readIf_68 (by decide) (fun hb => ?_) (fun hb => ?_)
      · have hF := hF.1 hb
        refine q_aload_n (i := 0) dX2_readIf_73 rfl rfl ?_
        refine q_getP 3 0 22 fl_X2_14 (by decide) rfl rfl rfl dX2_readIf_74 ?_
        refine q_getIv (v := h17.I 22 3) 5 3 fl_X2_81 (by decide) rfl rfl (rfl) dX2_readIf_77 ?_
        refine q_bipush (v := 6) dX2_readIf_80 (by decide) ?_
        refine q_icmp_ne (tgt := 141) dX2_readIf_82 (by decide) (fun hb => ?_) (fun hb => ?_)
        · have hF := hF.1 hb
          refine q_aload_n (i := 0) dX2_readIf_141 rfl rfl ?_
          obtain ⟨c19, hrc19, hc19, hF⟩ := hF
          refine q_getR (k := c19) 3 3 fl_X2_36 (by decide) rfl rfl hrc19 dX2_readIf_142 ?_
          refine q_iload_n (i := 1) dX2_readIf_145 rfl rfl ?_
          refine q_callVv (ci := 1) (o := c19) (As := [.int r8]) (st := []) cv_X2_197 ⟨_, _, rfl⟩ (q_cir_n hc19 0) (q_cir_K hc19) rfl (Nat.le_refl _) (Nat.le_of_ble_eq_true rfl) (by decide) dX2_readIf_146 rfl hF (fun h20 hF => ?_)
          refine q_aload_n (i := 0) dX2_readIf_149 rfl rfl ?_
          refine q_getP 3 0 22 fl_X2_14 (by decide) rfl rfl rfl dX2_readIf_150 ?_
          refine q_callVv (ci := 5) (o := 22) (As := []) (st := []) cv_X2_130 ⟨_, _, rfl⟩ (by decide) rfl rfl (Nat.le_refl _) (Nat.le_of_ble_eq_true rfl) (by decide) dX2_readIf_153 rfl hF (fun h21 hF => ?_)
          refine q_iconst (v := 1) dX2_readIf_156 (by decide) ?_
          exact q_zret rfl (by decide) (by decide) (by decide) dX2_readIf_157 hF
        · have hF := hF.2 hb
          refine q_aload_n (i := 0) dX2_readIf_85 rfl rfl ?_
          obtain ⟨c22, hrc22, hc22, hF⟩ := hF
          refine q_getR (k := c22) 3 3 fl_X2_36 (by decide) rfl rfl hrc22 dX2_readIf_86 ?_
          refine q_callVi (ci := 1) (o := c22) (As := []) (st := []) cv_X2_191 ⟨_, _, rfl⟩ (q_cir_n hc22 0) (q_cir_K hc22) rfl (Nat.le_refl _) (Nat.le_of_ble_eq_true rfl) (by decide) dX2_readIf_89 rfl hF (fun r24 h23 hF => ?_)
          refine q_istore_n (i := 2) dX2_readIf_92 rfl (by decide) rfl ?_
          refine q_aload_n (i := 0) dX2_readIf_93 rfl rfl ?_
          obtain ⟨c25, hrc25, hc25, hF⟩ := hF
          refine q_getR (k := c25) 3 3 fl_X2_36 (by decide) rfl rfl hrc25 dX2_readIf_94 ?_
          refine q_bipush (v := 8) dX2_readIf_97 (by decide) ?_
          refine q_iconst (v := (-1)) dX2_readIf_99 (by decide) ?_
          refine q_iconst (v := (-1)) dX2_readIf_100 (by decide) ?_
          refine q_iload_n (i := 2) dX2_readIf_101 rfl rfl ?_
          refine q_callVi (ci := 1) (o := c25) (As := [.int 8, .int (-1), .int (-1), .int r24]) (st := []) cv_X2_74 ⟨_, _, rfl⟩ (q_cir_n hc25 0) (q_cir_K hc25) rfl (Nat.le_refl _) (Nat.le_of_ble_eq_true rfl) (by decide) dX2_readIf_102 rfl hF (fun r27 h26 hF => ?_)
          refine q_pop dX2_readIf_105 rfl ?_
          refine q_aload_n (i := 0) dX2_readIf_106 rfl rfl ?_
          obtain ⟨c28, hrc28, hc28, hF⟩ := hF
          refine q_getR (k := c28) 3 3 fl_X2_36 (by decide) rfl rfl hrc28 dX2_readIf_107 ?_
          refine q_iload_n (i := 1) dX2_readIf_110 rfl rfl ?_
          refine q_callVv (ci := 1) (o := c28) (As := [.int r8]) (st := []) cv_X2_197 ⟨_, _, rfl⟩ (q_cir_n hc28 0) (q_cir_K hc28) rfl (Nat.le_refl _) (Nat.le_of_ble_eq_true rfl) (by decide) dX2_readIf_111 rfl hF (fun h29 hF => ?_)
          refine q_aload_n (i := 0) dX2_readIf_114 rfl rfl ?_
          refine q_getP 3 0 22 fl_X2_14 (by decide) rfl rfl rfl dX2_readIf_115 ?_
          refine q_callVv (ci := 5) (o := 22) (As := []) (st := []) cv_X2_139 ⟨_, _, rfl⟩ (by decide) rfl rfl (Nat.le_refl _) (Nat.le_of_ble_eq_true rfl) (by decide) dX2_readIf_118 rfl hF (fun h30 hF => ?_)
          refine q_aload_n (i := 0) dX2_readIf_121 rfl rfl ?_
          refine q_callVi (ci := 3) (o := 21) (As := []) (st := []) cv_X2_194 ⟨_, _, rfl⟩ (by decide) rfl rfl (Nat.le_refl _) (Nat.le_of_ble_eq_true rfl) (by decide) dX2_readIf_122 rfl hF (fun r32 h31 hF => ?_)
          refine q_if_ne (tgt := 130) dX2_readIf_125 (by decide) (fun hb => ?_) (fun hb => ?_)
          · have hF := hF.1 hb
            refine q_aload_n (i := 0) dX2_readIf_130 rfl rfl ?_
            obtain ⟨c33, hrc33, hc33, hF⟩ := hF
            refine q_getR (k := c33) 3 3 fl_X2_36 (by decide) rfl rfl hrc33 dX2_readIf_131 ?_
            refine q_iload_n (i := 2) dX2_readIf_134 rfl rfl ?_
            refine q_callVv (ci := 1) (o := c33) (As := [.int r24]) (st := []) cv_X2_197 ⟨_, _, rfl⟩ (q_cir_n hc33 0) (q_cir_K hc33) rfl (Nat.le_refl _) (Nat.le_of_ble_eq_true rfl) (by decide) dX2_readIf_135 rfl hF (fun h34 hF => ?_)
            refine q_goto (tgt := 149) dX2_readIf_138 (by decide) ?_
            refine q_aload_n (i := 0) dX2_readIf_149 rfl rfl ?_
            refine q_getP 3 0 22 fl_X2_14 (by decide) rfl rfl rfl dX2_readIf_150 ?_
            refine q_callVv (ci := 5) (o := 22) (As := []) (st := []) cv_X2_130 ⟨_, _, rfl⟩ (by decide) rfl rfl (Nat.le_refl _) (Nat.le_of_ble_eq_true rfl) (by decide) dX2_readIf_153 rfl hF (fun h35 hF => ?_)
            refine q_iconst (v := 1) dX2_readIf_156 (by decide) ?_
            exact q_zret rfl (by decide) (by decide) (by decide) dX2_readIf_157 hF
          · have hF := hF.2 hb
            refine q_iconst (v := 0) dX2_readIf_128 (by decide) ?_
            exact q_zret rfl (by decide) (by decide) (by decide) dX2_readIf_129 hF
      · have hF := hF.2 hb
        refine q_iconst (v := 0) dX2_readIf_71 (by decide) ?_
        exact q_zret rfl (by decide) (by decide) (by decide) dX2_readIf_72 hF
    · have hF := hF.2 hb
      refine q_iconst (v := 0) dX2_readIf_22 (by decide) ?_
      exact q_zret rfl (by decide) (by decide) (by decide) dX2_readIf_23 hF
def m_X2_readWhile : qm := (RX2, cX2_readWhile, 5, (some .boolean), [], false)
set_option maxRecDepth 100000 in
set_option maxHeartbeats 4000000 in
theorem x_X2_readWhile (G : qG) (d : Nat)  (h : qh) (Q : qr → qh → Prop)  (hF : q_M0 G d yX2_countBranching [.ref 21] h (q_rv (fun h1 => q_M0 G d yX4_enter [.ref 22, .int 7] h1 (q_ri (fun r3 h2 => (¬ r3 = 0 → (∃ c4, h2.R 21 3 = some c4 ∧ q_cir c4 ∧ (q_M0 G d yX0_junction [.ref c4] h2 (q_ri (fun r6 h5 => ∃ c7, h5.R 21 3 = some c7 ∧ q_cir c7 ∧ (q_M0 G d yX0_junction [.ref c7] h5 (q_ri (fun r9 h8 => ∃ c10, h8.R 21 3 = some c10 ∧ q_cir c10 ∧ (q_M0 G d yX0_join [.ref c10, .int r6] h8 (q_rv (fun h11 => q_M0 G d yX2_readCondition [.ref 21] h11 (q_ri (fun r13 h12 => (¬ r13 = 0 → (∃ c14, h12.R 21 3 = some c14 ∧ q_cir c14 ∧ (q_M0 G d yX1_result [.ref 27] h12 (q_ri (fun r16 h15 => q_M0 G d yX0_lay [.ref c14, .int 6, .int r16, .int (-1), .int r9] h15 (q_ri (fun r18 h17 => ∃ c19, h17.R 21 3 = some c19 ∧ q_cir c19 ∧ (q_M0 G d yX0_lay [.ref c19, .int 7, .int (-1), .int (-1), .int (-1)] h17 (q_ri (fun r21 h20 => q_M0 G d yX2_readBody [.ref 21] ((h20.sI 21 4 r6).sI 21 5 r9) (q_ri (fun r23 h22 => (¬ r23 = 0 → (∃ c24, h22.R 21 3 = some c24 ∧ q_cir c24 ∧ (q_M0 G d yX0_lay [.ref c24, .int 8, .int (-1), .int (-1), .int r6] ((h22.sI 21 4 (h2.I 21 4)).sI 21 5 (h2.I 21 5)) (q_ri (fun r26 h25 => ∃ c27, h25.R 21 3 = some c27 ∧ q_cir c27 ∧ (q_M0 G d yX0_join [.ref c27, .int r9] h25 (q_rv (fun h28 => q_M0 G d yX4_leave [.ref 22] h28 (q_rv (fun h29 => Q (.inl (some (.int 1))) h29) (fun E h => Q (.inr E) h))) (fun E h => Q (.inr E) h)))) (fun E h => Q (.inr E) h))))) ∧ (r23 = 0 → (Q (.inl (some (.int 0))) h22))) (fun E h => Q (.inr E) h))) (fun E h => Q (.inr E) h)))) (fun E h => Q (.inr E) h))) (fun E h => Q (.inr E) h))))) ∧ (r13 = 0 → (Q (.inl (some (.int 0))) h12))) (fun E h => Q (.inr E) h))) (fun E h => Q (.inr E) h)))) (fun E h => Q (.inr E) h)))) (fun E h => Q (.inr E) h))))) ∧ (r3 = 0 → (Q (.inl (some (.int 0))) h2))) (fun E h => Q (.inr E) h))) (fun E h => Q (.inr E) h))) : q_M0 G (d + 1) yX2_readWhile [.ref 21] h Q := by
  refine q_of (M := m_X2_readWhile) (by decide +kernel) rfl rfl cd_X2_readWhile (by decide) (Nat.le_of_ble_eq_true rfl) ?_
  show q_N0 G m_X2_readWhile (d + 1) Q 0 [.ref 21, .null, .null, .null, .null] [] h
  refine q_aload_n (i := 0) dX2_readWhile_0 rfl rfl ?_
  refine q_callVv (ci := 3) (o := 21) (As := []) (st := []) cv_X2_185 ⟨_, _, rfl⟩ (by decide) rfl rfl (Nat.le_refl _) (Nat.le_of_ble_eq_true rfl) (by decide) dX2_readWhile_1 rfl hF (fun h1 hF => ?_)
  refine q_aload_n (i := 0) dX2_readWhile_4 rfl rfl ?_
  refine q_getP 3 0 22 fl_X2_14 (by decide) rfl rfl rfl dX2_readWhile_5 ?_
  refine q_bipush (v := 7) dX2_readWhile_8 (by decide) ?_
  refine q_callVi (ci := 5) (o := 22) (As := [.int 7]) (st := []) cv_X2_115 ⟨_, _, rfl⟩ (by decide) rfl rfl (Nat.le_refl _) (Nat.le_of_ble_eq_true rfl) (by decide) dX2_readWhile_10 rfl hF (fun r3 h2 hF => ?_)
  refine q_if_ne (tgt := 18) dX2_readWhile_13 (by decide) (fun hb => ?_) (fun hb => ?_)
  · have hF := hF.1 hb
    refine q_aload_n (i := 0) dX2_readWhile_18 rfl rfl ?_
    refine q_getIv (v := h2.I 21 4) 3 4 fl_X2_61 (by decide) rfl rfl (rfl) dX2_readWhile_19 ?_
    refine q_istore_n (i := 1) dX2_readWhile_22 rfl (by decide) rfl ?_
    refine q_aload_n (i := 0) dX2_readWhile_23 rfl rfl ?_
    refine q_getIv (v := h2.I 21 5) 3 5 fl_X2_64 (by decide) rfl rfl (rfl) dX2_readWhile_24 ?_
    refine q_istore_n (i := 2) dX2_readWhile_27 rfl (by decide) rfl ?_
    refine q_aload_n (i := 0) dX2_readWhile_28 rfl rfl ?_
    obtain ⟨c4, hrc4, hc4, hF⟩ := hF
    refine q_getR (k := c4) 3 3 fl_X2_36 (by decide) rfl rfl hrc4 dX2_readWhile_29 ?_
    refine q_callVi (ci := 1) (o := c4) (As := []) (st := []) cv_X2_191 ⟨_, _, rfl⟩ (q_cir_n hc4 0) (q_cir_K hc4) rfl (Nat.le_refl _) (Nat.le_of_ble_eq_true rfl) (by decide) dX2_readWhile_32 rfl hF (fun r6 h5 hF => ?_)
    refine q_istore_n (i := 3) dX2_readWhile_35 rfl (by decide) rfl ?_
    refine q_aload_n (i := 0) dX2_readWhile_36 rfl rfl ?_
    obtain ⟨c7, hrc7, hc7, hF⟩ := hF
    refine q_getR (k := c7) 3 3 fl_X2_36 (by decide) rfl rfl hrc7 dX2_readWhile_37 ?_
    refine q_callVi (ci := 1) (o := c7) (As := []) (st := []) cv_X2_191 ⟨_, _, rfl⟩ (q_cir_n hc7 0) (q_cir_K hc7) rfl (Nat.le_refl _) (Nat.le_of_ble_eq_true rfl) (by decide) dX2_readWhile_40 rfl hF (fun r9 h8 hF => ?_)
    refine q_istore dX2_readWhile_43 (by decide) rfl ?_
    refine q_aload_n (i := 0) dX2_readWhile_45 rfl rfl ?_
    obtain ⟨c10, hrc10, hc10, hF⟩ := hF
    refine q_getR (k := c10) 3 3 fl_X2_36 (by decide) rfl rfl hrc10 dX2_readWhile_46 ?_
    refine q_iload_n (i := 3) dX2_readWhile_49 rfl rfl ?_
    refine q_callVv (ci := 1) (o := c10) (As := [.int r6]) (st := []) cv_X2_197 ⟨_, _, rfl⟩ (q_cir_n hc10 0) (q_cir_K hc10) rfl (Nat.le_refl _) (Nat.le_of_ble_eq_true rfl) (by decide) dX2_readWhile_50 rfl hF (fun h11 hF => ?_)
    refine q_aload_n (i := 0) dX2_readWhile_53 rfl rfl ?_
    refine q_callVi (ci := 3) (o := 21) (As := []) (st := []) cv_X2_188 ⟨_, _, rfl⟩ (by decide) rfl rfl (Nat.le_refl _) (Nat.le_of_ble_eq_true rfl) (by decide) dX2_readWhile_54 rfl hF (fun r13 h12 hF => ?_)
    refine q_if_ne (tgt := 62) dX2_readWhile_57 (by decide) (fun hb => ?_) (fun hb => ?_)
    · have hF := hF.1 hb
      refine q_aload_n (i := 0) dX2_readWhile_62 rfl rfl ?_
      obtain ⟨c14, hrc14, hc14, hF⟩ := hF
      refine q_getR (k := c14) 3 3 fl_X2_36 (by decide) rfl rfl hrc14 dX2_readWhile_63 ?_
      refine q_bipush (v := 6) dX2_readWhile_66 (by decide) ?_
      refine q_aload_n (i := 0) dX2_readWhile_68 rfl rfl ?_
      refine q_getP 3 2 27 fl_X2_32 (by decide) rfl rfl rfl dX2_readWhile_69 ?_
      refine q_callVi (ci := 2) (o := 27) (As := []) (st := [.int 6, .ref c14]) cv_X2_170 ⟨_, _, rfl⟩ (by decide) rfl rfl (Nat.le_refl _) (Nat.le_of_ble_eq_true rfl) (by decide) dX2_readWhile_72 rfl hF (fun r16 h15 hF => ?_)
      refine q_iconst (v := (-1)) dX2_readWhile_75 (by decide) ?_
      refine q_iload dX2_readWhile_76 rfl ?_
      refine q_callVi (ci := 1) (o := c14) (As := [.int 6, .int r16, .int (-1), .int r9]) (st := []) cv_X2_74 ⟨_, _, rfl⟩ (q_cir_n hc14 0) (q_cir_K hc14) rfl (Nat.le_refl _) (Nat.le_of_ble_eq_true rfl) (by decide) dX2_readWhile_78 rfl hF (fun r18 h17 hF => ?_)
      refine q_pop dX2_readWhile_81 rfl ?_
      refine q_aload_n (i := 0) dX2_readWhile_82 rfl rfl ?_
      obtain ⟨c19, hrc19, hc19, hF⟩ := hF
      refine q_getR (k := c19) 3 3 fl_X2_36 (by decide) rfl rfl hrc19 dX2_readWhile_83 ?_
      refine q_bipush (v := 7) dX2_readWhile_86 (by decide) ?_
      refine q_iconst (v := (-1)) dX2_readWhile_88 (by decide) ?_
      refine q_iconst (v := (-1)) dX2_readWhile_89 (by decide) ?_
      refine q_iconst (v := (-1)) dX2_readWhile_90 (by decide) ?_
      refine q_callVi (ci := 1) (o := c19) (As := [.int 7, .int (-1), .int (-1), .int (-1)]) (st := []) cv_X2_74 ⟨_, _, rfl⟩ (q_cir_n hc19 0) (q_cir_K hc19) rfl (Nat.le_refl _) (Nat.le_of_ble_eq_true rfl) (by decide) dX2_readWhile_91 rfl hF (fun r21 h20 hF => ?_)
      refine q_pop dX2_readWhile_94 rfl ?_
      refine q_aload_n (i := 0) dX2_readWhile_95 rfl rfl ?_
      refine q_iload_n (i := 3) dX2_readWhile_96 rfl rfl ?_
      refine q_putI 3 4 fp_X2_61 (Or.inr ⟨_, _, _, rfl, rfl⟩) (by decide) rfl rfl dX2_readWhile_97 ?_
      refine q_aload_n (i := 0) dX2_readWhile_100 rfl rfl ?_
      refine q_iload dX2_readWhile_101 rfl ?_
      refine q_putI 3 5 fp_X2_64 (Or.inr ⟨_, _, _, rfl, rfl⟩) (by decide) rfl rfl dX2_readWhile_103 ?_
      refine q_aload_n (i := 0) dX2_readWhile_106 rfl rfl ?_
      refine q_callVi (ci := 3) (o := 21) (As := []) (st := []) cv_X2_194 ⟨_, _, rfl⟩ (by decide) rfl rfl (Nat.le_refl _) (Nat.le_of_ble_eq_true rfl) (by decide) dX2_readWhile_107 rfl hF (fun r23 h22 hF => ?_)
      refine q_if_ne (tgt := 115) dX2_readWhile_110 (by decide) (fun hb => ?_) (fun hb => ?_)
      · have hF := hF.1 hb
        refine q_aload_n (i := 0) dX2_readWhile_115 rfl rfl ?_
        refine q_iload_n (i := 1) dX2_readWhile_116 rfl rfl ?_
        refine q_putI 3 4 fp_X2_61 (Or.inr ⟨_, _, _, rfl, rfl⟩) (by decide) rfl rfl dX2_readWhile_117 ?_
        refine q_aload_n (i := 0) dX2_readWhile_120 rfl rfl ?_
        refine q_iload_n (i := 2) dX2_readWhile_121 rfl rfl ?_
        refine q_putI 3 5 fp_X2_64 (Or.inr ⟨_, _, _, rfl, rfl⟩) (by decide) rfl rfl dX2_readWhile_122 ?_
        refine q_aload_n (i := 0) dX2_readWhile_125 rfl rfl ?_
        obtain ⟨c24, hrc24, hc24, hF⟩ := hF
        refine q_getR (k := c24) 3 3 fl_X2_36 (by decide) rfl rfl hrc24 dX2_readWhile_126 ?_
        refine q_bipush (v := 8) dX2_readWhile_129 (by decide) ?_
        refine q_iconst (v := (-1)) dX2_readWhile_131 (by decide) ?_
        refine q_iconst (v := (-1)) dX2_readWhile_132 (by decide) ?_
        refine q_iload_n (i := 3) dX2_readWhile_133 rfl rfl ?_
        refine q_callVi (ci := 1) (o := c24) (As := [.int 8, .int (-1), .int (-1), .int r6]) (st := []) cv_X2_74 ⟨_, _, rfl⟩ (q_cir_n hc24 0) (q_cir_K hc24) rfl (Nat.le_refl _) (Nat.le_of_ble_eq_true rfl) (by decide) dX2_readWhile_134 rfl hF (fun r26 h25 hF => ?_)
        refine q_pop dX2_readWhile_137 rfl ?_
        refine q_aload_n (i := 0) dX2_readWhile_138 rfl rfl ?_
        obtain ⟨c27, hrc27, hc27, hF⟩ := hF
        refine q_getR (k := c27) 3 3 fl_X2_36 (by decide) rfl rfl hrc27 dX2_readWhile_139 ?_
        refine q_iload dX2_readWhile_142 rfl ?_
        refine q_callVv (ci := 1) (o := c27) (As := [.int r9]) (st := []) cv_X2_197 ⟨_, _, rfl⟩ (q_cir_n hc27 0) (q_cir_K hc27) rfl (Nat.le_refl _) (Nat.le_of_ble_eq_true rfl) (by decide) dX2_readWhile_144 rfl hF (fun h28 hF => ?_)
        refine q_aload_n (i := 0) dX2_readWhile_147 rfl rfl ?_
        refine q_getP 3 0 22 fl_X2_14 (by decide) rfl rfl rfl dX2_readWhile_148 ?_
        refine q_callVv (ci := 5) (o := 22) (As := []) (st := []) cv_X2_130 ⟨_, _, rfl⟩ (by decide) rfl rfl (Nat.le_refl _) (Nat.le_of_ble_eq_true rfl) (by decide) dX2_readWhile_151 rfl hF (fun h29 hF => ?_)
        refine q_iconst (v := 1) dX2_readWhile_154 (by decide) ?_
        exact q_zret rfl (by decide) (by decide) (by decide) dX2_readWhile_155 hF
      · have hF := hF.2 hb
        refine q_iconst (v := 0) dX2_readWhile_113 (by decide) ?_
        exact q_zret rfl (by decide) (by decide) (by decide) dX2_readWhile_114 hF
    · have hF := hF.2 hb
      refine q_iconst (v := 0) dX2_readWhile_60 (by decide) ?_
      exact q_zret rfl (by decide) (by decide) (by decide) dX2_readWhile_61 hF
  · have hF := hF.2 hb
    refine q_iconst (v := 0) dX2_readWhile_16 (by decide) ?_
    exact q_zret rfl (by decide) (by decide) (by decide) dX2_readWhile_17 hF
def m_X2_countBranching : qm := (RX2, cX2_countBranching, 1, none, [], false)
set_option maxRecDepth 100000 in
set_option maxHeartbeats 4000000 in
theorem x_X2_countBranching (G : qG) (d : Nat)  (h : qh) (Q : qr → qh → Prop)  (hF : ∃ c1, h.R 21 3 = some c1 ∧ q_cir c1 ∧ (q_M0 G d yX4_blame [.ref 22, .int (if (h.I c1 11) < 40 then (0 : Int32) else 6), .int (h.I 22 4)] h (q_rv (fun h3 => ∃ c4, h3.R 21 3 = some c4 ∧ q_cir c4 ∧ (Q (.inl none) (h3.sI c4 11 ((h3.I c4 11) + 1)))) (fun E h => Q (.inr E) h)))) : q_M0 G (d + 1) yX2_countBranching [.ref 21] h Q := by
  refine q_of (M := m_X2_countBranching) (by decide +kernel) rfl rfl cd_X2_countBranching (by decide) (Nat.le_of_ble_eq_true rfl) ?_
  show q_N0 G m_X2_countBranching (d + 1) Q 0 [.ref 21] [] h
  refine q_aload_n (i := 0) dX2_countBranching_0 rfl rfl ?_
  refine q_getP 3 0 22 fl_X2_14 (by decide) rfl rfl rfl dX2_countBranching_1 ?_
  refine q_aload_n (i := 0) dX2_countBranching_4 rfl rfl ?_
  obtain ⟨c1, hrc1, hc1, hF⟩ := hF
  refine q_getR (k := c1) 3 3 fl_X2_36 (by decide) rfl rfl hrc1 dX2_countBranching_5 ?_
  refine q_getIv (v := h.I c1 11) 1 11 fl_X2_200 (q_cir_n hc1 0) (q_cir_K hc1) rfl (rfl) dX2_countBranching_8 ?_
  refine q_bipush (v := 40) dX2_countBranching_11 (by decide) ?_
  have K2 := q_ite (c := (h.I c1 11) < 40) (X := fun v => q_N0 G m_X2_countBranching (d + 1) Q 22 [.ref 21] (.int v :: [.ref 22]) h) (a := 0) (b := 6) (by
    refine q_aload_n (i := 0) dX2_countBranching_22 rfl rfl ?_
    refine q_getP 3 0 22 fl_X2_14 (by decide) rfl rfl rfl dX2_countBranching_23 ?_
    refine q_getIv (v := h.I 22 4) 5 4 fl_X2_121 (by decide) rfl rfl (rfl) dX2_countBranching_26 ?_
    refine q_callVv (ci := 5) (o := 22) (As := [.int (if (h.I c1 11) < 40 then (0 : Int32) else 6), .int (h.I 22 4)]) (st := []) cv_X2_108 ⟨_, _, rfl⟩ (by decide) rfl rfl (Nat.le_refl _) (Nat.le_of_ble_eq_true rfl) (by decide) dX2_countBranching_29 rfl hF (fun h3 hF => ?_)
    refine q_aload_n (i := 0) dX2_countBranching_32 rfl rfl ?_
    obtain ⟨c4, hrc4, hc4, hF⟩ := hF
    refine q_getR (k := c4) 3 3 fl_X2_36 (by decide) rfl rfl hrc4 dX2_countBranching_33 ?_
    refine q_dup dX2_countBranching_36 rfl ?_
    refine q_getIv (v := h3.I c4 11) 1 11 fl_X2_200 (q_cir_n hc4 0) (q_cir_K hc4) rfl (rfl) dX2_countBranching_37 ?_
    refine q_iconst (v := 1) dX2_countBranching_40 (by decide) ?_
    refine q_iadd dX2_countBranching_41 ?_
    refine q_putI 1 11 fp_X2_200 (Or.inr ⟨_, _, _, rfl, rfl⟩) (q_cir_n hc4 0) (q_cir_K hc4) rfl dX2_countBranching_42 ?_
    exact q_vret rfl (by decide) (by decide) dX2_countBranching_45 hF)
  refine q_icmp_lt (tgt := 21) dX2_countBranching_13 (by decide) (fun hb => ?_) (fun hb => ?_)
  · refine q_iconst (v := 0) dX2_countBranching_21 (by decide) ?_
    exact K2.1 hb
  · refine q_bipush (v := 6) dX2_countBranching_16 (by decide) ?_
    refine q_goto (tgt := 22) dX2_countBranching_18 (by decide) ?_
    exact K2.2 hb
def m_X2_readCondition : qm := (RX2, cX2_readCondition, 1, (some .boolean), [], false)
set_option maxRecDepth 100000 in
set_option maxHeartbeats 4000000 in
theorem x_X2_readCondition (G : qG) (d : Nat)  (h : qh) (Q : qr → qh → Prop)  (hF : q_M0 G d yX4_enter [.ref 22, .int 40] h (q_ri (fun r2 h1 => (r2 = 0 → (Q (.inl (some (.int 0))) h1)) ∧ (¬ r2 = 0 → (q_M0 G d yX1_read [.ref 27] h1 (q_ri (fun r4 h3 => (¬ r4 = 0 → (q_M0 G d yX4_leave [.ref 22] h3 (q_rv (fun h5 => q_M0 G d yX4_pass [.ref 22, .int 41] h5 (q_ri (fun r7 h6 => (r7 = 0 ∨ r7 = 1) ∧ Q (.inl (some (.int r7))) h6) (fun E h => Q (.inr E) h))) (fun E h => Q (.inr E) h)))) ∧ (r4 = 0 → (Q (.inl (some (.int 0))) h3))) (fun E h => Q (.inr E) h))))) (fun E h => Q (.inr E) h))) : q_M0 G (d + 1) yX2_readCondition [.ref 21] h Q := by
  refine q_of (M := m_X2_readCondition) (by decide +kernel) rfl rfl cd_X2_readCondition (by decide) (Nat.le_of_ble_eq_true rfl) ?_
  show q_N0 G m_X2_readCondition (d + 1) Q 0 [.ref 21] [] h
  refine q_aload_n (i := 0) dX2_readCondition_0 rfl rfl ?_
  refine q_getP 3 0 22 fl_X2_14 (by decide) rfl rfl rfl dX2_readCondition_1 ?_
  refine q_bipush (v := 40) dX2_readCondition_4 (by decide) ?_
  refine q_callVi (ci := 5) (o := 22) (As := [.int 40]) (st := []) cv_X2_115 ⟨_, _, rfl⟩ (by decide) rfl rfl (Nat.le_refl _) (Nat.le_of_ble_eq_true rfl) (by decide) dX2_readCondition_6 rfl hF (fun r2 h1 hF => ?_)
  refine q_if_eq (tgt := 22) dX2_readCondition_9 (by decide) (fun hb => ?_) (fun hb => ?_)
  · have hF := hF.1 hb
    refine q_iconst (v := 0) dX2_readCondition_22 (by decide) ?_
    exact q_zret rfl (by decide) (by decide) (by decide) dX2_readCondition_23 hF
  · have hF := hF.2 hb
    refine q_aload_n (i := 0) dX2_readCondition_12 rfl rfl ?_
    refine q_getP 3 2 27 fl_X2_32 (by decide) rfl rfl rfl dX2_readCondition_13 ?_
    refine q_callVi (ci := 2) (o := 27) (As := []) (st := []) cv_X2_167 ⟨_, _, rfl⟩ (by decide) rfl rfl (Nat.le_refl _) (Nat.le_of_ble_eq_true rfl) (by decide) dX2_readCondition_16 rfl hF (fun r4 h3 hF => ?_)
    refine q_if_ne (tgt := 24) dX2_readCondition_19 (by decide) (fun hb => ?_) (fun hb => ?_)
    · have hF := hF.1 hb
      refine q_aload_n (i := 0) dX2_readCondition_24 rfl rfl ?_
      refine q_getP 3 0 22 fl_X2_14 (by decide) rfl rfl rfl dX2_readCondition_25 ?_
      refine q_callVv (ci := 5) (o := 22) (As := []) (st := []) cv_X2_130 ⟨_, _, rfl⟩ (by decide) rfl rfl (Nat.le_refl _) (Nat.le_of_ble_eq_true rfl) (by decide) dX2_readCondition_28 rfl hF (fun h5 hF => ?_)
      refine q_aload_n (i := 0) dX2_readCondition_31 rfl rfl ?_
      refine q_getP 3 0 22 fl_X2_14 (by decide) rfl rfl rfl dX2_readCondition_32 ?_
      refine q_bipush (v := 41) dX2_readCondition_35 (by decide) ?_
      refine q_callVi (ci := 5) (o := 22) (As := [.int 41]) (st := []) cv_X2_87 ⟨_, _, rfl⟩ (by decide) rfl rfl (Nat.le_refl _) (Nat.le_of_ble_eq_true rfl) (by decide) dX2_readCondition_37 rfl hF (fun r7 h6 hF => ?_)
      exact q_zret rfl hF.1 (by decide) (by decide) dX2_readCondition_40 hF.2
    · have hF := hF.2 hb
      refine q_iconst (v := 0) dX2_readCondition_22 (by decide) ?_
      exact q_zret rfl (by decide) (by decide) (by decide) dX2_readCondition_23 hF
def m_X2_readBody : qm := (RX2, cX2_readBody, 3, (some .boolean), [], false)
set_option maxRecDepth 100000 in
set_option maxHeartbeats 4000000 in
theorem x_X2_readBody (G : qG) (d : Nat)  (h : qh) (Q : qr → qh → Prop)  (hF : q_M0 G d yX2_readStatement [.ref 21] h (q_ri (fun r2 h1 => (r2 = 0 ∨ r2 = 1) ∧ Q (.inl (some (.int r2))) (h1.sI 23 3 (h.I 23 3))) (fun E h => Q (.inr E) h))) : q_M0 G (d + 1) yX2_readBody [.ref 21] h Q := by
  refine q_of (M := m_X2_readBody) (by decide +kernel) rfl rfl cd_X2_readBody (by decide) (Nat.le_of_ble_eq_true rfl) ?_
  show q_N0 G m_X2_readBody (d + 1) Q 0 [.ref 21, .null, .null] [] h
  refine q_aload_n (i := 0) dX2_readBody_0 rfl rfl ?_
  refine q_getP 3 1 23 fl_X2_23 (by decide) rfl rfl rfl dX2_readBody_1 ?_
  refine q_getIv (v := h.I 23 3) 6 3 fl_X2_55 (by decide) rfl rfl (rfl) dX2_readBody_4 ?_
  refine q_istore_n (i := 1) dX2_readBody_7 rfl (by decide) rfl ?_
  refine q_aload_n (i := 0) dX2_readBody_8 rfl rfl ?_
  refine q_callVi (ci := 3) (o := 21) (As := []) (st := []) cv_X2_146 ⟨_, _, rfl⟩ (by decide) rfl rfl (Nat.le_refl _) (Nat.le_of_ble_eq_true rfl) (by decide) dX2_readBody_9 rfl hF (fun r2 h1 hF => ?_)
  refine q_istore_n (i := 2) dX2_readBody_12 rfl (by decide) rfl ?_
  refine q_aload_n (i := 0) dX2_readBody_13 rfl rfl ?_
  refine q_getP 3 1 23 fl_X2_23 (by decide) rfl rfl rfl dX2_readBody_14 ?_
  refine q_iload_n (i := 1) dX2_readBody_17 rfl rfl ?_
  refine q_putI 6 3 fp_X2_55 (Or.inr ⟨_, _, _, rfl, rfl⟩) (by decide) rfl rfl dX2_readBody_18 ?_
  refine q_iload_n (i := 2) dX2_readBody_21 rfl rfl ?_
  exact q_zret rfl hF.1 (by decide) (by decide) dX2_readBody_22 hF.2
def m_X2_readLeap : qm := (RX2, cX2_readLeap, 2, (some .boolean), [], false)
set_option maxRecDepth 100000 in
set_option maxHeartbeats 4000000 in
theorem x_X2_readLeap (G : qG) (d : Nat) (x1 : Int32) (h : qh) (Q : qr → qh → Prop)  (hF : q_M0 G d yX4_blame [.ref 22, .int (if x1 = (-1) then (5 : Int32) else 0), .int (h.I 22 4)] h (q_rv (fun h2 => ∃ c3, h2.R 21 3 = some c3 ∧ q_cir c3 ∧ (q_M0 G d yX0_lay [.ref c3, .int 8, .int (-1), .int (-1), .int x1] h2 (q_ri (fun r5 h4 => q_M0 G d yX4_advance [.ref 22] h4 (q_rv (fun h6 => q_M0 G d yX4_pass [.ref 22, .int 59] h6 (q_ri (fun r8 h7 => (r8 = 0 ∨ r8 = 1) ∧ Q (.inl (some (.int r8))) h7) (fun E h => Q (.inr E) h))) (fun E h => Q (.inr E) h))) (fun E h => Q (.inr E) h)))) (fun E h => Q (.inr E) h))) : q_M0 G (d + 1) yX2_readLeap [.ref 21, .int x1] h Q := by
  refine q_of (M := m_X2_readLeap) (by decide +kernel) rfl rfl cd_X2_readLeap (by decide) (Nat.le_of_ble_eq_true rfl) ?_
  show q_N0 G m_X2_readLeap (d + 1) Q 0 [.ref 21, .int x1] [] h
  refine q_aload_n (i := 0) dX2_readLeap_0 rfl rfl ?_
  refine q_getP 3 0 22 fl_X2_14 (by decide) rfl rfl rfl dX2_readLeap_1 ?_
  refine q_iload_n (i := 1) dX2_readLeap_4 rfl rfl ?_
  refine q_iconst (v := (-1)) dX2_readLeap_5 (by decide) ?_
  have K1 := q_ite (c := x1 = (-1)) (X := fun v => q_N0 G m_X2_readLeap (d + 1) Q 14 [.ref 21, .int x1] (.int v :: [.ref 22]) h) (a := 5) (b := 0) (by
    refine q_aload_n (i := 0) dX2_readLeap_14 rfl rfl ?_
    refine q_getP 3 0 22 fl_X2_14 (by decide) rfl rfl rfl dX2_readLeap_15 ?_
    refine q_getIv (v := h.I 22 4) 5 4 fl_X2_121 (by decide) rfl rfl (rfl) dX2_readLeap_18 ?_
    refine q_callVv (ci := 5) (o := 22) (As := [.int (if x1 = (-1) then (5 : Int32) else 0), .int (h.I 22 4)]) (st := []) cv_X2_108 ⟨_, _, rfl⟩ (by decide) rfl rfl (Nat.le_refl _) (Nat.le_of_ble_eq_true rfl) (by decide) dX2_readLeap_21 rfl hF (fun h2 hF => ?_)
    refine q_aload_n (i := 0) dX2_readLeap_24 rfl rfl ?_
    obtain ⟨c3, hrc3, hc3, hF⟩ := hF
    refine q_getR (k := c3) 3 3 fl_X2_36 (by decide) rfl rfl hrc3 dX2_readLeap_25 ?_
    refine q_bipush (v := 8) dX2_readLeap_28 (by decide) ?_
    refine q_iconst (v := (-1)) dX2_readLeap_30 (by decide) ?_
    refine q_iconst (v := (-1)) dX2_readLeap_31 (by decide) ?_
    refine q_iload_n (i := 1) dX2_readLeap_32 rfl rfl ?_
    refine q_callVi (ci := 1) (o := c3) (As := [.int 8, .int (-1), .int (-1), .int x1]) (st := []) cv_X2_74 ⟨_, _, rfl⟩ (q_cir_n hc3 0) (q_cir_K hc3) rfl (Nat.le_refl _) (Nat.le_of_ble_eq_true rfl) (by decide) dX2_readLeap_33 rfl hF (fun r5 h4 hF => ?_)
    refine q_pop dX2_readLeap_36 rfl ?_
    refine q_aload_n (i := 0) dX2_readLeap_37 rfl rfl ?_
    refine q_getP 3 0 22 fl_X2_14 (by decide) rfl rfl rfl dX2_readLeap_38 ?_
    refine q_callVv (ci := 5) (o := 22) (As := []) (st := []) cv_X2_139 ⟨_, _, rfl⟩ (by decide) rfl rfl (Nat.le_refl _) (Nat.le_of_ble_eq_true rfl) (by decide) dX2_readLeap_41 rfl hF (fun h6 hF => ?_)
    refine q_aload_n (i := 0) dX2_readLeap_44 rfl rfl ?_
    refine q_getP 3 0 22 fl_X2_14 (by decide) rfl rfl rfl dX2_readLeap_45 ?_
    refine q_bipush (v := 59) dX2_readLeap_48 (by decide) ?_
    refine q_callVi (ci := 5) (o := 22) (As := [.int 59]) (st := []) cv_X2_87 ⟨_, _, rfl⟩ (by decide) rfl rfl (Nat.le_refl _) (Nat.le_of_ble_eq_true rfl) (by decide) dX2_readLeap_50 rfl hF (fun r8 h7 hF => ?_)
    exact q_zret rfl hF.1 (by decide) (by decide) dX2_readLeap_53 hF.2)
  refine q_icmp_ne (tgt := 13) dX2_readLeap_6 (by decide) (fun hb => ?_) (fun hb => ?_)
  · refine q_iconst (v := 0) dX2_readLeap_13 (by decide) ?_
    exact K1.2 hb
  · refine q_iconst (v := 5) dX2_readLeap_9 (by decide) ?_
    refine q_goto (tgt := 14) dX2_readLeap_10 (by decide) ?_
    exact K1.1 hb
def m_X2_readReturn : qm := (RX2, cX2_readReturn, 1, (some .boolean), [], false)
set_option maxRecDepth 100000 in
set_option maxHeartbeats 4000000 in
theorem x_X2_readReturn (G : qG) (d : Nat)  (h : qh) (Q : qr → qh → Prop)  (hF : q_M0 G d yX4_advance [.ref 22] h (q_rv (fun h1 => q_M0 G d yX1_read [.ref 27] h1 (q_ri (fun r3 h2 => (r3 = 0 → (Q (.inl (some (.int 0))) h2)) ∧ (¬ r3 = 0 → (q_M0 G d yX4_pass [.ref 22, .int 59] h2 (q_ri (fun r5 h4 => (¬ r5 = 0 → (∃ c6, h4.R 21 3 = some c6 ∧ q_cir c6 ∧ (q_M0 G d yX1_result [.ref 27] h4 (q_ri (fun r8 h7 => q_M0 G d yX0_lay [.ref c6, .int 9, .int r8, .int (-1), .int (-1)] h7 (q_ri (fun r10 h9 => Q (.inl (some (.int 1))) h9) (fun E h => Q (.inr E) h))) (fun E h => Q (.inr E) h))))) ∧ (r5 = 0 → (Q (.inl (some (.int 0))) h4))) (fun E h => Q (.inr E) h))))) (fun E h => Q (.inr E) h))) (fun E h => Q (.inr E) h))) : q_M0 G (d + 1) yX2_readReturn [.ref 21] h Q := by
  refine q_of (M := m_X2_readReturn) (by decide +kernel) rfl rfl cd_X2_readReturn (by decide) (Nat.le_of_ble_eq_true rfl) ?_
  show q_N0 G m_X2_readReturn (d + 1) Q 0 [.ref 21] [] h
  refine q_aload_n (i := 0) dX2_readReturn_0 rfl rfl ?_
  refine q_getP 3 0 22 fl_X2_14 (by decide) rfl rfl rfl dX2_readReturn_1 ?_
  refine q_callVv (ci := 5) (o := 22) (As := []) (st := []) cv_X2_139 ⟨_, _, rfl⟩ (by decide) rfl rfl (Nat.le_refl _) (Nat.le_of_ble_eq_true rfl) (by decide) dX2_readReturn_4 rfl hF (fun h1 hF => ?_)
  refine q_aload_n (i := 0) dX2_readReturn_7 rfl rfl ?_
  refine q_getP 3 2 27 fl_X2_32 (by decide) rfl rfl rfl dX2_readReturn_8 ?_
  refine q_callVi (ci := 2) (o := 27) (As := []) (st := []) cv_X2_167 ⟨_, _, rfl⟩ (by decide) rfl rfl (Nat.le_refl _) (Nat.le_of_ble_eq_true rfl) (by decide) dX2_readReturn_11 rfl hF (fun r3 h2 hF => ?_)
  refine q_if_eq (tgt := 29) dX2_readReturn_14 (by decide) (fun hb => ?_) (fun hb => ?_)
  · have hF := hF.1 hb
    refine q_iconst (v := 0) dX2_readReturn_29 (by decide) ?_
    exact q_zret rfl (by decide) (by decide) (by decide) dX2_readReturn_30 hF
  · have hF := hF.2 hb
    refine q_aload_n (i := 0) dX2_readReturn_17 rfl rfl ?_
    refine q_getP 3 0 22 fl_X2_14 (by decide) rfl rfl rfl dX2_readReturn_18 ?_
    refine q_bipush (v := 59) dX2_readReturn_21 (by decide) ?_
    refine q_callVi (ci := 5) (o := 22) (As := [.int 59]) (st := []) cv_X2_87 ⟨_, _, rfl⟩ (by decide) rfl rfl (Nat.le_refl _) (Nat.le_of_ble_eq_true rfl) (by decide) dX2_readReturn_23 rfl hF (fun r5 h4 hF => ?_)
    refine q_if_ne (tgt := 31) dX2_readReturn_26 (by decide) (fun hb => ?_) (fun hb => ?_)
    · have hF := hF.1 hb
      refine q_aload_n (i := 0) dX2_readReturn_31 rfl rfl ?_
      obtain ⟨c6, hrc6, hc6, hF⟩ := hF
      refine q_getR (k := c6) 3 3 fl_X2_36 (by decide) rfl rfl hrc6 dX2_readReturn_32 ?_
      refine q_bipush (v := 9) dX2_readReturn_35 (by decide) ?_
      refine q_aload_n (i := 0) dX2_readReturn_37 rfl rfl ?_
      refine q_getP 3 2 27 fl_X2_32 (by decide) rfl rfl rfl dX2_readReturn_38 ?_
      refine q_callVi (ci := 2) (o := 27) (As := []) (st := [.int 9, .ref c6]) cv_X2_170 ⟨_, _, rfl⟩ (by decide) rfl rfl (Nat.le_refl _) (Nat.le_of_ble_eq_true rfl) (by decide) dX2_readReturn_41 rfl hF (fun r8 h7 hF => ?_)
      refine q_iconst (v := (-1)) dX2_readReturn_44 (by decide) ?_
      refine q_iconst (v := (-1)) dX2_readReturn_45 (by decide) ?_
      refine q_callVi (ci := 1) (o := c6) (As := [.int 9, .int r8, .int (-1), .int (-1)]) (st := []) cv_X2_74 ⟨_, _, rfl⟩ (q_cir_n hc6 0) (q_cir_K hc6) rfl (Nat.le_refl _) (Nat.le_of_ble_eq_true rfl) (by decide) dX2_readReturn_46 rfl hF (fun r10 h9 hF => ?_)
      refine q_pop dX2_readReturn_49 rfl ?_
      refine q_iconst (v := 1) dX2_readReturn_50 (by decide) ?_
      exact q_zret rfl (by decide) (by decide) (by decide) dX2_readReturn_51 hF
    · have hF := hF.2 hb
      refine q_iconst (v := 0) dX2_readReturn_29 (by decide) ?_
      exact q_zret rfl (by decide) (by decide) (by decide) dX2_readReturn_30 hF
def m_X3_clear : qm := (RX3, cX3_clear, 1, none, [], false)
set_option maxRecDepth 100000 in
set_option maxHeartbeats 4000000 in
theorem x_X3_clear (G : qG) (d : Nat)  (h : qh) (Q : qr → qh → Prop)  (hF : q_M0 G d yJ7_fill_53178 [.ref 32, .int 0] h (q_rv (fun h1 => Q (.inl none) h1) (fun E h => Q (.inr E) h))) : q_M0 G (d + 1) yX3_clear [.ref 31] h Q := by
  refine q_of (M := m_X3_clear) (by decide +kernel) rfl rfl cd_X3_clear (by decide) (Nat.le_of_ble_eq_true rfl) ?_
  show q_N0 G m_X3_clear (d + 1) Q 0 [.ref 31] [] h
  refine q_aload_n (i := 0) dX3_clear_0 rfl rfl ?_
  refine q_getP 4 0 32 fl_X3_9 (by decide) rfl rfl rfl dX3_clear_1 ?_
  refine q_iconst (v := 0) dX3_clear_4 (by decide) ?_
  refine q_callSv (As := [.ref 32, .int 0]) (st := []) cs_X3_27 rfl (Nat.le_refl _) (Nat.le_of_ble_eq_true rfl) (by decide) dX3_clear_5 rfl hF (fun h1 hF => ?_)
  exact q_vret rfl (by decide) (by decide) dX3_clear_8 hF
def m_X3_begin : qm := (RX3, cX3_begin, 1, none, [], false)
set_option maxRecDepth 100000 in
set_option maxHeartbeats 4000000 in
theorem x_X3_begin (G : qG) (d : Nat)  (h : qh) (Q : qr → qh → Prop)  (hF : Q (.inl none) (((h.sI 31 6 0).sI 31 7 0).sI 31 8 0)) : q_M0 G (d + 1) yX3_begin [.ref 31] h Q := by
  refine q_of (M := m_X3_begin) (by decide +kernel) rfl rfl cd_X3_begin (by decide) (Nat.le_of_ble_eq_true rfl) ?_
  show q_N0 G m_X3_begin (d + 1) Q 0 [.ref 31] [] h
  refine q_aload_n (i := 0) dX3_begin_0 rfl rfl ?_
  refine q_iconst (v := 0) dX3_begin_1 (by decide) ?_
  refine q_putI 4 6 fp_X3_33 (Or.inr ⟨_, _, _, rfl, rfl⟩) (by decide) rfl rfl dX3_begin_2 ?_
  refine q_aload_n (i := 0) dX3_begin_5 rfl rfl ?_
  refine q_iconst (v := 0) dX3_begin_6 (by decide) ?_
  refine q_putI 4 7 fp_X3_37 (Or.inr ⟨_, _, _, rfl, rfl⟩) (by decide) rfl rfl dX3_begin_7 ?_
  refine q_aload_n (i := 0) dX3_begin_10 rfl rfl ?_
  refine q_iconst (v := 0) dX3_begin_11 (by decide) ?_
  refine q_putI 4 8 fp_X3_40 (Or.inr ⟨_, _, _, rfl, rfl⟩) (by decide) rfl rfl dX3_begin_12 ?_
  exact q_vret rfl (by decide) (by decide) dX3_begin_15 hF
def m_X3_addRow : qm := (RX3, cX3_addRow, 2, none, [], false)
set_option maxRecDepth 100000 in
set_option maxHeartbeats 4000000 in
theorem x_X3_addRow (G : qG) (d : Nat) (x1 : Int32) (h : qh) (Q : qr → qh → Prop)  (hF : (32 ≤ (h.I 31 5) → (Q (.inl none) h)) ∧ (¬ 32 ≤ (h.I 31 5) → (vp_in (h.I 31 5) 32 ∧ (Q (.inl none) ((h.sI 33 ((h.I 31 5).toNatClampNeg) x1).sI 31 5 ((h.I 31 5) + 1)))))) : q_M0 G (d + 1) yX3_addRow [.ref 31, .int x1] h Q := by
  refine q_of (M := m_X3_addRow) (by decide +kernel) rfl rfl cd_X3_addRow (by decide) (Nat.le_of_ble_eq_true rfl) ?_
  show q_N0 G m_X3_addRow (d + 1) Q 0 [.ref 31, .int x1] [] h
  refine q_aload_n (i := 0) dX3_addRow_0 rfl rfl ?_
  refine q_getIv (v := h.I 31 5) 4 5 fl_X3_43 (by decide) rfl rfl (rfl) dX3_addRow_1 ?_
  refine q_bipush (v := 32) dX3_addRow_4 (by decide) ?_
  refine q_icmp_ge (tgt := 29) dX3_addRow_6 (by decide) (fun hb => ?_) (fun hb => ?_)
  · have hF := hF.1 hb
    exact q_vret rfl (by decide) (by decide) dX3_addRow_29 hF
  · have hF := hF.2 hb
    refine q_aload_n (i := 0) dX3_addRow_9 rfl rfl ?_
    refine q_getP 4 1 33 fl_X3_15 (by decide) rfl rfl rfl dX3_addRow_10 ?_
    refine q_aload_n (i := 0) dX3_addRow_13 rfl rfl ?_
    refine q_getIv (v := h.I 31 5) 4 5 fl_X3_43 (by decide) rfl rfl (rfl) dX3_addRow_14 ?_
    refine q_iload_n (i := 1) dX3_addRow_17 rfl rfl ?_
    obtain ⟨hi1, hF⟩ := hF
    refine q_iastore (n := 32) (by decide) rfl hi1 dX3_addRow_18 ?_
    refine q_aload_n (i := 0) dX3_addRow_19 rfl rfl ?_
    refine q_dup dX3_addRow_20 rfl ?_
    refine q_getIv (v := h.I 31 5) 4 5 fl_X3_43 (by decide) rfl rfl ((q_I_neo (by decide)).trans (rfl)) dX3_addRow_21 ?_
    refine q_iconst (v := 1) dX3_addRow_24 (by decide) ?_
    refine q_iadd dX3_addRow_25 ?_
    refine q_putI 4 5 fp_X3_43 (Or.inr ⟨_, _, _, rfl, rfl⟩) (by decide) rfl rfl dX3_addRow_26 ?_
    exact q_vret rfl (by decide) (by decide) dX3_addRow_29 hF
def m_X3_look : qm := (RX3, cX3_look, 3, (some .int), [], false)
set_option maxRecDepth 100000 in
set_option maxHeartbeats 4000000 in
theorem x_X3_look (G : qG) (d : Nat) (x1 : Int32) (x2 : Int32) (h : qh) (Q : qr → qh → Prop)  (hF : q_M0 G d yX3_isThere [.int x1, .int x2] h (q_ri (fun r2 h1 => (r2 = 0 → (Q (.inl (some (.int 0))) h1)) ∧ (¬ r2 = 0 → (vp_in ((x1 * 256) + x2) 2048 ∧ (Q (.inl (some (.int (h1.I 32 (((x1 * 256) + x2).toNatClampNeg))))) h1)))) (fun E h => Q (.inr E) h))) : q_M0 G (d + 1) yX3_look [.ref 31, .int x1, .int x2] h Q := by
  refine q_of (M := m_X3_look) (by decide +kernel) rfl rfl cd_X3_look (by decide) (Nat.le_of_ble_eq_true rfl) ?_
  show q_N0 G m_X3_look (d + 1) Q 0 [.ref 31, .int x1, .int x2] [] h
  refine q_iload_n (i := 1) dX3_look_0 rfl rfl ?_
  refine q_iload_n (i := 2) dX3_look_1 rfl rfl ?_
  refine q_callSi (As := [.int x1, .int x2]) (st := []) cs_X3_46 rfl (Nat.le_refl _) (Nat.le_of_ble_eq_true rfl) (by decide) dX3_look_2 rfl hF (fun r2 h1 hF => ?_)
  refine q_if_eq (tgt := 23) dX3_look_5 (by decide) (fun hb => ?_) (fun hb => ?_)
  · have hF := hF.1 hb
    refine q_iconst (v := 0) dX3_look_23 (by decide) ?_
    exact q_iret rfl (by decide) (by decide) dX3_look_24 hF
  · have hF := hF.2 hb
    refine q_aload_n (i := 0) dX3_look_8 rfl rfl ?_
    refine q_getP 4 0 32 fl_X3_9 (by decide) rfl rfl rfl dX3_look_9 ?_
    refine q_iload_n (i := 1) dX3_look_12 rfl rfl ?_
    refine q_sipush (v := 256) dX3_look_13 (by decide) ?_
    refine q_imul dX3_look_16 ?_
    refine q_iload_n (i := 2) dX3_look_17 rfl rfl ?_
    refine q_iadd dX3_look_18 ?_
    obtain ⟨hi3, hF⟩ := hF
    refine q_ialoadv (v := h1.I 32 (((x1 * 256) + x2).toNatClampNeg)) (n := 2048) (by decide) rfl hi3 (rfl) dX3_look_19 ?_
    refine q_goto (tgt := 24) dX3_look_20 (by decide) ?_
    exact q_iret rfl (by decide) (by decide) dX3_look_24 hF
def m_X3_put : qm := (RX3, cX3_put, 4, none, [], false)
set_option maxRecDepth 100000 in
set_option maxHeartbeats 4000000 in
theorem x_X3_put (G : qG) (d : Nat) (x1 : Int32) (x2 : Int32) (x3 : Int32) (h : qh) (Q : qr → qh → Prop)  (hF : q_M0 G d yX3_isThere [.int x1, .int x2] h (q_ri (fun r2 h1 => (r2 = 0 → (Q (.inl none) h1)) ∧ (¬ r2 = 0 → (vp_in ((x1 * 256) + x2) 2048 ∧ (Q (.inl none) (h1.sI 32 (((x1 * 256) + x2).toNatClampNeg) x3))))) (fun E h => Q (.inr E) h))) : q_M0 G (d + 1) yX3_put [.ref 31, .int x1, .int x2, .int x3] h Q := by
  refine q_of (M := m_X3_put) (by decide +kernel) rfl rfl cd_X3_put (by decide) (Nat.le_of_ble_eq_true rfl) ?_
  show q_N0 G m_X3_put (d + 1) Q 0 [.ref 31, .int x1, .int x2, .int x3] [] h
  refine q_iload_n (i := 1) dX3_put_0 rfl rfl ?_
  refine q_iload_n (i := 2) dX3_put_1 rfl rfl ?_
  refine q_callSi (As := [.int x1, .int x2]) (st := []) cs_X3_46 rfl (Nat.le_refl _) (Nat.le_of_ble_eq_true rfl) (by decide) dX3_put_2 rfl hF (fun r2 h1 hF => ?_)
  refine q_if_eq (tgt := 21) dX3_put_5 (by decide) (fun hb => ?_) (fun hb => ?_)
  · have hF := hF.1 hb
    exact q_vret rfl (by decide) (by decide) dX3_put_21 hF
  · have hF := hF.2 hb
    refine q_aload_n (i := 0) dX3_put_8 rfl rfl ?_
    refine q_getP 4 0 32 fl_X3_9 (by decide) rfl rfl rfl dX3_put_9 ?_
    refine q_iload_n (i := 1) dX3_put_12 rfl rfl ?_
    refine q_sipush (v := 256) dX3_put_13 (by decide) ?_
    refine q_imul dX3_put_16 ?_
    refine q_iload_n (i := 2) dX3_put_17 rfl rfl ?_
    refine q_iadd dX3_put_18 ?_
    refine q_iload_n (i := 3) dX3_put_19 rfl rfl ?_
    obtain ⟨hi3, hF⟩ := hF
    refine q_iastore (n := 2048) (by decide) rfl hi3 dX3_put_20 ?_
    exact q_vret rfl (by decide) (by decide) dX3_put_21 hF
def m_X3_fetch : qm := (RX3, cX3_fetch, 3, (some .int), [], false)
set_option maxRecDepth 100000 in
set_option maxHeartbeats 4000000 in
theorem x_X3_fetch (G : qG) (d : Nat) (x1 : Int32) (x2 : Int32) (h : qh) (Q : qr → qh → Prop)  (hF : q_M0 G d yX3_look [.ref 31, .int x1, .int x2] (h.sI 31 6 ((h.I 31 6) + 1)) (q_ri (fun r2 h1 => Q (.inl (some (.int r2))) h1) (fun E h => Q (.inr E) h))) : q_M0 G (d + 1) yX3_fetch [.ref 31, .int x1, .int x2] h Q := by
  refine q_of (M := m_X3_fetch) (by decide +kernel) rfl rfl cd_X3_fetch (by decide) (Nat.le_of_ble_eq_true rfl) ?_
  show q_N0 G m_X3_fetch (d + 1) Q 0 [.ref 31, .int x1, .int x2] [] h
  refine q_aload_n (i := 0) dX3_fetch_0 rfl rfl ?_
  refine q_dup dX3_fetch_1 rfl ?_
  refine q_getIv (v := h.I 31 6) 4 6 fl_X3_33 (by decide) rfl rfl (rfl) dX3_fetch_2 ?_
  refine q_iconst (v := 1) dX3_fetch_5 (by decide) ?_
  refine q_iadd dX3_fetch_6 ?_
  refine q_putI 4 6 fp_X3_33 (Or.inr ⟨_, _, _, rfl, rfl⟩) (by decide) rfl rfl dX3_fetch_7 ?_
  refine q_aload_n (i := 0) dX3_fetch_10 rfl rfl ?_
  refine q_iload_n (i := 1) dX3_fetch_11 rfl rfl ?_
  refine q_iload_n (i := 2) dX3_fetch_12 rfl rfl ?_
  refine q_callVi (ci := 4) (o := 31) (As := [.int x1, .int x2]) (st := []) cv_X3_50 ⟨_, _, rfl⟩ (by decide) rfl rfl (Nat.le_refl _) (Nat.le_of_ble_eq_true rfl) (by decide) dX3_fetch_13 rfl hF (fun r2 h1 hF => ?_)
  exact q_iret rfl (by decide) (by decide) dX3_fetch_16 hF
def m_X3_store : qm := (RX3, cX3_store, 4, none, [], false)
set_option maxRecDepth 100000 in
set_option maxHeartbeats 4000000 in
theorem x_X3_store (G : qG) (d : Nat) (x1 : Int32) (x2 : Int32) (x3 : Int32) (h : qh) (Q : qr → qh → Prop)  (hF : (200 ≤ (h.I 31 7) → (q_M0 G d yX3_put [.ref 31, .int x1, .int x2, .int x3] (h.sI 31 7 ((h.I 31 7) + 1)) (q_rv (fun h1 => Q (.inl none) h1) (fun E h => Q (.inr E) h)))) ∧ (¬ 200 ≤ (h.I 31 7) → (vp_in (h.I 31 7) 200 ∧ (vp_in (h.I 31 7) 200 ∧ (vp_in (h.I 31 7) 200 ∧ (q_M0 G d yX3_put [.ref 31, .int x1, .int x2, .int x3] ((((h.sI 34 ((h.I 31 7).toNatClampNeg) x1).sI 35 ((h.I 31 7).toNatClampNeg) x2).sI 36 ((h.I 31 7).toNatClampNeg) x3).sI 31 7 ((h.I 31 7) + 1)) (q_rv (fun h5 => Q (.inl none) h5) (fun E h => Q (.inr E) h)))))))) : q_M0 G (d + 1) yX3_store [.ref 31, .int x1, .int x2, .int x3] h Q := by
  refine q_of (M := m_X3_store) (by decide +kernel) rfl rfl cd_X3_store (by decide) (Nat.le_of_ble_eq_true rfl) ?_
  show q_N0 G m_X3_store (d + 1) Q 0 [.ref 31, .int x1, .int x2, .int x3] [] h
  refine q_aload_n (i := 0) dX3_store_0 rfl rfl ?_
  refine q_getIv (v := h.I 31 7) 4 7 fl_X3_37 (by decide) rfl rfl (rfl) dX3_store_1 ?_
  refine q_sipush (v := 200) dX3_store_4 (by decide) ?_
  refine q_icmp_ge (tgt := 40) dX3_store_7 (by decide) (fun hb => ?_) (fun hb => ?_)
  · have hF := hF.1 hb
    refine q_aload_n (i := 0) dX3_store_40 rfl rfl ?_
    refine q_dup dX3_store_41 rfl ?_
    refine q_getIv (v := h.I 31 7) 4 7 fl_X3_37 (by decide) rfl rfl (rfl) dX3_store_42 ?_
    refine q_iconst (v := 1) dX3_store_45 (by decide) ?_
    refine q_iadd dX3_store_46 ?_
    refine q_putI 4 7 fp_X3_37 (Or.inr ⟨_, _, _, rfl, rfl⟩) (by decide) rfl rfl dX3_store_47 ?_
    refine q_aload_n (i := 0) dX3_store_50 rfl rfl ?_
    refine q_iload_n (i := 1) dX3_store_51 rfl rfl ?_
    refine q_iload_n (i := 2) dX3_store_52 rfl rfl ?_
    refine q_iload_n (i := 3) dX3_store_53 rfl rfl ?_
    refine q_callVv (ci := 4) (o := 31) (As := [.int x1, .int x2, .int x3]) (st := []) cv_X3_54 ⟨_, _, rfl⟩ (by decide) rfl rfl (Nat.le_refl _) (Nat.le_of_ble_eq_true rfl) (by decide) dX3_store_54 rfl hF (fun h1 hF => ?_)
    exact q_vret rfl (by decide) (by decide) dX3_store_57 hF
  · have hF := hF.2 hb
    refine q_aload_n (i := 0) dX3_store_10 rfl rfl ?_
    refine q_getP 4 2 34 fl_X3_18 (by decide) rfl rfl rfl dX3_store_11 ?_
    refine q_aload_n (i := 0) dX3_store_14 rfl rfl ?_
    refine q_getIv (v := h.I 31 7) 4 7 fl_X3_37 (by decide) rfl rfl (rfl) dX3_store_15 ?_
    refine q_iload_n (i := 1) dX3_store_18 rfl rfl ?_
    obtain ⟨hi2, hF⟩ := hF
    refine q_iastore (n := 200) (by decide) rfl hi2 dX3_store_19 ?_
    refine q_aload_n (i := 0) dX3_store_20 rfl rfl ?_
    refine q_getP 4 3 35 fl_X3_21 (by decide) rfl rfl rfl dX3_store_21 ?_
    refine q_aload_n (i := 0) dX3_store_24 rfl rfl ?_
    refine q_getIv (v := h.I 31 7) 4 7 fl_X3_37 (by decide) rfl rfl ((q_I_neo (by decide)).trans (rfl)) dX3_store_25 ?_
    refine q_iload_n (i := 2) dX3_store_28 rfl rfl ?_
    obtain ⟨hi3, hF⟩ := hF
    refine q_iastore (n := 200) (by decide) rfl hi3 dX3_store_29 ?_
    refine q_aload_n (i := 0) dX3_store_30 rfl rfl ?_
    refine q_getP 4 4 36 fl_X3_24 (by decide) rfl rfl rfl dX3_store_31 ?_
    refine q_aload_n (i := 0) dX3_store_34 rfl rfl ?_
    refine q_getIv (v := h.I 31 7) 4 7 fl_X3_37 (by decide) rfl rfl ((q_I_neo (by decide)).trans ( (q_I_neo (by decide)).trans (rfl))) dX3_store_35 ?_
    refine q_iload_n (i := 3) dX3_store_38 rfl rfl ?_
    obtain ⟨hi4, hF⟩ := hF
    refine q_iastore (n := 200) (by decide) rfl hi4 dX3_store_39 ?_
    refine q_aload_n (i := 0) dX3_store_40 rfl rfl ?_
    refine q_dup dX3_store_41 rfl ?_
    refine q_getIv (v := h.I 31 7) 4 7 fl_X3_37 (by decide) rfl rfl ((q_I_neo (by decide)).trans ( (q_I_neo (by decide)).trans ( (q_I_neo (by decide)).trans (rfl)))) dX3_store_42 ?_
    refine q_iconst (v := 1) dX3_store_45 (by decide) ?_
    refine q_iadd dX3_store_46 ?_
    refine q_putI 4 7 fp_X3_37 (Or.inr ⟨_, _, _, rfl, rfl⟩) (by decide) rfl rfl dX3_store_47 ?_
    refine q_aload_n (i := 0) dX3_store_50 rfl rfl ?_
    refine q_iload_n (i := 1) dX3_store_51 rfl rfl ?_
    refine q_iload_n (i := 2) dX3_store_52 rfl rfl ?_
    refine q_iload_n (i := 3) dX3_store_53 rfl rfl ?_
    refine q_callVv (ci := 4) (o := 31) (As := [.int x1, .int x2, .int x3]) (st := []) cv_X3_54 ⟨_, _, rfl⟩ (by decide) rfl rfl (Nat.le_refl _) (Nat.le_of_ble_eq_true rfl) (by decide) dX3_store_54 rfl hF (fun h5 hF => ?_)
    exact q_vret rfl (by decide) (by decide) dX3_store_57 hF
def m_X3_ask : qm := (RX3, cX3_ask, 4, (some .int), [], false)
set_option maxRecDepth 100000 in
set_option maxHeartbeats 4000000 in
theorem x_X3_ask (G : qG) (d : Nat) (x1 : Int32) (h : qh) (Q : qr → qh → Prop)  (hF : ((h.I 31 8) ≤ x1 → (((h.I 31 5) ≤ 0 → ((((-1) : Int32) < 0 → (Q (.inl (some (.int 1))) (h.sI 31 8 (x1 + 1)))) ∧ (¬ ((-1) : Int32) < 0 → ((32 ≤ ((-1) : Int32) → (Q (.inl (some (.int 1))) (h.sI 31 8 (x1 + 1)))) ∧ (¬ 32 ≤ ((-1) : Int32) → (vp_in (-1) 32 ∧ (Q (.inl (some (.int (h.I 33 (Int32.toNatClampNeg (-1)))))) (h.sI 31 8 (x1 + (h.I 33 (Int32.toNatClampNeg (-1)))))))))))) ∧ (¬ (h.I 31 5) ≤ 0 → (¬ (h.I 31 5) = 0 ∧ (((((h.I 31 6) + (h.I 31 7)) - ((h.I 31 6) + (h.I 31 7)) / (h.I 31 5) * (h.I 31 5)) < 0 → (Q (.inl (some (.int 1))) (h.sI 31 8 (x1 + 1)))) ∧ (¬ (((h.I 31 6) + (h.I 31 7)) - ((h.I 31 6) + (h.I 31 7)) / (h.I 31 5) * (h.I 31 5)) < 0 → ((32 ≤ (((h.I 31 6) + (h.I 31 7)) - ((h.I 31 6) + (h.I 31 7)) / (h.I 31 5) * (h.I 31 5)) → (Q (.inl (some (.int 1))) (h.sI 31 8 (x1 + 1)))) ∧ (¬ 32 ≤ (((h.I 31 6) + (h.I 31 7)) - ((h.I 31 6) + (h.I 31 7)) / (h.I 31 5) * (h.I 31 5)) → (vp_in (((h.I 31 6) + (h.I 31 7)) - ((h.I 31 6) + (h.I 31 7)) / (h.I 31 5) * (h.I 31 5)) 32 ∧ (Q (.inl (some (.int (h.I 33 ((((h.I 31 6) + (h.I 31 7)) - ((h.I 31 6) + (h.I 31 7)) / (h.I 31 5) * (h.I 31 5)).toNatClampNeg))))) (h.sI 31 8 (x1 + (h.I 33 ((((h.I 31 6) + (h.I 31 7)) - ((h.I 31 6) + (h.I 31 7)) / (h.I 31 5) * (h.I 31 5)).toNatClampNeg)))))))))))))) ∧ (¬ (h.I 31 8) ≤ x1 → (((h.I 31 5) ≤ 0 → ((((-1) : Int32) < 0 → (Q (.inl (some (.int 1))) ((h.sI 31 9 ((h.I 31 9) + 1)).sI 31 8 (x1 + 1)))) ∧ (¬ ((-1) : Int32) < 0 → ((32 ≤ ((-1) : Int32) → (Q (.inl (some (.int 1))) ((h.sI 31 9 ((h.I 31 9) + 1)).sI 31 8 (x1 + 1)))) ∧ (¬ 32 ≤ ((-1) : Int32) → (vp_in (-1) 32 ∧ (Q (.inl (some (.int (h.I 33 (Int32.toNatClampNeg (-1)))))) ((h.sI 31 9 ((h.I 31 9) + 1)).sI 31 8 (x1 + (h.I 33 (Int32.toNatClampNeg (-1)))))))))))) ∧ (¬ (h.I 31 5) ≤ 0 → (¬ (h.I 31 5) = 0 ∧ (((((h.I 31 6) + (h.I 31 7)) - ((h.I 31 6) + (h.I 31 7)) / (h.I 31 5) * (h.I 31 5)) < 0 → (Q (.inl (some (.int 1))) ((h.sI 31 9 ((h.I 31 9) + 1)).sI 31 8 (x1 + 1)))) ∧ (¬ (((h.I 31 6) + (h.I 31 7)) - ((h.I 31 6) + (h.I 31 7)) / (h.I 31 5) * (h.I 31 5)) < 0 → ((32 ≤ (((h.I 31 6) + (h.I 31 7)) - ((h.I 31 6) + (h.I 31 7)) / (h.I 31 5) * (h.I 31 5)) → (Q (.inl (some (.int 1))) ((h.sI 31 9 ((h.I 31 9) + 1)).sI 31 8 (x1 + 1)))) ∧ (¬ 32 ≤ (((h.I 31 6) + (h.I 31 7)) - ((h.I 31 6) + (h.I 31 7)) / (h.I 31 5) * (h.I 31 5)) → (vp_in (((h.I 31 6) + (h.I 31 7)) - ((h.I 31 6) + (h.I 31 7)) / (h.I 31 5) * (h.I 31 5)) 32 ∧ (Q (.inl (some (.int (h.I 33 ((((h.I 31 6) + (h.I 31 7)) - ((h.I 31 6) + (h.I 31 7)) / (h.I 31 5) * (h.I 31 5)).toNatClampNeg))))) ((h.sI 31 9 ((h.I 31 9) + 1)).sI 31 8 (x1 + (h.I 33 ((((h.I 31 6) + (h.I 31 7)) - ((h.I 31 6) + (h.I 31 7)) / (h.I 31 5) * (h.I 31 5)).toNatClampNeg))))))))))))))) : q_M0 G (d + 1) yX3_ask [.ref 31, .int x1] h Q := by
  refine q_of (M := m_X3_ask) (by decide +kernel) rfl rfl cd_X3_ask (by decide) (Nat.le_of_ble_eq_true rfl) ?_
  show q_N0 G m_X3_ask (d + 1) Q 0 [.ref 31, .int x1, .null, .null] [] h
  refine q_iload_n (i := 1) dX3_ask_0 rfl rfl ?_
  refine q_aload_n (i := 0) dX3_ask_1 rfl rfl ?_
  refine q_getIv (v := h.I 31 8) 4 8 fl_X3_40 (by decide) rfl rfl (rfl) dX3_ask_2 ?_
  refine q_icmp_ge (tgt := 18) dX3_ask_5 (by decide) (fun hb => ?_) (fun hb => ?_)
  · have hF := hF.1 hb
    refine q_aload_n (i := 0) dX3_ask_18 rfl rfl ?_
    refine q_getIv (v := h.I 31 5) 4 5 fl_X3_43 (by decide) rfl rfl (rfl) dX3_ask_19 ?_
    refine q_if_le (tgt := 42) dX3_ask_22 (by decide) (fun hb => ?_) (fun hb => ?_)
    · have hF := hF.1 hb
      refine q_iconst (v := (-1)) dX3_ask_42 (by decide) ?_
      refine q_istore_n (i := 2) dX3_ask_43 rfl (by decide) rfl ?_
      refine q_iload_n (i := 2) dX3_ask_44 rfl rfl ?_
      refine q_if_lt (tgt := 63) dX3_ask_45 (by decide) (fun hb => ?_) (fun hb => ?_)
      · have hF := hF.1 hb
        refine q_iconst (v := 1) dX3_ask_63 (by decide) ?_
        refine q_istore_n (i := 3) dX3_ask_64 rfl (by decide) rfl ?_
        refine q_aload_n (i := 0) dX3_ask_65 rfl rfl ?_
        refine q_iload_n (i := 1) dX3_ask_66 rfl rfl ?_
        refine q_iload_n (i := 3) dX3_ask_67 rfl rfl ?_
        refine q_iadd dX3_ask_68 ?_
        refine q_putI 4 8 fp_X3_40 (Or.inr ⟨_, _, _, rfl, rfl⟩) (by decide) rfl rfl dX3_ask_69 ?_
        refine q_iload_n (i := 3) dX3_ask_72 rfl rfl ?_
        exact q_iret rfl (by decide) (by decide) dX3_ask_73 hF
      · have hF := hF.2 hb
        refine q_iload_n (i := 2) dX3_ask_48 rfl rfl ?_
        refine q_bipush (v := 32) dX3_ask_49 (by decide) ?_
        refine q_icmp_ge (tgt := 63) dX3_ask_51 (by decide) (fun hb => ?_) (fun hb => ?_)
        · have hF := hF.1 hb
          refine q_iconst (v := 1) dX3_ask_63 (by decide) ?_
          refine q_istore_n (i := 3) dX3_ask_64 rfl (by decide) rfl ?_
          refine q_aload_n (i := 0) dX3_ask_65 rfl rfl ?_
          refine q_iload_n (i := 1) dX3_ask_66 rfl rfl ?_
          refine q_iload_n (i := 3) dX3_ask_67 rfl rfl ?_
          refine q_iadd dX3_ask_68 ?_
          refine q_putI 4 8 fp_X3_40 (Or.inr ⟨_, _, _, rfl, rfl⟩) (by decide) rfl rfl dX3_ask_69 ?_
          refine q_iload_n (i := 3) dX3_ask_72 rfl rfl ?_
          exact q_iret rfl (by decide) (by decide) dX3_ask_73 hF
        · have hF := hF.2 hb
          refine q_aload_n (i := 0) dX3_ask_54 rfl rfl ?_
          refine q_getP 4 1 33 fl_X3_15 (by decide) rfl rfl rfl dX3_ask_55 ?_
          refine q_iload_n (i := 2) dX3_ask_58 rfl rfl ?_
          obtain ⟨hi1, hF⟩ := hF
          refine q_ialoadv (v := h.I 33 (Int32.toNatClampNeg (-1))) (n := 32) (by decide) rfl hi1 (rfl) dX3_ask_59 ?_
          refine q_goto (tgt := 64) dX3_ask_60 (by decide) ?_
          refine q_istore_n (i := 3) dX3_ask_64 rfl (by decide) rfl ?_
          refine q_aload_n (i := 0) dX3_ask_65 rfl rfl ?_
          refine q_iload_n (i := 1) dX3_ask_66 rfl rfl ?_
          refine q_iload_n (i := 3) dX3_ask_67 rfl rfl ?_
          refine q_iadd dX3_ask_68 ?_
          refine q_putI 4 8 fp_X3_40 (Or.inr ⟨_, _, _, rfl, rfl⟩) (by decide) rfl rfl dX3_ask_69 ?_
          refine q_iload_n (i := 3) dX3_ask_72 rfl rfl ?_
          exact q_iret rfl (by decide) (by decide) dX3_ask_73 hF
    · have hF := hF.2 hb
      refine q_aload_n (i := 0) dX3_ask_25 rfl rfl ?_
      refine q_getIv (v := h.I 31 6) 4 6 fl_X3_33 (by decide) rfl rfl (rfl) dX3_ask_26 ?_
      refine q_aload_n (i := 0) dX3_ask_29 rfl rfl ?_
      refine q_getIv (v := h.I 31 7) 4 7 fl_X3_37 (by decide) rfl rfl (rfl) dX3_ask_30 ?_
      refine q_iadd dX3_ask_33 ?_
      refine q_aload_n (i := 0) dX3_ask_34 rfl rfl ?_
      refine q_getIv (v := h.I 31 5) 4 5 fl_X3_43 (by decide) rfl rfl (rfl) dX3_ask_35 ?_
      obtain ⟨hn, hF⟩ := hF
      refine q_irem dX3_ask_38 hn ?_
      refine q_goto (tgt := 43) dX3_ask_39 (by decide) ?_
      refine q_istore_n (i := 2) dX3_ask_43 rfl (by decide) rfl ?_
      refine q_iload_n (i := 2) dX3_ask_44 rfl rfl ?_
      refine q_if_lt (tgt := 63) dX3_ask_45 (by decide) (fun hb => ?_) (fun hb => ?_)
      · have hF := hF.1 hb
        refine q_iconst (v := 1) dX3_ask_63 (by decide) ?_
        refine q_istore_n (i := 3) dX3_ask_64 rfl (by decide) rfl ?_
        refine q_aload_n (i := 0) dX3_ask_65 rfl rfl ?_
        refine q_iload_n (i := 1) dX3_ask_66 rfl rfl ?_
        refine q_iload_n (i := 3) dX3_ask_67 rfl rfl ?_
        refine q_iadd dX3_ask_68 ?_
        refine q_putI 4 8 fp_X3_40 (Or.inr ⟨_, _, _, rfl, rfl⟩) (by decide) rfl rfl dX3_ask_69 ?_
        refine q_iload_n (i := 3) dX3_ask_72 rfl rfl ?_
        exact q_iret rfl (by decide) (by decide) dX3_ask_73 hF
      · have hF := hF.2 hb
        refine q_iload_n (i := 2) dX3_ask_48 rfl rfl ?_
        refine q_bipush (v := 32) dX3_ask_49 (by decide) ?_
        refine q_icmp_ge (tgt := 63) dX3_ask_51 (by decide) (fun hb => ?_) (fun hb => ?_)
        · have hF := hF.1 hb
          refine q_iconst (v := 1) dX3_ask_63 (by decide) ?_
          refine q_istore_n (i := 3) dX3_ask_64 rfl (by decide) rfl ?_
          refine q_aload_n (i := 0) dX3_ask_65 rfl rfl ?_
          refine q_iload_n (i := 1) dX3_ask_66 rfl rfl ?_
          refine q_iload_n (i := 3) dX3_ask_67 rfl rfl ?_
          refine q_iadd dX3_ask_68 ?_
          refine q_putI 4 8 fp_X3_40 (Or.inr ⟨_, _, _, rfl, rfl⟩) (by decide) rfl rfl dX3_ask_69 ?_
          refine q_iload_n (i := 3) dX3_ask_72 rfl rfl ?_
          exact q_iret rfl (by decide) (by decide) dX3_ask_73 hF
        · have hF := hF.2 hb
          refine q_aload_n (i := 0) dX3_ask_54 rfl rfl ?_
          refine q_getP 4 1 33 fl_X3_15 (by decide) rfl rfl rfl dX3_ask_55 ?_
          refine q_iload_n (i := 2) dX3_ask_58 rfl rfl ?_
          obtain ⟨hi2, hF⟩ := hF
          refine q_ialoadv (v := h.I 33 ((((h.I 31 6) + (h.I 31 7)) - ((h.I 31 6) + (h.I 31 7)) / (h.I 31 5) * (h.I 31 5)).toNatClampNeg)) (n := 32) (by decide) rfl hi2 (rfl) dX3_ask_59 ?_
          refine q_goto (tgt := 64) dX3_ask_60 (by decide) ?_
          refine q_istore_n (i := 3) dX3_ask_64 rfl (by decide) rfl ?_
          refine q_aload_n (i := 0) dX3_ask_65 rfl rfl ?_
          refine q_iload_n (i := 1) dX3_ask_66 rfl rfl ?_
          refine q_iload_n (i := 3) dX3_ask_67 rfl rfl ?_
          refine q_iadd dX3_ask_68 ?_
          refine q_putI 4 8 fp_X3_40 (Or.inr ⟨_, _, _, rfl, rfl⟩) (by decide) rfl rfl dX3_ask_69 ?_
          refine q_iload_n (i := 3) dX3_ask_72 rfl rfl ?_
          exact q_iret rfl (by decide) (by decide) dX3_ask_73 hF
  · have hF := hF.2 hb
    refine q_aload_n (i := 0) dX3_ask_8 rfl rfl ?_
    refine q_dup dX3_ask_9 rfl ?_
    refine q_getIv (v := h.I 31 9) 4 9 fl_X3_58 (by decide) rfl rfl (rfl) dX3_ask_10 ?_
    refine q_iconst (v := 1) dX3_ask_13 (by decide) ?_
    refine q_iadd dX3_ask_14 ?_
    refine q_putI 4 9 fp_X3_58 (Or.inr ⟨_, _, _, rfl, rfl⟩) (by decide) rfl rfl dX3_ask_15 ?_
    refine q_aload_n (i := 0) dX3_ask_18 rfl rfl ?_
    refine q_getIv (v := h.I 31 5) 4 5 fl_X3_43 (by decide) rfl rfl ((q_I_nek (by decide)).trans (rfl)) dX3_ask_19 ?_
    refine q_if_le (tgt := 42) dX3_ask_22 (by decide) (fun hb => ?_) (fun hb => ?_)
    · have hF := hF.1 hb
      refine q_iconst (v := (-1)) dX3_ask_42 (by decide) ?_
      refine q_istore_n (i := 2) dX3_ask_43 rfl (by decide) rfl ?_
      refine q_iload_n (i := 2) dX3_ask_44 rfl rfl ?_
      refine q_if_lt (tgt := 63) dX3_ask_45 (by decide) (fun hb => ?_) (fun hb => ?_)
      · have hF := hF.1 hb
        refine q_iconst (v := 1) dX3_ask_63 (by decide) ?_
        refine q_istore_n (i := 3) dX3_ask_64 rfl (by decide) rfl ?_
        refine q_aload_n (i := 0) dX3_ask_65 rfl rfl ?_
        refine q_iload_n (i := 1) dX3_ask_66 rfl rfl ?_
        refine q_iload_n (i := 3) dX3_ask_67 rfl rfl ?_
        refine q_iadd dX3_ask_68 ?_
        refine q_putI 4 8 fp_X3_40 (Or.inr ⟨_, _, _, rfl, rfl⟩) (by decide) rfl rfl dX3_ask_69 ?_
        refine q_iload_n (i := 3) dX3_ask_72 rfl rfl ?_
        exact q_iret rfl (by decide) (by decide) dX3_ask_73 hF
      · have hF := hF.2 hb
        refine q_iload_n (i := 2) dX3_ask_48 rfl rfl ?_
        refine q_bipush (v := 32) dX3_ask_49 (by decide) ?_
        refine q_icmp_ge (tgt := 63) dX3_ask_51 (by decide) (fun hb => ?_) (fun hb => ?_)
        · have hF := hF.1 hb
          refine q_iconst (v := 1) dX3_ask_63 (by decide) ?_
          refine q_istore_n (i := 3) dX3_ask_64 rfl (by decide) rfl ?_
          refine q_aload_n (i := 0) dX3_ask_65 rfl rfl ?_
          refine q_iload_n (i := 1) dX3_ask_66 rfl rfl ?_
          refine q_iload_n (i := 3) dX3_ask_67 rfl rfl ?_
          refine q_iadd dX3_ask_68 ?_
          refine q_putI 4 8 fp_X3_40 (Or.inr ⟨_, _, _, rfl, rfl⟩) (by decide) rfl rfl dX3_ask_69 ?_
          refine q_iload_n (i := 3) dX3_ask_72 rfl rfl ?_
          exact q_iret rfl (by decide) (by decide) dX3_ask_73 hF
        · have hF := hF.2 hb
          refine q_aload_n (i := 0) dX3_ask_54 rfl rfl ?_
          refine q_getP 4 1 33 fl_X3_15 (by decide) rfl rfl rfl dX3_ask_55 ?_
          refine q_iload_n (i := 2) dX3_ask_58 rfl rfl ?_
          obtain ⟨hi3, hF⟩ := hF
          refine q_ialoadv (v := h.I 33 (Int32.toNatClampNeg (-1))) (n := 32) (by decide) rfl hi3 ((q_I_neo (by decide)).trans (rfl)) dX3_ask_59 ?_
          refine q_goto (tgt := 64) dX3_ask_60 (by decide) ?_
          refine q_istore_n (i := 3) dX3_ask_64 rfl (by decide) rfl ?_
          refine q_aload_n (i := 0) dX3_ask_65 rfl rfl ?_
          refine q_iload_n (i := 1) dX3_ask_66 rfl rfl ?_
          refine q_iload_n (i := 3) dX3_ask_67 rfl rfl ?_
          refine q_iadd dX3_ask_68 ?_
          refine q_putI 4 8 fp_X3_40 (Or.inr ⟨_, _, _, rfl, rfl⟩) (by decide) rfl rfl dX3_ask_69 ?_
          refine q_iload_n (i := 3) dX3_ask_72 rfl rfl ?_
          exact q_iret rfl (by decide) (by decide) dX3_ask_73 hF
    · have hF := hF.2 hb
      refine q_aload_n (i := 0) dX3_ask_25 rfl rfl ?_
      refine q_getIv (v := h.I 31 6) 4 6 fl_X3_33 (by decide) rfl rfl ((q_I_nek (by decide)).trans (rfl)) dX3_ask_26 ?_
      refine q_aload_n (i := 0) dX3_ask_29 rfl rfl ?_
      refine q_getIv (v := h.I 31 7) 4 7 fl_X3_37 (by decide) rfl rfl ((q_I_nek (by decide)).trans (rfl)) dX3_ask_30 ?_
      refine q_iadd dX3_ask_33 ?_
      refine q_aload_n (i := 0) dX3_ask_34 rfl rfl ?_
      refine q_getIv (v := h.I 31 5) 4 5 fl_X3_43 (by decide) rfl rfl ((q_I_nek (by decide)).trans (rfl)) dX3_ask_35 ?_
      obtain ⟨hn, hF⟩ := hF
      refine q_irem dX3_ask_38 hn ?_
      refine q_goto (tgt := 43) dX3_ask_39 (by decide) ?_
      refine q_istore_n (i := 2) dX3_ask_43 rfl (by decide) rfl ?_
      refine q_iload_n (i := 2) dX3_ask_44 rfl rfl ?_
      refine q_if_lt (tgt := 63) dX3_ask_45 (by decide) (fun hb => ?_) (fun hb => ?_)
      · have hF := hF.1 hb
        refine q_iconst (v := 1) dX3_ask_63 (by decide) ?_
        refine q_istore_n (i := 3) dX3_ask_64 rfl (by decide) rfl ?_
        refine q_aload_n (i := 0) dX3_ask_65 rfl rfl ?_
        refine q_iload_n (i := 1) dX3_ask_66 rfl rfl ?_
        refine q_iload_n (i := 3) dX3_ask_67 rfl rfl ?_
        refine q_iadd dX3_ask_68 ?_
        refine q_putI 4 8 fp_X3_40 (Or.inr ⟨_, _, _, rfl, rfl⟩) (by decide) rfl rfl dX3_ask_69 ?_
        refine q_iload_n (i := 3) dX3_ask_72 rfl rfl ?_
        exact q_iret rfl (by decide) (by decide) dX3_ask_73 hF
      · have hF := hF.2 hb
        refine q_iload_n (i := 2) dX3_ask_48 rfl rfl ?_
        refine q_bipush (v := 32) dX3_ask_49 (by decide) ?_
        refine q_icmp_ge (tgt := 63) dX3_ask_51 (by decide) (fun hb => ?_) (fun hb => ?_)
        · have hF := hF.1 hb
          refine q_iconst (v := 1) dX3_ask_63 (by decide) ?_
          refine q_istore_n (i := 3) dX3_ask_64 rfl (by decide) rfl ?_
          refine q_aload_n (i := 0) dX3_ask_65 rfl rfl ?_
          refine q_iload_n (i := 1) dX3_ask_66 rfl rfl ?_
          refine q_iload_n (i := 3) dX3_ask_67 rfl rfl ?_
          refine q_iadd dX3_ask_68 ?_
          refine q_putI 4 8 fp_X3_40 (Or.inr ⟨_, _, _, rfl, rfl⟩) (by decide) rfl rfl dX3_ask_69 ?_
          refine q_iload_n (i := 3) dX3_ask_72 rfl rfl ?_
          exact q_iret rfl (by decide) (by decide) dX3_ask_73 hF
        · have hF := hF.2 hb
          refine q_aload_n (i := 0) dX3_ask_54 rfl rfl ?_
          refine q_getP 4 1 33 fl_X3_15 (by decide) rfl rfl rfl dX3_ask_55 ?_
          refine q_iload_n (i := 2) dX3_ask_58 rfl rfl ?_
          obtain ⟨hi4, hF⟩ := hF
          refine q_ialoadv (v := h.I 33 ((((h.I 31 6) + (h.I 31 7)) - ((h.I 31 6) + (h.I 31 7)) / (h.I 31 5) * (h.I 31 5)).toNatClampNeg)) (n := 32) (by decide) rfl hi4 ((q_I_neo (by decide)).trans (rfl)) dX3_ask_59 ?_
          refine q_goto (tgt := 64) dX3_ask_60 (by decide) ?_
          refine q_istore_n (i := 3) dX3_ask_64 rfl (by decide) rfl ?_
          refine q_aload_n (i := 0) dX3_ask_65 rfl rfl ?_
          refine q_iload_n (i := 1) dX3_ask_66 rfl rfl ?_
          refine q_iload_n (i := 3) dX3_ask_67 rfl rfl ?_
          refine q_iadd dX3_ask_68 ?_
          refine q_putI 4 8 fp_X3_40 (Or.inr ⟨_, _, _, rfl, rfl⟩) (by decide) rfl rfl dX3_ask_69 ?_
          refine q_iload_n (i := 3) dX3_ask_72 rfl rfl ?_
          exact q_iret rfl (by decide) (by decide) dX3_ask_73 hF
def m_X3_isThere : qm := (RX3, cX3_isThere, 2, (some .boolean), [], false)
set_option maxRecDepth 100000 in
set_option maxHeartbeats 4000000 in
theorem x_X3_isThere (G : qG) (d : Nat) (x1 : Int32) (x2 : Int32) (h : qh) (Q : qr → qh → Prop)  (hF : (x1 < 0 → (Q (.inl (some (.int 0))) h)) ∧ (¬ x1 < 0 → ((8 ≤ x1 → (Q (.inl (some (.int 0))) h)) ∧ (¬ 8 ≤ x1 → ((x2 < 0 → (Q (.inl (some (.int 0))) h)) ∧ (¬ x2 < 0 → (((if 256 ≤ x2 then (0 : Int32) else 1) = 0 ∨ (if 256 ≤ x2 then (0 : Int32) else 1) = 1) ∧ Q (.inl (some (.int (if 256 ≤ x2 then (0 : Int32) else 1)))) h))))))) : q_M0 G (d + 1) yX3_isThere [.int x1, .int x2] h Q := by
  refine q_of (M := m_X3_isThere) (by decide +kernel) rfl rfl cd_X3_isThere (by decide) (Nat.le_of_ble_eq_true rfl) ?_
  show q_N0 G m_X3_isThere (d + 1) Q 0 [.int x1, .int x2] [] h
  refine q_iload_n (i := 0) dX3_isThere_0 rfl rfl ?_
  refine q_if_lt (tgt := 25) dX3_isThere_1 (by decide) (fun hb => ?_) (fun hb => ?_)
  · have hF := hF.1 hb
    refine q_iconst (v := 0) dX3_isThere_25 (by decide) ?_
    exact q_zret rfl (by decide) (by decide) (by decide) dX3_isThere_26 hF
  · have hF := hF.2 hb
    refine q_iload_n (i := 0) dX3_isThere_4 rfl rfl ?_
    refine q_bipush (v := 8) dX3_isThere_5 (by decide) ?_
    refine q_icmp_ge (tgt := 25) dX3_isThere_7 (by decide) (fun hb => ?_) (fun hb => ?_)
    · have hF := hF.1 hb
      refine q_iconst (v := 0) dX3_isThere_25 (by decide) ?_
      exact q_zret rfl (by decide) (by decide) (by decide) dX3_isThere_26 hF
    · have hF := hF.2 hb
      refine q_iload_n (i := 1) dX3_isThere_10 rfl rfl ?_
      refine q_if_lt (tgt := 25) dX3_isThere_11 (by decide) (fun hb => ?_) (fun hb => ?_)
      · have hF := hF.1 hb
        refine q_iconst (v := 0) dX3_isThere_25 (by decide) ?_
        exact q_zret rfl (by decide) (by decide) (by decide) dX3_isThere_26 hF
      · have hF := hF.2 hb
        refine q_iload_n (i := 1) dX3_isThere_14 rfl rfl ?_
        refine q_sipush (v := 256) dX3_isThere_15 (by decide) ?_
        have K1 := q_ite (c := 256 ≤ x2) (X := fun v => q_N0 G m_X3_isThere (d + 1) Q 26 [.int x1, .int x2] (.int v :: []) h) (a := 0) (b := 1) (by
          exact q_zret rfl hF.1 (by decide) (by decide) dX3_isThere_26 hF.2)
        refine q_icmp_ge (tgt := 25) dX3_isThere_18 (by decide) (fun hb => ?_) (fun hb => ?_)
        · refine q_iconst (v := 0) dX3_isThere_25 (by decide) ?_
          exact K1.1 hb
        · refine q_iconst (v := 1) dX3_isThere_21 (by decide) ?_
          refine q_goto (tgt := 26) dX3_isThere_22 (by decide) ?_
          exact K1.2 hb
def m_X4_begin : qm := (RX4, cX4_begin, 1, none, [], false)
set_option maxRecDepth 100000 in
set_option maxHeartbeats 4000000 in
theorem x_X4_begin (G : qG) (d : Nat)  (h : qh) (Q : qr → qh → Prop)  (hF : q_M0 G d yX4_advance [.ref 22] ((((h.sI 22 2 0).sI 22 6 0).sI 22 7 (-1)).sI 22 1 (-1)) (q_rv (fun h1 => Q (.inl none) h1) (fun E h => Q (.inr E) h))) : q_M0 G (d + 1) yX4_begin [.ref 22] h Q := by
  refine q_of (M := m_X4_begin) (by decide +kernel) rfl rfl cd_X4_begin (by decide) (Nat.le_of_ble_eq_true rfl) ?_
  show q_N0 G m_X4_begin (d + 1) Q 0 [.ref 22] [] h
  refine q_aload_n (i := 0) dX4_begin_0 rfl rfl ?_
  refine q_iconst (v := 0) dX4_begin_1 (by decide) ?_
  refine q_putI 5 2 fp_X4_15 (Or.inr ⟨_, _, _, rfl, rfl⟩) (by decide) rfl rfl dX4_begin_2 ?_
  refine q_aload_n (i := 0) dX4_begin_5 rfl rfl ?_
  refine q_iconst (v := 0) dX4_begin_6 (by decide) ?_
  refine q_putI 5 6 fp_X4_19 (Or.inr ⟨_, _, _, rfl, rfl⟩) (by decide) rfl rfl dX4_begin_7 ?_
  refine q_aload_n (i := 0) dX4_begin_10 rfl rfl ?_
  refine q_iconst (v := (-1)) dX4_begin_11 (by decide) ?_
  refine q_putI 5 7 fp_X4_22 (Or.inr ⟨_, _, _, rfl, rfl⟩) (by decide) rfl rfl dX4_begin_12 ?_
  refine q_aload_n (i := 0) dX4_begin_15 rfl rfl ?_
  refine q_iconst (v := (-1)) dX4_begin_16 (by decide) ?_
  refine q_putI 5 1 fp_X4_25 (Or.inr ⟨_, _, _, rfl, rfl⟩) (by decide) rfl rfl dX4_begin_17 ?_
  refine q_aload_n (i := 0) dX4_begin_20 rfl rfl ?_
  refine q_callVv (ci := 5) (o := 22) (As := []) (st := []) cv_X4_28 ⟨_, _, rfl⟩ (by decide) rfl rfl (Nat.le_refl _) (Nat.le_of_ble_eq_true rfl) (by decide) dX4_begin_21 rfl hF (fun h1 hF => ?_)
  exact q_vret rfl (by decide) (by decide) dX4_begin_24 hF
def m_X4_advance : qm := (RX4, cX4_advance, 1, none, [], false)
set_option maxRecDepth 100000 in
set_option maxHeartbeats 4000000 in
theorem x_X4_advance (G : qG) (d : Nat)  (h : qh) (Q : qr → qh → Prop)  (hF : ((h.I 17 6) ≤ ((h.I 22 1) + 1) → (Q (.inl none) h)) ∧ (¬ (h.I 17 6) ≤ ((h.I 22 1) + 1) → ((2001 ≤ ((h.I 22 1) + 1) → (Q (.inl none) h)) ∧ (¬ 2001 ≤ ((h.I 22 1) + 1) → (vp_in ((h.I 22 1) + 1) 2001 ∧ (vp_in ((h.I 22 1) + 1) 2001 ∧ (vp_in ((h.I 22 1) + 1) 2001 ∧ (Q (.inl none) ((((h.sI 22 1 ((h.I 22 1) + 1)).sI 22 3 (h.I 18 (((h.I 22 1) + 1).toNatClampNeg))).sI 22 4 (h.I 19 (((h.I 22 1) + 1).toNatClampNeg))).sL 22 5 (h.L 20 (((h.I 22 1) + 1).toNatClampNeg))))))))))) : q_M0 G (d + 1) yX4_advance [.ref 22] h Q := by
  refine q_of (M := m_X4_advance) (by decide +kernel) rfl rfl cd_X4_advance (by decide) (Nat.le_of_ble_eq_true rfl) ?_
  show q_N0 G m_X4_advance (d + 1) Q 0 [.ref 22] [] h
  refine q_aload_n (i := 0) dX4_advance_0 rfl rfl ?_
  refine q_getIv (v := h.I 22 1) 5 1 fl_X4_25 (by decide) rfl rfl (rfl) dX4_advance_1 ?_
  refine q_iconst (v := 1) dX4_advance_4 (by decide) ?_
  refine q_iadd dX4_advance_5 ?_
  refine q_aload_n (i := 0) dX4_advance_6 rfl rfl ?_
  refine q_getP 5 0 17 fl_X4_9 (by decide) rfl rfl rfl dX4_advance_7 ?_
  refine q_getIv (v := h.I 17 6) 9 6 fl_X4_31 (by decide) rfl rfl (rfl) dX4_advance_10 ?_
  refine q_icmp_ge (tgt := 86) dX4_advance_13 (by decide) (fun hb => ?_) (fun hb => ?_)
  · have hF := hF.1 hb
    exact q_vret rfl (by decide) (by decide) dX4_advance_86 hF
  · have hF := hF.2 hb
    refine q_aload_n (i := 0) dX4_advance_16 rfl rfl ?_
    refine q_getIv (v := h.I 22 1) 5 1 fl_X4_25 (by decide) rfl rfl (rfl) dX4_advance_17 ?_
    refine q_iconst (v := 1) dX4_advance_20 (by decide) ?_
    refine q_iadd dX4_advance_21 ?_
    refine q_sipush (v := 2001) dX4_advance_22 (by decide) ?_
    refine q_icmp_ge (tgt := 86) dX4_advance_25 (by decide) (fun hb => ?_) (fun hb => ?_)
    · have hF := hF.1 hb
      exact q_vret rfl (by decide) (by decide) dX4_advance_86 hF
    · have hF := hF.2 hb
      refine q_aload_n (i := 0) dX4_advance_28 rfl rfl ?_
      refine q_dup dX4_advance_29 rfl ?_
      refine q_getIv (v := h.I 22 1) 5 1 fl_X4_25 (by decide) rfl rfl (rfl) dX4_advance_30 ?_
      refine q_iconst (v := 1) dX4_advance_33 (by decide) ?_
      refine q_iadd dX4_advance_34 ?_
      refine q_putI 5 1 fp_X4_25 (Or.inr ⟨_, _, _, rfl, rfl⟩) (by decide) rfl rfl dX4_advance_35 ?_
      refine q_aload_n (i := 0) dX4_advance_38 rfl rfl ?_
      refine q_aload_n (i := 0) dX4_advance_39 rfl rfl ?_
      refine q_getP 5 0 17 fl_X4_9 (by decide) rfl rfl rfl dX4_advance_40 ?_
      refine q_getP 9 0 18 fl_X4_36 (by decide) rfl rfl rfl dX4_advance_43 ?_
      refine q_aload_n (i := 0) dX4_advance_46 rfl rfl ?_
      refine q_getIv (v := (h.I 22 1) + 1) 5 1 fl_X4_25 (by decide) rfl rfl (q_I_same _ _ _ _) dX4_advance_47 ?_
      obtain ⟨hi1, hF⟩ := hF
      refine q_ialoadv (v := h.I 18 (((h.I 22 1) + 1).toNatClampNeg)) (n := 2001) (by decide) rfl hi1 ((q_I_neo (by decide)).trans (rfl)) dX4_advance_50 ?_
      refine q_putI 5 3 fp_X4_40 (Or.inr ⟨_, _, _, rfl, rfl⟩) (by decide) rfl rfl dX4_advance_51 ?_
      refine q_aload_n (i := 0) dX4_advance_54 rfl rfl ?_
      refine q_aload_n (i := 0) dX4_advance_55 rfl rfl ?_
      refine q_getP 5 0 17 fl_X4_9 (by decide) rfl rfl rfl dX4_advance_56 ?_
      refine q_getP 9 1 19 fl_X4_43 (by decide) rfl rfl rfl dX4_advance_59 ?_
      refine q_aload_n (i := 0) dX4_advance_62 rfl rfl ?_
      refine q_getIv (v := (h.I 22 1) + 1) 5 1 fl_X4_25 (by decide) rfl rfl ((q_I_nek (by decide)).trans (q_I_same _ _ _ _)) dX4_advance_63 ?_
      obtain ⟨hi2, hF⟩ := hF
      refine q_ialoadv (v := h.I 19 (((h.I 22 1) + 1).toNatClampNeg)) (n := 2001) (by decide) rfl hi2 ((q_I_neo (by decide)).trans ( (q_I_neo (by decide)).trans (rfl))) dX4_advance_66 ?_
      refine q_putI 5 4 fp_X4_46 (Or.inr ⟨_, _, _, rfl, rfl⟩) (by decide) rfl rfl dX4_advance_67 ?_
      refine q_aload_n (i := 0) dX4_advance_70 rfl rfl ?_
      refine q_aload_n (i := 0) dX4_advance_71 rfl rfl ?_
      refine q_getP 5 0 17 fl_X4_9 (by decide) rfl rfl rfl dX4_advance_72 ?_
      refine q_getP 9 2 20 fl_X4_49 (by decide) rfl rfl rfl dX4_advance_75 ?_
      refine q_aload_n (i := 0) dX4_advance_78 rfl rfl ?_
      refine q_getIv (v := (h.I 22 1) + 1) 5 1 fl_X4_25 (by decide) rfl rfl ((q_I_nek (by decide)).trans ( (q_I_nek (by decide)).trans (q_I_same _ _ _ _))) dX4_advance_79 ?_
      obtain ⟨hi3, hF⟩ := hF
      refine q_laloadv (v := h.L 20 (((h.I 22 1) + 1).toNatClampNeg)) (n := 2001) (by decide) rfl hi3 ((q_L_I).trans ( (q_L_I).trans ( (q_L_I).trans (rfl)))) dX4_advance_82 ?_
      refine q_putL 5 5 fp_X4_53 (Or.inr ⟨_, _, _, rfl, rfl⟩) (by decide) rfl rfl dX4_advance_83 ?_
      exact q_vret rfl (by decide) (by decide) dX4_advance_86 hF
def m_X4_pass : qm := (RX4, cX4_pass, 2, (some .boolean), [], false)
set_option maxRecDepth 100000 in
set_option maxHeartbeats 4000000 in
theorem x_X4_pass (G : qG) (d : Nat) (x1 : Int32) (h : qh) (Q : qr → qh → Prop)  (hF : ((h.I 22 3) = x1 → (q_M0 G d yX4_advance [.ref 22] h (q_rv (fun h1 => Q (.inl (some (.int 1))) h1) (fun E h => Q (.inr E) h)))) ∧ (¬ (h.I 22 3) = x1 → (q_M0 G d yX4_refuse [.ref 22] h (q_ri (fun r3 h2 => (r3 = 0 ∨ r3 = 1) ∧ Q (.inl (some (.int r3))) h2) (fun E h => Q (.inr E) h))))) : q_M0 G (d + 1) yX4_pass [.ref 22, .int x1] h Q := by
  refine q_of (M := m_X4_pass) (by decide +kernel) rfl rfl cd_X4_pass (by decide) (Nat.le_of_ble_eq_true rfl) ?_
  show q_N0 G m_X4_pass (d + 1) Q 0 [.ref 22, .int x1] [] h
  refine q_aload_n (i := 0) dX4_pass_0 rfl rfl ?_
  refine q_getIv (v := h.I 22 3) 5 3 fl_X4_40 (by decide) rfl rfl (rfl) dX4_pass_1 ?_
  refine q_iload_n (i := 1) dX4_pass_4 rfl rfl ?_
  refine q_icmp_eq (tgt := 13) dX4_pass_5 (by decide) (fun hb => ?_) (fun hb => ?_)
  · have hF := hF.1 hb
    refine q_aload_n (i := 0) dX4_pass_13 rfl rfl ?_
    refine q_callVv (ci := 5) (o := 22) (As := []) (st := []) cv_X4_28 ⟨_, _, rfl⟩ (by decide) rfl rfl (Nat.le_refl _) (Nat.le_of_ble_eq_true rfl) (by decide) dX4_pass_14 rfl hF (fun h1 hF => ?_)
    refine q_iconst (v := 1) dX4_pass_17 (by decide) ?_
    exact q_zret rfl (by decide) (by decide) (by decide) dX4_pass_18 hF
  · have hF := hF.2 hb
    refine q_aload_n (i := 0) dX4_pass_8 rfl rfl ?_
    refine q_callVi (ci := 5) (o := 22) (As := []) (st := []) cv_X4_57 ⟨_, _, rfl⟩ (by decide) rfl rfl (Nat.le_refl _) (Nat.le_of_ble_eq_true rfl) (by decide) dX4_pass_9 rfl hF (fun r3 h2 hF => ?_)
    exact q_zret rfl hF.1 (by decide) (by decide) dX4_pass_12 hF.2
def m_X4_enter : qm := (RX4, cX4_enter, 2, (some .boolean), [], false)
set_option maxRecDepth 100000 in
set_option maxHeartbeats 4000000 in
theorem x_X4_enter (G : qG) (d : Nat) (x1 : Int32) (h : qh) (Q : qr → qh → Prop)  (hF : ((h.I 22 3) = x1 → (((h.I 22 2) < 16 → (q_M0 G d yX4_advance [.ref 22] (h.sI 22 2 ((h.I 22 2) + 1)) (q_rv (fun h1 => Q (.inl (some (.int 1))) h1) (fun E h => Q (.inr E) h)))) ∧ (¬ (h.I 22 2) < 16 → (Q (.inl (some (.int 0))) ((h.sI 22 6 7).sI 22 7 (h.I 22 4)))))) ∧ (¬ (h.I 22 3) = x1 → (q_M0 G d yX4_refuse [.ref 22] h (q_ri (fun r3 h2 => (r3 = 0 ∨ r3 = 1) ∧ Q (.inl (some (.int r3))) h2) (fun E h => Q (.inr E) h))))) : q_M0 G (d + 1) yX4_enter [.ref 22, .int x1] h Q := by
  refine q_of (M := m_X4_enter) (by decide +kernel) rfl rfl cd_X4_enter (by decide) (Nat.le_of_ble_eq_true rfl) ?_
  show q_N0 G m_X4_enter (d + 1) Q 0 [.ref 22, .int x1] [] h
  refine q_aload_n (i := 0) dX4_enter_0 rfl rfl ?_
  refine q_getIv (v := h.I 22 3) 5 3 fl_X4_40 (by decide) rfl rfl (rfl) dX4_enter_1 ?_
  refine q_iload_n (i := 1) dX4_enter_4 rfl rfl ?_
  refine q_icmp_eq (tgt := 13) dX4_enter_5 (by decide) (fun hb => ?_) (fun hb => ?_)
  · have hF := hF.1 hb
    refine q_aload_n (i := 0) dX4_enter_13 rfl rfl ?_
    refine q_getIv (v := h.I 22 2) 5 2 fl_X4_15 (by decide) rfl rfl (rfl) dX4_enter_14 ?_
    refine q_bipush (v := 16) dX4_enter_17 (by decide) ?_
    refine q_icmp_lt (tgt := 38) dX4_enter_19 (by decide) (fun hb => ?_) (fun hb => ?_)
    · have hF := hF.1 hb
      refine q_aload_n (i := 0) dX4_enter_38 rfl rfl ?_
      refine q_dup dX4_enter_39 rfl ?_
      refine q_getIv (v := h.I 22 2) 5 2 fl_X4_15 (by decide) rfl rfl (rfl) dX4_enter_40 ?_
      refine q_iconst (v := 1) dX4_enter_43 (by decide) ?_
      refine q_iadd dX4_enter_44 ?_
      refine q_putI 5 2 fp_X4_15 (Or.inr ⟨_, _, _, rfl, rfl⟩) (by decide) rfl rfl dX4_enter_45 ?_
      refine q_aload_n (i := 0) dX4_enter_48 rfl rfl ?_
      refine q_callVv (ci := 5) (o := 22) (As := []) (st := []) cv_X4_28 ⟨_, _, rfl⟩ (by decide) rfl rfl (Nat.le_refl _) (Nat.le_of_ble_eq_true rfl) (by decide) dX4_enter_49 rfl hF (fun h1 hF => ?_)
      refine q_iconst (v := 1) dX4_enter_52 (by decide) ?_
      exact q_zret rfl (by decide) (by decide) (by decide) dX4_enter_53 hF
    · have hF := hF.2 hb
      refine q_aload_n (i := 0) dX4_enter_22 rfl rfl ?_
      refine q_bipush (v := 7) dX4_enter_23 (by decide) ?_
      refine q_putI 5 6 fp_X4_19 (Or.inr ⟨_, _, _, rfl, rfl⟩) (by decide) rfl rfl dX4_enter_25 ?_
      refine q_aload_n (i := 0) dX4_enter_28 rfl rfl ?_
      refine q_aload_n (i := 0) dX4_enter_29 rfl rfl ?_
      refine q_getIv (v := h.I 22 4) 5 4 fl_X4_46 (by decide) rfl rfl ((q_I_nek (by decide)).trans (rfl)) dX4_enter_30 ?_
      refine q_putI 5 7 fp_X4_22 (Or.inr ⟨_, _, _, rfl, rfl⟩) (by decide) rfl rfl dX4_enter_33 ?_
      refine q_iconst (v := 0) dX4_enter_36 (by decide) ?_
      exact q_zret rfl (by decide) (by decide) (by decide) dX4_enter_37 hF
  · have hF := hF.2 hb
    refine q_aload_n (i := 0) dX4_enter_8 rfl rfl ?_
    refine q_callVi (ci := 5) (o := 22) (As := []) (st := []) cv_X4_57 ⟨_, _, rfl⟩ (by decide) rfl rfl (Nat.le_refl _) (Nat.le_of_ble_eq_true rfl) (by decide) dX4_enter_9 rfl hF (fun r3 h2 hF => ?_)
    exact q_zret rfl hF.1 (by decide) (by decide) dX4_enter_12 hF.2
def m_X4_leave : qm := (RX4, cX4_leave, 1, none, [], false)
set_option maxRecDepth 100000 in
set_option maxHeartbeats 4000000 in
theorem x_X4_leave (G : qG) (d : Nat)  (h : qh) (Q : qr → qh → Prop)  (hF : Q (.inl none) (h.sI 22 2 ((h.I 22 2) - 1))) : q_M0 G (d + 1) yX4_leave [.ref 22] h Q := by
  refine q_of (M := m_X4_leave) (by decide +kernel) rfl rfl cd_X4_leave (by decide) (Nat.le_of_ble_eq_true rfl) ?_
  show q_N0 G m_X4_leave (d + 1) Q 0 [.ref 22] [] h
  refine q_aload_n (i := 0) dX4_leave_0 rfl rfl ?_
  refine q_dup dX4_leave_1 rfl ?_
  refine q_getIv (v := h.I 22 2) 5 2 fl_X4_15 (by decide) rfl rfl (rfl) dX4_leave_2 ?_
  refine q_iconst (v := 1) dX4_leave_5 (by decide) ?_
  refine q_isub dX4_leave_6 ?_
  refine q_putI 5 2 fp_X4_15 (Or.inr ⟨_, _, _, rfl, rfl⟩) (by decide) rfl rfl dX4_leave_7 ?_
  exact q_vret rfl (by decide) (by decide) dX4_leave_10 hF
def m_X4_refuse : qm := (RX4, cX4_refuse, 1, (some .boolean), [], false)
set_option maxRecDepth 100000 in
set_option maxHeartbeats 4000000 in
theorem x_X4_refuse (G : qG) (d : Nat)  (h : qh) (Q : qr → qh → Prop)  (hF : Q (.inl (some (.int 0))) ((h.sI 22 6 1).sI 22 7 (h.I 22 4))) : q_M0 G (d + 1) yX4_refuse [.ref 22] h Q := by
  refine q_of (M := m_X4_refuse) (by decide +kernel) rfl rfl cd_X4_refuse (by decide) (Nat.le_of_ble_eq_true rfl) ?_
  show q_N0 G m_X4_refuse (d + 1) Q 0 [.ref 22] [] h
  refine q_aload_n (i := 0) dX4_refuse_0 rfl rfl ?_
  refine q_iconst (v := 1) dX4_refuse_1 (by decide) ?_
  refine q_putI 5 6 fp_X4_19 (Or.inr ⟨_, _, _, rfl, rfl⟩) (by decide) rfl rfl dX4_refuse_2 ?_
  refine q_aload_n (i := 0) dX4_refuse_5 rfl rfl ?_
  refine q_aload_n (i := 0) dX4_refuse_6 rfl rfl ?_
  refine q_getIv (v := h.I 22 4) 5 4 fl_X4_46 (by decide) rfl rfl ((q_I_nek (by decide)).trans (rfl)) dX4_refuse_7 ?_
  refine q_putI 5 7 fp_X4_22 (Or.inr ⟨_, _, _, rfl, rfl⟩) (by decide) rfl rfl dX4_refuse_10 ?_
  refine q_iconst (v := 0) dX4_refuse_13 (by decide) ?_
  exact q_zret rfl (by decide) (by decide) (by decide) dX4_refuse_14 hF
def m_X4_blame : qm := (RX4, cX4_blame, 3, none, [], false)
set_option maxRecDepth 100000 in
set_option maxHeartbeats 4000000 in
theorem x_X4_blame (G : qG) (d : Nat) (x1 : Int32) (x2 : Int32) (h : qh) (Q : qr → qh → Prop)  (hF : (¬ (h.I 22 6) = 0 → (Q (.inl none) h)) ∧ ((h.I 22 6) = 0 → ((x1 = 0 → (Q (.inl none) h)) ∧ (¬ x1 = 0 → (Q (.inl none) ((h.sI 22 6 x1).sI 22 7 x2)))))) : q_M0 G (d + 1) yX4_blame [.ref 22, .int x1, .int x2] h Q := by
  refine q_of (M := m_X4_blame) (by decide +kernel) rfl rfl cd_X4_blame (by decide) (Nat.le_of_ble_eq_true rfl) ?_
  show q_N0 G m_X4_blame (d + 1) Q 0 [.ref 22, .int x1, .int x2] [] h
  refine q_aload_n (i := 0) dX4_blame_0 rfl rfl ?_
  refine q_getIv (v := h.I 22 6) 5 6 fl_X4_19 (by decide) rfl rfl (rfl) dX4_blame_1 ?_
  refine q_if_ne (tgt := 21) dX4_blame_4 (by decide) (fun hb => ?_) (fun hb => ?_)
  · have hF := hF.1 hb
    exact q_vret rfl (by decide) (by decide) dX4_blame_21 hF
  · have hF := hF.2 hb
    refine q_iload_n (i := 1) dX4_blame_7 rfl rfl ?_
    refine q_if_eq (tgt := 21) dX4_blame_8 (by decide) (fun hb => ?_) (fun hb => ?_)
    · have hF := hF.1 hb
      exact q_vret rfl (by decide) (by decide) dX4_blame_21 hF
    · have hF := hF.2 hb
      refine q_aload_n (i := 0) dX4_blame_11 rfl rfl ?_
      refine q_iload_n (i := 1) dX4_blame_12 rfl rfl ?_
      refine q_putI 5 6 fp_X4_19 (Or.inr ⟨_, _, _, rfl, rfl⟩) (by decide) rfl rfl dX4_blame_13 ?_
      refine q_aload_n (i := 0) dX4_blame_16 rfl rfl ?_
      refine q_iload_n (i := 2) dX4_blame_17 rfl rfl ?_
      refine q_putI 5 7 fp_X4_22 (Or.inr ⟨_, _, _, rfl, rfl⟩) (by decide) rfl rfl dX4_blame_18 ?_
      exact q_vret rfl (by decide) (by decide) dX4_blame_21 hF
def m_X5_tell : qm := (RX5, cX5_tell, 5, none, [], false)
set_option maxRecDepth 100000 in
set_option maxHeartbeats 4000000 in
theorem x_X5_tell (G : qG) (d : Nat) (x1 : Int64) (x2 : Int32) (x3 : Int32) (h : qh) (Q : qr → qh → Prop)  (hF : (25 ≤ (h.I 23 3) → (Q (.inl none) h)) ∧ (¬ 25 ≤ (h.I 23 3) → (vp_in (h.I 23 3) 25 ∧ (vp_in (h.I 23 3) 25 ∧ (vp_in (h.I 23 3) 25 ∧ (Q (.inl none) ((((h.sL 24 ((h.I 23 3).toNatClampNeg) x1).sI 25 ((h.I 23 3).toNatClampNeg) x2).sI 26 ((h.I 23 3).toNatClampNeg) x3).sI 23 3 ((h.I 23 3) + 1)))))))) : q_M0 G (d + 1) yX5_tell [.ref 23, .long x1, .int x2, .int x3] h Q := by
  refine q_of (M := m_X5_tell) (by decide +kernel) rfl rfl cd_X5_tell (by decide) (Nat.le_of_ble_eq_true rfl) ?_
  show q_N0 G m_X5_tell (d + 1) Q 0 [.ref 23, .long x1, .null, .int x2, .int x3] [] h
  refine q_aload_n (i := 0) dX5_tell_0 rfl rfl ?_
  refine q_getIv (v := h.I 23 3) 6 3 fl_X5_22 (by decide) rfl rfl (rfl) dX5_tell_1 ?_
  refine q_bipush (v := 25) dX5_tell_4 (by decide) ?_
  refine q_icmp_ge (tgt := 50) dX5_tell_6 (by decide) (fun hb => ?_) (fun hb => ?_)
  · have hF := hF.1 hb
    exact q_vret rfl (by decide) (by decide) dX5_tell_50 hF
  · have hF := hF.2 hb
    refine q_aload_n (i := 0) dX5_tell_9 rfl rfl ?_
    refine q_getP 6 0 24 fl_X5_9 (by decide) rfl rfl rfl dX5_tell_10 ?_
    refine q_aload_n (i := 0) dX5_tell_13 rfl rfl ?_
    refine q_getIv (v := h.I 23 3) 6 3 fl_X5_22 (by decide) rfl rfl (rfl) dX5_tell_14 ?_
    refine q_lload_n (i := 1) dX5_tell_17 rfl rfl ?_
    obtain ⟨hi1, hF⟩ := hF
    refine q_lastore (n := 25) (by decide) rfl hi1 dX5_tell_18 ?_
    refine q_aload_n (i := 0) dX5_tell_19 rfl rfl ?_
    refine q_getP 6 1 25 fl_X5_15 (by decide) rfl rfl rfl dX5_tell_20 ?_
    refine q_aload_n (i := 0) dX5_tell_23 rfl rfl ?_
    refine q_getIv (v := h.I 23 3) 6 3 fl_X5_22 (by decide) rfl rfl ((q_I_L).trans (rfl)) dX5_tell_24 ?_
    refine q_iload_n (i := 3) dX5_tell_27 rfl rfl ?_
    obtain ⟨hi2, hF⟩ := hF
    refine q_iastore (n := 25) (by decide) rfl hi2 dX5_tell_28 ?_
    refine q_aload_n (i := 0) dX5_tell_29 rfl rfl ?_
    refine q_getP 6 2 26 fl_X5_19 (by decide) rfl rfl rfl dX5_tell_30 ?_
    refine q_aload_n (i := 0) dX5_tell_33 rfl rfl ?_
    refine q_getIv (v := h.I 23 3) 6 3 fl_X5_22 (by decide) rfl rfl ((q_I_neo (by decide)).trans ( (q_I_L).trans (rfl))) dX5_tell_34 ?_
    refine q_iload dX5_tell_37 rfl ?_
    obtain ⟨hi3, hF⟩ := hF
    refine q_iastore (n := 25) (by decide) rfl hi3 dX5_tell_39 ?_
    refine q_aload_n (i := 0) dX5_tell_40 rfl rfl ?_
    refine q_dup dX5_tell_41 rfl ?_
    refine q_getIv (v := h.I 23 3) 6 3 fl_X5_22 (by decide) rfl rfl ((q_I_neo (by decide)).trans ( (q_I_neo (by decide)).trans ( (q_I_L).trans (rfl)))) dX5_tell_42 ?_
    refine q_iconst (v := 1) dX5_tell_45 (by decide) ?_
    refine q_iadd dX5_tell_46 ?_
    refine q_putI 6 3 fp_X5_22 (Or.inr ⟨_, _, _, rfl, rfl⟩) (by decide) rfl rfl dX5_tell_47 ?_
    exact q_vret rfl (by decide) (by decide) dX5_tell_50 hF
def m_X5_find : qm := (RX5, cX5_find, 4, (some .int), [], false)
set_option maxRecDepth 100000 in
set_option maxHeartbeats 4000000 in
theorem x_X5_find (G : qG) (d : Nat) (x1 : Int64) (h : qh) (Q : qr → qh → Prop)  (hF : q_N0 G m_X5_find (d + 1) Q 2 [.ref 23, .long x1, .null, .int 0] [] h) : q_M0 G (d + 1) yX5_find [.ref 23, .long x1] h Q := by
  refine q_of (M := m_X5_find) (by decide +kernel) rfl rfl cd_X5_find (by decide) (Nat.le_of_ble_eq_true rfl) ?_
  show q_N0 G m_X5_find (d + 1) Q 0 [.ref 23, .long x1, .null, .null] [] h
  refine q_iconst (v := 0) dX5_find_0 (by decide) ?_
  refine q_istore_n (i := 3) dX5_find_1 rfl (by decide) rfl ?_
  exact hF
set_option maxRecDepth 100000 in
set_option maxHeartbeats 4000000 in
theorem x_X5_find_2 (G : qG) (d : Nat) (l1 : Int64) (l3 : Int32) (h : qh) (Q : qr → qh → Prop)  (hF : ((h.I 23 3) ≤ l3 → (Q (.inl (some (.int (-1)))) h)) ∧ (¬ (h.I 23 3) ≤ l3 → ((25 ≤ l3 → (Q (.inl (some (.int (-1)))) h)) ∧ (¬ 25 ≤ l3 → (vp_in l3 25 ∧ ((¬ (lg_cmp (h.L 24 l3.toNatClampNeg) l1) = 0 → (q_N0 G m_X5_find (d + 1) Q 2 [.ref 23, .long l1, .null, .int (l3 + 1)] [] h)) ∧ ((lg_cmp (h.L 24 l3.toNatClampNeg) l1) = 0 → (Q (.inl (some (.int l3))) h)))))))) : q_N0 G m_X5_find (d + 1) Q 2 [.ref 23, .long l1, .null, .int l3] [] h := by
  refine q_iload_n (i := 3) dX5_find_2 rfl rfl ?_
  refine q_aload_n (i := 0) dX5_find_3 rfl rfl ?_
  refine q_getIv (v := h.I 23 3) 6 3 fl_X5_22 (by decide) rfl rfl (rfl) dX5_find_4 ?_
  refine q_icmp_ge (tgt := 35) dX5_find_7 (by decide) (fun hb => ?_) (fun hb => ?_)
  · have hF := hF.1 hb
    refine q_iconst (v := (-1)) dX5_find_35 (by decide) ?_
    exact q_iret rfl (by decide) (by decide) dX5_find_36 hF
  · have hF := hF.2 hb
    refine q_iload_n (i := 3) dX5_find_10 rfl rfl ?_
    refine q_bipush (v := 25) dX5_find_11 (by decide) ?_
    refine q_icmp_ge (tgt := 35) dX5_find_13 (by decide) (fun hb => ?_) (fun hb => ?_)
    · have hF := hF.1 hb
      refine q_iconst (v := (-1)) dX5_find_35 (by decide) ?_
      exact q_iret rfl (by decide) (by decide) dX5_find_36 hF
    · have hF := hF.2 hb
      refine q_aload_n (i := 0) dX5_find_16 rfl rfl ?_
      refine q_getP 6 0 24 fl_X5_9 (by decide) rfl rfl rfl dX5_find_17 ?_
      refine q_iload_n (i := 3) dX5_find_20 rfl rfl ?_
      obtain ⟨hi1, hF⟩ := hF
      refine q_laloadv (v := h.L 24 l3.toNatClampNeg) (n := 25) (by decide) rfl hi1 (rfl) dX5_find_21 ?_
      refine q_lload_n (i := 1) dX5_find_22 rfl rfl ?_
      refine q_lcmp dX5_find_23 ?_
      refine q_if_ne (tgt := 29) dX5_find_24 (by decide) (fun hb => ?_) (fun hb => ?_)
      · have hF := hF.1 hb
        refine q_iinc (v := l3 + 1) dX5_find_29 rfl rfl (by decide) rfl ?_
        refine q_goto (tgt := 2) dX5_find_32 (by decide) ?_
        exact hF
      · have hF := hF.2 hb
        refine q_iload_n (i := 3) dX5_find_27 rfl rfl ?_
        exact q_iret rfl (by decide) (by decide) dX5_find_28 hF
def m_X5_numberOf : qm := (RX5, cX5_numberOf, 2, (some .int), [], false)
set_option maxRecDepth 100000 in
set_option maxHeartbeats 4000000 in
theorem x_X5_numberOf (G : qG) (d : Nat) (x1 : Int32) (h : qh) (Q : qr → qh → Prop)  (hF : (x1 < 0 → (Q (.inl (some (.int (-1)))) h)) ∧ (¬ x1 < 0 → (((h.I 23 3) ≤ x1 → (Q (.inl (some (.int (-1)))) h)) ∧ (¬ (h.I 23 3) ≤ x1 → ((25 ≤ x1 → (Q (.inl (some (.int (-1)))) h)) ∧ (¬ 25 ≤ x1 → (vp_in x1 25 ∧ (Q (.inl (some (.int (h.I 26 x1.toNatClampNeg)))) h)))))))) : q_M0 G (d + 1) yX5_numberOf [.ref 23, .int x1] h Q := by
  refine q_of (M := m_X5_numberOf) (by decide +kernel) rfl rfl cd_X5_numberOf (by decide) (Nat.le_of_ble_eq_true rfl) ?_
  show q_N0 G m_X5_numberOf (d + 1) Q 0 [.ref 23, .int x1] [] h
  refine q_iload_n (i := 1) dX5_numberOf_0 rfl rfl ?_
  refine q_if_lt (tgt := 27) dX5_numberOf_1 (by decide) (fun hb => ?_) (fun hb => ?_)
  · have hF := hF.1 hb
    refine q_iconst (v := (-1)) dX5_numberOf_27 (by decide) ?_
    exact q_iret rfl (by decide) (by decide) dX5_numberOf_28 hF
  · have hF := hF.2 hb
    refine q_iload_n (i := 1) dX5_numberOf_4 rfl rfl ?_
    refine q_aload_n (i := 0) dX5_numberOf_5 rfl rfl ?_
    refine q_getIv (v := h.I 23 3) 6 3 fl_X5_22 (by decide) rfl rfl (rfl) dX5_numberOf_6 ?_
    refine q_icmp_ge (tgt := 27) dX5_numberOf_9 (by decide) (fun hb => ?_) (fun hb => ?_)
    · have hF := hF.1 hb
      refine q_iconst (v := (-1)) dX5_numberOf_27 (by decide) ?_
      exact q_iret rfl (by decide) (by decide) dX5_numberOf_28 hF
    · have hF := hF.2 hb
      refine q_iload_n (i := 1) dX5_numberOf_12 rfl rfl ?_
      refine q_bipush (v := 25) dX5_numberOf_13 (by decide) ?_
      refine q_icmp_ge (tgt := 27) dX5_numberOf_15 (by decide) (fun hb => ?_) (fun hb => ?_)
      · have hF := hF.1 hb
        refine q_iconst (v := (-1)) dX5_numberOf_27 (by decide) ?_
        exact q_iret rfl (by decide) (by decide) dX5_numberOf_28 hF
      · have hF := hF.2 hb
        refine q_aload_n (i := 0) dX5_numberOf_18 rfl rfl ?_
        refine q_getP 6 2 26 fl_X5_19 (by decide) rfl rfl rfl dX5_numberOf_19 ?_
        refine q_iload_n (i := 1) dX5_numberOf_22 rfl rfl ?_
        obtain ⟨hi1, hF⟩ := hF
        refine q_ialoadv (v := h.I 26 x1.toNatClampNeg) (n := 25) (by decide) rfl hi1 (rfl) dX5_numberOf_23 ?_
        refine q_goto (tgt := 28) dX5_numberOf_24 (by decide) ?_
        exact q_iret rfl (by decide) (by decide) dX5_numberOf_28 hF
def m_X5_faultOfTelling : qm := (RX5, cX5_faultOfTelling, 3, (some .int), [], false)
set_option maxRecDepth 100000 in
set_option maxHeartbeats 4000000 in
theorem x_X5_faultOfTelling (G : qG) (d : Nat) (x1 : Int64) (h : qh) (Q : qr → qh → Prop)  (hF : q_M0 G d yX5_find [.ref 23, .long x1] h (q_ri (fun r2 h1 => Q (.inl (some (.int (if r2 = (-1) then (0 : Int32) else 2)))) h1) (fun E h => Q (.inr E) h))) : q_M0 G (d + 1) yX5_faultOfTelling [.ref 23, .long x1] h Q := by
  refine q_of (M := m_X5_faultOfTelling) (by decide +kernel) rfl rfl cd_X5_faultOfTelling (by decide) (Nat.le_of_ble_eq_true rfl) ?_
  show q_N0 G m_X5_faultOfTelling (d + 1) Q 0 [.ref 23, .long x1, .null] [] h
  refine q_aload_n (i := 0) dX5_faultOfTelling_0 rfl rfl ?_
  refine q_lload_n (i := 1) dX5_faultOfTelling_1 rfl rfl ?_
  refine q_callVi (ci := 6) (o := 23) (As := [.long x1]) (st := []) cv_X5_26 ⟨_, _, rfl⟩ (by decide) rfl rfl (Nat.le_refl _) (Nat.le_of_ble_eq_true rfl) (by decide) dX5_faultOfTelling_2 rfl hF (fun r2 h1 hF => ?_)
  refine q_iconst (v := (-1)) dX5_faultOfTelling_5 (by decide) ?_
  have K3 := q_ite (c := r2 = (-1)) (X := fun v => q_N0 G m_X5_faultOfTelling (d + 1) Q 14 [.ref 23, .long x1, .null] (.int v :: []) h1) (a := 0) (b := 2) (by
    exact q_iret rfl (by decide) (by decide) dX5_faultOfTelling_14 hF)
  refine q_icmp_ne (tgt := 13) dX5_faultOfTelling_6 (by decide) (fun hb => ?_) (fun hb => ?_)
  · refine q_iconst (v := 2) dX5_faultOfTelling_13 (by decide) ?_
    exact K3.2 hb
  · refine q_iconst (v := 0) dX5_faultOfTelling_9 (by decide) ?_
    refine q_goto (tgt := 14) dX5_faultOfTelling_10 (by decide) ?_
    exact K3.1 hb
def m_X5_faultOfUse : qm := (RX5, cX5_faultOfUse, 3, (some .int), [], false)
set_option maxRecDepth 100000 in
set_option maxHeartbeats 4000000 in
theorem x_X5_faultOfUse (G : qG) (d : Nat) (x1 : Int32) (x2 : Int32) (h : qh) (Q : qr → qh → Prop)  (hF : (x1 < 0 → (Q (.inl (some (.int 3))) h)) ∧ (¬ x1 < 0 → (((h.I 23 3) ≤ x1 → (Q (.inl (some (.int 3))) h)) ∧ (¬ (h.I 23 3) ≤ x1 → ((x1 < 25 → (vp_in x1 25 ∧ (Q (.inl (some (.int (if (h.I 25 x1.toNatClampNeg) = (if x2 = 0 then (3 : Int32) else 1) then (0 : Int32) else 4)))) h))) ∧ (¬ x1 < 25 → (Q (.inl (some (.int 3))) h))))))) : q_M0 G (d + 1) yX5_faultOfUse [.ref 23, .int x1, .int x2] h Q := by
  refine q_of (M := m_X5_faultOfUse) (by decide +kernel) rfl rfl cd_X5_faultOfUse (by decide) (Nat.le_of_ble_eq_true rfl) ?_
  show q_N0 G m_X5_faultOfUse (d + 1) Q 0 [.ref 23, .int x1, .int x2] [] h
  refine q_iload_n (i := 1) dX5_faultOfUse_0 rfl rfl ?_
  refine q_if_lt (tgt := 18) dX5_faultOfUse_1 (by decide) (fun hb => ?_) (fun hb => ?_)
  · have hF := hF.1 hb
    refine q_iconst (v := 3) dX5_faultOfUse_18 (by decide) ?_
    exact q_iret rfl (by decide) (by decide) dX5_faultOfUse_19 hF
  · have hF := hF.2 hb
    refine q_iload_n (i := 1) dX5_faultOfUse_4 rfl rfl ?_
    refine q_aload_n (i := 0) dX5_faultOfUse_5 rfl rfl ?_
    refine q_getIv (v := h.I 23 3) 6 3 fl_X5_22 (by decide) rfl rfl (rfl) dX5_faultOfUse_6 ?_
    refine q_icmp_ge (tgt := 18) dX5_faultOfUse_9 (by decide) (fun hb => ?_) (fun hb => ?_)
    · have hF := hF.1 hb
      refine q_iconst (v := 3) dX5_faultOfUse_18 (by decide) ?_
      exact q_iret rfl (by decide) (by decide) dX5_faultOfUse_19 hF
    · have hF := hF.2 hb
      refine q_iload_n (i := 1) dX5_faultOfUse_12 rfl rfl ?_
      refine q_bipush (v := 25) dX5_faultOfUse_13 (by decide) ?_
      refine q_icmp_lt (tgt := 20) dX5_faultOfUse_15 (by decide) (fun hb => ?_) (fun hb => ?_)
      · have hF := hF.1 hb
        refine q_aload_n (i := 0) dX5_faultOfUse_20 rfl rfl ?_
        refine q_getP 6 1 25 fl_X5_15 (by decide) rfl rfl rfl dX5_faultOfUse_21 ?_
        refine q_iload_n (i := 1) dX5_faultOfUse_24 rfl rfl ?_
        obtain ⟨hi1, hF⟩ := hF
        refine q_ialoadv (v := h.I 25 x1.toNatClampNeg) (n := 25) (by decide) rfl hi1 (rfl) dX5_faultOfUse_25 ?_
        refine q_iload_n (i := 2) dX5_faultOfUse_26 rfl rfl ?_
        have K2 := q_ite (c := x2 = 0) (X := fun v => q_N0 G m_X5_faultOfUse (d + 1) Q 35 [.ref 23, .int x1, .int x2] (.int v :: [.int (h.I 25 x1.toNatClampNeg)]) h) (a := 3) (b := 1) (by
          have K3 := q_ite (c := (h.I 25 x1.toNatClampNeg) = (if x2 = 0 then (3 : Int32) else 1)) (X := fun v => q_N0 G m_X5_faultOfUse (d + 1) Q 43 [.ref 23, .int x1, .int x2] (.int v :: []) h) (a := 0) (b := 4) (by
            exact q_iret rfl (by decide) (by decide) dX5_faultOfUse_43 hF)
          refine q_icmp_ne (tgt := 42) dX5_faultOfUse_35 (by decide) (fun hb => ?_) (fun hb => ?_)
          · refine q_iconst (v := 4) dX5_faultOfUse_42 (by decide) ?_
            exact K3.2 hb
          · refine q_iconst (v := 0) dX5_faultOfUse_38 (by decide) ?_
            refine q_goto (tgt := 43) dX5_faultOfUse_39 (by decide) ?_
            exact K3.1 hb)
        refine q_if_eq (tgt := 34) dX5_faultOfUse_27 (by decide) (fun hb => ?_) (fun hb => ?_)
        · refine q_iconst (v := 3) dX5_faultOfUse_34 (by decide) ?_
          exact K2.1 hb
        · refine q_iconst (v := 1) dX5_faultOfUse_30 (by decide) ?_
          refine q_goto (tgt := 35) dX5_faultOfUse_31 (by decide) ?_
          exact K2.2 hb
      · have hF := hF.2 hb
        refine q_iconst (v := 3) dX5_faultOfUse_18 (by decide) ?_
        exact q_iret rfl (by decide) (by decide) dX5_faultOfUse_19 hF
def m_X6_take : qm := (RX6, cX6_take, 3, (some .int), [], false)
set_option maxRecDepth 100000 in
set_option maxHeartbeats 4000000 in
theorem x_X6_take (G : qG) (d : Nat) (x1 : Int32) (h : qh) (Q : qr → qh → Prop)  (hF : q_N0 G m_X6_take (d + 1) Q 2 [.ref 37, .int x1, .int 0] [] h) : q_M0 G (d + 1) yX6_take [.ref 37, .int x1] h Q := by
  refine q_of (M := m_X6_take) (by decide +kernel) rfl rfl cd_X6_take (by decide) (Nat.le_of_ble_eq_true rfl) ?_
  show q_N0 G m_X6_take (d + 1) Q 0 [.ref 37, .int x1, .null] [] h
  refine q_iconst (v := 0) dX6_take_0 (by decide) ?_
  refine q_istore_n (i := 2) dX6_take_1 rfl (by decide) rfl ?_
  exact hF
set_option maxRecDepth 100000 in
set_option maxHeartbeats 4000000 in
theorem x_X6_take_2 (G : qG) (d : Nat) (l1 : Int32) (l2 : Int32) (h : qh) (Q : qr → qh → Prop)  (hF : (64 ≤ l2 → (Q (.inl (some (.int (l2 + 1)))) (h.sI 37 1 ((h.I 37 1) + 1)))) ∧ (¬ 64 ≤ l2 → ((¬ (lg_cmp ((((h.L 37 0).toUInt64 >>> (((l1 + l2) - (l1 + l2) / 64 * 64).toInt64.toUInt64 &&& Int64.toUInt64 63)).toInt64) &&& 1) 1) = 0 → (Q (.inl (some (.int (l2 + 1)))) (h.sI 37 1 ((h.I 37 1) + 1)))) ∧ ((lg_cmp ((((h.L 37 0).toUInt64 >>> (((l1 + l2) - (l1 + l2) / 64 * 64).toInt64.toUInt64 &&& Int64.toUInt64 63)).toInt64) &&& 1) 1) = 0 → (q_N0 G m_X6_take (d + 1) Q 2 [.ref 37, .int l1, .int (l2 + 1)] [] h))))) : q_N0 G m_X6_take (d + 1) Q 2 [.ref 37, .int l1, .int l2] [] h := by
  refine q_iload_n (i := 2) dX6_take_2 rfl rfl ?_
  refine q_bipush (v := 64) dX6_take_3 (by decide) ?_
  refine q_icmp_ge (tgt := 32) dX6_take_5 (by decide) (fun hb => ?_) (fun hb => ?_)
  · have hF := hF.1 hb
    refine q_aload_n (i := 0) dX6_take_32 rfl rfl ?_
    refine q_dup dX6_take_33 rfl ?_
    refine q_getIv (v := h.I 37 1) 7 1 fl_X6_13 (by decide) rfl rfl (rfl) dX6_take_34 ?_
    refine q_iconst (v := 1) dX6_take_37 (by decide) ?_
    refine q_iadd dX6_take_38 ?_
    refine q_putI 7 1 fp_X6_13 (Or.inr ⟨_, _, _, rfl, rfl⟩) (by decide) rfl rfl dX6_take_39 ?_
    refine q_iload_n (i := 2) dX6_take_42 rfl rfl ?_
    refine q_iconst (v := 1) dX6_take_43 (by decide) ?_
    refine q_iadd dX6_take_44 ?_
    exact q_iret rfl (by decide) (by decide) dX6_take_45 hF
  · have hF := hF.2 hb
    refine q_aload_n (i := 0) dX6_take_8 rfl rfl ?_
    refine q_getLv (v := h.L 37 0) 7 0 fl_X6_7 (by decide) rfl rfl (rfl) dX6_take_9 ?_
    refine q_iload_n (i := 1) dX6_take_12 rfl rfl ?_
    refine q_iload_n (i := 2) dX6_take_13 rfl rfl ?_
    refine q_iadd dX6_take_14 ?_
    refine q_bipush (v := 64) dX6_take_15 (by decide) ?_
    refine q_irem dX6_take_17 (by decide) ?_
    refine q_lushr (v := ((h.L 37 0).toUInt64 >>> (((l1 + l2) - (l1 + l2) / 64 * 64).toInt64.toUInt64 &&& Int64.toUInt64 63)).toInt64) dX6_take_18 rfl ?_
    refine q_lconst (v := 1) dX6_take_19 (by decide) ?_
    refine q_land dX6_take_20 ?_
    refine q_lconst (v := 1) dX6_take_21 (by decide) ?_
    refine q_lcmp dX6_take_22 ?_
    refine q_if_ne (tgt := 32) dX6_take_23 (by decide) (fun hb => ?_) (fun hb => ?_)
    · have hF := hF.1 hb
      refine q_aload_n (i := 0) dX6_take_32 rfl rfl ?_
      refine q_dup dX6_take_33 rfl ?_
      refine q_getIv (v := h.I 37 1) 7 1 fl_X6_13 (by decide) rfl rfl (rfl) dX6_take_34 ?_
      refine q_iconst (v := 1) dX6_take_37 (by decide) ?_
      refine q_iadd dX6_take_38 ?_
      refine q_putI 7 1 fp_X6_13 (Or.inr ⟨_, _, _, rfl, rfl⟩) (by decide) rfl rfl dX6_take_39 ?_
      refine q_iload_n (i := 2) dX6_take_42 rfl rfl ?_
      refine q_iconst (v := 1) dX6_take_43 (by decide) ?_
      refine q_iadd dX6_take_44 ?_
      exact q_iret rfl (by decide) (by decide) dX6_take_45 hF
    · have hF := hF.2 hb
      refine q_iinc (v := l2 + 1) dX6_take_26 rfl rfl (by decide) rfl ?_
      refine q_goto (tgt := 2) dX6_take_29 (by decide) ?_
      exact hF
def m_X7_add : qm := (RX7, cX7_add, 3, none, [], false)
set_option maxRecDepth 100000 in
set_option maxHeartbeats 4000000 in
theorem x_X7_add (G : qG) (d : Nat) (x1 : Int32) (h : qh) (Q : qr → qh → Prop)  (hF : q_N0 G m_X7_add (d + 1) Q 3 [.ref 15, .int x1, .int 24] [] h) : q_M0 G (d + 1) yX7_add [.ref 15, .int x1] h Q := by
  refine q_of (M := m_X7_add) (by decide +kernel) rfl rfl cd_X7_add (by decide) (Nat.le_of_ble_eq_true rfl) ?_
  show q_N0 G m_X7_add (d + 1) Q 0 [.ref 15, .int x1, .null] [] h
  refine q_bipush (v := 24) dX7_add_0 (by decide) ?_
  refine q_istore_n (i := 2) dX7_add_2 rfl (by decide) rfl ?_
  exact hF
set_option maxRecDepth 100000 in
set_option maxHeartbeats 4000000 in
theorem x_X7_add_3 (G : qG) (d : Nat) (l1 : Int32) (l2 : Int32) (h : qh) (Q : qr → qh → Prop)  (hF : (l2 < 0 → (Q (.inl none) h)) ∧ (¬ l2 < 0 → ((2000 ≤ (h.I 15 1) → (Q (.inl none) h)) ∧ (¬ 2000 ≤ (h.I 15 1) → (vp_in (h.I 15 1) 2000 ∧ (q_N0 G m_X7_add (d + 1) Q 3 [.ref 15, .int l1, .int (l2 + (-8))] [] ((h.sI 16 ((h.I 15 1).toNatClampNeg) (((l1 >>> (l2 &&& 31)).toInt8.toInt32).toInt8.toInt32)).sI 15 1 ((h.I 15 1) + 1)))))))) : q_N0 G m_X7_add (d + 1) Q 3 [.ref 15, .int l1, .int l2] [] h := by
  refine q_iload_n (i := 2) dX7_add_3 rfl rfl ?_
  refine q_if_lt (tgt := 46) dX7_add_4 (by decide) (fun hb => ?_) (fun hb => ?_)
  · have hF := hF.1 hb
    exact q_vret rfl (by decide) (by decide) dX7_add_46 hF
  · have hF := hF.2 hb
    refine q_aload_n (i := 0) dX7_add_7 rfl rfl ?_
    refine q_getIv (v := h.I 15 1) 8 1 fl_X7_15 (by decide) rfl rfl (rfl) dX7_add_8 ?_
    refine q_sipush (v := 2000) dX7_add_11 (by decide) ?_
    refine q_icmp_ge (tgt := 46) dX7_add_14 (by decide) (fun hb => ?_) (fun hb => ?_)
    · have hF := hF.1 hb
      exact q_vret rfl (by decide) (by decide) dX7_add_46 hF
    · have hF := hF.2 hb
      refine q_aload_n (i := 0) dX7_add_17 rfl rfl ?_
      refine q_getP 8 0 16 fl_X7_9 (by decide) rfl rfl rfl dX7_add_18 ?_
      refine q_aload_n (i := 0) dX7_add_21 rfl rfl ?_
      refine q_getIv (v := h.I 15 1) 8 1 fl_X7_15 (by decide) rfl rfl (rfl) dX7_add_22 ?_
      refine q_iload_n (i := 1) dX7_add_25 rfl rfl ?_
      refine q_iload_n (i := 2) dX7_add_26 rfl rfl ?_
      refine q_ishr dX7_add_27 ?_
      refine q_i2b (v := (l1 >>> (l2 &&& 31)).toInt8.toInt32) dX7_add_28 rfl ?_
      obtain ⟨hi1, hF⟩ := hF
      refine q_bastore (n := 2000) (by decide) rfl hi1 dX7_add_29 ?_
      refine q_aload_n (i := 0) dX7_add_30 rfl rfl ?_
      refine q_dup dX7_add_31 rfl ?_
      refine q_getIv (v := h.I 15 1) 8 1 fl_X7_15 (by decide) rfl rfl ((q_I_neo (by decide)).trans (rfl)) dX7_add_32 ?_
      refine q_iconst (v := 1) dX7_add_35 (by decide) ?_
      refine q_iadd dX7_add_36 ?_
      refine q_putI 8 1 fp_X7_15 (Or.inr ⟨_, _, _, rfl, rfl⟩) (by decide) rfl rfl dX7_add_37 ?_
      refine q_iinc (v := l2 + (-8)) dX7_add_40 rfl rfl (by decide) rfl ?_
      refine q_goto (tgt := 3) dX7_add_43 (by decide) ?_
      exact hF
