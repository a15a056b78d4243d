def m_X12_fault : qm := (RX12, cX12_fault, 2, (some .int), [], false)
set_option maxRecDepth 100000 in
set_option maxHeartbeats 4000000 in
theorem x_X12_fault (G : qG) (d : Nat) (x1 : Int32) (h : qh) (Q : qr → qh → Prop)  (hF : (¬ x1 = 0 → ((¬ x1 = 1 → (Q (.inl (some (.int (-1)))) (h.sI 43 0 0))) ∧ (x1 = 1 → (Q (.inl (some (.int (h.I 43 4)))) (h.sI 43 0 0))))) ∧ (x1 = 0 → (Q (.inl (some (.int (h.I 43 3)))) (h.sI 43 0 0)))) : q_M0 G (d + 1) yX12_fault [.ref 43, .int x1] h Q := by
  refine q_of (M := m_X12_fault) (by decide +kernel) rfl rfl cd_X12_fault (by decide) (Nat.le_of_ble_eq_true rfl) ?_
  show q_N0 G m_X12_fault (d + 1) Q 0 [.ref 43, .int x1] [] h
  refine q_aload_n (i := 0) dX12_fault_0 rfl rfl ?_
  refine q_iconst (v := 0) dX12_fault_1 (by decide) ?_
  refine q_putI 13 0 fp_X12_83 (Or.inr ⟨_, _, _, rfl, rfl⟩) (by decide) rfl rfl dX12_fault_2 ?_
  refine q_iload_n (i := 1) dX12_fault_5 rfl rfl ?_
  refine q_if_ne (tgt := 16) dX12_fault_6 (by decide) (fun hb => ?_) (fun hb => ?_)
  · have hF := hF.1 hb
    refine q_iload_n (i := 1) dX12_fault_16 rfl rfl ?_
    refine q_iconst (v := 1) dX12_fault_17 (by decide) ?_
    refine q_icmp_ne (tgt := 28) dX12_fault_18 (by decide) (fun hb => ?_) (fun hb => ?_)
    · have hF := hF.1 hb
      refine q_iconst (v := (-1)) dX12_fault_28 (by decide) ?_
      exact q_iret rfl (by decide) (by decide) dX12_fault_29 hF
    · have hF := hF.2 hb
      refine q_aload_n (i := 0) dX12_fault_21 rfl rfl ?_
      refine q_getIv (v := h.I 43 4) 13 4 fl_X12_13 (by decide) rfl rfl ((q_I_nek (by decide)).trans (rfl)) dX12_fault_22 ?_
      refine q_goto (tgt := 29) dX12_fault_25 (by decide) ?_
      exact q_iret rfl (by decide) (by decide) dX12_fault_29 hF
  · have hF := hF.2 hb
    refine q_aload_n (i := 0) dX12_fault_9 rfl rfl ?_
    refine q_getIv (v := h.I 43 3) 13 3 fl_X12_333 (by decide) rfl rfl ((q_I_nek (by decide)).trans (rfl)) dX12_fault_10 ?_
    refine q_goto (tgt := 29) dX12_fault_13 (by decide) ?_
    exact q_iret rfl (by decide) (by decide) dX12_fault_29 hF
def m_X12_give : qm := (RX12, cX12_give, 4, (some .int), [], false)
set_option maxRecDepth 100000 in
set_option maxHeartbeats 4000000 in
theorem x_X12_give (G : qG) (d : Nat) (x1 : Int32) (x2 : Int32) (h : qh) (Q : qr → qh → Prop)  (hF : ((h.I 43 23) = 0 → (((1 : Int32) ≤ 0 → (vp_in x1 4 ∧ (vp_in x1 4 ∧ (Q (.inl (some (.int (h.I 77 x1.toNatClampNeg)))) ((h.sI 43 0 1).sI 77 x1.toNatClampNeg x2))))) ∧ (¬ (1 : Int32) ≤ 0 → (Q (.inl (some (.int 0))) (h.sI 43 0 1))))) ∧ (¬ (h.I 43 23) = 0 → ((x1 < 0 → (((1 : Int32) ≤ 0 → (vp_in x1 4 ∧ (vp_in x1 4 ∧ (Q (.inl (some (.int (h.I 77 x1.toNatClampNeg)))) ((h.sI 43 0 1).sI 77 x1.toNatClampNeg x2))))) ∧ (¬ (1 : Int32) ≤ 0 → (Q (.inl (some (.int 0))) (h.sI 43 0 1))))) ∧ (¬ x1 < 0 → (∃ c5, h.R 43 21 = some c5 ∧ q_prg c5 ∧ (((if x1 < (h.I c5 1) then (0 : Int32) else 1) ≤ 0 → (vp_in x1 4 ∧ (vp_in x1 4 ∧ (Q (.inl (some (.int (h.I 77 x1.toNatClampNeg)))) ((h.sI 43 0 (if x1 < (h.I c5 1) then (0 : Int32) else 1)).sI 77 x1.toNatClampNeg x2))))) ∧ (¬ (if x1 < (h.I c5 1) then (0 : Int32) else 1) ≤ 0 → (Q (.inl (some (.int 0))) (h.sI 43 0 (if x1 < (h.I c5 1) then (0 : Int32) else 1)))))))))) : q_M0 G (d + 1) yX12_give [.ref 43, .int x1, .int x2] h Q := by
  refine q_of (M := m_X12_give) (by decide +kernel) rfl rfl cd_X12_give (by decide) (Nat.le_of_ble_eq_true rfl) ?_
  show q_N0 G m_X12_give (d + 1) Q 0 [.ref 43, .int x1, .int x2, .null] [] h
  refine q_aload_n (i := 0) dX12_give_0 rfl rfl ?_
  refine q_aload_n (i := 0) dX12_give_1 rfl rfl ?_
  refine q_getIv (v := h.I 43 23) 13 23 fl_X12_336 (by decide) rfl rfl (rfl) dX12_give_2 ?_
  refine q_if_eq (tgt := 23) dX12_give_5 (by decide) (fun hb => ?_) (fun hb => ?_)
  · have hF := hF.1 hb
    refine q_iconst (v := 1) dX12_give_23 (by decide) ?_
    refine q_goto (tgt := 28) dX12_give_24 (by decide) ?_
    refine q_putI 13 0 fp_X12_83 (Or.inr ⟨_, _, _, rfl, rfl⟩) (by decide) rfl rfl dX12_give_28 ?_
    refine q_aload_n (i := 0) dX12_give_31 rfl rfl ?_
    refine q_getIv (v := 1) 13 0 fl_X12_83 (by decide) rfl rfl (q_I_same _ _ _ _) dX12_give_32 ?_
    refine q_if_le (tgt := 40) dX12_give_35 (by decide) (fun hb => ?_) (fun hb => ?_)
    · have hF := hF.1 hb
      refine q_aload_n (i := 0) dX12_give_40 rfl rfl ?_
      refine q_getP 13 29 77 fl_X12_65 (by decide) rfl rfl rfl dX12_give_41 ?_
      refine q_iload_n (i := 1) dX12_give_44 rfl rfl ?_
      obtain ⟨hi1, hF⟩ := hF
      refine q_ialoadv (v := h.I 77 x1.toNatClampNeg) (n := 4) (by decide) rfl hi1 ((q_I_neo (by decide)).trans (rfl)) dX12_give_45 ?_
      refine q_istore_n (i := 3) dX12_give_46 rfl (by decide) rfl ?_
      refine q_aload_n (i := 0) dX12_give_47 rfl rfl ?_
      refine q_getP 13 29 77 fl_X12_65 (by decide) rfl rfl rfl dX12_give_48 ?_
      refine q_iload_n (i := 1) dX12_give_51 rfl rfl ?_
      refine q_iload_n (i := 2) dX12_give_52 rfl rfl ?_
      obtain ⟨hi2, hF⟩ := hF
      refine q_iastore (n := 4) (by decide) rfl hi2 dX12_give_53 ?_
      refine q_iload_n (i := 3) dX12_give_54 rfl rfl ?_
      exact q_iret rfl (by decide) (by decide) dX12_give_55 hF
    · have hF := hF.2 hb
      refine q_iconst (v := 0) dX12_give_38 (by decide) ?_
      exact q_iret rfl (by decide) (by decide) dX12_give_39 hF
  · have hF := hF.2 hb
    refine q_iload_n (i := 1) dX12_give_8 rfl rfl ?_
    refine q_if_lt (tgt := 23) dX12_give_9 (by decide) (fun hb => ?_) (fun hb => ?_)
    · have hF := hF.1 hb
      refine q_iconst (v := 1) dX12_give_23 (by decide) ?_
      refine q_goto (tgt := 28) dX12_give_24 (by decide) ?_
      refine q_putI 13 0 fp_X12_83 (Or.inr ⟨_, _, _, rfl, rfl⟩) (by decide) rfl rfl dX12_give_28 ?_
      refine q_aload_n (i := 0) dX12_give_31 rfl rfl ?_
      refine q_getIv (v := 1) 13 0 fl_X12_83 (by decide) rfl rfl (q_I_same _ _ _ _) dX12_give_32 ?_
      refine q_if_le (tgt := 40) dX12_give_35 (by decide) (fun hb => ?_) (fun hb => ?_)
      · have hF := hF.1 hb
        refine q_aload_n (i := 0) dX12_give_40 rfl rfl ?_
        refine q_getP 13 29 77 fl_X12_65 (by decide) rfl rfl rfl dX12_give_41 ?_
        refine q_iload_n (i := 1) dX12_give_44 rfl rfl ?_
        obtain ⟨hi3, hF⟩ := hF
        refine q_ialoadv (v := h.I 77 x1.toNatClampNeg) (n := 4) (by decide) rfl hi3 ((q_I_neo (by decide)).trans (rfl)) dX12_give_45 ?_
        refine q_istore_n (i := 3) dX12_give_46 rfl (by decide) rfl ?_
        refine q_aload_n (i := 0) dX12_give_47 rfl rfl ?_
        refine q_getP 13 29 77 fl_X12_65 (by decide) rfl rfl rfl dX12_give_48 ?_
        refine q_iload_n (i := 1) dX12_give_51 rfl rfl ?_
        refine q_iload_n (i := 2) dX12_give_52 rfl rfl ?_
        obtain ⟨hi4, hF⟩ := hF
        refine q_iastore (n := 4) (by decide) rfl hi4 dX12_give_53 ?_
        refine q_iload_n (i := 3) dX12_give_54 rfl rfl ?_
        exact q_iret rfl (by decide) (by decide) dX12_give_55 hF
      · have hF := hF.2 hb
        refine q_iconst (v := 0) dX12_give_38 (by decide) ?_
        exact q_iret rfl (by decide) (by decide) dX12_give_39 hF
    · have hF := hF.2 hb
      refine q_iload_n (i := 1) dX12_give_12 rfl rfl ?_
      refine q_aload_n (i := 0) dX12_give_13 rfl rfl ?_
      obtain ⟨c5, hrc5, hc5, hF⟩ := hF
      refine q_getR (k := c5) 13 21 fl_X12_46 (by decide) rfl rfl hrc5 dX12_give_14 ?_
      refine q_getIv (v := h.I c5 1) 12 1 fl_X12_231 (q_prg_n hc5 0) (q_prg_K hc5) rfl (rfl) dX12_give_17 ?_
      have K6 := q_ite (c := x1 < (h.I c5 1)) (X := fun v => q_N0 G m_X12_give (d + 1) Q 28 [.ref 43, .int x1, .int x2, .null] (.int v :: [.ref 43]) h) (a := 0) (b := 1) (by
        refine q_putI 13 0 fp_X12_83 (Or.inr ⟨_, _, _, rfl, rfl⟩) (by decide) rfl rfl dX12_give_28 ?_
        refine q_aload_n (i := 0) dX12_give_31 rfl rfl ?_
        refine q_getIv (v := if x1 < (h.I c5 1) then (0 : Int32) else 1) 13 0 fl_X12_83 (by decide) rfl rfl (q_I_same _ _ _ _) dX12_give_32 ?_
        refine q_if_le (tgt := 40) dX12_give_35 (by decide) (fun hb => ?_) (fun hb => ?_)
        · have hF := hF.1 hb
          refine q_aload_n (i := 0) dX12_give_40 rfl rfl ?_
          refine q_getP 13 29 77 fl_X12_65 (by decide) rfl rfl rfl dX12_give_41 ?_
          refine q_iload_n (i := 1) dX12_give_44 rfl rfl ?_
          obtain ⟨hi7, hF⟩ := hF
          refine q_ialoadv (v := h.I 77 x1.toNatClampNeg) (n := 4) (by decide) rfl hi7 ((q_I_neo (by decide)).trans (rfl)) dX12_give_45 ?_
          refine q_istore_n (i := 3) dX12_give_46 rfl (by decide) rfl ?_
          refine q_aload_n (i := 0) dX12_give_47 rfl rfl ?_
          refine q_getP 13 29 77 fl_X12_65 (by decide) rfl rfl rfl dX12_give_48 ?_
          refine q_iload_n (i := 1) dX12_give_51 rfl rfl ?_
          refine q_iload_n (i := 2) dX12_give_52 rfl rfl ?_
          obtain ⟨hi8, hF⟩ := hF
          refine q_iastore (n := 4) (by decide) rfl hi8 dX12_give_53 ?_
          refine q_iload_n (i := 3) dX12_give_54 rfl rfl ?_
          exact q_iret rfl (by decide) (by decide) dX12_give_55 hF
        · have hF := hF.2 hb
          refine q_iconst (v := 0) dX12_give_38 (by decide) ?_
          exact q_iret rfl (by decide) (by decide) dX12_give_39 hF)
      refine q_icmp_lt (tgt := 27) dX12_give_20 (by decide) (fun hb => ?_) (fun hb => ?_)
      · refine q_iconst (v := 0) dX12_give_27 (by decide) ?_
        exact K6.1 hb
      · refine q_iconst (v := 1) dX12_give_23 (by decide) ?_
        refine q_goto (tgt := 28) dX12_give_24 (by decide) ?_
        exact K6.2 hb
def m_X12_isCell : qm := (RX12, cX12_isCell, 3, (some .boolean), [], false)
set_option maxRecDepth 100000 in
set_option maxHeartbeats 4000000 in
theorem x_X12_isCell (G : qG) (d : Nat) (x1 : Int32) (x2 : Int32) (h : qh) (Q : qr → qh → Prop)  (hF : ((h.I 43 23) = 0 → (Q (.inl (some (.int 0))) h)) ∧ (¬ (h.I 43 23) = 0 → ((x1 < 0 → (Q (.inl (some (.int 0))) h)) ∧ (¬ x1 < 0 → (∃ c1, h.R 43 21 = some c1 ∧ q_prg c1 ∧ (((h.I c1 0) ≤ x1 → (Q (.inl (some (.int 0))) h)) ∧ (¬ (h.I c1 0) ≤ x1 → ((x2 < 0 → (Q (.inl (some (.int 0))) h)) ∧ (¬ x2 < 0 → (vp_in x1 8 ∧ (((if (h.I (c1 + 1) x1.toNatClampNeg) ≤ x2 then (0 : Int32) else 1) = 0 ∨ (if (h.I (c1 + 1) x1.toNatClampNeg) ≤ x2 then (0 : Int32) else 1) = 1) ∧ Q (.inl (some (.int (if (h.I (c1 + 1) x1.toNatClampNeg) ≤ x2 then (0 : Int32) else 1)))) h))))))))))) : q_M0 G (d + 1) yX12_isCell [.ref 43, .int x1, .int x2] h Q := by
  refine q_of (M := m_X12_isCell) (by decide +kernel) rfl rfl cd_X12_isCell (by decide) (Nat.le_of_ble_eq_true rfl) ?_
  show q_N0 G m_X12_isCell (d + 1) Q 0 [.ref 43, .int x1, .int x2] [] h
  refine q_aload_n (i := 0) dX12_isCell_0 rfl rfl ?_
  refine q_getIv (v := h.I 43 23) 13 23 fl_X12_336 (by decide) rfl rfl (rfl) dX12_isCell_1 ?_
  refine q_if_eq (tgt := 43) dX12_isCell_4 (by decide) (fun hb => ?_) (fun hb => ?_)
  · have hF := hF.1 hb
    refine q_iconst (v := 0) dX12_isCell_43 (by decide) ?_
    exact q_zret rfl (by decide) (by decide) (by decide) dX12_isCell_44 hF
  · have hF := hF.2 hb
    refine q_iload_n (i := 1) dX12_isCell_7 rfl rfl ?_
    refine q_if_lt (tgt := 43) dX12_isCell_8 (by decide) (fun hb => ?_) (fun hb => ?_)
    · have hF := hF.1 hb
      refine q_iconst (v := 0) dX12_isCell_43 (by decide) ?_
      exact q_zret rfl (by decide) (by decide) (by decide) dX12_isCell_44 hF
    · have hF := hF.2 hb
      refine q_iload_n (i := 1) dX12_isCell_11 rfl rfl ?_
      refine q_aload_n (i := 0) dX12_isCell_12 rfl rfl ?_
      obtain ⟨c1, hrc1, hc1, hF⟩ := hF
      refine q_getR (k := c1) 13 21 fl_X12_46 (by decide) rfl rfl hrc1 dX12_isCell_13 ?_
      refine q_getIv (v := h.I c1 0) 12 0 fl_X12_225 (q_prg_n hc1 0) (q_prg_K hc1) rfl (rfl) dX12_isCell_16 ?_
      refine q_icmp_ge (tgt := 43) dX12_isCell_19 (by decide) (fun hb => ?_) (fun hb => ?_)
      · have hF := hF.1 hb
        refine q_iconst (v := 0) dX12_isCell_43 (by decide) ?_
        exact q_zret rfl (by decide) (by decide) (by decide) dX12_isCell_44 hF
      · have hF := hF.2 hb
        refine q_iload_n (i := 2) dX12_isCell_22 rfl rfl ?_
        refine q_if_lt (tgt := 43) dX12_isCell_23 (by decide) (fun hb => ?_) (fun hb => ?_)
        · have hF := hF.1 hb
          refine q_iconst (v := 0) dX12_isCell_43 (by decide) ?_
          exact q_zret rfl (by decide) (by decide) (by decide) dX12_isCell_44 hF
        · have hF := hF.2 hb
          refine q_iload_n (i := 2) dX12_isCell_26 rfl rfl ?_
          refine q_aload_n (i := 0) dX12_isCell_27 rfl rfl ?_
          refine q_getR (k := c1) 13 21 fl_X12_46 (by decide) rfl rfl hrc1 dX12_isCell_28 ?_
          refine q_getP 12 8 (c1 + 1) fl_X12_228 (q_prg_n hc1 0) (q_prg_K hc1) rfl (q_prg_P hc1 8) dX12_isCell_31 ?_
          refine q_iload_n (i := 1) dX12_isCell_34 rfl rfl ?_
          obtain ⟨hi2, hF⟩ := hF
          refine q_ialoadv (v := h.I (c1 + 1) x1.toNatClampNeg) (n := 8) (q_prg_n hc1 1) (q_prg_A hc1 8) hi2 (rfl) dX12_isCell_35 ?_
          have K3 := q_ite (c := (h.I (c1 + 1) x1.toNatClampNeg) ≤ x2) (X := fun v => q_N0 G m_X12_isCell (d + 1) Q 44 [.ref 43, .int x1, .int x2] (.int v :: []) h) (a := 0) (b := 1) (by
            exact q_zret rfl hF.1 (by decide) (by decide) dX12_isCell_44 hF.2)
          refine q_icmp_ge (tgt := 43) dX12_isCell_36 (by decide) (fun hb => ?_) (fun hb => ?_)
          · refine q_iconst (v := 0) dX12_isCell_43 (by decide) ?_
            exact K3.1 hb
          · refine q_iconst (v := 1) dX12_isCell_39 (by decide) ?_
            refine q_goto (tgt := 44) dX12_isCell_40 (by decide) ?_
            exact K3.2 hb
def m_X12_poke : qm := (RX12, cX12_poke, 5, (some .int), [], false)
set_option maxRecDepth 100000 in
set_option maxHeartbeats 4000000 in
theorem x_X12_poke (G : qG) (d : Nat) (x1 : Int32) (x2 : Int32) (x3 : Int32) (h : qh) (Q : qr → qh → Prop)  (hF : q_M0 G d yX12_isCell [.ref 43, .int x1, .int x2] h (q_ri (fun r2 h1 => ((if r2 = 0 then (1 : Int32) else 0) ≤ 0 → (vp_in ((256 * x1) + x2) 2048 ∧ (vp_in ((256 * x1) + x2) 2048 ∧ (Q (.inl (some (.int (h1.I 76 (((256 * x1) + x2).toNatClampNeg))))) ((h1.sI 43 0 (if r2 = 0 then (1 : Int32) else 0)).sI 76 (((256 * x1) + x2).toNatClampNeg) x3))))) ∧ (¬ (if r2 = 0 then (1 : Int32) else 0) ≤ 0 → (Q (.inl (some (.int 0))) (h1.sI 43 0 (if r2 = 0 then (1 : Int32) else 0))))) (fun E h => Q (.inr E) h))) : q_M0 G (d + 1) yX12_poke [.ref 43, .int x1, .int x2, .int x3] h Q := by
  refine q_of (M := m_X12_poke) (by decide +kernel) rfl rfl cd_X12_poke (by decide) (Nat.le_of_ble_eq_true rfl) ?_
  show q_N0 G m_X12_poke (d + 1) Q 0 [.ref 43, .int x1, .int x2, .int x3, .null] [] h
  refine q_aload_n (i := 0) dX12_poke_0 rfl rfl ?_
  refine q_aload_n (i := 0) dX12_poke_1 rfl rfl ?_
  refine q_iload_n (i := 1) dX12_poke_2 rfl rfl ?_
  refine q_iload_n (i := 2) dX12_poke_3 rfl rfl ?_
  refine q_callVi (ci := 13) (o := 43) (As := [.int x1, .int x2]) (st := [.ref 43]) cv_X12_343 ⟨_, _, rfl⟩ (by decide) rfl rfl (Nat.le_refl _) (Nat.le_of_ble_eq_true rfl) (by decide) dX12_poke_4 rfl hF (fun r2 h1 hF => ?_)
  have K3 := q_ite (c := r2 = 0) (X := fun v => q_N0 G m_X12_poke (d + 1) Q 15 [.ref 43, .int x1, .int x2, .int x3, .null] (.int v :: [.ref 43]) h1) (a := 1) (b := 0) (by
    refine q_putI 13 0 fp_X12_83 (Or.inr ⟨_, _, _, rfl, rfl⟩) (by decide) rfl rfl dX12_poke_15 ?_
    refine q_aload_n (i := 0) dX12_poke_18 rfl rfl ?_
    refine q_getIv (v := if r2 = 0 then (1 : Int32) else 0) 13 0 fl_X12_83 (by decide) rfl rfl (q_I_same _ _ _ _) dX12_poke_19 ?_
    refine q_if_le (tgt := 27) dX12_poke_22 (by decide) (fun hb => ?_) (fun hb => ?_)
    · have hF := hF.1 hb
      refine q_aload_n (i := 0) dX12_poke_27 rfl rfl ?_
      refine q_getP 13 28 76 fl_X12_62 (by decide) rfl rfl rfl dX12_poke_28 ?_
      refine q_sipush (v := 256) dX12_poke_31 (by decide) ?_
      refine q_iload_n (i := 1) dX12_poke_34 rfl rfl ?_
      refine q_imul dX12_poke_35 ?_
      refine q_iload_n (i := 2) dX12_poke_36 rfl rfl ?_
      refine q_iadd dX12_poke_37 ?_
      obtain ⟨hi4, hF⟩ := hF
      refine q_ialoadv (v := h1.I 76 (((256 * x1) + x2).toNatClampNeg)) (n := 2048) (by decide) rfl hi4 ((q_I_neo (by decide)).trans (rfl)) dX12_poke_38 ?_
      refine q_istore dX12_poke_39 (by decide) rfl ?_
      refine q_aload_n (i := 0) dX12_poke_41 rfl rfl ?_
      refine q_getP 13 28 76 fl_X12_62 (by decide) rfl rfl rfl dX12_poke_42 ?_
      refine q_sipush (v := 256) dX12_poke_45 (by decide) ?_
      refine q_iload_n (i := 1) dX12_poke_48 rfl rfl ?_
      refine q_imul dX12_poke_49 ?_
      refine q_iload_n (i := 2) dX12_poke_50 rfl rfl ?_
      refine q_iadd dX12_poke_51 ?_
      refine q_iload_n (i := 3) dX12_poke_52 rfl rfl ?_
      obtain ⟨hi5, hF⟩ := hF
      refine q_iastore (n := 2048) (by decide) rfl hi5 dX12_poke_53 ?_
      refine q_iload dX12_poke_54 rfl ?_
      exact q_iret rfl (by decide) (by decide) dX12_poke_56 hF
    · have hF := hF.2 hb
      refine q_iconst (v := 0) dX12_poke_25 (by decide) ?_
      exact q_iret rfl (by decide) (by decide) dX12_poke_26 hF)
  refine q_if_eq (tgt := 14) dX12_poke_7 (by decide) (fun hb => ?_) (fun hb => ?_)
  · refine q_iconst (v := 1) dX12_poke_14 (by decide) ?_
    exact K3.1 hb
  · refine q_iconst (v := 0) dX12_poke_10 (by decide) ?_
    refine q_goto (tgt := 15) dX12_poke_11 (by decide) ?_
    exact K3.2 hb
def m_X12_cell : qm := (RX12, cX12_cell, 3, (some .int), [], false)
set_option maxRecDepth 100000 in
set_option maxHeartbeats 4000000 in
theorem x_X12_cell (G : qG) (d : Nat) (x1 : Int32) (x2 : Int32) (h : qh) (Q : qr → qh → Prop)  (hF : q_M0 G d yX12_isCell [.ref 43, .int x1, .int x2] h (q_ri (fun r2 h1 => ((if r2 = 0 then (1 : Int32) else 0) ≤ 0 → (vp_in ((256 * x1) + x2) 2048 ∧ (Q (.inl (some (.int (h1.I 76 (((256 * x1) + x2).toNatClampNeg))))) (h1.sI 43 0 (if r2 = 0 then (1 : Int32) else 0))))) ∧ (¬ (if r2 = 0 then (1 : Int32) else 0) ≤ 0 → (Q (.inl (some (.int 0))) (h1.sI 43 0 (if r2 = 0 then (1 : Int32) else 0))))) (fun E h => Q (.inr E) h))) : q_M0 G (d + 1) yX12_cell [.ref 43, .int x1, .int x2] h Q := by
  refine q_of (M := m_X12_cell) (by decide +kernel) rfl rfl cd_X12_cell (by decide) (Nat.le_of_ble_eq_true rfl) ?_
  show q_N0 G m_X12_cell (d + 1) Q 0 [.ref 43, .int x1, .int x2] [] h
  refine q_aload_n (i := 0) dX12_cell_0 rfl rfl ?_
  refine q_aload_n (i := 0) dX12_cell_1 rfl rfl ?_
  refine q_iload_n (i := 1) dX12_cell_2 rfl rfl ?_
  refine q_iload_n (i := 2) dX12_cell_3 rfl rfl ?_
  refine q_callVi (ci := 13) (o := 43) (As := [.int x1, .int x2]) (st := [.ref 43]) cv_X12_343 ⟨_, _, rfl⟩ (by decide) rfl rfl (Nat.le_refl _) (Nat.le_of_ble_eq_true rfl) (by decide) dX12_cell_4 rfl hF (fun r2 h1 hF => ?_)
  have K3 := q_ite (c := r2 = 0) (X := fun v => q_N0 G m_X12_cell (d + 1) Q 15 [.ref 43, .int x1, .int x2] (.int v :: [.ref 43]) h1) (a := 1) (b := 0) (by
    refine q_putI 13 0 fp_X12_83 (Or.inr ⟨_, _, _, rfl, rfl⟩) (by decide) rfl rfl dX12_cell_15 ?_
    refine q_aload_n (i := 0) dX12_cell_18 rfl rfl ?_
    refine q_getIv (v := if r2 = 0 then (1 : Int32) else 0) 13 0 fl_X12_83 (by decide) rfl rfl (q_I_same _ _ _ _) dX12_cell_19 ?_
    refine q_if_le (tgt := 29) dX12_cell_22 (by decide) (fun hb => ?_) (fun hb => ?_)
    · have hF := hF.1 hb
      refine q_aload_n (i := 0) dX12_cell_29 rfl rfl ?_
      refine q_getP 13 28 76 fl_X12_62 (by decide) rfl rfl rfl dX12_cell_30 ?_
      refine q_sipush (v := 256) dX12_cell_33 (by decide) ?_
      refine q_iload_n (i := 1) dX12_cell_36 rfl rfl ?_
      refine q_imul dX12_cell_37 ?_
      refine q_iload_n (i := 2) dX12_cell_38 rfl rfl ?_
      refine q_iadd dX12_cell_39 ?_
      obtain ⟨hi4, hF⟩ := hF
      refine q_ialoadv (v := h1.I 76 (((256 * x1) + x2).toNatClampNeg)) (n := 2048) (by decide) rfl hi4 ((q_I_neo (by decide)).trans (rfl)) dX12_cell_40 ?_
      exact q_iret rfl (by decide) (by decide) dX12_cell_41 hF
    · have hF := hF.2 hb
      refine q_iconst (v := 0) dX12_cell_25 (by decide) ?_
      refine q_goto (tgt := 41) dX12_cell_26 (by decide) ?_
      exact q_iret rfl (by decide) (by decide) dX12_cell_41 hF)
  refine q_if_eq (tgt := 14) dX12_cell_7 (by decide) (fun hb => ?_) (fun hb => ?_)
  · refine q_iconst (v := 1) dX12_cell_14 (by decide) ?_
    exact K3.1 hb
  · refine q_iconst (v := 0) dX12_cell_10 (by decide) ?_
    refine q_goto (tgt := 15) dX12_cell_11 (by decide) ?_
    exact K3.2 hb
def m_X12_latency : qm := (RX12, cX12_latency, 2, (some .int), [], false)
set_option maxRecDepth 100000 in
set_option maxHeartbeats 4000000 in
theorem x_X12_latency (G : qG) (d : Nat) (x1 : Int32) (h : qh) (Q : qr → qh → Prop)  (hF : (x1 < 1 → (Q (.inl (some (.int (-1)))) (h.sI 43 0 0))) ∧ (¬ x1 < 1 → ((64 < x1 → (Q (.inl (some (.int (-1)))) (h.sI 43 0 0))) ∧ (¬ 64 < x1 → ((¬ (h.I 43 6) = 32 → (vp_in (h.I 43 6) 32 ∧ (Q (.inl (some (.int ((h.I 43 6) + 1)))) (((h.sI 43 0 0).sI 45 ((h.I 43 6).toNatClampNeg) x1).sI 43 6 ((h.I 43 6) + 1))))) ∧ ((h.I 43 6) = 32 → (Q (.inl (some (.int (-1)))) (h.sI 43 0 0)))))))) : q_M0 G (d + 1) yX12_latency [.ref 43, .int x1] h Q := by
  refine q_of (M := m_X12_latency) (by decide +kernel) rfl rfl cd_X12_latency (by decide) (Nat.le_of_ble_eq_true rfl) ?_
  show q_N0 G m_X12_latency (d + 1) Q 0 [.ref 43, .int x1] [] h
  refine q_aload_n (i := 0) dX12_latency_0 rfl rfl ?_
  refine q_iconst (v := 0) dX12_latency_1 (by decide) ?_
  refine q_putI 13 0 fp_X12_83 (Or.inr ⟨_, _, _, rfl, rfl⟩) (by decide) rfl rfl dX12_latency_2 ?_
  refine q_iload_n (i := 1) dX12_latency_5 rfl rfl ?_
  refine q_iconst (v := 1) dX12_latency_6 (by decide) ?_
  refine q_icmp_lt (tgt := 25) dX12_latency_7 (by decide) (fun hb => ?_) (fun hb => ?_)
  · have hF := hF.1 hb
    refine q_iconst (v := (-1)) dX12_latency_25 (by decide) ?_
    exact q_iret rfl (by decide) (by decide) dX12_latency_26 hF
  · have hF := hF.2 hb
    refine q_iload_n (i := 1) dX12_latency_10 rfl rfl ?_
    refine q_bipush (v := 64) dX12_latency_11 (by decide) ?_
    refine q_icmp_gt (tgt := 25) dX12_latency_13 (by decide) (fun hb => ?_) (fun hb => ?_)
    · have hF := hF.1 hb
      refine q_iconst (v := (-1)) dX12_latency_25 (by decide) ?_
      exact q_iret rfl (by decide) (by decide) dX12_latency_26 hF
    · have hF := hF.2 hb
      refine q_aload_n (i := 0) dX12_latency_16 rfl rfl ?_
      refine q_getIv (v := h.I 43 6) 13 6 fl_X12_346 (by decide) rfl rfl ((q_I_nek (by decide)).trans (rfl)) dX12_latency_17 ?_
      refine q_bipush (v := 32) dX12_latency_20 (by decide) ?_
      refine q_icmp_ne (tgt := 27) dX12_latency_22 (by decide) (fun hb => ?_) (fun hb => ?_)
      · have hF := hF.1 hb
        refine q_aload_n (i := 0) dX12_latency_27 rfl rfl ?_
        refine q_getP 13 5 45 fl_X12_17 (by decide) rfl rfl rfl dX12_latency_28 ?_
        refine q_aload_n (i := 0) dX12_latency_31 rfl rfl ?_
        refine q_getIv (v := h.I 43 6) 13 6 fl_X12_346 (by decide) rfl rfl ((q_I_nek (by decide)).trans (rfl)) dX12_latency_32 ?_
        refine q_iload_n (i := 1) dX12_latency_35 rfl rfl ?_
        obtain ⟨hi1, hF⟩ := hF
        refine q_iastore (n := 32) (by decide) rfl hi1 dX12_latency_36 ?_
        refine q_aload_n (i := 0) dX12_latency_37 rfl rfl ?_
        refine q_dup dX12_latency_38 rfl ?_
        refine q_getIv (v := h.I 43 6) 13 6 fl_X12_346 (by decide) rfl rfl ((q_I_neo (by decide)).trans ( (q_I_nek (by decide)).trans (rfl))) dX12_latency_39 ?_
        refine q_iconst (v := 1) dX12_latency_42 (by decide) ?_
        refine q_iadd dX12_latency_43 ?_
        refine q_putI 13 6 fp_X12_346 (Or.inr ⟨_, _, _, rfl, rfl⟩) (by decide) rfl rfl dX12_latency_44 ?_
        refine q_aload_n (i := 0) dX12_latency_47 rfl rfl ?_
        refine q_getIv (v := (h.I 43 6) + 1) 13 6 fl_X12_346 (by decide) rfl rfl (q_I_same _ _ _ _) dX12_latency_48 ?_
        exact q_iret rfl (by decide) (by decide) dX12_latency_51 hF
      · have hF := hF.2 hb
        refine q_iconst (v := (-1)) dX12_latency_25 (by decide) ?_
        exact q_iret rfl (by decide) (by decide) dX12_latency_26 hF
def m_X12_free : qm := (RX12, cX12_free, 2, (some .int), [], false)
set_option maxRecDepth 100000 in
set_option maxHeartbeats 4000000 in
theorem x_X12_free (G : qG) (d : Nat)  (h : qh) (Q : qr → qh → Prop)  (hF : Q (.inl (some (.int (h.I 43 6)))) ((h.sI 43 0 0).sI 43 6 0)) : q_M0 G (d + 1) yX12_free [.ref 43] h Q := by
  refine q_of (M := m_X12_free) (by decide +kernel) rfl rfl cd_X12_free (by decide) (Nat.le_of_ble_eq_true rfl) ?_
  show q_N0 G m_X12_free (d + 1) Q 0 [.ref 43, .null] [] h
  refine q_aload_n (i := 0) dX12_free_0 rfl rfl ?_
  refine q_iconst (v := 0) dX12_free_1 (by decide) ?_
  refine q_putI 13 0 fp_X12_83 (Or.inr ⟨_, _, _, rfl, rfl⟩) (by decide) rfl rfl dX12_free_2 ?_
  refine q_aload_n (i := 0) dX12_free_5 rfl rfl ?_
  refine q_getIv (v := h.I 43 6) 13 6 fl_X12_346 (by decide) rfl rfl ((q_I_nek (by decide)).trans (rfl)) dX12_free_6 ?_
  refine q_istore_n (i := 1) dX12_free_9 rfl (by decide) rfl ?_
  refine q_aload_n (i := 0) dX12_free_10 rfl rfl ?_
  refine q_iconst (v := 0) dX12_free_11 (by decide) ?_
  refine q_putI 13 6 fp_X12_346 (Or.inr ⟨_, _, _, rfl, rfl⟩) (by decide) rfl rfl dX12_free_12 ?_
  refine q_iload_n (i := 1) dX12_free_15 rfl rfl ?_
  exact q_iret rfl (by decide) (by decide) dX12_free_16 hF
def m_X12_stall : qm := (RX12, cX12_stall, 5, (some .long), [], false)
set_option maxRecDepth 100000 in
set_option maxHeartbeats 4000000 in
theorem x_X12_stall (G : qG) (d : Nat) (x1 : Int64) (h : qh) (Q : qr → qh → Prop)  (hF : (¬ (lg_cmp x1 (-1)) = 0 → (Q (.inl (some (.long (h.L 43 7)))) ((h.sI 43 0 0).sL 43 7 x1))) ∧ ((lg_cmp x1 (-1)) = 0 → (Q (.inl (some (.long (h.L 43 7)))) ((h.sI 43 0 0).sL 43 7 0)))) : q_M0 G (d + 1) yX12_stall [.ref 43, .long x1] h Q := by
  refine q_of (M := m_X12_stall) (by decide +kernel) rfl rfl cd_X12_stall (by decide) (Nat.le_of_ble_eq_true rfl) ?_
  show q_N0 G m_X12_stall (d + 1) Q 0 [.ref 43, .long x1, .null, .null, .null] [] h
  refine q_aload_n (i := 0) dX12_stall_0 rfl rfl ?_
  refine q_iconst (v := 0) dX12_stall_1 (by decide) ?_
  refine q_putI 13 0 fp_X12_83 (Or.inr ⟨_, _, _, rfl, rfl⟩) (by decide) rfl rfl dX12_stall_2 ?_
  refine q_aload_n (i := 0) dX12_stall_5 rfl rfl ?_
  refine q_getLv (v := h.L 43 7) 13 7 fl_X12_349 (by decide) rfl rfl ((q_L_I).trans (rfl)) dX12_stall_6 ?_
  refine q_lstore_n (i := 3) dX12_stall_9 rfl (by decide) rfl ?_
  refine q_aload_n (i := 0) dX12_stall_10 rfl rfl ?_
  refine q_lload_n (i := 1) dX12_stall_11 rfl rfl ?_
  refine q_ldc2 cl_X12_353 dX12_stall_12 ?_
  refine q_lcmp dX12_stall_15 ?_
  refine q_if_ne (tgt := 23) dX12_stall_16 (by decide) (fun hb => ?_) (fun hb => ?_)
  · have hF := hF.1 hb
    refine q_lload_n (i := 1) dX12_stall_23 rfl rfl ?_
    refine q_putL 13 7 fp_X12_349 (Or.inr ⟨_, _, _, rfl, rfl⟩) (by decide) rfl rfl dX12_stall_24 ?_
    refine q_lload_n (i := 3) dX12_stall_27 rfl rfl ?_
    exact q_lret rfl (by decide) (by decide) dX12_stall_28 hF
  · have hF := hF.2 hb
    refine q_lconst (v := 0) dX12_stall_19 (by decide) ?_
    refine q_goto (tgt := 24) dX12_stall_20 (by decide) ?_
    refine q_putL 13 7 fp_X12_349 (Or.inr ⟨_, _, _, rfl, rfl⟩) (by decide) rfl rfl dX12_stall_24 ?_
    refine q_lload_n (i := 3) dX12_stall_27 rfl rfl ?_
    exact q_lret rfl (by decide) (by decide) dX12_stall_28 hF
def m_X12_divided : qm := (RX12, cX12_divided, 2, (some .int), [], false)
set_option maxRecDepth 100000 in
set_option maxHeartbeats 4000000 in
theorem x_X12_divided (G : qG) (d : Nat) (x1 : Int32) (x2 : Int32) (h : qh) (Q : qr → qh → Prop)  (hF : (¬ x2 = 0 → ((¬ x2 = (-1) → (¬ x2 = 0 ∧ (Q (.inl (some (.int (x1 / x2)))) h))) ∧ (x2 = (-1) → (Q (.inl (some (.int (-x1)))) h)))) ∧ (x2 = 0 → (Q (.inl (some (.int (-1)))) h))) : q_M0 G (d + 1) yX12_divided [.int x1, .int x2] h Q := by
  refine q_of (M := m_X12_divided) (by decide +kernel) rfl rfl cd_X12_divided (by decide) (Nat.le_of_ble_eq_true rfl) ?_
  show q_N0 G m_X12_divided (d + 1) Q 0 [.int x1, .int x2] [] h
  refine q_iload_n (i := 1) dX12_divided_0 rfl rfl ?_
  refine q_if_ne (tgt := 8) dX12_divided_1 (by decide) (fun hb => ?_) (fun hb => ?_)
  · have hF := hF.1 hb
    refine q_iload_n (i := 1) dX12_divided_8 rfl rfl ?_
    refine q_iconst (v := (-1)) dX12_divided_9 (by decide) ?_
    refine q_icmp_ne (tgt := 18) dX12_divided_10 (by decide) (fun hb => ?_) (fun hb => ?_)
    · have hF := hF.1 hb
      refine q_iload_n (i := 0) dX12_divided_18 rfl rfl ?_
      refine q_iload_n (i := 1) dX12_divided_19 rfl rfl ?_
      obtain ⟨hn, hF⟩ := hF
      refine q_idiv dX12_divided_20 hn ?_
      exact q_iret rfl (by decide) (by decide) dX12_divided_21 hF
    · have hF := hF.2 hb
      refine q_iload_n (i := 0) dX12_divided_13 rfl rfl ?_
      refine q_ineg dX12_divided_14 ?_
      refine q_goto (tgt := 21) dX12_divided_15 (by decide) ?_
      exact q_iret rfl (by decide) (by decide) dX12_divided_21 hF
  · have hF := hF.2 hb
    refine q_iconst (v := (-1)) dX12_divided_4 (by decide) ?_
    refine q_goto (tgt := 21) dX12_divided_5 (by decide) ?_
    exact q_iret rfl (by decide) (by decide) dX12_divided_21 hF
def m_X12_rest : qm := (RX12, cX12_rest, 2, (some .int), [], false)
set_option maxRecDepth 100000 in
set_option maxHeartbeats 4000000 in
theorem x_X12_rest (G : qG) (d : Nat) (x1 : Int32) (x2 : Int32) (h : qh) (Q : qr → qh → Prop)  (hF : (¬ x2 = 0 → ((¬ x2 = (-1) → (¬ x2 = 0 ∧ (Q (.inl (some (.int (x1 - x1 / x2 * x2)))) h))) ∧ (x2 = (-1) → (Q (.inl (some (.int 0))) h)))) ∧ (x2 = 0 → (Q (.inl (some (.int x1))) h))) : q_M0 G (d + 1) yX12_rest [.int x1, .int x2] h Q := by
  refine q_of (M := m_X12_rest) (by decide +kernel) rfl rfl cd_X12_rest (by decide) (Nat.le_of_ble_eq_true rfl) ?_
  show q_N0 G m_X12_rest (d + 1) Q 0 [.int x1, .int x2] [] h
  refine q_iload_n (i := 1) dX12_rest_0 rfl rfl ?_
  refine q_if_ne (tgt := 8) dX12_rest_1 (by decide) (fun hb => ?_) (fun hb => ?_)
  · have hF := hF.1 hb
    refine q_iload_n (i := 1) dX12_rest_8 rfl rfl ?_
    refine q_iconst (v := (-1)) dX12_rest_9 (by decide) ?_
    refine q_icmp_ne (tgt := 17) dX12_rest_10 (by decide) (fun hb => ?_) (fun hb => ?_)
    · have hF := hF.1 hb
      refine q_iload_n (i := 0) dX12_rest_17 rfl rfl ?_
      refine q_iload_n (i := 1) dX12_rest_18 rfl rfl ?_
      obtain ⟨hn, hF⟩ := hF
      refine q_irem dX12_rest_19 hn ?_
      exact q_iret rfl (by decide) (by decide) dX12_rest_20 hF
    · have hF := hF.2 hb
      refine q_iconst (v := 0) dX12_rest_13 (by decide) ?_
      refine q_goto (tgt := 20) dX12_rest_14 (by decide) ?_
      exact q_iret rfl (by decide) (by decide) dX12_rest_20 hF
  · have hF := hF.2 hb
    refine q_iload_n (i := 0) dX12_rest_4 rfl rfl ?_
    refine q_goto (tgt := 20) dX12_rest_5 (by decide) ?_
    exact q_iret rfl (by decide) (by decide) dX12_rest_20 hF
def m_X12_truth : qm := (RX12, cX12_truth, 1, (some .int), [], false)
set_option maxRecDepth 100000 in
set_option maxHeartbeats 4000000 in
theorem x_X12_truth (G : qG) (d : Nat) (x1 : Int32) (h : qh) (Q : qr → qh → Prop)  (hF : Q (.inl (some (.int (if x1 = 0 then (0 : Int32) else 1)))) h) : q_M0 G (d + 1) yX12_truth [.int x1] h Q := by
  refine q_of (M := m_X12_truth) (by decide +kernel) rfl rfl cd_X12_truth (by decide) (Nat.le_of_ble_eq_true rfl) ?_
  show q_N0 G m_X12_truth (d + 1) Q 0 [.int x1] [] h
  refine q_iload_n (i := 0) dX12_truth_0 rfl rfl ?_
  have K1 := q_ite (c := x1 = 0) (X := fun v => q_N0 G m_X12_truth (d + 1) Q 9 [.int x1] (.int v :: []) h) (a := 0) (b := 1) (by
    exact q_iret rfl (by decide) (by decide) dX12_truth_9 hF)
  refine q_if_eq (tgt := 8) dX12_truth_1 (by decide) (fun hb => ?_) (fun hb => ?_)
  · refine q_iconst (v := 0) dX12_truth_8 (by decide) ?_
    exact K1.1 hb
  · refine q_iconst (v := 1) dX12_truth_4 (by decide) ?_
    refine q_goto (tgt := 9) dX12_truth_5 (by decide) ?_
    exact K1.2 hb
def m_X12_works : qm := (RX12, cX12_works, 3, (some .int), [], false)
set_option maxRecDepth 100000 in
set_option maxHeartbeats 4000000 in
theorem x_X12_works (G : qG) (d : Nat) (x1 : Int32) (x2 : Int32) (x3 : Int32) (h : qh) (Q : qr → qh → Prop)  (hF : (x1 = 38 → (Q (.inl (some (.int (x2 &&& x3)))) h)) ∧ (x1 = 42 → (Q (.inl (some (.int (x2 * x3)))) h)) ∧ (x1 = 43 → (Q (.inl (some (.int (x2 + x3)))) h)) ∧ (x1 = 45 → (Q (.inl (some (.int (x2 - x3)))) h)) ∧ (x1 = 47 → (q_M0 G d yX12_divided [.int x2, .int x3] h (q_ri (fun r4 h3 => Q (.inl (some (.int r4))) h3) (fun E h => Q (.inr E) h)))) ∧ (x1 = 60 → (q_M0 G d yX12_truth [.int (if x3 ≤ x2 then (0 : Int32) else 1)] h (q_ri (fun r7 h6 => Q (.inl (some (.int r7))) h6) (fun E h => Q (.inr E) h)))) ∧ (x1 = 62 → (q_M0 G d yX12_truth [.int (if x2 ≤ x3 then (0 : Int32) else 1)] h (q_ri (fun r10 h9 => Q (.inl (some (.int r10))) h9) (fun E h => Q (.inr E) h)))) ∧ (x1 = 94 → (Q (.inl (some (.int (x2 ^^^ x3)))) h)) ∧ (x1 = 124 → (Q (.inl (some (.int (x2 ||| x3)))) h)) ∧ (x1 = 8509 → (q_M0 G d yX12_truth [.int (if x2 = x3 then (0 : Int32) else 1)] h (q_ri (fun r13 h12 => Q (.inl (some (.int r13))) h12) (fun E h => Q (.inr E) h)))) ∧ (x1 = 9766 → (q_M0 G d yX12_truth [.int ((if x2 = 0 then (0 : Int32) else 1) &&& (if x3 = 0 then (0 : Int32) else 1))] h (q_ri (fun r17 h16 => Q (.inl (some (.int r17))) h16) (fun E h => Q (.inr E) h)))) ∧ (x1 = 15420 → (Q (.inl (some (.int (x2 <<< ((x3 &&& 31) &&& 31))))) h)) ∧ (x1 = 15421 → (q_M0 G d yX12_truth [.int (if x3 < x2 then (0 : Int32) else 1)] h (q_ri (fun r20 h19 => Q (.inl (some (.int r20))) h19) (fun E h => Q (.inr E) h)))) ∧ (x1 = 15677 → (q_M0 G d yX12_truth [.int (if x2 = x3 then (1 : Int32) else 0)] h (q_ri (fun r23 h22 => Q (.inl (some (.int r23))) h22) (fun E h => Q (.inr E) h)))) ∧ (x1 = 15933 → (q_M0 G d yX12_truth [.int (if x2 < x3 then (0 : Int32) else 1)] h (q_ri (fun r26 h25 => Q (.inl (some (.int r26))) h25) (fun E h => Q (.inr E) h)))) ∧ (x1 = 15934 → (Q (.inl (some (.int (x2 >>> ((x3 &&& 31) &&& 31))))) h)) ∧ (x1 = 31868 → (q_M0 G d yX12_truth [.int ((if x2 = 0 then (0 : Int32) else 1) ||| (if x3 = 0 then (0 : Int32) else 1))] h (q_ri (fun r30 h29 => Q (.inl (some (.int r30))) h29) (fun E h => Q (.inr E) h)))) ∧ (¬ x1 = 38 ∧ ¬ x1 = 42 ∧ ¬ x1 = 43 ∧ ¬ x1 = 45 ∧ ¬ x1 = 47 ∧ ¬ x1 = 60 ∧ ¬ x1 = 62 ∧ ¬ x1 = 94 ∧ ¬ x1 = 124 ∧ ¬ x1 = 8509 ∧ ¬ x1 = 9766 ∧ ¬ x1 = 15420 ∧ ¬ x1 = 15421 ∧ ¬ x1 = 15677 ∧ ¬ x1 = 15933 ∧ ¬ x1 = 15934 ∧ ¬ x1 = 31868 → (q_M0 G d yX12_rest [.int x2, .int x3] h (q_ri (fun r32 h31 => Q (.inl (some (.int r32))) h31) (fun E h => Q (.inr E) h))))) : q_M0 G (d + 1) yX12_works [.int x1, .int x2, .int x3] h Q := by
  refine q_of (M := m_X12_works) (by decide +kernel) rfl rfl cd_X12_works (by decide) (Nat.le_of_ble_eq_true rfl) ?_
  show q_N0 G m_X12_works (d + 1) Q 0 [.int x1, .int x2, .int x3] [] h
  refine q_iload_n (i := 0) dX12_works_0 rfl rfl ?_
  refine q_by (x1 = 38) (fun hs1_0 => ?_) (fun hs1_0 => ?_)
  · have hF := hF.1 hs1_0
    refine q_lookup (tgt := 202) dX12_works_1 (by decide) (by first | (rw [hs1_0]; done) | (rw [hs1_0]; rfl)) (by decide) ?_
    refine q_iload_n (i := 1) dX12_works_202 rfl rfl ?_
    refine q_iload_n (i := 2) dX12_works_203 rfl rfl ?_
    refine q_iand dX12_works_204 ?_
    exact q_iret rfl (by decide) (by decide) dX12_works_205 hF
  have hF := hF.2
  refine q_by (x1 = 42) (fun hs1_1 => ?_) (fun hs1_1 => ?_)
  · have hF := hF.1 hs1_1
    refine q_lookup (tgt := 312) dX12_works_1 (by decide) (by first | (rw [hs1_1]; done) | (rw [hs1_1]; rfl)) (by decide) ?_
    refine q_iload_n (i := 1) dX12_works_312 rfl rfl ?_
    refine q_iload_n (i := 2) dX12_works_313 rfl rfl ?_
    refine q_imul dX12_works_314 ?_
    exact q_iret rfl (by decide) (by decide) dX12_works_315 hF
  have hF := hF.2
  refine q_by (x1 = 43) (fun hs1_2 => ?_) (fun hs1_2 => ?_)
  · have hF := hF.1 hs1_2
    refine q_lookup (tgt := 304) dX12_works_1 (by decide) (by first | (rw [hs1_2]; done) | (rw [hs1_2]; rfl)) (by decide) ?_
    refine q_iload_n (i := 1) dX12_works_304 rfl rfl ?_
    refine q_iload_n (i := 2) dX12_works_305 rfl rfl ?_
    refine q_iadd dX12_works_306 ?_
    exact q_iret rfl (by decide) (by decide) dX12_works_307 hF
  have hF := hF.2
  refine q_by (x1 = 45) (fun hs1_3 => ?_) (fun hs1_3 => ?_)
  · have hF := hF.1 hs1_3
    refine q_lookup (tgt := 308) dX12_works_1 (by decide) (by first | (rw [hs1_3]; done) | (rw [hs1_3]; rfl)) (by decide) ?_
    refine q_iload_n (i := 1) dX12_works_308 rfl rfl ?_
    refine q_iload_n (i := 2) dX12_works_309 rfl rfl ?_
    refine q_isub dX12_works_310 ?_
    exact q_iret rfl (by decide) (by decide) dX12_works_311 hF
  have hF := hF.2
  refine q_by (x1 = 47) (fun hs1_4 => ?_) (fun hs1_4 => ?_)
  · have hF := hF.1 hs1_4
    refine q_lookup (tgt := 316) dX12_works_1 (by decide) (by first | (rw [hs1_4]; done) | (rw [hs1_4]; rfl)) (by decide) ?_
    refine q_iload_n (i := 1) dX12_works_316 rfl rfl ?_
    refine q_iload_n (i := 2) dX12_works_317 rfl rfl ?_
    refine q_callSi (As := [.int x2, .int x3]) (st := []) cs_X12_359 rfl (Nat.le_refl _) (Nat.le_of_ble_eq_true rfl) (by decide) dX12_works_318 rfl hF (fun r4 h3 hF => ?_)
    exact q_iret rfl (by decide) (by decide) dX12_works_321 hF
  have hF := hF.2
  refine q_by (x1 = 60) (fun hs1_5 => ?_) (fun hs1_5 => ?_)
  · have hF := hF.1 hs1_5
    refine q_lookup (tgt := 234) dX12_works_1 (by decide) (by first | (rw [hs1_5]; done) | (rw [hs1_5]; rfl)) (by decide) ?_
    refine q_iload_n (i := 1) dX12_works_234 rfl rfl ?_
    refine q_iload_n (i := 2) dX12_works_235 rfl rfl ?_
    have K5 := q_ite (c := x3 ≤ x2) (X := fun v => q_N0 G m_X12_works (d + 1) Q 244 [.int x1, .int x2, .int x3] (.int v :: []) h) (a := 0) (b := 1) (by
      refine q_callSi (As := [.int (if x3 ≤ x2 then (0 : Int32) else 1)]) (st := []) cs_X12_355 rfl (Nat.le_refl _) (Nat.le_of_ble_eq_true rfl) (by decide) dX12_works_244 rfl hF (fun r7 h6 hF => ?_)
      exact q_iret rfl (by decide) (by decide) dX12_works_247 hF)
    refine q_icmp_ge (tgt := 243) dX12_works_236 (by decide) (fun hb => ?_) (fun hb => ?_)
    · refine q_iconst (v := 0) dX12_works_243 (by decide) ?_
      exact K5.1 hb
    · refine q_iconst (v := 1) dX12_works_239 (by decide) ?_
      refine q_goto (tgt := 244) dX12_works_240 (by decide) ?_
      exact K5.2 hb
  have hF := hF.2
  refine q_by (x1 = 62) (fun hs1_6 => ?_) (fun hs1_6 => ?_)
  · have hF := hF.1 hs1_6
    refine q_lookup (tgt := 248) dX12_works_1 (by decide) (by first | (rw [hs1_6]; done) | (rw [hs1_6]; rfl)) (by decide) ?_
    refine q_iload_n (i := 1) dX12_works_248 rfl rfl ?_
    refine q_iload_n (i := 2) dX12_works_249 rfl rfl ?_
    have K8 := q_ite (c := x2 ≤ x3) (X := fun v => q_N0 G m_X12_works (d + 1) Q 258 [.int x1, .int x2, .int x3] (.int v :: []) h) (a := 0) (b := 1) (by
      refine q_callSi (As := [.int (if x2 ≤ x3 then (0 : Int32) else 1)]) (st := []) cs_X12_355 rfl (Nat.le_refl _) (Nat.le_of_ble_eq_true rfl) (by decide) dX12_works_258 rfl hF (fun r10 h9 hF => ?_)
      exact q_iret rfl (by decide) (by decide) dX12_works_261 hF)
    refine q_icmp_le (tgt := 257) dX12_works_250 (by decide) (fun hb => ?_) (fun hb => ?_)
    · refine q_iconst (v := 0) dX12_works_257 (by decide) ?_
      exact K8.1 hb
    · refine q_iconst (v := 1) dX12_works_253 (by decide) ?_
      refine q_goto (tgt := 258) dX12_works_254 (by decide) ?_
      exact K8.2 hb
  have hF := hF.2
  refine q_by (x1 = 94) (fun hs1_7 => ?_) (fun hs1_7 => ?_)
  · have hF := hF.1 hs1_7
    refine q_lookup (tgt := 198) dX12_works_1 (by decide) (by first | (rw [hs1_7]; done) | (rw [hs1_7]; rfl)) (by decide) ?_
    refine q_iload_n (i := 1) dX12_works_198 rfl rfl ?_
    refine q_iload_n (i := 2) dX12_works_199 rfl rfl ?_
    refine q_ixor dX12_works_200 ?_
    exact q_iret rfl (by decide) (by decide) dX12_works_201 hF
  have hF := hF.2
  refine q_by (x1 = 124) (fun hs1_8 => ?_) (fun hs1_8 => ?_)
  · have hF := hF.1 hs1_8
    refine q_lookup (tgt := 194) dX12_works_1 (by decide) (by first | (rw [hs1_8]; done) | (rw [hs1_8]; rfl)) (by decide) ?_
    refine q_iload_n (i := 1) dX12_works_194 rfl rfl ?_
    refine q_iload_n (i := 2) dX12_works_195 rfl rfl ?_
    refine q_ior dX12_works_196 ?_
    exact q_iret rfl (by decide) (by decide) dX12_works_197 hF
  have hF := hF.2
  refine q_by (x1 = 8509) (fun hs1_9 => ?_) (fun hs1_9 => ?_)
  · have hF := hF.1 hs1_9
    refine q_lookup (tgt := 220) dX12_works_1 (by decide) (by first | (rw [hs1_9]; done) | (rw [hs1_9]; rfl)) (by decide) ?_
    refine q_iload_n (i := 1) dX12_works_220 rfl rfl ?_
    refine q_iload_n (i := 2) dX12_works_221 rfl rfl ?_
    have K11 := q_ite (c := x2 = x3) (X := fun v => q_N0 G m_X12_works (d + 1) Q 230 [.int x1, .int x2, .int x3] (.int v :: []) h) (a := 0) (b := 1) (by
      refine q_callSi (As := [.int (if x2 = x3 then (0 : Int32) else 1)]) (st := []) cs_X12_355 rfl (Nat.le_refl _) (Nat.le_of_ble_eq_true rfl) (by decide) dX12_works_230 rfl hF (fun r13 h12 hF => ?_)
      exact q_iret rfl (by decide) (by decide) dX12_works_233 hF)
    refine q_icmp_eq (tgt := 229) dX12_works_222 (by decide) (fun hb => ?_) (fun hb => ?_)
    · refine q_iconst (v := 0) dX12_works_229 (by decide) ?_
      exact K11.1 hb
    · refine q_iconst (v := 1) dX12_works_225 (by decide) ?_
      refine q_goto (tgt := 230) dX12_works_226 (by decide) ?_
      exact K11.2 hb
  have hF := hF.2
  refine q_by (x1 = 9766) (fun hs1_10 => ?_) (fun hs1_10 => ?_)
  · have hF := hF.1 hs1_10
    refine q_lookup (tgt := 171) dX12_works_1 (by decide) (by first | (rw [hs1_10]; done) | (rw [hs1_10]; rfl)) (by decide) ?_
    refine q_iload_n (i := 1) dX12_works_171 rfl rfl ?_
    have K14 := q_ite (c := x2 = 0) (X := fun v => q_N0 G m_X12_works (d + 1) Q 180 [.int x1, .int x2, .int x3] (.int v :: []) h) (a := 0) (b := 1) (by
      refine q_iload_n (i := 2) dX12_works_180 rfl rfl ?_
      have K15 := q_ite (c := x3 = 0) (X := fun v => q_N0 G m_X12_works (d + 1) Q 189 [.int x1, .int x2, .int x3] (.int v :: [.int (if x2 = 0 then (0 : Int32) else 1)]) h) (a := 0) (b := 1) (by
        refine q_iand dX12_works_189 ?_
        refine q_callSi (As := [.int ((if x2 = 0 then (0 : Int32) else 1) &&& (if x3 = 0 then (0 : Int32) else 1))]) (st := []) cs_X12_355 rfl (Nat.le_refl _) (Nat.le_of_ble_eq_true rfl) (by decide) dX12_works_190 rfl hF (fun r17 h16 hF => ?_)
        exact q_iret rfl (by decide) (by decide) dX12_works_193 hF)
      refine q_if_eq (tgt := 188) dX12_works_181 (by decide) (fun hb => ?_) (fun hb => ?_)
      · refine q_iconst (v := 0) dX12_works_188 (by decide) ?_
        exact K15.1 hb
      · refine q_iconst (v := 1) dX12_works_184 (by decide) ?_
        refine q_goto (tgt := 189) dX12_works_185 (by decide) ?_
        exact K15.2 hb)
    refine q_if_eq (tgt := 179) dX12_works_172 (by decide) (fun hb => ?_) (fun hb => ?_)
    · refine q_iconst (v := 0) dX12_works_179 (by decide) ?_
      exact K14.1 hb
    · refine q_iconst (v := 1) dX12_works_175 (by decide) ?_
      refine q_goto (tgt := 180) dX12_works_176 (by decide) ?_
      exact K14.2 hb
  have hF := hF.2
  refine q_by (x1 = 15420) (fun hs1_11 => ?_) (fun hs1_11 => ?_)
  · have hF := hF.1 hs1_11
    refine q_lookup (tgt := 290) dX12_works_1 (by decide) (by first | (rw [hs1_11]; done) | (rw [hs1_11]; rfl)) (by decide) ?_
    refine q_iload_n (i := 1) dX12_works_290 rfl rfl ?_
    refine q_iload_n (i := 2) dX12_works_291 rfl rfl ?_
    refine q_bipush (v := 31) dX12_works_292 (by decide) ?_
    refine q_iand dX12_works_294 ?_
    refine q_ishl dX12_works_295 ?_
    exact q_iret rfl (by decide) (by decide) dX12_works_296 hF
  have hF := hF.2
  refine q_by (x1 = 15421) (fun hs1_12 => ?_) (fun hs1_12 => ?_)
  · have hF := hF.1 hs1_12
    refine q_lookup (tgt := 262) dX12_works_1 (by decide) (by first | (rw [hs1_12]; done) | (rw [hs1_12]; rfl)) (by decide) ?_
    refine q_iload_n (i := 1) dX12_works_262 rfl rfl ?_
    refine q_iload_n (i := 2) dX12_works_263 rfl rfl ?_
    have K18 := q_ite (c := x3 < x2) (X := fun v => q_N0 G m_X12_works (d + 1) Q 272 [.int x1, .int x2, .int x3] (.int v :: []) h) (a := 0) (b := 1) (by
      refine q_callSi (As := [.int (if x3 < x2 then (0 : Int32) else 1)]) (st := []) cs_X12_355 rfl (Nat.le_refl _) (Nat.le_of_ble_eq_true rfl) (by decide) dX12_works_272 rfl hF (fun r20 h19 hF => ?_)
      exact q_iret rfl (by decide) (by decide) dX12_works_275 hF)
    refine q_icmp_gt (tgt := 271) dX12_works_264 (by decide) (fun hb => ?_) (fun hb => ?_)
    · refine q_iconst (v := 0) dX12_works_271 (by decide) ?_
      exact K18.1 hb
    · refine q_iconst (v := 1) dX12_works_267 (by decide) ?_
      refine q_goto (tgt := 272) dX12_works_268 (by decide) ?_
      exact K18.2 hb
  have hF := hF.2
  refine q_by (x1 = 15677) (fun hs1_13 => ?_) (fun hs1_13 => ?_)
  · have hF := hF.1 hs1_13
    refine q_lookup (tgt := 206) dX12_works_1 (by decide) (by first | (rw [hs1_13]; done) | (rw [hs1_13]; rfl)) (by decide) ?_
    refine q_iload_n (i := 1) dX12_works_206 rfl rfl ?_
    refine q_iload_n (i := 2) dX12_works_207 rfl rfl ?_
    have K21 := q_ite (c := x2 = x3) (X := fun v => q_N0 G m_X12_works (d + 1) Q 216 [.int x1, .int x2, .int x3] (.int v :: []) h) (a := 1) (b := 0) (by
      refine q_callSi (As := [.int (if x2 = x3 then (1 : Int32) else 0)]) (st := []) cs_X12_355 rfl (Nat.le_refl _) (Nat.le_of_ble_eq_true rfl) (by decide) dX12_works_216 rfl hF (fun r23 h22 hF => ?_)
      exact q_iret rfl (by decide) (by decide) dX12_works_219 hF)
    refine q_icmp_ne (tgt := 215) dX12_works_208 (by decide) (fun hb => ?_) (fun hb => ?_)
    · refine q_iconst (v := 0) dX12_works_215 (by decide) ?_
      exact K21.2 hb
    · refine q_iconst (v := 1) dX12_works_211 (by decide) ?_
      refine q_goto (tgt := 216) dX12_works_212 (by decide) ?_
      exact K21.1 hb
  have hF := hF.2
  refine q_by (x1 = 15933) (fun hs1_14 => ?_) (fun hs1_14 => ?_)
  · have hF := hF.1 hs1_14
    refine q_lookup (tgt := 276) dX12_works_1 (by decide) (by first | (rw [hs1_14]; done) | (rw [hs1_14]; rfl)) (by decide) ?_
    refine q_iload_n (i := 1) dX12_works_276 rfl rfl ?_
    refine q_iload_n (i := 2) dX12_works_277 rfl rfl ?_
    have K24 := q_ite (c := x2 < x3) (X := fun v => q_N0 G m_X12_works (d + 1) Q 286 [.int x1, .int x2, .int x3] (.int v :: []) h) (a := 0) (b := 1) (by
      refine q_callSi (As := [.int (if x2 < x3 then (0 : Int32) else 1)]) (st := []) cs_X12_355 rfl (Nat.le_refl _) (Nat.le_of_ble_eq_true rfl) (by decide) dX12_works_286 rfl hF (fun r26 h25 hF => ?_)
      exact q_iret rfl (by decide) (by decide) dX12_works_289 hF)
    refine q_icmp_lt (tgt := 285) dX12_works_278 (by decide) (fun hb => ?_) (fun hb => ?_)
    · refine q_iconst (v := 0) dX12_works_285 (by decide) ?_
      exact K24.1 hb
    · refine q_iconst (v := 1) dX12_works_281 (by decide) ?_
      refine q_goto (tgt := 286) dX12_works_282 (by decide) ?_
      exact K24.2 hb
  have hF := hF.2
  refine q_by (x1 = 15934) (fun hs1_15 => ?_) (fun hs1_15 => ?_)
  · have hF := hF.1 hs1_15
    refine q_lookup (tgt := 297) dX12_works_1 (by decide) (by first | (rw [hs1_15]; done) | (rw [hs1_15]; rfl)) (by decide) ?_
    refine q_iload_n (i := 1) dX12_works_297 rfl rfl ?_
    refine q_iload_n (i := 2) dX12_works_298 rfl rfl ?_
    refine q_bipush (v := 31) dX12_works_299 (by decide) ?_
    refine q_iand dX12_works_301 ?_
    refine q_ishr dX12_works_302 ?_
    exact q_iret rfl (by decide) (by decide) dX12_works_303 hF
  have hF := hF.2
  refine q_by (x1 = 31868) (fun hs1_16 => ?_) (fun hs1_16 => ?_)
  · have hF := hF.1 hs1_16
    refine q_lookup (tgt := 148) dX12_works_1 (by decide) (by first | (rw [hs1_16]; done) | (rw [hs1_16]; rfl)) (by decide) ?_
    refine q_iload_n (i := 1) dX12_works_148 rfl rfl ?_
    have K27 := q_ite (c := x2 = 0) (X := fun v => q_N0 G m_X12_works (d + 1) Q 157 [.int x1, .int x2, .int x3] (.int v :: []) h) (a := 0) (b := 1) (by
      refine q_iload_n (i := 2) dX12_works_157 rfl rfl ?_
      have K28 := q_ite (c := x3 = 0) (X := fun v => q_N0 G m_X12_works (d + 1) Q 166 [.int x1, .int x2, .int x3] (.int v :: [.int (if x2 = 0 then (0 : Int32) else 1)]) h) (a := 0) (b := 1) (by
        refine q_ior dX12_works_166 ?_
        refine q_callSi (As := [.int ((if x2 = 0 then (0 : Int32) else 1) ||| (if x3 = 0 then (0 : Int32) else 1))]) (st := []) cs_X12_355 rfl (Nat.le_refl _) (Nat.le_of_ble_eq_true rfl) (by decide) dX12_works_167 rfl hF (fun r30 h29 hF => ?_)
        exact q_iret rfl (by decide) (by decide) dX12_works_170 hF)
      refine q_if_eq (tgt := 165) dX12_works_158 (by decide) (fun hb => ?_) (fun hb => ?_)
      · refine q_iconst (v := 0) dX12_works_165 (by decide) ?_
        exact K28.1 hb
      · refine q_iconst (v := 1) dX12_works_161 (by decide) ?_
        refine q_goto (tgt := 166) dX12_works_162 (by decide) ?_
        exact K28.2 hb)
    refine q_if_eq (tgt := 156) dX12_works_149 (by decide) (fun hb => ?_) (fun hb => ?_)
    · refine q_iconst (v := 0) dX12_works_156 (by decide) ?_
      exact K27.1 hb
    · refine q_iconst (v := 1) dX12_works_152 (by decide) ?_
      refine q_goto (tgt := 157) dX12_works_153 (by decide) ?_
      exact K27.2 hb
  have hF := hF.2
  refine q_lookup (off := 321) (tgt := 322) dX12_works_1 (by decide) (by first | (rw [lv_osw hs1_0 (a := 38) (by decide), lv_osw hs1_1 (a := 42) (by decide), lv_osw hs1_2 (a := 43) (by decide), lv_osw hs1_3 (a := 45) (by decide), lv_osw hs1_4 (a := 47) (by decide), lv_osw hs1_5 (a := 60) (by decide), lv_osw hs1_6 (a := 62) (by decide), lv_osw hs1_7 (a := 94) (by decide), lv_osw hs1_8 (a := 124) (by decide), lv_osw hs1_9 (a := 8509) (by decide), lv_osw hs1_10 (a := 9766) (by decide), lv_osw hs1_11 (a := 15420) (by decide), lv_osw hs1_12 (a := 15421) (by decide), lv_osw hs1_13 (a := 15677) (by decide), lv_osw hs1_14 (a := 15933) (by decide), lv_osw hs1_15 (a := 15934) (by decide), lv_osw hs1_16 (a := 31868) (by decide)]; done) | (rw [lv_osw hs1_0 (a := 38) (by decide), lv_osw hs1_1 (a := 42) (by decide), lv_osw hs1_2 (a := 43) (by decide), lv_osw hs1_3 (a := 45) (by decide), lv_osw hs1_4 (a := 47) (by decide), lv_osw hs1_5 (a := 60) (by decide), lv_osw hs1_6 (a := 62) (by decide), lv_osw hs1_7 (a := 94) (by decide), lv_osw hs1_8 (a := 124) (by decide), lv_osw hs1_9 (a := 8509) (by decide), lv_osw hs1_10 (a := 9766) (by decide), lv_osw hs1_11 (a := 15420) (by decide), lv_osw hs1_12 (a := 15421) (by decide), lv_osw hs1_13 (a := 15677) (by decide), lv_osw hs1_14 (a := 15933) (by decide), lv_osw hs1_15 (a := 15934) (by decide), lv_osw hs1_16 (a := 31868) (by decide)]; rfl)) (by decide) ?_
  have hF := hF ⟨hs1_0, hs1_1, hs1_2, hs1_3, hs1_4, hs1_5, hs1_6, hs1_7, hs1_8, hs1_9, hs1_10, hs1_11, hs1_12, hs1_13, hs1_14, hs1_15, hs1_16⟩
  refine q_iload_n (i := 1) dX12_works_322 rfl rfl ?_
  refine q_iload_n (i := 2) dX12_works_323 rfl rfl ?_
  refine q_callSi (As := [.int x2, .int x3]) (st := []) cs_X12_362 rfl (Nat.le_refl _) (Nat.le_of_ble_eq_true rfl) (by decide) dX12_works_324 rfl hF (fun r32 h31 hF => ?_)
  exact q_iret rfl (by decide) (by decide) dX12_works_327 hF
def m_X12_placeOf : qm := (RX12, cX12_placeOf, 4, (some .int), [], false)
set_option maxRecDepth 100000 in
set_option maxHeartbeats 4000000 in
theorem x_X12_placeOf (G : qG) (d : Nat) (x1 : Int32) (x2 : Int32) (h : qh) (Q : qr → qh → Prop)  (hF : ∃ c1, h.R 43 21 = some c1 ∧ q_prg c1 ∧ (vp_in x1 8 ∧ (¬ (h.I (c1 + 1) x1.toNatClampNeg) = 0 ∧ (¬ (h.I (c1 + 1) x1.toNatClampNeg) = 0 ∧ (Q (.inl (some (.int ((256 * x1) + (((x2 - x2 / (h.I (c1 + 1) x1.toNatClampNeg) * (h.I (c1 + 1) x1.toNatClampNeg)) + (h.I (c1 + 1) x1.toNatClampNeg)) - ((x2 - x2 / (h.I (c1 + 1) x1.toNatClampNeg) * (h.I (c1 + 1) x1.toNatClampNeg)) + (h.I (c1 + 1) x1.toNatClampNeg)) / (h.I (c1 + 1) x1.toNatClampNeg) * (h.I (c1 + 1) x1.toNatClampNeg)))))) h))))) : q_M0 G (d + 1) yX12_placeOf [.ref 43, .int x1, .int x2] h Q := by
  refine q_of (M := m_X12_placeOf) (by decide +kernel) rfl rfl cd_X12_placeOf (by decide) (Nat.le_of_ble_eq_true rfl) ?_
  show q_N0 G m_X12_placeOf (d + 1) Q 0 [.ref 43, .int x1, .int x2, .null] [] h
  refine q_aload_n (i := 0) dX12_placeOf_0 rfl rfl ?_
  obtain ⟨c1, hrc1, hc1, hF⟩ := hF
  refine q_getR (k := c1) 13 21 fl_X12_46 (by decide) rfl rfl hrc1 dX12_placeOf_1 ?_
  refine q_getP 12 8 (c1 + 1) fl_X12_228 (q_prg_n hc1 0) (q_prg_K hc1) rfl (q_prg_P hc1 8) dX12_placeOf_4 ?_
  refine q_iload_n (i := 1) dX12_placeOf_7 rfl rfl ?_
  obtain ⟨hi2, hF⟩ := hF
  refine q_ialoadv (v := h.I (c1 + 1) x1.toNatClampNeg) (n := 8) (q_prg_n hc1 1) (q_prg_A hc1 8) hi2 (rfl) dX12_placeOf_8 ?_
  refine q_istore_n (i := 3) dX12_placeOf_9 rfl (by decide) rfl ?_
  refine q_sipush (v := 256) dX12_placeOf_10 (by decide) ?_
  refine q_iload_n (i := 1) dX12_placeOf_13 rfl rfl ?_
  refine q_imul dX12_placeOf_14 ?_
  refine q_iload_n (i := 2) dX12_placeOf_15 rfl rfl ?_
  refine q_iload_n (i := 3) dX12_placeOf_16 rfl rfl ?_
  obtain ⟨hn, hF⟩ := hF
  refine q_irem dX12_placeOf_17 hn ?_
  refine q_iload_n (i := 3) dX12_placeOf_18 rfl rfl ?_
  refine q_iadd dX12_placeOf_19 ?_
  refine q_iload_n (i := 3) dX12_placeOf_20 rfl rfl ?_
  obtain ⟨hn, hF⟩ := hF
  refine q_irem dX12_placeOf_21 hn ?_
  refine q_iadd dX12_placeOf_22 ?_
  exact q_iret rfl (by decide) (by decide) dX12_placeOf_23 hF
def m_X12_tells : qm := (RX12, cX12_tells, 5, (some .int), [], false)
set_option maxRecDepth 100000 in
set_option maxHeartbeats 4000000 in
theorem x_X12_tells (G : qG) (d : Nat) (x1 : Int32) (h : qh) (Q : qr → qh → Prop)  (hF : q_N0 G m_X12_tells (d + 1) Q 4 [.ref 43, .int x1, .int 0, .int x1, .null] [] h) : q_M0 G (d + 1) yX12_tells [.ref 43, .int x1] h Q := by
  refine q_of (M := m_X12_tells) (by decide +kernel) rfl rfl cd_X12_tells (by decide) (Nat.le_of_ble_eq_true rfl) ?_
  show q_N0 G m_X12_tells (d + 1) Q 0 [.ref 43, .int x1, .null, .null, .null] [] h
  refine q_iconst (v := 0) dX12_tells_0 (by decide) ?_
  refine q_istore_n (i := 2) dX12_tells_1 rfl (by decide) rfl ?_
  refine q_iload_n (i := 1) dX12_tells_2 rfl rfl ?_
  refine q_istore_n (i := 3) dX12_tells_3 rfl (by decide) rfl ?_
  exact hF
set_option maxRecDepth 100000 in
set_option maxHeartbeats 4000000 in
theorem x_X12_tells_4 (G : qG) (d : Nat) (l1 : Int32) (l2 : Int32) (l3 : Int32) (h : qh) (Q : qr → qh → Prop)  (hF : ∃ c1, h.R 43 41 = some c1 ∧ q_end c1 ∧ (vp_in l1 2000 ∧ (((h.I c1 l1.toNatClampNeg) ≤ l3 → (vp_in 0 2000 ∧ (Q (.inl (some (.int (h.I 80 (Int32.toNatClampNeg 0))))) h))) ∧ (¬ (h.I c1 l1.toNatClampNeg) ≤ l3 → (∃ c4, h.R 43 21 = some c4 ∧ q_prg c4 ∧ (vp_in l3 2000 ∧ (vp_in l3 2000 ∧ (((h.I (c4 + 9) l3.toNatClampNeg) = 0 → (vp_in l2 2000 ∧ (q_N0 G m_X12_tells (d + 1) Q 4 [.ref 43, .int l1, .int (l2 + 1), .int (l3 + 1), .null] [] (h.sI 80 l2.toNatClampNeg (h.I (c4 + 10) l3.toNatClampNeg))))) ∧ ((h.I (c4 + 9) l3.toNatClampNeg) = 1 → (vp_in (h.I (c4 + 10) l3.toNatClampNeg) 2016 ∧ (vp_in l2 2000 ∧ (q_N0 G m_X12_tells (d + 1) Q 4 [.ref 43, .int l1, .int (l2 + 1), .int (l3 + 1), .null] [] (h.sI 80 l2.toNatClampNeg (h.I 78 ((h.I (c4 + 10) l3.toNatClampNeg).toNatClampNeg))))))) ∧ ((h.I (c4 + 9) l3.toNatClampNeg) = 2 → (vp_in (l2 - 1) 2000 ∧ (q_M0 G d yX12_placeOf [.ref 43, .int (h.I (c4 + 10) l3.toNatClampNeg), .int (h.I 80 ((l2 - 1).toNatClampNeg))] h (q_ri (fun r14 h13 => vp_in r14 2048 ∧ (vp_in (l2 - 1) 2000 ∧ (q_N0 G m_X12_tells (d + 1) Q 4 [.ref 43, .int l1, .int l2, .int (l3 + 1), .null] [] ((h13.sI 80 ((l2 - 1).toNatClampNeg) (h13.I 76 r14.toNatClampNeg)).sI 43 36 ((h13.I 43 36) + 1))))) (fun E h => Q (.inr E) h))))) ∧ ((h.I (c4 + 9) l3.toNatClampNeg) = 3 → (vp_in ((l2 + (-1)) - 1) 2000 ∧ (vp_in (l2 + (-1)) 2000 ∧ (q_M0 G d yX12_works [.int (h.I (c4 + 10) l3.toNatClampNeg), .int (h.I 80 (((l2 + (-1)) - 1).toNatClampNeg)), .int (h.I 80 ((l2 + (-1)).toNatClampNeg))] h (q_ri (fun r20 h19 => vp_in ((l2 + (-1)) - 1) 2000 ∧ (q_N0 G m_X12_tells (d + 1) Q 4 [.ref 43, .int l1, .int (l2 + (-1)), .int (l3 + 1), .null] [] (h19.sI 80 (((l2 + (-1)) - 1).toNatClampNeg) r20))) (fun E h => Q (.inr E) h)))))) ∧ ((h.I (c4 + 9) l3.toNatClampNeg) = 4 → (vp_in (l2 - 1) 2000 ∧ (vp_in (l2 - 1) 2000 ∧ (q_N0 G m_X12_tells (d + 1) Q 4 [.ref 43, .int l1, .int l2, .int (l3 + 1), .null] [] (h.sI 80 ((l2 - 1).toNatClampNeg) (-(h.I 80 ((l2 - 1).toNatClampNeg)))))))) ∧ ((h.I (c4 + 9) l3.toNatClampNeg) = 5 → (vp_in (l2 - 1) 2000 ∧ (q_M0 G d yX12_truth [.int (if (h.I 80 ((l2 - 1).toNatClampNeg)) = 0 then (1 : Int32) else 0)] h (q_ri (fun r27 h26 => vp_in (l2 - 1) 2000 ∧ (q_N0 G m_X12_tells (d + 1) Q 4 [.ref 43, .int l1, .int l2, .int (l3 + 1), .null] [] (h26.sI 80 ((l2 - 1).toNatClampNeg) r27))) (fun E h => Q (.inr E) h))))) ∧ ((h.I (c4 + 9) l3.toNatClampNeg) = 6 → (vp_in (l2 - 1) 2000 ∧ (vp_in (l2 - 1) 2000 ∧ (q_N0 G m_X12_tells (d + 1) Q 4 [.ref 43, .int l1, .int l2, .int (l3 + 1), .null] [] (h.sI 80 ((l2 - 1).toNatClampNeg) ((h.I 80 ((l2 - 1).toNatClampNeg)) ^^^ (-1))))))) ∧ (¬ (h.I (c4 + 9) l3.toNatClampNeg) = 0 ∧ ¬ (h.I (c4 + 9) l3.toNatClampNeg) = 1 ∧ ¬ (h.I (c4 + 9) l3.toNatClampNeg) = 2 ∧ ¬ (h.I (c4 + 9) l3.toNatClampNeg) = 3 ∧ ¬ (h.I (c4 + 9) l3.toNatClampNeg) = 4 ∧ ¬ (h.I (c4 + 9) l3.toNatClampNeg) = 5 ∧ ¬ (h.I (c4 + 9) l3.toNatClampNeg) = 6 → (vp_in ((l2 + (-1)) - 1) 2000 ∧ (vp_in (l2 + (-1)) 2000 ∧ (q_M0 G d yX12_works [.int (h.I (c4 + 10) l3.toNatClampNeg), .int (h.I 80 (((l2 + (-1)) - 1).toNatClampNeg)), .int (h.I 80 ((l2 + (-1)).toNatClampNeg))] h (q_ri (fun r34 h33 => vp_in ((l2 + (-1)) - 1) 2000 ∧ (q_N0 G m_X12_tells (d + 1) Q 4 [.ref 43, .int l1, .int (l2 + (-1)), .int (l3 + 1), .null] [] (h33.sI 80 (((l2 + (-1)) - 1).toNatClampNeg) r34))) (fun E h => Q (.inr E) h)))))))))))))) : q_N0 G m_X12_tells (d + 1) Q 4 [.ref 43, .int l1, .int l2, .int l3, .null] [] h := by
  refine q_iload_n (i := 3) dX12_tells_4 rfl rfl ?_
  refine q_aload_n (i := 0) dX12_tells_5 rfl rfl ?_
  obtain ⟨c1, hrc1, hc1, hF⟩ := hF
  refine q_getR (k := c1) 13 41 fl_X12_77 (by decide) rfl rfl hrc1 dX12_tells_6 ?_
  refine q_iload_n (i := 1) dX12_tells_9 rfl rfl ?_
  obtain ⟨hi2, hF⟩ := hF
  refine q_ialoadv (v := h.I c1 l1.toNatClampNeg) (n := 2000) (q_end_n hc1) (q_end_K hc1) hi2 (rfl) dX12_tells_10 ?_
  refine q_icmp_ge (tgt := 256) dX12_tells_11 (by decide) (fun hb => ?_) (fun hb => ?_)
  · have hF := hF.1 hb
    refine q_aload_n (i := 0) dX12_tells_256 rfl rfl ?_
    refine q_getP 13 39 80 fl_X12_74 (by decide) rfl rfl rfl dX12_tells_257 ?_
    refine q_iconst (v := 0) dX12_tells_260 (by decide) ?_
    obtain ⟨hi3, hF⟩ := hF
    refine q_ialoadv (v := h.I 80 (Int32.toNatClampNeg 0)) (n := 2000) (by decide) rfl hi3 (rfl) dX12_tells_261 ?_
    exact q_iret rfl (by decide) (by decide) dX12_tells_262 hF
  · have hF := hF.2 hb
    refine q_aload_n (i := 0) dX12_tells_14 rfl rfl ?_
    obtain ⟨c4, hrc4, hc4, hF⟩ := hF
    refine q_getR (k := c4) 13 21 fl_X12_46 (by decide) rfl rfl hrc4 dX12_tells_15 ?_
    refine q_getP 12 17 (c4 + 10) fl_X12_307 (q_prg_n hc4 0) (q_prg_K hc4) rfl (q_prg_P hc4 17) dX12_tells_18 ?_
    refine q_iload_n (i := 3) dX12_tells_21 rfl rfl ?_
    obtain ⟨hi5, hF⟩ := hF
    refine q_ialoadv (v := h.I (c4 + 10) l3.toNatClampNeg) (n := 2000) (q_prg_n hc4 10) (q_prg_A hc4 17) hi5 (rfl) dX12_tells_22 ?_
    refine q_istore dX12_tells_23 (by decide) rfl ?_
    refine q_aload_n (i := 0) dX12_tells_25 rfl rfl ?_
    refine q_getR (k := c4) 13 21 fl_X12_46 (by decide) rfl rfl hrc4 dX12_tells_26 ?_
    refine q_getP 12 16 (c4 + 9) fl_X12_304 (q_prg_n hc4 0) (q_prg_K hc4) rfl (q_prg_P hc4 16) dX12_tells_29 ?_
    refine q_iload_n (i := 3) dX12_tells_32 rfl rfl ?_
    obtain ⟨hi6, hF⟩ := hF
    refine q_ialoadv (v := h.I (c4 + 9) l3.toNatClampNeg) (n := 2000) (q_prg_n hc4 9) (q_prg_A hc4 16) hi6 (rfl) dX12_tells_33 ?_
    refine q_by ((h.I (c4 + 9) l3.toNatClampNeg) = 0) (fun hs7_0 => ?_) (fun hs7_0 => ?_)
    · have hF := hF.1 hs7_0
      refine q_tableIn (tgt := 76) dX12_tells_34 (by rw [hs7_0]; decide) (by rw [hs7_0]; decide) (by first | (rw [hs7_0]; done) | (rw [hs7_0]; rfl)) (by decide) ?_
      refine q_aload_n (i := 0) dX12_tells_76 rfl rfl ?_
      refine q_getP 13 39 80 fl_X12_74 (by decide) rfl rfl rfl dX12_tells_77 ?_
      refine q_iload_n (i := 2) dX12_tells_80 rfl rfl ?_
      refine q_iload dX12_tells_81 rfl ?_
      obtain ⟨hi9, hF⟩ := hF
      refine q_iastore (n := 2000) (by decide) rfl hi9 dX12_tells_83 ?_
      refine q_iinc (v := l2 + 1) dX12_tells_84 rfl rfl (by decide) rfl ?_
      refine q_goto (tgt := 250) dX12_tells_87 (by decide) ?_
      refine q_iinc (v := l3 + 1) dX12_tells_250 rfl rfl (by decide) rfl ?_
      refine q_goto (tgt := 4) dX12_tells_253 (by decide) ?_
      show q_N0 G m_X12_tells (d + 1) Q 4 [.ref 43, .int l1, .int (l2 + 1), .int (l3 + 1), .int (h.I (c4 + 10) l3.toNatClampNeg)] [] (h.sI 80 l2.toNatClampNeg (h.I (c4 + 10) l3.toNatClampNeg))
      exact q_fgt (l' := [.ref 43, .int l1, .int (l2 + 1), .int (l3 + 1), .null]) (And.intro (Or.inr rfl) ( And.intro (Or.inr rfl) ( And.intro (Or.inr rfl) ( And.intro (Or.inr rfl) ( And.intro (Or.inl rfl) (trivial)))))) hF
    have hF := hF.2
    refine q_by ((h.I (c4 + 9) l3.toNatClampNeg) = 1) (fun hs7_1 => ?_) (fun hs7_1 => ?_)
    · have hF := hF.1 hs7_1
      refine q_tableIn (tgt := 90) dX12_tells_34 (by rw [hs7_1]; decide) (by rw [hs7_1]; decide) (by first | (rw [hs7_1]; done) | (rw [hs7_1]; rfl)) (by decide) ?_
      refine q_aload_n (i := 0) dX12_tells_90 rfl rfl ?_
      refine q_getP 13 39 80 fl_X12_74 (by decide) rfl rfl rfl dX12_tells_91 ?_
      refine q_iload_n (i := 2) dX12_tells_94 rfl rfl ?_
      refine q_aload_n (i := 0) dX12_tells_95 rfl rfl ?_
      refine q_getP 13 30 78 fl_X12_68 (by decide) rfl rfl rfl dX12_tells_96 ?_
      refine q_iload dX12_tells_99 rfl ?_
      obtain ⟨hi10, hF⟩ := hF
      refine q_ialoadv (v := h.I 78 ((h.I (c4 + 10) l3.toNatClampNeg).toNatClampNeg)) (n := 2016) (by decide) rfl hi10 (rfl) dX12_tells_101 ?_
      obtain ⟨hi11, hF⟩ := hF
      refine q_iastore (n := 2000) (by decide) rfl hi11 dX12_tells_102 ?_
      refine q_iinc (v := l2 + 1) dX12_tells_103 rfl rfl (by decide) rfl ?_
      refine q_goto (tgt := 250) dX12_tells_106 (by decide) ?_
      refine q_iinc (v := l3 + 1) dX12_tells_250 rfl rfl (by decide) rfl ?_
      refine q_goto (tgt := 4) dX12_tells_253 (by decide) ?_
      show q_N0 G m_X12_tells (d + 1) Q 4 [.ref 43, .int l1, .int (l2 + 1), .int (l3 + 1), .int (h.I (c4 + 10) l3.toNatClampNeg)] [] (h.sI 80 l2.toNatClampNeg (h.I 78 ((h.I (c4 + 10) l3.toNatClampNeg).toNatClampNeg)))
      exact q_fgt (l' := [.ref 43, .int l1, .int (l2 + 1), .int (l3 + 1), .null]) (And.intro (Or.inr rfl) ( And.intro (Or.inr rfl) ( And.intro (Or.inr rfl) ( And.intro (Or.inr rfl) ( And.intro (Or.inl rfl) (trivial)))))) hF
    have hF := hF.2
    refine q_by ((h.I (c4 + 9) l3.toNatClampNeg) = 2) (fun hs7_2 => ?_) (fun hs7_2 => ?_)
    · have hF := hF.1 hs7_2
      refine q_tableIn (tgt := 109) dX12_tells_34 (by rw [hs7_2]; decide) (by rw [hs7_2]; decide) (by first | (rw [hs7_2]; done) | (rw [hs7_2]; rfl)) (by decide) ?_
      refine q_aload_n (i := 0) dX12_tells_109 rfl rfl ?_
      refine q_getP 13 39 80 fl_X12_74 (by decide) rfl rfl rfl dX12_tells_110 ?_
      refine q_iload_n (i := 2) dX12_tells_113 rfl rfl ?_
      refine q_iconst (v := 1) dX12_tells_114 (by decide) ?_
      refine q_isub dX12_tells_115 ?_
      refine q_aload_n (i := 0) dX12_tells_116 rfl rfl ?_
      refine q_getP 13 28 76 fl_X12_62 (by decide) rfl rfl rfl dX12_tells_117 ?_
      refine q_aload_n (i := 0) dX12_tells_120 rfl rfl ?_
      refine q_iload dX12_tells_121 rfl ?_
      refine q_aload_n (i := 0) dX12_tells_123 rfl rfl ?_
      refine q_getP 13 39 80 fl_X12_74 (by decide) rfl rfl rfl dX12_tells_124 ?_
      refine q_iload_n (i := 2) dX12_tells_127 rfl rfl ?_
      refine q_iconst (v := 1) dX12_tells_128 (by decide) ?_
      refine q_isub dX12_tells_129 ?_
      obtain ⟨hi12, hF⟩ := hF
      refine q_ialoadv (v := h.I 80 ((l2 - 1).toNatClampNeg)) (n := 2000) (by decide) rfl hi12 (rfl) dX12_tells_130 ?_
      refine q_callVi (ci := 13) (o := 43) (As := [.int (h.I (c4 + 10) l3.toNatClampNeg), .int (h.I 80 ((l2 - 1).toNatClampNeg))]) (st := [.ref 76, .int (l2 - 1), .ref 80]) cv_X12_365 ⟨_, _, rfl⟩ (by decide) rfl rfl (Nat.le_refl _) (Nat.le_of_ble_eq_true rfl) (by decide) dX12_tells_131 rfl hF (fun r14 h13 hF => ?_)
      obtain ⟨hi15, hF⟩ := hF
      refine q_ialoadv (v := h13.I 76 r14.toNatClampNeg) (n := 2048) (by decide) rfl hi15 (rfl) dX12_tells_134 ?_
      obtain ⟨hi16, hF⟩ := hF
      refine q_iastore (n := 2000) (by decide) rfl hi16 dX12_tells_135 ?_
      refine q_aload_n (i := 0) dX12_tells_136 rfl rfl ?_
      refine q_dup dX12_tells_137 rfl ?_
      refine q_getIv (v := h13.I 43 36) 13 36 fl_X12_368 (by decide) rfl rfl ((q_I_neo (by decide)).trans (rfl)) dX12_tells_138 ?_
      refine q_iconst (v := 1) dX12_tells_141 (by decide) ?_
      refine q_iadd dX12_tells_142 ?_
      refine q_putI 13 36 fp_X12_368 (Or.inr ⟨_, _, _, rfl, rfl⟩) (by decide) rfl rfl dX12_tells_143 ?_
      refine q_goto (tgt := 250) dX12_tells_146 (by decide) ?_
      refine q_iinc (v := l3 + 1) dX12_tells_250 rfl rfl (by decide) rfl ?_
      refine q_goto (tgt := 4) dX12_tells_253 (by decide) ?_
      show q_N0 G m_X12_tells (d + 1) Q 4 [.ref 43, .int l1, .int l2, .int (l3 + 1), .int (h.I (c4 + 10) l3.toNatClampNeg)] [] ((h13.sI 80 ((l2 - 1).toNatClampNeg) (h13.I 76 r14.toNatClampNeg)).sI 43 36 ((h13.I 43 36) + 1))
      exact q_fgt (l' := [.ref 43, .int l1, .int l2, .int (l3 + 1), .null]) (And.intro (Or.inr rfl) ( And.intro (Or.inr rfl) ( And.intro (Or.inr rfl) ( And.intro (Or.inr rfl) ( And.intro (Or.inl rfl) (trivial)))))) hF
    have hF := hF.2
    refine q_by ((h.I (c4 + 9) l3.toNatClampNeg) = 3) (fun hs7_3 => ?_) (fun hs7_3 => ?_)
    · have hF := hF.1 hs7_3
      refine q_tableIn (tgt := 220) dX12_tells_34 (by rw [hs7_3]; decide) (by rw [hs7_3]; decide) (by first | (rw [hs7_3]; done) | (rw [hs7_3]; rfl)) (by decide) ?_
      refine q_iinc (v := l2 + (-1)) dX12_tells_220 rfl rfl (by decide) rfl ?_
      refine q_aload_n (i := 0) dX12_tells_223 rfl rfl ?_
      refine q_getP 13 39 80 fl_X12_74 (by decide) rfl rfl rfl dX12_tells_224 ?_
      refine q_iload_n (i := 2) dX12_tells_227 rfl rfl ?_
      refine q_iconst (v := 1) dX12_tells_228 (by decide) ?_
      refine q_isub dX12_tells_229 ?_
      refine q_iload dX12_tells_230 rfl ?_
      refine q_aload_n (i := 0) dX12_tells_232 rfl rfl ?_
      refine q_getP 13 39 80 fl_X12_74 (by decide) rfl rfl rfl dX12_tells_233 ?_
      refine q_iload_n (i := 2) dX12_tells_236 rfl rfl ?_
      refine q_iconst (v := 1) dX12_tells_237 (by decide) ?_
      refine q_isub dX12_tells_238 ?_
      obtain ⟨hi17, hF⟩ := hF
      refine q_ialoadv (v := h.I 80 (((l2 + (-1)) - 1).toNatClampNeg)) (n := 2000) (by decide) rfl hi17 (rfl) dX12_tells_239 ?_
      refine q_aload_n (i := 0) dX12_tells_240 rfl rfl ?_
      refine q_getP 13 39 80 fl_X12_74 (by decide) rfl rfl rfl dX12_tells_241 ?_
      refine q_iload_n (i := 2) dX12_tells_244 rfl rfl ?_
      obtain ⟨hi18, hF⟩ := hF
      refine q_ialoadv (v := h.I 80 ((l2 + (-1)).toNatClampNeg)) (n := 2000) (by decide) rfl hi18 (rfl) dX12_tells_245 ?_
      refine q_callSi (As := [.int (h.I (c4 + 10) l3.toNatClampNeg), .int (h.I 80 (((l2 + (-1)) - 1).toNatClampNeg)), .int (h.I 80 ((l2 + (-1)).toNatClampNeg))]) (st := [.int ((l2 + (-1)) - 1), .ref 80]) cs_X12_371 rfl (Nat.le_refl _) (Nat.le_of_ble_eq_true rfl) (by decide) dX12_tells_246 rfl hF (fun r20 h19 hF => ?_)
      obtain ⟨hi21, hF⟩ := hF
      refine q_iastore (n := 2000) (by decide) rfl hi21 dX12_tells_249 ?_
      refine q_iinc (v := l3 + 1) dX12_tells_250 rfl rfl (by decide) rfl ?_
      refine q_goto (tgt := 4) dX12_tells_253 (by decide) ?_
      show q_N0 G m_X12_tells (d + 1) Q 4 [.ref 43, .int l1, .int (l2 + (-1)), .int (l3 + 1), .int (h.I (c4 + 10) l3.toNatClampNeg)] [] (h19.sI 80 (((l2 + (-1)) - 1).toNatClampNeg) r20)
      exact q_fgt (l' := [.ref 43, .int l1, .int (l2 + (-1)), .int (l3 + 1), .null]) (And.intro (Or.inr rfl) ( And.intro (Or.inr rfl) ( And.intro (Or.inr rfl) ( And.intro (Or.inr rfl) ( And.intro (Or.inl rfl) (trivial)))))) hF
    have hF := hF.2
    refine q_by ((h.I (c4 + 9) l3.toNatClampNeg) = 4) (fun hs7_4 => ?_) (fun hs7_4 => ?_)
    · have hF := hF.1 hs7_4
      refine q_tableIn (tgt := 149) dX12_tells_34 (by rw [hs7_4]; decide) (by rw [hs7_4]; decide) (by first | (rw [hs7_4]; done) | (rw [hs7_4]; rfl)) (by decide) ?_
      refine q_aload_n (i := 0) dX12_tells_149 rfl rfl ?_
      refine q_getP 13 39 80 fl_X12_74 (by decide) rfl rfl rfl dX12_tells_150 ?_
      refine q_iload_n (i := 2) dX12_tells_153 rfl rfl ?_
      refine q_iconst (v := 1) dX12_tells_154 (by decide) ?_
      refine q_isub dX12_tells_155 ?_
      refine q_aload_n (i := 0) dX12_tells_156 rfl rfl ?_
      refine q_getP 13 39 80 fl_X12_74 (by decide) rfl rfl rfl dX12_tells_157 ?_
      refine q_iload_n (i := 2) dX12_tells_160 rfl rfl ?_
      refine q_iconst (v := 1) dX12_tells_161 (by decide) ?_
      refine q_isub dX12_tells_162 ?_
      obtain ⟨hi22, hF⟩ := hF
      refine q_ialoadv (v := h.I 80 ((l2 - 1).toNatClampNeg)) (n := 2000) (by decide) rfl hi22 (rfl) dX12_tells_163 ?_
      refine q_ineg dX12_tells_164 ?_
      obtain ⟨hi23, hF⟩ := hF
      refine q_iastore (n := 2000) (by decide) rfl hi23 dX12_tells_165 ?_
      refine q_goto (tgt := 250) dX12_tells_166 (by decide) ?_
      refine q_iinc (v := l3 + 1) dX12_tells_250 rfl rfl (by decide) rfl ?_
      refine q_goto (tgt := 4) dX12_tells_253 (by decide) ?_
      show q_N0 G m_X12_tells (d + 1) Q 4 [.ref 43, .int l1, .int l2, .int (l3 + 1), .int (h.I (c4 + 10) l3.toNatClampNeg)] [] (h.sI 80 ((l2 - 1).toNatClampNeg) (-(h.I 80 ((l2 - 1).toNatClampNeg))))
      exact q_fgt (l' := [.ref 43, .int l1, .int l2, .int (l3 + 1), .null]) (And.intro (Or.inr rfl) ( And.intro (Or.inr rfl) ( And.intro (Or.inr rfl) ( And.intro (Or.inr rfl) ( And.intro (Or.inl rfl) (trivial)))))) hF
    have hF := hF.2
    refine q_by ((h.I (c4 + 9) l3.toNatClampNeg) = 5) (fun hs7_5 => ?_) (fun hs7_5 => ?_)
    · have hF := hF.1 hs7_5
      refine q_tableIn (tgt := 169) dX12_tells_34 (by rw [hs7_5]; decide) (by rw [hs7_5]; decide) (by first | (rw [hs7_5]; done) | (rw [hs7_5]; rfl)) (by decide) ?_
      refine q_aload_n (i := 0) dX12_tells_169 rfl rfl ?_
      refine q_getP 13 39 80 fl_X12_74 (by decide) rfl rfl rfl dX12_tells_170 ?_
      refine q_iload_n (i := 2) dX12_tells_173 rfl rfl ?_
      refine q_iconst (v := 1) dX12_tells_174 (by decide) ?_
      refine q_isub dX12_tells_175 ?_
      refine q_aload_n (i := 0) dX12_tells_176 rfl rfl ?_
      refine q_getP 13 39 80 fl_X12_74 (by decide) rfl rfl rfl dX12_tells_177 ?_
      refine q_iload_n (i := 2) dX12_tells_180 rfl rfl ?_
      refine q_iconst (v := 1) dX12_tells_181 (by decide) ?_
      refine q_isub dX12_tells_182 ?_
      obtain ⟨hi24, hF⟩ := hF
      refine q_ialoadv (v := h.I 80 ((l2 - 1).toNatClampNeg)) (n := 2000) (by decide) rfl hi24 (rfl) dX12_tells_183 ?_
      have K25 := q_ite (c := (h.I 80 ((l2 - 1).toNatClampNeg)) = 0) (X := fun v => q_N0 G m_X12_tells (d + 1) Q 192 [.ref 43, .int l1, .int l2, .int l3, .int (h.I (c4 + 10) l3.toNatClampNeg)] (.int v :: [.int (l2 - 1), .ref 80]) h) (a := 1) (b := 0) (by
        refine q_callSi (As := [.int (if (h.I 80 ((l2 - 1).toNatClampNeg)) = 0 then (1 : Int32) else 0)]) (st := [.int (l2 - 1), .ref 80]) cs_X12_355 rfl (Nat.le_refl _) (Nat.le_of_ble_eq_true rfl) (by decide) dX12_tells_192 rfl hF (fun r27 h26 hF => ?_)
        obtain ⟨hi28, hF⟩ := hF
        refine q_iastore (n := 2000) (by decide) rfl hi28 dX12_tells_195 ?_
        refine q_goto (tgt := 250) dX12_tells_196 (by decide) ?_
        refine q_iinc (v := l3 + 1) dX12_tells_250 rfl rfl (by decide) rfl ?_
        refine q_goto (tgt := 4) dX12_tells_253 (by decide) ?_
        show q_N0 G m_X12_tells (d + 1) Q 4 [.ref 43, .int l1, .int l2, .int (l3 + 1), .int (h.I (c4 + 10) l3.toNatClampNeg)] [] (h26.sI 80 ((l2 - 1).toNatClampNeg) r27)
        exact q_fgt (l' := [.ref 43, .int l1, .int l2, .int (l3 + 1), .null]) (And.intro (Or.inr rfl) ( And.intro (Or.inr rfl) ( And.intro (Or.inr rfl) ( And.intro (Or.inr rfl) ( And.intro (Or.inl rfl) (trivial)))))) hF)
      refine q_if_ne (tgt := 191) dX12_tells_184 (by decide) (fun hb => ?_) (fun hb => ?_)
      · refine q_iconst (v := 0) dX12_tells_191 (by decide) ?_
        exact K25.2 hb
      · refine q_iconst (v := 1) dX12_tells_187 (by decide) ?_
        refine q_goto (tgt := 192) dX12_tells_188 (by decide) ?_
        exact K25.1 hb
    have hF := hF.2
    refine q_by ((h.I (c4 + 9) l3.toNatClampNeg) = 6) (fun hs7_6 => ?_) (fun hs7_6 => ?_)
    · have hF := hF.1 hs7_6
      refine q_tableIn (tgt := 199) dX12_tells_34 (by rw [hs7_6]; decide) (by rw [hs7_6]; decide) (by first | (rw [hs7_6]; done) | (rw [hs7_6]; rfl)) (by decide) ?_
      refine q_aload_n (i := 0) dX12_tells_199 rfl rfl ?_
      refine q_getP 13 39 80 fl_X12_74 (by decide) rfl rfl rfl dX12_tells_200 ?_
      refine q_iload_n (i := 2) dX12_tells_203 rfl rfl ?_
      refine q_iconst (v := 1) dX12_tells_204 (by decide) ?_
      refine q_isub dX12_tells_205 ?_
      refine q_aload_n (i := 0) dX12_tells_206 rfl rfl ?_
      refine q_getP 13 39 80 fl_X12_74 (by decide) rfl rfl rfl dX12_tells_207 ?_
      refine q_iload_n (i := 2) dX12_tells_210 rfl rfl ?_
      refine q_iconst (v := 1) dX12_tells_211 (by decide) ?_
      refine q_isub dX12_tells_212 ?_
      obtain ⟨hi29, hF⟩ := hF
      refine q_ialoadv (v := h.I 80 ((l2 - 1).toNatClampNeg)) (n := 2000) (by decide) rfl hi29 (rfl) dX12_tells_213 ?_
      refine q_iconst (v := (-1)) dX12_tells_214 (by decide) ?_
      refine q_ixor dX12_tells_215 ?_
      obtain ⟨hi30, hF⟩ := hF
      refine q_iastore (n := 2000) (by decide) rfl hi30 dX12_tells_216 ?_
      refine q_goto (tgt := 250) dX12_tells_217 (by decide) ?_
      refine q_iinc (v := l3 + 1) dX12_tells_250 rfl rfl (by decide) rfl ?_
      refine q_goto (tgt := 4) dX12_tells_253 (by decide) ?_
      show q_N0 G m_X12_tells (d + 1) Q 4 [.ref 43, .int l1, .int l2, .int (l3 + 1), .int (h.I (c4 + 10) l3.toNatClampNeg)] [] (h.sI 80 ((l2 - 1).toNatClampNeg) ((h.I 80 ((l2 - 1).toNatClampNeg)) ^^^ (-1)))
      exact q_fgt (l' := [.ref 43, .int l1, .int l2, .int (l3 + 1), .null]) (And.intro (Or.inr rfl) ( And.intro (Or.inr rfl) ( And.intro (Or.inr rfl) ( And.intro (Or.inr rfl) ( And.intro (Or.inl rfl) (trivial)))))) hF
    have hF := hF.2
    refine q_tableOut (tgt := 220) dX12_tells_34 (by have n0 := lv_neT hs7_0 (a := 0) (by decide); have n1 := lv_neT hs7_1 (a := 1) (by decide); have n2 := lv_neT hs7_2 (a := 2) (by decide); have n3 := lv_neT hs7_3 (a := 3) (by decide); have n4 := lv_neT hs7_4 (a := 4) (by decide); have n5 := lv_neT hs7_5 (a := 5) (by decide); have n6 := lv_neT hs7_6 (a := 6) (by decide); omega) (by decide) ?_
    have hF := hF ⟨hs7_0, hs7_1, hs7_2, hs7_3, hs7_4, hs7_5, hs7_6⟩
    refine q_iinc (v := l2 + (-1)) dX12_tells_220 rfl rfl (by decide) rfl ?_
    refine q_aload_n (i := 0) dX12_tells_223 rfl rfl ?_
    refine q_getP 13 39 80 fl_X12_74 (by decide) rfl rfl rfl dX12_tells_224 ?_
    refine q_iload_n (i := 2) dX12_tells_227 rfl rfl ?_
    refine q_iconst (v := 1) dX12_tells_228 (by decide) ?_
    refine q_isub dX12_tells_229 ?_
    refine q_iload dX12_tells_230 rfl ?_
    refine q_aload_n (i := 0) dX12_tells_232 rfl rfl ?_
    refine q_getP 13 39 80 fl_X12_74 (by decide) rfl rfl rfl dX12_tells_233 ?_
    refine q_iload_n (i := 2) dX12_tells_236 rfl rfl ?_
    refine q_iconst (v := 1) dX12_tells_237 (by decide) ?_
    refine q_isub dX12_tells_238 ?_
    obtain ⟨hi31, hF⟩ := hF
    refine q_ialoadv (v := h.I 80 (((l2 + (-1)) - 1).toNatClampNeg)) (n := 2000) (by decide) rfl hi31 (rfl) dX12_tells_239 ?_
    refine q_aload_n (i := 0) dX12_tells_240 rfl rfl ?_
    refine q_getP 13 39 80 fl_X12_74 (by decide) rfl rfl rfl dX12_tells_241 ?_
    refine q_iload_n (i := 2) dX12_tells_244 rfl rfl ?_
    obtain ⟨hi32, hF⟩ := hF
    refine q_ialoadv (v := h.I 80 ((l2 + (-1)).toNatClampNeg)) (n := 2000) (by decide) rfl hi32 (rfl) dX12_tells_245 ?_
    refine q_callSi (As := [.int (h.I (c4 + 10) l3.toNatClampNeg), .int (h.I 80 (((l2 + (-1)) - 1).toNatClampNeg)), .int (h.I 80 ((l2 + (-1)).toNatClampNeg))]) (st := [.int ((l2 + (-1)) - 1), .ref 80]) cs_X12_371 rfl (Nat.le_refl _) (Nat.le_of_ble_eq_true rfl) (by decide) dX12_tells_246 rfl hF (fun r34 h33 hF => ?_)
    obtain ⟨hi35, hF⟩ := hF
    refine q_iastore (n := 2000) (by decide) rfl hi35 dX12_tells_249 ?_
    refine q_iinc (v := l3 + 1) dX12_tells_250 rfl rfl (by decide) rfl ?_
    refine q_goto (tgt := 4) dX12_tells_253 (by decide) ?_
    show q_N0 G m_X12_tells (d + 1) Q 4 [.ref 43, .int l1, .int (l2 + (-1)), .int (l3 + 1), .int (h.I (c4 + 10) l3.toNatClampNeg)] [] (h33.sI 80 (((l2 + (-1)) - 1).toNatClampNeg) r34)
    exact q_fgt (l' := [.ref 43, .int l1, .int (l2 + (-1)), .int (l3 + 1), .null]) (And.intro (Or.inr rfl) ( And.intro (Or.inr rfl) ( And.intro (Or.inr rfl) ( And.intro (Or.inr rfl) ( And.intro (Or.inl rfl) (trivial)))))) hF
def m_X12_begins : qm := (RX12, cX12_begins, 1, (some .boolean), [], false)
set_option maxRecDepth 100000 in
set_option maxHeartbeats 4000000 in
theorem x_X12_begins (G : qG) (d : Nat)  (h : qh) (Q : qr → qh → Prop)  (hF : (¬ (h.I 43 34) = (h.I 43 35) → (Q (.inl (some (.int 1))) (h.sI 43 34 ((h.I 43 34) + 1)))) ∧ ((h.I 43 34) = (h.I 43 35) → (Q (.inl (some (.int 0))) h))) : q_M0 G (d + 1) yX12_begins [.ref 43] h Q := by
  refine q_of (M := m_X12_begins) (by decide +kernel) rfl rfl cd_X12_begins (by decide) (Nat.le_of_ble_eq_true rfl) ?_
  show q_N0 G m_X12_begins (d + 1) Q 0 [.ref 43] [] h
  refine q_aload_n (i := 0) dX12_begins_0 rfl rfl ?_
  refine q_getIv (v := h.I 43 34) 13 34 fl_X12_375 (by decide) rfl rfl (rfl) dX12_begins_1 ?_
  refine q_aload_n (i := 0) dX12_begins_4 rfl rfl ?_
  refine q_getIv (v := h.I 43 35) 13 35 fl_X12_378 (by decide) rfl rfl (rfl) dX12_begins_5 ?_
  refine q_icmp_ne (tgt := 13) dX12_begins_8 (by decide) (fun hb => ?_) (fun hb => ?_)
  · have hF := hF.1 hb
    refine q_aload_n (i := 0) dX12_begins_13 rfl rfl ?_
    refine q_dup dX12_begins_14 rfl ?_
    refine q_getIv (v := h.I 43 34) 13 34 fl_X12_375 (by decide) rfl rfl (rfl) dX12_begins_15 ?_
    refine q_iconst (v := 1) dX12_begins_18 (by decide) ?_
    refine q_iadd dX12_begins_19 ?_
    refine q_putI 13 34 fp_X12_375 (Or.inr ⟨_, _, _, rfl, rfl⟩) (by decide) rfl rfl dX12_begins_20 ?_
    refine q_iconst (v := 1) dX12_begins_23 (by decide) ?_
    exact q_zret rfl (by decide) (by decide) (by decide) dX12_begins_24 hF
  · have hF := hF.2 hb
    refine q_iconst (v := 0) dX12_begins_11 (by decide) ?_
    exact q_zret rfl (by decide) (by decide) (by decide) dX12_begins_12 hF
def m_X12_goes : qm := (RX12, cX12_goes, 4, (some .int), [], false)
set_option maxRecDepth 100000 in
set_option maxHeartbeats 4000000 in
theorem x_X12_goes (G : qG) (d : Nat) (x1 : Int32) (h : qh) (Q : qr → qh → Prop)  (hF : q_N0 G m_X12_goes (d + 1) Q 2 [.ref 43, .int x1, .int x1, .null] [] h) : q_M0 G (d + 1) yX12_goes [.ref 43, .int x1] h Q := by
  refine q_of (M := m_X12_goes) (by decide +kernel) rfl rfl cd_X12_goes (by decide) (Nat.le_of_ble_eq_true rfl) ?_
  show q_N0 G m_X12_goes (d + 1) Q 0 [.ref 43, .int x1, .null, .null] [] h
  refine q_iload_n (i := 1) dX12_goes_0 rfl rfl ?_
  refine q_istore_n (i := 2) dX12_goes_1 rfl (by decide) rfl ?_
  exact hF
set_option maxRecDepth 100000 in
set_option maxHeartbeats 4000000 in
theorem x_X12_goes_2 (G : qG) (d : Nat) (l1 : Int32) (l2 : Int32) (h : qh) (Q : qr → qh → Prop)  (hF : (l2 = (-1) → (Q (.inl (some (.int 0))) h)) ∧ (¬ l2 = (-1) → (q_M0 G d yX12_goesOne [.ref 43, .int l2] h (q_ri (fun r2 h1 => (r2 = 0 → (∃ c3, h1.R 43 21 = some c3 ∧ q_prg c3 ∧ (vp_in l2 2000 ∧ (q_N0 G m_X12_goes (d + 1) Q 2 [.ref 43, .int l1, .int (h1.I (c3 + 8) l2.toNatClampNeg), .null] [] h1)))) ∧ (¬ r2 = 0 → (Q (.inl (some (.int r2))) h1))) (fun E h => Q (.inr E) h))))) : q_N0 G m_X12_goes (d + 1) Q 2 [.ref 43, .int l1, .int l2, .null] [] h := by
  refine q_iload_n (i := 2) dX12_goes_2 rfl rfl ?_
  refine q_iconst (v := (-1)) dX12_goes_3 (by decide) ?_
  refine q_icmp_eq (tgt := 32) dX12_goes_4 (by decide) (fun hb => ?_) (fun hb => ?_)
  · have hF := hF.1 hb
    refine q_iconst (v := 0) dX12_goes_32 (by decide) ?_
    exact q_iret rfl (by decide) (by decide) dX12_goes_33 hF
  · have hF := hF.2 hb
    refine q_aload_n (i := 0) dX12_goes_7 rfl rfl ?_
    refine q_iload_n (i := 2) dX12_goes_8 rfl rfl ?_
    refine q_callVi (ci := 13) (o := 43) (As := [.int l2]) (st := []) cv_X12_381 ⟨_, _, rfl⟩ (by decide) rfl rfl (Nat.le_refl _) (Nat.le_of_ble_eq_true rfl) (by decide) dX12_goes_9 rfl hF (fun r2 h1 hF => ?_)
    refine q_istore_n (i := 3) dX12_goes_12 rfl (by decide) rfl ?_
    refine q_iload_n (i := 3) dX12_goes_13 rfl rfl ?_
    refine q_if_eq (tgt := 19) dX12_goes_14 (by decide) (fun hb => ?_) (fun hb => ?_)
    · have hF := hF.1 hb
      refine q_aload_n (i := 0) dX12_goes_19 rfl rfl ?_
      obtain ⟨c3, hrc3, hc3, hF⟩ := hF
      refine q_getR (k := c3) 13 21 fl_X12_46 (by decide) rfl rfl hrc3 dX12_goes_20 ?_
      refine q_getP 12 15 (c3 + 8) fl_X12_243 (q_prg_n hc3 0) (q_prg_K hc3) rfl (q_prg_P hc3 15) dX12_goes_23 ?_
      refine q_iload_n (i := 2) dX12_goes_26 rfl rfl ?_
      obtain ⟨hi4, hF⟩ := hF
      refine q_ialoadv (v := h1.I (c3 + 8) l2.toNatClampNeg) (n := 2000) (q_prg_n hc3 8) (q_prg_A hc3 15) hi4 (rfl) dX12_goes_27 ?_
      refine q_istore_n (i := 2) dX12_goes_28 rfl (by decide) rfl ?_
      refine q_goto (tgt := 2) dX12_goes_29 (by decide) ?_
      show q_N0 G m_X12_goes (d + 1) Q 2 [.ref 43, .int l1, .int (h1.I (c3 + 8) l2.toNatClampNeg), .int r2] [] h1
      exact q_fgt (l' := [.ref 43, .int l1, .int (h1.I (c3 + 8) l2.toNatClampNeg), .null]) (And.intro (Or.inr rfl) ( And.intro (Or.inr rfl) ( And.intro (Or.inr rfl) ( And.intro (Or.inl rfl) (trivial))))) hF
    · have hF := hF.2 hb
      refine q_iload_n (i := 3) dX12_goes_17 rfl rfl ?_
      exact q_iret rfl (by decide) (by decide) dX12_goes_18 hF
def m_X12_goesOne : qm := (RX12, cX12_goesOne, 2, (some .int), [], false)
set_option maxRecDepth 100000 in
set_option maxHeartbeats 4000000 in
theorem x_X12_goesOne (G : qG) (d : Nat) (x1 : Int32) (h : qh) (Q : qr → qh → Prop)  (hF : ∃ c1, h.R 43 21 = some c1 ∧ q_prg c1 ∧ (vp_in x1 2000 ∧ (((h.I (c1 + 2) x1.toNatClampNeg) = 0 → (vp_in x1 2000 ∧ (vp_in x1 2000 ∧ (q_M0 G d yX12_tells [.ref 43, .int (h.I (c1 + 4) x1.toNatClampNeg)] h (q_ri (fun r8 h7 => vp_in (h.I (c1 + 3) x1.toNatClampNeg) 2016 ∧ (Q (.inl (some (.int 0))) (h7.sI 78 ((h.I (c1 + 3) x1.toNatClampNeg).toNatClampNeg) r8))) (fun E h => Q (.inr E) h)))))) ∧ ((h.I (c1 + 2) x1.toNatClampNeg) = 1 → (q_M0 G d yX12_stores [.ref 43, .int x1] h (q_rv (fun h10 => Q (.inl (some (.int 0))) h10) (fun E h => Q (.inr E) h)))) ∧ ((h.I (c1 + 2) x1.toNatClampNeg) = 2 → (q_M0 G d yX12_goesIf [.ref 43, .int x1] h (q_ri (fun r12 h11 => Q (.inl (some (.int r12))) h11) (fun E h => Q (.inr E) h)))) ∧ ((h.I (c1 + 2) x1.toNatClampNeg) = 3 → (q_M0 G d yX12_goesWhile [.ref 43, .int x1] h (q_ri (fun r14 h13 => Q (.inl (some (.int r14))) h13) (fun E h => Q (.inr E) h)))) ∧ ((h.I (c1 + 2) x1.toNatClampNeg) = 4 → (Q (.inl (some (.int 1))) h)) ∧ ((h.I (c1 + 2) x1.toNatClampNeg) = 5 → (Q (.inl (some (.int 2))) h)) ∧ ((h.I (c1 + 2) x1.toNatClampNeg) = 6 → (vp_in x1 2000 ∧ (q_M0 G d yX12_tells [.ref 43, .int (h.I (c1 + 4) x1.toNatClampNeg)] h (q_ri (fun r17 h16 => Q (.inl (some (.int 3))) (h16.sI 43 33 r17)) (fun E h => Q (.inr E) h))))) ∧ (¬ (h.I (c1 + 2) x1.toNatClampNeg) = 0 ∧ ¬ (h.I (c1 + 2) x1.toNatClampNeg) = 1 ∧ ¬ (h.I (c1 + 2) x1.toNatClampNeg) = 2 ∧ ¬ (h.I (c1 + 2) x1.toNatClampNeg) = 3 ∧ ¬ (h.I (c1 + 2) x1.toNatClampNeg) = 4 ∧ ¬ (h.I (c1 + 2) x1.toNatClampNeg) = 5 ∧ ¬ (h.I (c1 + 2) x1.toNatClampNeg) = 6 → (vp_in x1 2000 ∧ (q_M0 G d yX12_goes [.ref 43, .int (h.I (c1 + 6) x1.toNatClampNeg)] h (q_ri (fun r20 h19 => Q (.inl (some (.int r20))) h19) (fun E h => Q (.inr E) h)))))))) : q_M0 G (d + 1) yX12_goesOne [.ref 43, .int x1] h Q := by
  refine q_of (M := m_X12_goesOne) (by decide +kernel) rfl rfl cd_X12_goesOne (by decide) (Nat.le_of_ble_eq_true rfl) ?_
  show q_N0 G m_X12_goesOne (d + 1) Q 0 [.ref 43, .int x1] [] h
  refine q_aload_n (i := 0) dX12_goesOne_0 rfl rfl ?_
  obtain ⟨c1, hrc1, hc1, hF⟩ := hF
  refine q_getR (k := c1) 13 21 fl_X12_46 (by decide) rfl rfl hrc1 dX12_goesOne_1 ?_
  refine q_getP 12 9 (c1 + 2) fl_X12_249 (q_prg_n hc1 0) (q_prg_K hc1) rfl (q_prg_P hc1 9) dX12_goesOne_4 ?_
  refine q_iload_n (i := 1) dX12_goesOne_7 rfl rfl ?_
  obtain ⟨hi2, hF⟩ := hF
  refine q_ialoadv (v := h.I (c1 + 2) x1.toNatClampNeg) (n := 2000) (q_prg_n hc1 2) (q_prg_A hc1 9) hi2 (rfl) dX12_goesOne_8 ?_
  refine q_by ((h.I (c1 + 2) x1.toNatClampNeg) = 0) (fun hs3_0 => ?_) (fun hs3_0 => ?_)
  · have hF := hF.1 hs3_0
    refine q_tableIn (tgt := 52) dX12_goesOne_9 (by rw [hs3_0]; decide) (by rw [hs3_0]; decide) (by first | (rw [hs3_0]; done) | (rw [hs3_0]; rfl)) (by decide) ?_
    refine q_aload_n (i := 0) dX12_goesOne_52 rfl rfl ?_
    refine q_getP 13 30 78 fl_X12_68 (by decide) rfl rfl rfl dX12_goesOne_53 ?_
    refine q_aload_n (i := 0) dX12_goesOne_56 rfl rfl ?_
    refine q_getR (k := c1) 13 21 fl_X12_46 (by decide) rfl rfl hrc1 dX12_goesOne_57 ?_
    refine q_getP 12 10 (c1 + 3) fl_X12_252 (q_prg_n hc1 0) (q_prg_K hc1) rfl (q_prg_P hc1 10) dX12_goesOne_60 ?_
    refine q_iload_n (i := 1) dX12_goesOne_63 rfl rfl ?_
    obtain ⟨hi5, hF⟩ := hF
    refine q_ialoadv (v := h.I (c1 + 3) x1.toNatClampNeg) (n := 2000) (q_prg_n hc1 3) (q_prg_A hc1 10) hi5 (rfl) dX12_goesOne_64 ?_
    refine q_aload_n (i := 0) dX12_goesOne_65 rfl rfl ?_
    refine q_aload_n (i := 0) dX12_goesOne_66 rfl rfl ?_
    refine q_getR (k := c1) 13 21 fl_X12_46 (by decide) rfl rfl hrc1 dX12_goesOne_67 ?_
    refine q_getP 12 11 (c1 + 4) fl_X12_264 (q_prg_n hc1 0) (q_prg_K hc1) rfl (q_prg_P hc1 11) dX12_goesOne_70 ?_
    refine q_iload_n (i := 1) dX12_goesOne_73 rfl rfl ?_
    obtain ⟨hi6, hF⟩ := hF
    refine q_ialoadv (v := h.I (c1 + 4) x1.toNatClampNeg) (n := 2000) (q_prg_n hc1 4) (q_prg_A hc1 11) hi6 (rfl) dX12_goesOne_74 ?_
    refine q_callVi (ci := 13) (o := 43) (As := [.int (h.I (c1 + 4) x1.toNatClampNeg)]) (st := [.int (h.I (c1 + 3) x1.toNatClampNeg), .ref 78]) cv_X12_384 ⟨_, _, rfl⟩ (by decide) rfl rfl (Nat.le_refl _) (Nat.le_of_ble_eq_true rfl) (by decide) dX12_goesOne_75 rfl hF (fun r8 h7 hF => ?_)
    obtain ⟨hi9, hF⟩ := hF
    refine q_iastore (n := 2016) (by decide) rfl hi9 dX12_goesOne_78 ?_
    refine q_iconst (v := 0) dX12_goesOne_79 (by decide) ?_
    exact q_iret rfl (by decide) (by decide) dX12_goesOne_80 hF
  have hF := hF.2
  refine q_by ((h.I (c1 + 2) x1.toNatClampNeg) = 1) (fun hs3_1 => ?_) (fun hs3_1 => ?_)
  · have hF := hF.1 hs3_1
    refine q_tableIn (tgt := 81) dX12_goesOne_9 (by rw [hs3_1]; decide) (by rw [hs3_1]; decide) (by first | (rw [hs3_1]; done) | (rw [hs3_1]; rfl)) (by decide) ?_
    refine q_aload_n (i := 0) dX12_goesOne_81 rfl rfl ?_
    refine q_iload_n (i := 1) dX12_goesOne_82 rfl rfl ?_
    refine q_callVv (ci := 13) (o := 43) (As := [.int x1]) (st := []) cv_X12_387 ⟨_, _, rfl⟩ (by decide) rfl rfl (Nat.le_refl _) (Nat.le_of_ble_eq_true rfl) (by decide) dX12_goesOne_83 rfl hF (fun h10 hF => ?_)
    refine q_iconst (v := 0) dX12_goesOne_86 (by decide) ?_
    exact q_iret rfl (by decide) (by decide) dX12_goesOne_87 hF
  have hF := hF.2
  refine q_by ((h.I (c1 + 2) x1.toNatClampNeg) = 2) (fun hs3_2 => ?_) (fun hs3_2 => ?_)
  · have hF := hF.1 hs3_2
    refine q_tableIn (tgt := 88) dX12_goesOne_9 (by rw [hs3_2]; decide) (by rw [hs3_2]; decide) (by first | (rw [hs3_2]; done) | (rw [hs3_2]; rfl)) (by decide) ?_
    refine q_aload_n (i := 0) dX12_goesOne_88 rfl rfl ?_
    refine q_iload_n (i := 1) dX12_goesOne_89 rfl rfl ?_
    refine q_callVi (ci := 13) (o := 43) (As := [.int x1]) (st := []) cv_X12_390 ⟨_, _, rfl⟩ (by decide) rfl rfl (Nat.le_refl _) (Nat.le_of_ble_eq_true rfl) (by decide) dX12_goesOne_90 rfl hF (fun r12 h11 hF => ?_)
    exact q_iret rfl (by decide) (by decide) dX12_goesOne_93 hF
  have hF := hF.2
  refine q_by ((h.I (c1 + 2) x1.toNatClampNeg) = 3) (fun hs3_3 => ?_) (fun hs3_3 => ?_)
  · have hF := hF.1 hs3_3
    refine q_tableIn (tgt := 94) dX12_goesOne_9 (by rw [hs3_3]; decide) (by rw [hs3_3]; decide) (by first | (rw [hs3_3]; done) | (rw [hs3_3]; rfl)) (by decide) ?_
    refine q_aload_n (i := 0) dX12_goesOne_94 rfl rfl ?_
    refine q_iload_n (i := 1) dX12_goesOne_95 rfl rfl ?_
    refine q_callVi (ci := 13) (o := 43) (As := [.int x1]) (st := []) cv_X12_393 ⟨_, _, rfl⟩ (by decide) rfl rfl (Nat.le_refl _) (Nat.le_of_ble_eq_true rfl) (by decide) dX12_goesOne_96 rfl hF (fun r14 h13 hF => ?_)
    exact q_iret rfl (by decide) (by decide) dX12_goesOne_99 hF
  have hF := hF.2
  refine q_by ((h.I (c1 + 2) x1.toNatClampNeg) = 4) (fun hs3_4 => ?_) (fun hs3_4 => ?_)
  · have hF := hF.1 hs3_4
    refine q_tableIn (tgt := 100) dX12_goesOne_9 (by rw [hs3_4]; decide) (by rw [hs3_4]; decide) (by first | (rw [hs3_4]; done) | (rw [hs3_4]; rfl)) (by decide) ?_
    refine q_iconst (v := 1) dX12_goesOne_100 (by decide) ?_
    exact q_iret rfl (by decide) (by decide) dX12_goesOne_101 hF
  have hF := hF.2
  refine q_by ((h.I (c1 + 2) x1.toNatClampNeg) = 5) (fun hs3_5 => ?_) (fun hs3_5 => ?_)
  · have hF := hF.1 hs3_5
    refine q_tableIn (tgt := 102) dX12_goesOne_9 (by rw [hs3_5]; decide) (by rw [hs3_5]; decide) (by first | (rw [hs3_5]; done) | (rw [hs3_5]; rfl)) (by decide) ?_
    refine q_iconst (v := 2) dX12_goesOne_102 (by decide) ?_
    exact q_iret rfl (by decide) (by decide) dX12_goesOne_103 hF
  have hF := hF.2
  refine q_by ((h.I (c1 + 2) x1.toNatClampNeg) = 6) (fun hs3_6 => ?_) (fun hs3_6 => ?_)
  · have hF := hF.1 hs3_6
    refine q_tableIn (tgt := 104) dX12_goesOne_9 (by rw [hs3_6]; decide) (by rw [hs3_6]; decide) (by first | (rw [hs3_6]; done) | (rw [hs3_6]; rfl)) (by decide) ?_
    refine q_aload_n (i := 0) dX12_goesOne_104 rfl rfl ?_
    refine q_aload_n (i := 0) dX12_goesOne_105 rfl rfl ?_
    refine q_aload_n (i := 0) dX12_goesOne_106 rfl rfl ?_
    refine q_getR (k := c1) 13 21 fl_X12_46 (by decide) rfl rfl hrc1 dX12_goesOne_107 ?_
    refine q_getP 12 11 (c1 + 4) fl_X12_264 (q_prg_n hc1 0) (q_prg_K hc1) rfl (q_prg_P hc1 11) dX12_goesOne_110 ?_
    refine q_iload_n (i := 1) dX12_goesOne_113 rfl rfl ?_
    obtain ⟨hi15, hF⟩ := hF
    refine q_ialoadv (v := h.I (c1 + 4) x1.toNatClampNeg) (n := 2000) (q_prg_n hc1 4) (q_prg_A hc1 11) hi15 (rfl) dX12_goesOne_114 ?_
    refine q_callVi (ci := 13) (o := 43) (As := [.int (h.I (c1 + 4) x1.toNatClampNeg)]) (st := [.ref 43]) cv_X12_384 ⟨_, _, rfl⟩ (by decide) rfl rfl (Nat.le_refl _) (Nat.le_of_ble_eq_true rfl) (by decide) dX12_goesOne_115 rfl hF (fun r17 h16 hF => ?_)
    refine q_putI 13 33 fp_X12_396 (Or.inr ⟨_, _, _, rfl, rfl⟩) (by decide) rfl rfl dX12_goesOne_118 ?_
    refine q_iconst (v := 3) dX12_goesOne_121 (by decide) ?_
    exact q_iret rfl (by decide) (by decide) dX12_goesOne_122 hF
  have hF := hF.2
  refine q_tableOut (tgt := 123) dX12_goesOne_9 (by have n0 := lv_neT hs3_0 (a := 0) (by decide); have n1 := lv_neT hs3_1 (a := 1) (by decide); have n2 := lv_neT hs3_2 (a := 2) (by decide); have n3 := lv_neT hs3_3 (a := 3) (by decide); have n4 := lv_neT hs3_4 (a := 4) (by decide); have n5 := lv_neT hs3_5 (a := 5) (by decide); have n6 := lv_neT hs3_6 (a := 6) (by decide); omega) (by decide) ?_
  have hF := hF ⟨hs3_0, hs3_1, hs3_2, hs3_3, hs3_4, hs3_5, hs3_6⟩
  refine q_aload_n (i := 0) dX12_goesOne_123 rfl rfl ?_
  refine q_aload_n (i := 0) dX12_goesOne_124 rfl rfl ?_
  refine q_getR (k := c1) 13 21 fl_X12_46 (by decide) rfl rfl hrc1 dX12_goesOne_125 ?_
  refine q_getP 12 13 (c1 + 6) fl_X12_255 (q_prg_n hc1 0) (q_prg_K hc1) rfl (q_prg_P hc1 13) dX12_goesOne_128 ?_
  refine q_iload_n (i := 1) dX12_goesOne_131 rfl rfl ?_
  obtain ⟨hi18, hF⟩ := hF
  refine q_ialoadv (v := h.I (c1 + 6) x1.toNatClampNeg) (n := 2000) (q_prg_n hc1 6) (q_prg_A hc1 13) hi18 (rfl) dX12_goesOne_132 ?_
  refine q_callVi (ci := 13) (o := 43) (As := [.int (h.I (c1 + 6) x1.toNatClampNeg)]) (st := []) cv_X12_399 ⟨_, _, rfl⟩ (by decide) rfl rfl (Nat.le_refl _) (Nat.le_of_ble_eq_true rfl) (by decide) dX12_goesOne_133 rfl hF (fun r20 h19 hF => ?_)
  exact q_iret rfl (by decide) (by decide) dX12_goesOne_136 hF
def m_X12_stores : qm := (RX12, cX12_stores, 5, none, [], false)
set_option maxRecDepth 100000 in
set_option maxHeartbeats 4000000 in
theorem x_X12_stores (G : qG) (d : Nat) (x1 : Int32) (h : qh) (Q : qr → qh → Prop)  (hF : ∃ c1, h.R 43 21 = some c1 ∧ q_prg c1 ∧ (vp_in x1 2000 ∧ (vp_in x1 2000 ∧ (q_M0 G d yX12_tells [.ref 43, .int (h.I (c1 + 4) x1.toNatClampNeg)] h (q_ri (fun r5 h4 => q_M0 G d yX12_placeOf [.ref 43, .int (h.I (c1 + 3) x1.toNatClampNeg), .int r5] h4 (q_ri (fun r7 h6 => ∃ c8, h6.R 43 21 = some c8 ∧ q_prg c8 ∧ (vp_in x1 2000 ∧ (q_M0 G d yX12_tells [.ref 43, .int (h6.I (c8 + 5) x1.toNatClampNeg)] h6 (q_ri (fun r11 h10 => vp_in r7 2048 ∧ ((200 ≤ (h10.I 43 37) → (Q (.inl none) ((h10.sI 76 r7.toNatClampNeg r11).sI 43 37 ((h10.I 43 37) + 1)))) ∧ (¬ 200 ≤ (h10.I 43 37) → (vp_in (3 * (h10.I 43 37)) 600 ∧ (vp_in ((3 * (h10.I 43 37)) + 1) 600 ∧ (vp_in ((3 * (h10.I 43 37)) + 2) 600 ∧ (Q (.inl none) (((((h10.sI 76 r7.toNatClampNeg r11).sI 79 ((3 * (h10.I 43 37)).toNatClampNeg) (h.I (c1 + 3) x1.toNatClampNeg)).sI 79 (((3 * (h10.I 43 37)) + 1).toNatClampNeg) (r7 - (256 * (h.I (c1 + 3) x1.toNatClampNeg)))).sI 79 (((3 * (h10.I 43 37)) + 2).toNatClampNeg) r11).sI 43 37 ((h10.I 43 37) + 1))))))))) (fun E h => Q (.inr E) h))))) (fun E h => Q (.inr E) h))) (fun E h => Q (.inr E) h)))))) : q_M0 G (d + 1) yX12_stores [.ref 43, .int x1] h Q := by
  refine q_of (M := m_X12_stores) (by decide +kernel) rfl rfl cd_X12_stores (by decide) (Nat.le_of_ble_eq_true rfl) ?_
  show q_N0 G m_X12_stores (d + 1) Q 0 [.ref 43, .int x1, .null, .null, .null] [] h
  refine q_aload_n (i := 0) dX12_stores_0 rfl rfl ?_
  obtain ⟨c1, hrc1, hc1, hF⟩ := hF
  refine q_getR (k := c1) 13 21 fl_X12_46 (by decide) rfl rfl hrc1 dX12_stores_1 ?_
  refine q_getP 12 10 (c1 + 3) fl_X12_252 (q_prg_n hc1 0) (q_prg_K hc1) rfl (q_prg_P hc1 10) dX12_stores_4 ?_
  refine q_iload_n (i := 1) dX12_stores_7 rfl rfl ?_
  obtain ⟨hi2, hF⟩ := hF
  refine q_ialoadv (v := h.I (c1 + 3) x1.toNatClampNeg) (n := 2000) (q_prg_n hc1 3) (q_prg_A hc1 10) hi2 (rfl) dX12_stores_8 ?_
  refine q_istore_n (i := 2) dX12_stores_9 rfl (by decide) rfl ?_
  refine q_aload_n (i := 0) dX12_stores_10 rfl rfl ?_
  refine q_iload_n (i := 2) dX12_stores_11 rfl rfl ?_
  refine q_aload_n (i := 0) dX12_stores_12 rfl rfl ?_
  refine q_aload_n (i := 0) dX12_stores_13 rfl rfl ?_
  refine q_getR (k := c1) 13 21 fl_X12_46 (by decide) rfl rfl hrc1 dX12_stores_14 ?_
  refine q_getP 12 11 (c1 + 4) fl_X12_264 (q_prg_n hc1 0) (q_prg_K hc1) rfl (q_prg_P hc1 11) dX12_stores_17 ?_
  refine q_iload_n (i := 1) dX12_stores_20 rfl rfl ?_
  obtain ⟨hi3, hF⟩ := hF
  refine q_ialoadv (v := h.I (c1 + 4) x1.toNatClampNeg) (n := 2000) (q_prg_n hc1 4) (q_prg_A hc1 11) hi3 (rfl) dX12_stores_21 ?_
  refine q_callVi (ci := 13) (o := 43) (As := [.int (h.I (c1 + 4) x1.toNatClampNeg)]) (st := [.int (h.I (c1 + 3) x1.toNatClampNeg), .ref 43]) cv_X12_384 ⟨_, _, rfl⟩ (by decide) rfl rfl (Nat.le_refl _) (Nat.le_of_ble_eq_true rfl) (by decide) dX12_stores_22 rfl hF (fun r5 h4 hF => ?_)
  refine q_callVi (ci := 13) (o := 43) (As := [.int (h.I (c1 + 3) x1.toNatClampNeg), .int r5]) (st := []) cv_X12_365 ⟨_, _, rfl⟩ (by decide) rfl rfl (Nat.le_refl _) (Nat.le_of_ble_eq_true rfl) (by decide) dX12_stores_25 rfl hF (fun r7 h6 hF => ?_)
  refine q_istore_n (i := 3) dX12_stores_28 rfl (by decide) rfl ?_
  refine q_aload_n (i := 0) dX12_stores_29 rfl rfl ?_
  refine q_aload_n (i := 0) dX12_stores_30 rfl rfl ?_
  obtain ⟨c8, hrc8, hc8, hF⟩ := hF
  refine q_getR (k := c8) 13 21 fl_X12_46 (by decide) rfl rfl hrc8 dX12_stores_31 ?_
  refine q_getP 12 12 (c8 + 5) fl_X12_286 (q_prg_n hc8 0) (q_prg_K hc8) rfl (q_prg_P hc8 12) dX12_stores_34 ?_
  refine q_iload_n (i := 1) dX12_stores_37 rfl rfl ?_
  obtain ⟨hi9, hF⟩ := hF
  refine q_ialoadv (v := h6.I (c8 + 5) x1.toNatClampNeg) (n := 2000) (q_prg_n hc8 5) (q_prg_A hc8 12) hi9 (rfl) dX12_stores_38 ?_
  refine q_callVi (ci := 13) (o := 43) (As := [.int (h6.I (c8 + 5) x1.toNatClampNeg)]) (st := []) cv_X12_384 ⟨_, _, rfl⟩ (by decide) rfl rfl (Nat.le_refl _) (Nat.le_of_ble_eq_true rfl) (by decide) dX12_stores_39 rfl hF (fun r11 h10 hF => ?_)
  refine q_istore dX12_stores_42 (by decide) rfl ?_
  refine q_aload_n (i := 0) dX12_stores_44 rfl rfl ?_
  refine q_getP 13 28 76 fl_X12_62 (by decide) rfl rfl rfl dX12_stores_45 ?_
  refine q_iload_n (i := 3) dX12_stores_48 rfl rfl ?_
  refine q_iload dX12_stores_49 rfl ?_
  obtain ⟨hi12, hF⟩ := hF
  refine q_iastore (n := 2048) (by decide) rfl hi12 dX12_stores_51 ?_
  refine q_aload_n (i := 0) dX12_stores_52 rfl rfl ?_
  refine q_getIv (v := h10.I 43 37) 13 37 fl_X12_402 (by decide) rfl rfl ((q_I_neo (by decide)).trans (rfl)) dX12_stores_53 ?_
  refine q_sipush (v := 200) dX12_stores_56 (by decide) ?_
  refine q_icmp_ge (tgt := 109) dX12_stores_59 (by decide) (fun hb => ?_) (fun hb => ?_)
  · have hF := hF.1 hb
    refine q_aload_n (i := 0) dX12_stores_109 rfl rfl ?_
    refine q_dup dX12_stores_110 rfl ?_
    refine q_getIv (v := h10.I 43 37) 13 37 fl_X12_402 (by decide) rfl rfl ((q_I_neo (by decide)).trans (rfl)) dX12_stores_111 ?_
    refine q_iconst (v := 1) dX12_stores_114 (by decide) ?_
    refine q_iadd dX12_stores_115 ?_
    refine q_putI 13 37 fp_X12_402 (Or.inr ⟨_, _, _, rfl, rfl⟩) (by decide) rfl rfl dX12_stores_116 ?_
    exact q_vret rfl (by decide) (by decide) dX12_stores_119 hF
  · have hF := hF.2 hb
    refine q_aload_n (i := 0) dX12_stores_62 rfl rfl ?_
    refine q_getP 13 38 79 fl_X12_71 (by decide) rfl rfl rfl dX12_stores_63 ?_
    refine q_iconst (v := 3) dX12_stores_66 (by decide) ?_
    refine q_aload_n (i := 0) dX12_stores_67 rfl rfl ?_
    refine q_getIv (v := h10.I 43 37) 13 37 fl_X12_402 (by decide) rfl rfl ((q_I_neo (by decide)).trans (rfl)) dX12_stores_68 ?_
    refine q_imul dX12_stores_71 ?_
    refine q_iload_n (i := 2) dX12_stores_72 rfl rfl ?_
    obtain ⟨hi13, hF⟩ := hF
    refine q_iastore (n := 600) (by decide) rfl hi13 dX12_stores_73 ?_
    refine q_aload_n (i := 0) dX12_stores_74 rfl rfl ?_
    refine q_getP 13 38 79 fl_X12_71 (by decide) rfl rfl rfl dX12_stores_75 ?_
    refine q_iconst (v := 3) dX12_stores_78 (by decide) ?_
    refine q_aload_n (i := 0) dX12_stores_79 rfl rfl ?_
    refine q_getIv (v := h10.I 43 37) 13 37 fl_X12_402 (by decide) rfl rfl ((q_I_neo (by decide)).trans ( (q_I_neo (by decide)).trans (rfl))) dX12_stores_80 ?_
    refine q_imul dX12_stores_83 ?_
    refine q_iconst (v := 1) dX12_stores_84 (by decide) ?_
    refine q_iadd dX12_stores_85 ?_
    refine q_iload_n (i := 3) dX12_stores_86 rfl rfl ?_
    refine q_sipush (v := 256) dX12_stores_87 (by decide) ?_
    refine q_iload_n (i := 2) dX12_stores_90 rfl rfl ?_
    refine q_imul dX12_stores_91 ?_
    refine q_isub dX12_stores_92 ?_
    obtain ⟨hi14, hF⟩ := hF
    refine q_iastore (n := 600) (by decide) rfl hi14 dX12_stores_93 ?_
    refine q_aload_n (i := 0) dX12_stores_94 rfl rfl ?_
    refine q_getP 13 38 79 fl_X12_71 (by decide) rfl rfl rfl dX12_stores_95 ?_
    refine q_iconst (v := 3) dX12_stores_98 (by decide) ?_
    refine q_aload_n (i := 0) dX12_stores_99 rfl rfl ?_
    refine q_getIv (v := h10.I 43 37) 13 37 fl_X12_402 (by decide) rfl rfl ((q_I_neo (by decide)).trans ( (q_I_neo (by decide)).trans ( (q_I_neo (by decide)).trans (rfl)))) dX12_stores_100 ?_
    refine q_imul dX12_stores_103 ?_
    refine q_iconst (v := 2) dX12_stores_104 (by decide) ?_
    refine q_iadd dX12_stores_105 ?_
    refine q_iload dX12_stores_106 rfl ?_
    obtain ⟨hi15, hF⟩ := hF
    refine q_iastore (n := 600) (by decide) rfl hi15 dX12_stores_108 ?_
    refine q_aload_n (i := 0) dX12_stores_109 rfl rfl ?_
    refine q_dup dX12_stores_110 rfl ?_
    refine q_getIv (v := h10.I 43 37) 13 37 fl_X12_402 (by decide) rfl rfl ((q_I_neo (by decide)).trans ( (q_I_neo (by decide)).trans ( (q_I_neo (by decide)).trans ( (q_I_neo (by decide)).trans (rfl))))) dX12_stores_111 ?_
    refine q_iconst (v := 1) dX12_stores_114 (by decide) ?_
    refine q_iadd dX12_stores_115 ?_
    refine q_putI 13 37 fp_X12_402 (Or.inr ⟨_, _, _, rfl, rfl⟩) (by decide) rfl rfl dX12_stores_116 ?_
    exact q_vret rfl (by decide) (by decide) dX12_stores_119 hF
def m_X12_goesIf : qm := (RX12, cX12_goesIf, 4, (some .int), [], false)
set_option maxRecDepth 100000 in
set_option maxHeartbeats 4000000 in
theorem x_X12_goesIf (G : qG) (d : Nat) (x1 : Int32) (h : qh) (Q : qr → qh → Prop)  (hF : ∃ c1, h.R 43 21 = some c1 ∧ q_prg c1 ∧ (vp_in x1 2000 ∧ (q_M0 G d yX12_tells [.ref 43, .int (h.I (c1 + 4) x1.toNatClampNeg)] h (q_ri (fun r4 h3 => (r4 = 0 → (∃ c5, h3.R 43 21 = some c5 ∧ q_prg c5 ∧ (vp_in x1 2000 ∧ (((h3.I (c5 + 7) x1.toNatClampNeg) = (-1) → (q_M0 G d yX12_begins [.ref 43] h3 (q_ri (fun r8 h7 => Q (.inl (some (.int (if r8 = 0 then (4 : Int32) else 0)))) h7) (fun E h => Q (.inr E) h)))) ∧ (¬ (h3.I (c5 + 7) x1.toNatClampNeg) = (-1) → (q_M0 G d yX12_begins [.ref 43] h3 (q_ri (fun r11 h10 => (¬ r11 = 0 → (q_M0 G d yX12_goesOne [.ref 43, .int (h3.I (c5 + 7) x1.toNatClampNeg)] h10 (q_ri (fun r13 h12 => (r13 = 0 → (q_M0 G d yX12_begins [.ref 43] h12 (q_ri (fun r15 h14 => Q (.inl (some (.int (if r15 = 0 then (4 : Int32) else 0)))) h14) (fun E h => Q (.inr E) h)))) ∧ (¬ r13 = 0 → (Q (.inl (some (.int r13))) h12))) (fun E h => Q (.inr E) h)))) ∧ (r11 = 0 → (Q (.inl (some (.int 4))) h10))) (fun E h => Q (.inr E) h)))))))) ∧ (¬ r4 = 0 → (∃ c17, h3.R 43 21 = some c17 ∧ q_prg c17 ∧ (vp_in x1 2000 ∧ (((h3.I (c17 + 6) x1.toNatClampNeg) = (-1) → (q_M0 G d yX12_begins [.ref 43] h3 (q_ri (fun r20 h19 => Q (.inl (some (.int (if r20 = 0 then (4 : Int32) else 0)))) h19) (fun E h => Q (.inr E) h)))) ∧ (¬ (h3.I (c17 + 6) x1.toNatClampNeg) = (-1) → (q_M0 G d yX12_begins [.ref 43] h3 (q_ri (fun r23 h22 => (¬ r23 = 0 → (q_M0 G d yX12_goesOne [.ref 43, .int (h3.I (c17 + 6) x1.toNatClampNeg)] h22 (q_ri (fun r25 h24 => (r25 = 0 → (q_M0 G d yX12_begins [.ref 43] h24 (q_ri (fun r27 h26 => Q (.inl (some (.int (if r27 = 0 then (4 : Int32) else 0)))) h26) (fun E h => Q (.inr E) h)))) ∧ (¬ r25 = 0 → (Q (.inl (some (.int r25))) h24))) (fun E h => Q (.inr E) h)))) ∧ (r23 = 0 → (Q (.inl (some (.int 4))) h22))) (fun E h => Q (.inr E) h))))))))) (fun E h => Q (.inr E) h))))) : q_M0 G (d + 1) yX12_goesIf [.ref 43, .int x1] h Q := by
  refine q_of (M := m_X12_goesIf) (by decide +kernel) rfl rfl cd_X12_goesIf (by decide) (Nat.le_of_ble_eq_true rfl) ?_
  show q_N0 G m_X12_goesIf (d + 1) Q 0 [.ref 43, .int x1, .null, .null] [] h
  refine q_aload_n (i := 0) dX12_goesIf_0 rfl rfl ?_
  refine q_aload_n (i := 0) dX12_goesIf_1 rfl rfl ?_
  obtain ⟨c1, hrc1, hc1, hF⟩ := hF
  refine q_getR (k := c1) 13 21 fl_X12_46 (by decide) rfl rfl hrc1 dX12_goesIf_2 ?_
  refine q_getP 12 11 (c1 + 4) fl_X12_264 (q_prg_n hc1 0) (q_prg_K hc1) rfl (q_prg_P hc1 11) dX12_goesIf_5 ?_
  refine q_iload_n (i := 1) dX12_goesIf_8 rfl rfl ?_
  obtain ⟨hi2, hF⟩ := hF
  refine q_ialoadv (v := h.I (c1 + 4) x1.toNatClampNeg) (n := 2000) (q_prg_n hc1 4) (q_prg_A hc1 11) hi2 (rfl) dX12_goesIf_9 ?_
  refine q_callVi (ci := 13) (o := 43) (As := [.int (h.I (c1 + 4) x1.toNatClampNeg)]) (st := []) cv_X12_384 ⟨_, _, rfl⟩ (by decide) rfl rfl (Nat.le_refl _) (Nat.le_of_ble_eq_true rfl) (by decide) dX12_goesIf_10 rfl hF (fun r4 h3 hF => ?_)
  refine q_if_eq (tgt := 28) dX12_goesIf_13 (by decide) (fun hb => ?_) (fun hb => ?_)
  · have hF := hF.1 hb
    refine q_aload_n (i := 0) dX12_goesIf_28 rfl rfl ?_
    obtain ⟨c5, hrc5, hc5, hF⟩ := hF
    refine q_getR (k := c5) 13 21 fl_X12_46 (by decide) rfl rfl hrc5 dX12_goesIf_29 ?_
    refine q_getP 12 14 (c5 + 7) fl_X12_258 (q_prg_n hc5 0) (q_prg_K hc5) rfl (q_prg_P hc5 14) dX12_goesIf_32 ?_
    refine q_iload_n (i := 1) dX12_goesIf_35 rfl rfl ?_
    obtain ⟨hi6, hF⟩ := hF
    refine q_ialoadv (v := h3.I (c5 + 7) x1.toNatClampNeg) (n := 2000) (q_prg_n hc5 7) (q_prg_A hc5 14) hi6 (rfl) dX12_goesIf_36 ?_
    refine q_istore_n (i := 2) dX12_goesIf_37 rfl (by decide) rfl ?_
    refine q_iload_n (i := 2) dX12_goesIf_38 rfl rfl ?_
    refine q_iconst (v := (-1)) dX12_goesIf_39 (by decide) ?_
    refine q_icmp_eq (tgt := 64) dX12_goesIf_40 (by decide) (fun hb => ?_) (fun hb => ?_)
    · have hF := hF.1 hb
      refine q_aload_n (i := 0) dX12_goesIf_64 rfl rfl ?_
      refine q_callVi (ci := 13) (o := 43) (As := []) (st := []) cv_X12_405 ⟨_, _, rfl⟩ (by decide) rfl rfl (Nat.le_refl _) (Nat.le_of_ble_eq_true rfl) (by decide) dX12_goesIf_65 rfl hF (fun r8 h7 hF => ?_)
      have K9 := q_ite (c := r8 = 0) (X := fun v => q_N0 G m_X12_goesIf (d + 1) Q 76 [.ref 43, .int x1, .int (h3.I (c5 + 7) x1.toNatClampNeg), .null] (.int v :: []) h7) (a := 4) (b := 0) (by
        exact q_iret rfl (by decide) (by decide) dX12_goesIf_76 hF)
      refine q_if_eq (tgt := 75) dX12_goesIf_68 (by decide) (fun hb => ?_) (fun hb => ?_)
      · refine q_iconst (v := 4) dX12_goesIf_75 (by decide) ?_
        exact K9.1 hb
      · refine q_iconst (v := 0) dX12_goesIf_71 (by decide) ?_
        refine q_goto (tgt := 76) dX12_goesIf_72 (by decide) ?_
        exact K9.2 hb
    · have hF := hF.2 hb
      refine q_aload_n (i := 0) dX12_goesIf_43 rfl rfl ?_
      refine q_callVi (ci := 13) (o := 43) (As := []) (st := []) cv_X12_405 ⟨_, _, rfl⟩ (by decide) rfl rfl (Nat.le_refl _) (Nat.le_of_ble_eq_true rfl) (by decide) dX12_goesIf_44 rfl hF (fun r11 h10 hF => ?_)
      refine q_if_ne (tgt := 52) dX12_goesIf_47 (by decide) (fun hb => ?_) (fun hb => ?_)
      · have hF := hF.1 hb
        refine q_aload_n (i := 0) dX12_goesIf_52 rfl rfl ?_
        refine q_iload_n (i := 2) dX12_goesIf_53 rfl rfl ?_
        refine q_callVi (ci := 13) (o := 43) (As := [.int (h3.I (c5 + 7) x1.toNatClampNeg)]) (st := []) cv_X12_381 ⟨_, _, rfl⟩ (by decide) rfl rfl (Nat.le_refl _) (Nat.le_of_ble_eq_true rfl) (by decide) dX12_goesIf_54 rfl hF (fun r13 h12 hF => ?_)
        refine q_istore_n (i := 3) dX12_goesIf_57 rfl (by decide) rfl ?_
        refine q_iload_n (i := 3) dX12_goesIf_58 rfl rfl ?_
        refine q_if_eq (tgt := 64) dX12_goesIf_59 (by decide) (fun hb => ?_) (fun hb => ?_)
        · have hF := hF.1 hb
          refine q_aload_n (i := 0) dX12_goesIf_64 rfl rfl ?_
          refine q_callVi (ci := 13) (o := 43) (As := []) (st := []) cv_X12_405 ⟨_, _, rfl⟩ (by decide) rfl rfl (Nat.le_refl _) (Nat.le_of_ble_eq_true rfl) (by decide) dX12_goesIf_65 rfl hF (fun r15 h14 hF => ?_)
          have K16 := q_ite (c := r15 = 0) (X := fun v => q_N0 G m_X12_goesIf (d + 1) Q 76 [.ref 43, .int x1, .int (h3.I (c5 + 7) x1.toNatClampNeg), .int r13] (.int v :: []) h14) (a := 4) (b := 0) (by
            exact q_iret rfl (by decide) (by decide) dX12_goesIf_76 hF)
          refine q_if_eq (tgt := 75) dX12_goesIf_68 (by decide) (fun hb => ?_) (fun hb => ?_)
          · refine q_iconst (v := 4) dX12_goesIf_75 (by decide) ?_
            exact K16.1 hb
          · refine q_iconst (v := 0) dX12_goesIf_71 (by decide) ?_
            refine q_goto (tgt := 76) dX12_goesIf_72 (by decide) ?_
            exact K16.2 hb
        · have hF := hF.2 hb
          refine q_iload_n (i := 3) dX12_goesIf_62 rfl rfl ?_
          exact q_iret rfl (by decide) (by decide) dX12_goesIf_63 hF
      · have hF := hF.2 hb
        refine q_iconst (v := 4) dX12_goesIf_50 (by decide) ?_
        exact q_iret rfl (by decide) (by decide) dX12_goesIf_51 hF
  · have hF := hF.2 hb
    refine q_aload_n (i := 0) dX12_goesIf_16 rfl rfl ?_
    obtain ⟨c17, hrc17, hc17, hF⟩ := hF
    refine q_getR (k := c17) 13 21 fl_X12_46 (by decide) rfl rfl hrc17 dX12_goesIf_17 ?_
    refine q_getP 12 13 (c17 + 6) fl_X12_255 (q_prg_n hc17 0) (q_prg_K hc17) rfl (q_prg_P hc17 13) dX12_goesIf_20 ?_
    refine q_iload_n (i := 1) dX12_goesIf_23 rfl rfl ?_
    obtain ⟨hi18, hF⟩ := hF
    refine q_ialoadv (v := h3.I (c17 + 6) x1.toNatClampNeg) (n := 2000) (q_prg_n hc17 6) (q_prg_A hc17 13) hi18 (rfl) dX12_goesIf_24 ?_
    refine q_goto (tgt := 37) dX12_goesIf_25 (by decide) ?_
    refine q_istore_n (i := 2) dX12_goesIf_37 rfl (by decide) rfl ?_
    refine q_iload_n (i := 2) dX12_goesIf_38 rfl rfl ?_
    refine q_iconst (v := (-1)) dX12_goesIf_39 (by decide) ?_
    refine q_icmp_eq (tgt := 64) dX12_goesIf_40 (by decide) (fun hb => ?_) (fun hb => ?_)
    · have hF := hF.1 hb
      refine q_aload_n (i := 0) dX12_goesIf_64 rfl rfl ?_
      refine q_callVi (ci := 13) (o := 43) (As := []) (st := []) cv_X12_405 ⟨_, _, rfl⟩ (by decide) rfl rfl (Nat.le_refl _) (Nat.le_of_ble_eq_true rfl) (by decide) dX12_goesIf_65 rfl hF (fun r20 h19 hF => ?_)
      have K21 := q_ite (c := r20 = 0) (X := fun v => q_N0 G m_X12_goesIf (d + 1) Q 76 [.ref 43, .int x1, .int (h3.I (c17 + 6) x1.toNatClampNeg), .null] (.int v :: []) h19) (a := 4) (b := 0) (by
        exact q_iret rfl (by decide) (by decide) dX12_goesIf_76 hF)
      refine q_if_eq (tgt := 75) dX12_goesIf_68 (by decide) (fun hb => ?_) (fun hb => ?_)
      · refine q_iconst (v := 4) dX12_goesIf_75 (by decide) ?_
        exact K21.1 hb
      · refine q_iconst (v := 0) dX12_goesIf_71 (by decide) ?_
        refine q_goto (tgt := 76) dX12_goesIf_72 (by decide) ?_
        exact K21.2 hb
    · have hF := hF.2 hb
      refine q_aload_n (i := 0) dX12_goesIf_43 rfl rfl ?_
      refine q_callVi (ci := 13) (o := 43) (As := []) (st := []) cv_X12_405 ⟨_, _, rfl⟩ (by decide) rfl rfl (Nat.le_refl _) (Nat.le_of_ble_eq_true rfl) (by decide) dX12_goesIf_44 rfl hF (fun r23 h22 hF => ?_)
      refine q_if_ne (tgt := 52) dX12_goesIf_47 (by decide) (fun hb => ?_) (fun hb => ?_)
      · have hF := hF.1 hb
        refine q_aload_n (i := 0) dX12_goesIf_52 rfl rfl ?_
        refine q_iload_n (i := 2) dX12_goesIf_53 rfl rfl ?_
        refine q_callVi (ci := 13) (o := 43) (As := [.int (h3.I (c17 + 6) x1.toNatClampNeg)]) (st := []) cv_X12_381 ⟨_, _, rfl⟩ (by decide) rfl rfl (Nat.le_refl _) (Nat.le_of_ble_eq_true rfl) (by decide) dX12_goesIf_54 rfl hF (fun r25 h24 hF => ?_)
        refine q_istore_n (i := 3) dX12_goesIf_57 rfl (by decide) rfl ?_
        refine q_iload_n (i := 3) dX12_goesIf_58 rfl rfl ?_
        refine q_if_eq (tgt := 64) dX12_goesIf_59 (by decide) (fun hb => ?_) (fun hb => ?_)
        · have hF := hF.1 hb
          refine q_aload_n (i := 0) dX12_goesIf_64 rfl rfl ?_
          refine q_callVi (ci := 13) (o := 43) (As := []) (st := []) cv_X12_405 ⟨_, _, rfl⟩ (by decide) rfl rfl (Nat.le_refl _) (Nat.le_of_ble_eq_true rfl) (by decide) dX12_goesIf_65 rfl hF (fun r27 h26 hF => ?_)
          have K28 := q_ite (c := r27 = 0) (X := fun v => q_N0 G m_X12_goesIf (d + 1) Q 76 [.ref 43, .int x1, .int (h3.I (c17 + 6) x1.toNatClampNeg), .int r25] (.int v :: []) h26) (a := 4) (b := 0) (by
            exact q_iret rfl (by decide) (by decide) dX12_goesIf_76 hF)
          refine q_if_eq (tgt := 75) dX12_goesIf_68 (by decide) (fun hb => ?_) (fun hb => ?_)
          · refine q_iconst (v := 4) dX12_goesIf_75 (by decide) ?_
            exact K28.1 hb
          · refine q_iconst (v := 0) dX12_goesIf_71 (by decide) ?_
            refine q_goto (tgt := 76) dX12_goesIf_72 (by decide) ?_
            exact K28.2 hb
        · have hF := hF.2 hb
          refine q_iload_n (i := 3) dX12_goesIf_62 rfl rfl ?_
          exact q_iret rfl (by decide) (by decide) dX12_goesIf_63 hF
      · have hF := hF.2 hb
        refine q_iconst (v := 4) dX12_goesIf_50 (by decide) ?_
        exact q_iret rfl (by decide) (by decide) dX12_goesIf_51 hF
def m_X12_goesWhile : qm := (RX12, cX12_goesWhile, 3, (some .int), [], false)
set_option maxRecDepth 100000 in
set_option maxHeartbeats 4000000 in
theorem x_X12_goesWhile (G : qG) (d : Nat) (x1 : Int32) (h : qh) (Q : qr → qh → Prop)  (hF : q_N0 G m_X12_goesWhile (d + 1) Q 0 [.ref 43, .int x1, .null] [] h) : q_M0 G (d + 1) yX12_goesWhile [.ref 43, .int x1] h Q := by
  refine q_of (M := m_X12_goesWhile) (by decide +kernel) rfl rfl cd_X12_goesWhile (by decide) (Nat.le_of_ble_eq_true rfl) ?_
  show q_N0 G m_X12_goesWhile (d + 1) Q 0 [.ref 43, .int x1, .null] [] h
  exact hF
set_option maxRecDepth 100000 in
set_option maxHeartbeats 4000000 in
theorem x_X12_goesWhile_0 (G : qG) (d : Nat) (l1 : Int32) (h : qh) (Q : qr → qh → Prop)  (hF : q_M0 G d yX12_begins [.ref 43] h (q_ri (fun r2 h1 => (¬ r2 = 0 → (∃ c3, h1.R 43 21 = some c3 ∧ q_prg c3 ∧ (vp_in l1 2000 ∧ (q_M0 G d yX12_tells [.ref 43, .int (h1.I (c3 + 4) l1.toNatClampNeg)] h1 (q_ri (fun r6 h5 => (¬ r6 = 0 → (q_M0 G d yX12_begins [.ref 43] h5 (q_ri (fun r8 h7 => (¬ r8 = 0 → (∃ c9, h7.R 43 21 = some c9 ∧ q_prg c9 ∧ (vp_in l1 2000 ∧ (q_M0 G d yX12_goesOne [.ref 43, .int (h7.I (c9 + 6) l1.toNatClampNeg)] h7 (q_ri (fun r12 h11 => (¬ r12 = 1 → ((r12 = 3 → (Q (.inl (some (.int r12))) h11)) ∧ (¬ r12 = 3 → ((¬ r12 = 4 → (q_N0 G m_X12_goesWhile (d + 1) Q 0 [.ref 43, .int l1, .null] [] h11)) ∧ (r12 = 4 → (Q (.inl (some (.int r12))) h11)))))) ∧ (r12 = 1 → (q_M0 G d yX12_begins [.ref 43] h11 (q_ri (fun r14 h13 => Q (.inl (some (.int (if r14 = 0 then (4 : Int32) else 0)))) h13) (fun E h => Q (.inr E) h))))) (fun E h => Q (.inr E) h)))))) ∧ (r8 = 0 → (Q (.inl (some (.int 4))) h7))) (fun E h => Q (.inr E) h)))) ∧ (r6 = 0 → (q_M0 G d yX12_begins [.ref 43] h5 (q_ri (fun r17 h16 => Q (.inl (some (.int (if r17 = 0 then (4 : Int32) else 0)))) h16) (fun E h => Q (.inr E) h))))) (fun E h => Q (.inr E) h)))))) ∧ (r2 = 0 → (Q (.inl (some (.int 4))) h1))) (fun E h => Q (.inr E) h))) : q_N0 G m_X12_goesWhile (d + 1) Q 0 [.ref 43, .int l1, .null] [] h := by
  refine q_aload_n (i := 0) dX12_goesWhile_0 rfl rfl ?_
  refine q_callVi (ci := 13) (o := 43) (As := []) (st := []) cv_X12_405 ⟨_, _, rfl⟩ (by decide) rfl rfl (Nat.le_refl _) (Nat.le_of_ble_eq_true rfl) (by decide) dX12_goesWhile_1 rfl hF (fun r2 h1 hF => ?_)
  refine q_if_ne (tgt := 9) dX12_goesWhile_4 (by decide) (fun hb => ?_) (fun hb => ?_)
  · have hF := hF.1 hb
    refine q_aload_n (i := 0) dX12_goesWhile_9 rfl rfl ?_
    refine q_aload_n (i := 0) dX12_goesWhile_10 rfl rfl ?_
    obtain ⟨c3, hrc3, hc3, hF⟩ := hF
    refine q_getR (k := c3) 13 21 fl_X12_46 (by decide) rfl rfl hrc3 dX12_goesWhile_11 ?_
    refine q_getP 12 11 (c3 + 4) fl_X12_264 (q_prg_n hc3 0) (q_prg_K hc3) rfl (q_prg_P hc3 11) dX12_goesWhile_14 ?_
    refine q_iload_n (i := 1) dX12_goesWhile_17 rfl rfl ?_
    obtain ⟨hi4, hF⟩ := hF
    refine q_ialoadv (v := h1.I (c3 + 4) l1.toNatClampNeg) (n := 2000) (q_prg_n hc3 4) (q_prg_A hc3 11) hi4 (rfl) dX12_goesWhile_18 ?_
    refine q_callVi (ci := 13) (o := 43) (As := [.int (h1.I (c3 + 4) l1.toNatClampNeg)]) (st := []) cv_X12_384 ⟨_, _, rfl⟩ (by decide) rfl rfl (Nat.le_refl _) (Nat.le_of_ble_eq_true rfl) (by decide) dX12_goesWhile_19 rfl hF (fun r6 h5 hF => ?_)
    refine q_if_ne (tgt := 38) dX12_goesWhile_22 (by decide) (fun hb => ?_) (fun hb => ?_)
    · have hF := hF.1 hb
      refine q_aload_n (i := 0) dX12_goesWhile_38 rfl rfl ?_
      refine q_callVi (ci := 13) (o := 43) (As := []) (st := []) cv_X12_405 ⟨_, _, rfl⟩ (by decide) rfl rfl (Nat.le_refl _) (Nat.le_of_ble_eq_true rfl) (by decide) dX12_goesWhile_39 rfl hF (fun r8 h7 hF => ?_)
      refine q_if_ne (tgt := 47) dX12_goesWhile_42 (by decide) (fun hb => ?_) (fun hb => ?_)
      · have hF := hF.1 hb
        refine q_aload_n (i := 0) dX12_goesWhile_47 rfl rfl ?_
        refine q_aload_n (i := 0) dX12_goesWhile_48 rfl rfl ?_
        obtain ⟨c9, hrc9, hc9, hF⟩ := hF
        refine q_getR (k := c9) 13 21 fl_X12_46 (by decide) rfl rfl hrc9 dX12_goesWhile_49 ?_
        refine q_getP 12 13 (c9 + 6) fl_X12_255 (q_prg_n hc9 0) (q_prg_K hc9) rfl (q_prg_P hc9 13) dX12_goesWhile_52 ?_
        refine q_iload_n (i := 1) dX12_goesWhile_55 rfl rfl ?_
        obtain ⟨hi10, hF⟩ := hF
        refine q_ialoadv (v := h7.I (c9 + 6) l1.toNatClampNeg) (n := 2000) (q_prg_n hc9 6) (q_prg_A hc9 13) hi10 (rfl) dX12_goesWhile_56 ?_
        refine q_callVi (ci := 13) (o := 43) (As := [.int (h7.I (c9 + 6) l1.toNatClampNeg)]) (st := []) cv_X12_381 ⟨_, _, rfl⟩ (by decide) rfl rfl (Nat.le_refl _) (Nat.le_of_ble_eq_true rfl) (by decide) dX12_goesWhile_57 rfl hF (fun r12 h11 hF => ?_)
        refine q_istore_n (i := 2) dX12_goesWhile_60 rfl (by decide) rfl ?_
        refine q_iload_n (i := 2) dX12_goesWhile_61 rfl rfl ?_
        refine q_iconst (v := 1) dX12_goesWhile_62 (by decide) ?_
        refine q_icmp_ne (tgt := 79) dX12_goesWhile_63 (by decide) (fun hb => ?_) (fun hb => ?_)
        · have hF := hF.1 hb
          refine q_iload_n (i := 2) dX12_goesWhile_79 rfl rfl ?_
          refine q_iconst (v := 3) dX12_goesWhile_80 (by decide) ?_
          refine q_icmp_eq (tgt := 89) dX12_goesWhile_81 (by decide) (fun hb => ?_) (fun hb => ?_)
          · have hF := hF.1 hb
            refine q_iload_n (i := 2) dX12_goesWhile_89 rfl rfl ?_
            exact q_iret rfl (by decide) (by decide) dX12_goesWhile_90 hF
          · have hF := hF.2 hb
            refine q_iload_n (i := 2) dX12_goesWhile_84 rfl rfl ?_
            refine q_iconst (v := 4) dX12_goesWhile_85 (by decide) ?_
            refine q_icmp_ne (tgt := 91) dX12_goesWhile_86 (by decide) (fun hb => ?_) (fun hb => ?_)
            · have hF := hF.1 hb
              refine q_goto (tgt := 0) dX12_goesWhile_91 (by decide) ?_
              show q_N0 G m_X12_goesWhile (d + 1) Q 0 [.ref 43, .int l1, .int r12] [] h11
              exact q_fgt (l' := [.ref 43, .int l1, .null]) (And.intro (Or.inr rfl) ( And.intro (Or.inr rfl) ( And.intro (Or.inl rfl) (trivial)))) hF
            · have hF := hF.2 hb
              refine q_iload_n (i := 2) dX12_goesWhile_89 rfl rfl ?_
              exact q_iret rfl (by decide) (by decide) dX12_goesWhile_90 hF
        · have hF := hF.2 hb
          refine q_aload_n (i := 0) dX12_goesWhile_66 rfl rfl ?_
          refine q_callVi (ci := 13) (o := 43) (As := []) (st := []) cv_X12_405 ⟨_, _, rfl⟩ (by decide) rfl rfl (Nat.le_refl _) (Nat.le_of_ble_eq_true rfl) (by decide) dX12_goesWhile_67 rfl hF (fun r14 h13 hF => ?_)
          have K15 := q_ite (c := r14 = 0) (X := fun v => q_N0 G m_X12_goesWhile (d + 1) Q 78 [.ref 43, .int l1, .int r12] (.int v :: []) h13) (a := 4) (b := 0) (by
            exact q_iret rfl (by decide) (by decide) dX12_goesWhile_78 hF)
          refine q_if_eq (tgt := 77) dX12_goesWhile_70 (by decide) (fun hb => ?_) (fun hb => ?_)
          · refine q_iconst (v := 4) dX12_goesWhile_77 (by decide) ?_
            exact K15.1 hb
          · refine q_iconst (v := 0) dX12_goesWhile_73 (by decide) ?_
            refine q_goto (tgt := 78) dX12_goesWhile_74 (by decide) ?_
            exact K15.2 hb
      · have hF := hF.2 hb
        refine q_iconst (v := 4) dX12_goesWhile_45 (by decide) ?_
        exact q_iret rfl (by decide) (by decide) dX12_goesWhile_46 hF
    · have hF := hF.2 hb
      refine q_aload_n (i := 0) dX12_goesWhile_25 rfl rfl ?_
      refine q_callVi (ci := 13) (o := 43) (As := []) (st := []) cv_X12_405 ⟨_, _, rfl⟩ (by decide) rfl rfl (Nat.le_refl _) (Nat.le_of_ble_eq_true rfl) (by decide) dX12_goesWhile_26 rfl hF (fun r17 h16 hF => ?_)
      have K18 := q_ite (c := r17 = 0) (X := fun v => q_N0 G m_X12_goesWhile (d + 1) Q 37 [.ref 43, .int l1, .null] (.int v :: []) h16) (a := 4) (b := 0) (by
        exact q_iret rfl (by decide) (by decide) dX12_goesWhile_37 hF)
      refine q_if_eq (tgt := 36) dX12_goesWhile_29 (by decide) (fun hb => ?_) (fun hb => ?_)
      · refine q_iconst (v := 4) dX12_goesWhile_36 (by decide) ?_
        exact K18.1 hb
      · refine q_iconst (v := 0) dX12_goesWhile_32 (by decide) ?_
        refine q_goto (tgt := 37) dX12_goesWhile_33 (by decide) ?_
        exact K18.2 hb
  · have hF := hF.2 hb
    refine q_iconst (v := 4) dX12_goesWhile_7 (by decide) ?_
    exact q_iret rfl (by decide) (by decide) dX12_goesWhile_8 hF
def m_X12_run : qm := (RX12, cX12_run, 3, (some .int), [], false)
set_option maxRecDepth 100000 in
set_option maxHeartbeats 4000000 in
theorem x_X12_run (G : qG) (d : Nat) (x1 : Int32) (h : qh) (Q : qr → qh → Prop)  (hF : ((h.I 43 23) = 0 → (Q (.inl (some (.int (-1)))) (h.sI 43 0 0))) ∧ (¬ (h.I 43 23) = 0 → ((x1 < 1 → (Q (.inl (some (.int (-1)))) (h.sI 43 0 0))) ∧ (¬ x1 < 1 → ((x1 ≤ 3000 → (q_N0 G m_X12_run (d + 1) Q 58 [.ref 43, .int x1, .int 0] [] (((((((h.sI 43 0 0).sI 43 31 1).sI 43 35 x1).sI 43 34 0).sI 43 36 0).sI 43 37 0).sI 43 33 0))) ∧ (¬ x1 ≤ 3000 → (Q (.inl (some (.int (-1)))) (h.sI 43 0 0)))))))) : q_M0 G (d + 1) yX12_run [.ref 43, .int x1] h Q := by
  refine q_of (M := m_X12_run) (by decide +kernel) rfl rfl cd_X12_run (by decide) (Nat.le_of_ble_eq_true rfl) ?_
  show q_N0 G m_X12_run (d + 1) Q 0 [.ref 43, .int x1, .null] [] h
  refine q_aload_n (i := 0) dX12_run_0 rfl rfl ?_
  refine q_iconst (v := 0) dX12_run_1 (by decide) ?_
  refine q_putI 13 0 fp_X12_83 (Or.inr ⟨_, _, _, rfl, rfl⟩) (by decide) rfl rfl dX12_run_2 ?_
  refine q_aload_n (i := 0) dX12_run_5 rfl rfl ?_
  refine q_getIv (v := h.I 43 23) 13 23 fl_X12_336 (by decide) rfl rfl ((q_I_nek (by decide)).trans (rfl)) dX12_run_6 ?_
  refine q_if_eq (tgt := 24) dX12_run_9 (by decide) (fun hb => ?_) (fun hb => ?_)
  · have hF := hF.1 hb
    refine q_iconst (v := (-1)) dX12_run_24 (by decide) ?_
    exact q_iret rfl (by decide) (by decide) dX12_run_25 hF
  · have hF := hF.2 hb
    refine q_iload_n (i := 1) dX12_run_12 rfl rfl ?_
    refine q_iconst (v := 1) dX12_run_13 (by decide) ?_
    refine q_icmp_lt (tgt := 24) dX12_run_14 (by decide) (fun hb => ?_) (fun hb => ?_)
    · have hF := hF.1 hb
      refine q_iconst (v := (-1)) dX12_run_24 (by decide) ?_
      exact q_iret rfl (by decide) (by decide) dX12_run_25 hF
    · have hF := hF.2 hb
      refine q_iload_n (i := 1) dX12_run_17 rfl rfl ?_
      refine q_sipush (v := 3000) dX12_run_18 (by decide) ?_
      refine q_icmp_le (tgt := 26) dX12_run_21 (by decide) (fun hb => ?_) (fun hb => ?_)
      · have hF := hF.1 hb
        refine q_aload_n (i := 0) dX12_run_26 rfl rfl ?_
        refine q_iconst (v := 1) dX12_run_27 (by decide) ?_
        refine q_putZ 13 31 fp_X12_340 (Or.inr ⟨_, _, _, rfl, rfl⟩) (by decide) rfl rfl (by decide) dX12_run_28 ?_
        refine q_aload_n (i := 0) dX12_run_31 rfl rfl ?_
        refine q_iload_n (i := 1) dX12_run_32 rfl rfl ?_
        refine q_putI 13 35 fp_X12_378 (Or.inr ⟨_, _, _, rfl, rfl⟩) (by decide) rfl rfl dX12_run_33 ?_
        refine q_aload_n (i := 0) dX12_run_36 rfl rfl ?_
        refine q_iconst (v := 0) dX12_run_37 (by decide) ?_
        refine q_putI 13 34 fp_X12_375 (Or.inr ⟨_, _, _, rfl, rfl⟩) (by decide) rfl rfl dX12_run_38 ?_
        refine q_aload_n (i := 0) dX12_run_41 rfl rfl ?_
        refine q_iconst (v := 0) dX12_run_42 (by decide) ?_
        refine q_putI 13 36 fp_X12_368 (Or.inr ⟨_, _, _, rfl, rfl⟩) (by decide) rfl rfl dX12_run_43 ?_
        refine q_aload_n (i := 0) dX12_run_46 rfl rfl ?_
        refine q_iconst (v := 0) dX12_run_47 (by decide) ?_
        refine q_putI 13 37 fp_X12_402 (Or.inr ⟨_, _, _, rfl, rfl⟩) (by decide) rfl rfl dX12_run_48 ?_
        refine q_aload_n (i := 0) dX12_run_51 rfl rfl ?_
        refine q_iconst (v := 0) dX12_run_52 (by decide) ?_
        refine q_putI 13 33 fp_X12_396 (Or.inr ⟨_, _, _, rfl, rfl⟩) (by decide) rfl rfl dX12_run_53 ?_
        refine q_iconst (v := 0) dX12_run_56 (by decide) ?_
        refine q_istore_n (i := 2) dX12_run_57 rfl (by decide) rfl ?_
        exact hF
      · have hF := hF.2 hb
        refine q_iconst (v := (-1)) dX12_run_24 (by decide) ?_
        exact q_iret rfl (by decide) (by decide) dX12_run_25 hF
set_option maxRecDepth 100000 in
set_option maxHeartbeats 4000000 in
theorem x_X12_run_58 (G : qG) (d : Nat) (l1 : Int32) (l2 : Int32) (h : qh) (Q : qr → qh → Prop)  (hF : ∃ c1, h.R 43 21 = some c1 ∧ q_prg c1 ∧ (((h.I c1 1) ≤ l2 → (q_M0 G d yX12_begins [.ref 43] h (q_ri (fun r3 h2 => ∃ c4, h2.R 43 21 = some c4 ∧ q_prg c4 ∧ (q_M0 G d yX12_goes [.ref 43, .int (h2.I c4 7)] h2 (q_ri (fun r6 h5 => (¬ (if r6 = 4 then (1 : Int32) else 0) = 1 → (Q (.inl (some (.int (if r6 = 4 then (1 : Int32) else 0)))) (h5.sI 43 32 (if r6 = 4 then (1 : Int32) else 0)))) ∧ ((if r6 = 4 then (1 : Int32) else 0) = 1 → (Q (.inl (some (.int (if r6 = 4 then (1 : Int32) else 0)))) ((h5.sI 43 32 (if r6 = 4 then (1 : Int32) else 0)).sI 43 33 0)))) (fun E h => Q (.inr E) h)))) (fun E h => Q (.inr E) h)))) ∧ (¬ (h.I c1 1) ≤ l2 → (vp_in l2 4 ∧ (vp_in l2 2016 ∧ (q_N0 G m_X12_run (d + 1) Q 58 [.ref 43, .int l1, .int (l2 + 1)] [] (h.sI 78 l2.toNatClampNeg (h.I 77 l2.toNatClampNeg)))))))) : q_N0 G m_X12_run (d + 1) Q 58 [.ref 43, .int l1, .int l2] [] h := by
  refine q_iload_n (i := 2) dX12_run_58 rfl rfl ?_
  refine q_aload_n (i := 0) dX12_run_59 rfl rfl ?_
  obtain ⟨c1, hrc1, hc1, hF⟩ := hF
  refine q_getR (k := c1) 13 21 fl_X12_46 (by decide) rfl rfl hrc1 dX12_run_60 ?_
  refine q_getIv (v := h.I c1 1) 12 1 fl_X12_231 (q_prg_n hc1 0) (q_prg_K hc1) rfl (rfl) dX12_run_63 ?_
  refine q_icmp_ge (tgt := 87) dX12_run_66 (by decide) (fun hb => ?_) (fun hb => ?_)
  · have hF := hF.1 hb
    refine q_aload_n (i := 0) dX12_run_87 rfl rfl ?_
    refine q_callVi (ci := 13) (o := 43) (As := []) (st := []) cv_X12_405 ⟨_, _, rfl⟩ (by decide) rfl rfl (Nat.le_refl _) (Nat.le_of_ble_eq_true rfl) (by decide) dX12_run_88 rfl hF (fun r3 h2 hF => ?_)
    refine q_pop dX12_run_91 rfl ?_
    refine q_aload_n (i := 0) dX12_run_92 rfl rfl ?_
    refine q_aload_n (i := 0) dX12_run_93 rfl rfl ?_
    refine q_aload_n (i := 0) dX12_run_94 rfl rfl ?_
    obtain ⟨c4, hrc4, hc4, hF⟩ := hF
    refine q_getR (k := c4) 13 21 fl_X12_46 (by decide) rfl rfl hrc4 dX12_run_95 ?_
    refine q_getIv (v := h2.I c4 7) 12 7 fl_X12_222 (q_prg_n hc4 0) (q_prg_K hc4) rfl (rfl) dX12_run_98 ?_
    refine q_callVi (ci := 13) (o := 43) (As := [.int (h2.I c4 7)]) (st := [.ref 43]) cv_X12_399 ⟨_, _, rfl⟩ (by decide) rfl rfl (Nat.le_refl _) (Nat.le_of_ble_eq_true rfl) (by decide) dX12_run_101 rfl hF (fun r6 h5 hF => ?_)
    refine q_iconst (v := 4) dX12_run_104 (by decide) ?_
    have K7 := q_ite (c := r6 = 4) (X := fun v => q_N0 G m_X12_run (d + 1) Q 113 [.ref 43, .int l1, .int l2] (.int v :: [.ref 43]) h5) (a := 1) (b := 0) (by
      refine q_putI 13 32 fp_X12_409 (Or.inr ⟨_, _, _, rfl, rfl⟩) (by decide) rfl rfl dX12_run_113 ?_
      refine q_aload_n (i := 0) dX12_run_116 rfl rfl ?_
      refine q_getIv (v := if r6 = 4 then (1 : Int32) else 0) 13 32 fl_X12_409 (by decide) rfl rfl (q_I_same _ _ _ _) dX12_run_117 ?_
      refine q_iconst (v := 1) dX12_run_120 (by decide) ?_
      refine q_icmp_ne (tgt := 129) dX12_run_121 (by decide) (fun hb => ?_) (fun hb => ?_)
      · have hF := hF.1 hb
        refine q_aload_n (i := 0) dX12_run_129 rfl rfl ?_
        refine q_getIv (v := if r6 = 4 then (1 : Int32) else 0) 13 32 fl_X12_409 (by decide) rfl rfl (q_I_same _ _ _ _) dX12_run_130 ?_
        exact q_iret rfl (by decide) (by decide) dX12_run_133 hF
      · have hF := hF.2 hb
        refine q_aload_n (i := 0) dX12_run_124 rfl rfl ?_
        refine q_iconst (v := 0) dX12_run_125 (by decide) ?_
        refine q_putI 13 33 fp_X12_396 (Or.inr ⟨_, _, _, rfl, rfl⟩) (by decide) rfl rfl dX12_run_126 ?_
        refine q_aload_n (i := 0) dX12_run_129 rfl rfl ?_
        refine q_getIv (v := if r6 = 4 then (1 : Int32) else 0) 13 32 fl_X12_409 (by decide) rfl rfl ((q_I_nek (by decide)).trans (q_I_same _ _ _ _)) dX12_run_130 ?_
        exact q_iret rfl (by decide) (by decide) dX12_run_133 hF)
    refine q_icmp_ne (tgt := 112) dX12_run_105 (by decide) (fun hb => ?_) (fun hb => ?_)
    · refine q_iconst (v := 0) dX12_run_112 (by decide) ?_
      exact K7.2 hb
    · refine q_iconst (v := 1) dX12_run_108 (by decide) ?_
      refine q_goto (tgt := 113) dX12_run_109 (by decide) ?_
      exact K7.1 hb
  · have hF := hF.2 hb
    refine q_aload_n (i := 0) dX12_run_69 rfl rfl ?_
    refine q_getP 13 30 78 fl_X12_68 (by decide) rfl rfl rfl dX12_run_70 ?_
    refine q_iload_n (i := 2) dX12_run_73 rfl rfl ?_
    refine q_aload_n (i := 0) dX12_run_74 rfl rfl ?_
    refine q_getP 13 29 77 fl_X12_65 (by decide) rfl rfl rfl dX12_run_75 ?_
    refine q_iload_n (i := 2) dX12_run_78 rfl rfl ?_
    obtain ⟨hi8, hF⟩ := hF
    refine q_ialoadv (v := h.I 77 l2.toNatClampNeg) (n := 4) (by decide) rfl hi8 (rfl) dX12_run_79 ?_
    obtain ⟨hi9, hF⟩ := hF
    refine q_iastore (n := 2016) (by decide) rfl hi9 dX12_run_80 ?_
    refine q_iinc (v := l2 + 1) dX12_run_81 rfl rfl (by decide) rfl ?_
    refine q_goto (tgt := 58) dX12_run_84 (by decide) ?_
    exact hF
def m_X12_told_ : qm := (RX12, cX12_told_, 2, (some .int), [], false)
set_option maxRecDepth 100000 in
set_option maxHeartbeats 4000000 in
theorem x_X12_told_ (G : qG) (d : Nat) (x1 : Int32) (h : qh) (Q : qr → qh → Prop)  (hF : (x1 = 0 → (((h.I 43 31) = 0 → (Q (.inl (some (.int (-1)))) (h.sI 43 0 0))) ∧ (¬ (h.I 43 31) = 0 → (Q (.inl (some (.int (h.I 43 32)))) (h.sI 43 0 0))))) ∧ (x1 = 1 → (((h.I 43 31) = 0 → (Q (.inl (some (.int 0))) (h.sI 43 0 0))) ∧ (¬ (h.I 43 31) = 0 → (Q (.inl (some (.int (h.I 43 33)))) (h.sI 43 0 0))))) ∧ (x1 = 2 → (((h.I 43 31) = 0 → (Q (.inl (some (.int 0))) (h.sI 43 0 0))) ∧ (¬ (h.I 43 31) = 0 → (Q (.inl (some (.int (h.I 43 34)))) (h.sI 43 0 0))))) ∧ (x1 = 3 → (((h.I 43 31) = 0 → (Q (.inl (some (.int 0))) (h.sI 43 0 0))) ∧ (¬ (h.I 43 31) = 0 → (Q (.inl (some (.int (h.I 43 36)))) (h.sI 43 0 0))))) ∧ (x1 = 4 → (((h.I 43 31) = 0 → (Q (.inl (some (.int 0))) (h.sI 43 0 0))) ∧ (¬ (h.I 43 31) = 0 → (Q (.inl (some (.int (h.I 43 37)))) (h.sI 43 0 0))))) ∧ (x1 = 5 → (((h.I 43 31) = 0 → (Q (.inl (some (.int 0))) (h.sI 43 0 0))) ∧ (¬ (h.I 43 31) = 0 → (Q (.inl (some (.int (if (h.I 43 32) = 0 then (1 : Int32) else 0)))) (h.sI 43 0 0))))) ∧ (¬ x1 = 0 ∧ ¬ x1 = 1 ∧ ¬ x1 = 2 ∧ ¬ x1 = 3 ∧ ¬ x1 = 4 ∧ ¬ x1 = 5 → (Q (.inl (some (.int (-1)))) (h.sI 43 0 0)))) : q_M0 G (d + 1) yX12_told_ [.ref 43, .int x1] h Q := by
  refine q_of (M := m_X12_told_) (by decide +kernel) rfl rfl cd_X12_told_ (by decide) (Nat.le_of_ble_eq_true rfl) ?_
  show q_N0 G m_X12_told_ (d + 1) Q 0 [.ref 43, .int x1] [] h
  refine q_aload_n (i := 0) dX12_told__0 rfl rfl ?_
  refine q_iconst (v := 0) dX12_told__1 (by decide) ?_
  refine q_putI 13 0 fp_X12_83 (Or.inr ⟨_, _, _, rfl, rfl⟩) (by decide) rfl rfl dX12_told__2 ?_
  refine q_iload_n (i := 1) dX12_told__5 rfl rfl ?_
  refine q_by (x1 = 0) (fun hs1_0 => ?_) (fun hs1_0 => ?_)
  · have hF := hF.1 hs1_0
    refine q_tableIn (tgt := 44) dX12_told__6 (by rw [hs1_0]; decide) (by rw [hs1_0]; decide) (by first | (rw [hs1_0]; done) | (rw [hs1_0]; rfl)) (by decide) ?_
    refine q_aload_n (i := 0) dX12_told__44 rfl rfl ?_
    refine q_getIv (v := h.I 43 31) 13 31 fl_X12_340 (by decide) rfl rfl ((q_I_nek (by decide)).trans (rfl)) dX12_told__45 ?_
    refine q_if_eq (tgt := 58) dX12_told__48 (by decide) (fun hb => ?_) (fun hb => ?_)
    · have hF := hF.1 hb
      refine q_iconst (v := (-1)) dX12_told__58 (by decide) ?_
      exact q_iret rfl (by decide) (by decide) dX12_told__59 hF
    · have hF := hF.2 hb
      refine q_aload_n (i := 0) dX12_told__51 rfl rfl ?_
      refine q_getIv (v := h.I 43 32) 13 32 fl_X12_409 (by decide) rfl rfl ((q_I_nek (by decide)).trans (rfl)) dX12_told__52 ?_
      refine q_goto (tgt := 59) dX12_told__55 (by decide) ?_
      exact q_iret rfl (by decide) (by decide) dX12_told__59 hF
  have hF := hF.2
  refine q_by (x1 = 1) (fun hs1_1 => ?_) (fun hs1_1 => ?_)
  · have hF := hF.1 hs1_1
    refine q_tableIn (tgt := 60) dX12_told__6 (by rw [hs1_1]; decide) (by rw [hs1_1]; decide) (by first | (rw [hs1_1]; done) | (rw [hs1_1]; rfl)) (by decide) ?_
    refine q_aload_n (i := 0) dX12_told__60 rfl rfl ?_
    refine q_getIv (v := h.I 43 31) 13 31 fl_X12_340 (by decide) rfl rfl ((q_I_nek (by decide)).trans (rfl)) dX12_told__61 ?_
    refine q_if_eq (tgt := 74) dX12_told__64 (by decide) (fun hb => ?_) (fun hb => ?_)
    · have hF := hF.1 hb
      refine q_iconst (v := 0) dX12_told__74 (by decide) ?_
      exact q_iret rfl (by decide) (by decide) dX12_told__75 hF
    · have hF := hF.2 hb
      refine q_aload_n (i := 0) dX12_told__67 rfl rfl ?_
      refine q_getIv (v := h.I 43 33) 13 33 fl_X12_396 (by decide) rfl rfl ((q_I_nek (by decide)).trans (rfl)) dX12_told__68 ?_
      refine q_goto (tgt := 75) dX12_told__71 (by decide) ?_
      exact q_iret rfl (by decide) (by decide) dX12_told__75 hF
  have hF := hF.2
  refine q_by (x1 = 2) (fun hs1_2 => ?_) (fun hs1_2 => ?_)
  · have hF := hF.1 hs1_2
    refine q_tableIn (tgt := 76) dX12_told__6 (by rw [hs1_2]; decide) (by rw [hs1_2]; decide) (by first | (rw [hs1_2]; done) | (rw [hs1_2]; rfl)) (by decide) ?_
    refine q_aload_n (i := 0) dX12_told__76 rfl rfl ?_
    refine q_getIv (v := h.I 43 31) 13 31 fl_X12_340 (by decide) rfl rfl ((q_I_nek (by decide)).trans (rfl)) dX12_told__77 ?_
    refine q_if_eq (tgt := 90) dX12_told__80 (by decide) (fun hb => ?_) (fun hb => ?_)
    · have hF := hF.1 hb
      refine q_iconst (v := 0) dX12_told__90 (by decide) ?_
      exact q_iret rfl (by decide) (by decide) dX12_told__91 hF
    · have hF := hF.2 hb
      refine q_aload_n (i := 0) dX12_told__83 rfl rfl ?_
      refine q_getIv (v := h.I 43 34) 13 34 fl_X12_375 (by decide) rfl rfl ((q_I_nek (by decide)).trans (rfl)) dX12_told__84 ?_
      refine q_goto (tgt := 91) dX12_told__87 (by decide) ?_
      exact q_iret rfl (by decide) (by decide) dX12_told__91 hF
  have hF := hF.2
  refine q_by (x1 = 3) (fun hs1_3 => ?_) (fun hs1_3 => ?_)
  · have hF := hF.1 hs1_3
    refine q_tableIn (tgt := 92) dX12_told__6 (by rw [hs1_3]; decide) (by rw [hs1_3]; decide) (by first | (rw [hs1_3]; done) | (rw [hs1_3]; rfl)) (by decide) ?_
    refine q_aload_n (i := 0) dX12_told__92 rfl rfl ?_
    refine q_getIv (v := h.I 43 31) 13 31 fl_X12_340 (by decide) rfl rfl ((q_I_nek (by decide)).trans (rfl)) dX12_told__93 ?_
    refine q_if_eq (tgt := 106) dX12_told__96 (by decide) (fun hb => ?_) (fun hb => ?_)
    · have hF := hF.1 hb
      refine q_iconst (v := 0) dX12_told__106 (by decide) ?_
      exact q_iret rfl (by decide) (by decide) dX12_told__107 hF
    · have hF := hF.2 hb
      refine q_aload_n (i := 0) dX12_told__99 rfl rfl ?_
      refine q_getIv (v := h.I 43 36) 13 36 fl_X12_368 (by decide) rfl rfl ((q_I_nek (by decide)).trans (rfl)) dX12_told__100 ?_
      refine q_goto (tgt := 107) dX12_told__103 (by decide) ?_
      exact q_iret rfl (by decide) (by decide) dX12_told__107 hF
  have hF := hF.2
  refine q_by (x1 = 4) (fun hs1_4 => ?_) (fun hs1_4 => ?_)
  · have hF := hF.1 hs1_4
    refine q_tableIn (tgt := 108) dX12_told__6 (by rw [hs1_4]; decide) (by rw [hs1_4]; decide) (by first | (rw [hs1_4]; done) | (rw [hs1_4]; rfl)) (by decide) ?_
    refine q_aload_n (i := 0) dX12_told__108 rfl rfl ?_
    refine q_getIv (v := h.I 43 31) 13 31 fl_X12_340 (by decide) rfl rfl ((q_I_nek (by decide)).trans (rfl)) dX12_told__109 ?_
    refine q_if_eq (tgt := 122) dX12_told__112 (by decide) (fun hb => ?_) (fun hb => ?_)
    · have hF := hF.1 hb
      refine q_iconst (v := 0) dX12_told__122 (by decide) ?_
      exact q_iret rfl (by decide) (by decide) dX12_told__123 hF
    · have hF := hF.2 hb
      refine q_aload_n (i := 0) dX12_told__115 rfl rfl ?_
      refine q_getIv (v := h.I 43 37) 13 37 fl_X12_402 (by decide) rfl rfl ((q_I_nek (by decide)).trans (rfl)) dX12_told__116 ?_
      refine q_goto (tgt := 123) dX12_told__119 (by decide) ?_
      exact q_iret rfl (by decide) (by decide) dX12_told__123 hF
  have hF := hF.2
  refine q_by (x1 = 5) (fun hs1_5 => ?_) (fun hs1_5 => ?_)
  · have hF := hF.1 hs1_5
    refine q_tableIn (tgt := 124) dX12_told__6 (by rw [hs1_5]; decide) (by rw [hs1_5]; decide) (by first | (rw [hs1_5]; done) | (rw [hs1_5]; rfl)) (by decide) ?_
    refine q_aload_n (i := 0) dX12_told__124 rfl rfl ?_
    refine q_getIv (v := h.I 43 31) 13 31 fl_X12_340 (by decide) rfl rfl ((q_I_nek (by decide)).trans (rfl)) dX12_told__125 ?_
    refine q_if_eq (tgt := 142) dX12_told__128 (by decide) (fun hb => ?_) (fun hb => ?_)
    · have hF := hF.1 hb
      refine q_iconst (v := 0) dX12_told__142 (by decide) ?_
      exact q_iret rfl (by decide) (by decide) dX12_told__143 hF
    · have hF := hF.2 hb
      refine q_aload_n (i := 0) dX12_told__131 rfl rfl ?_
      refine q_getIv (v := h.I 43 32) 13 32 fl_X12_409 (by decide) rfl rfl ((q_I_nek (by decide)).trans (rfl)) dX12_told__132 ?_
      have K3 := q_ite (c := (h.I 43 32) = 0) (X := fun v => q_N0 G m_X12_told_ (d + 1) Q 143 [.ref 43, .int x1] (.int v :: []) (h.sI 43 0 0)) (a := 1) (b := 0) (by
        exact q_iret rfl (by decide) (by decide) dX12_told__143 hF)
      refine q_if_ne (tgt := 142) dX12_told__135 (by decide) (fun hb => ?_) (fun hb => ?_)
      · refine q_iconst (v := 0) dX12_told__142 (by decide) ?_
        exact K3.2 hb
      · refine q_iconst (v := 1) dX12_told__138 (by decide) ?_
        refine q_goto (tgt := 143) dX12_told__139 (by decide) ?_
        exact K3.1 hb
  have hF := hF.2
  refine q_tableOut (tgt := 144) dX12_told__6 (by have n0 := lv_neT hs1_0 (a := 0) (by decide); have n1 := lv_neT hs1_1 (a := 1) (by decide); have n2 := lv_neT hs1_2 (a := 2) (by decide); have n3 := lv_neT hs1_3 (a := 3) (by decide); have n4 := lv_neT hs1_4 (a := 4) (by decide); have n5 := lv_neT hs1_5 (a := 5) (by decide); omega) (by decide) ?_
  have hF := hF ⟨hs1_0, hs1_1, hs1_2, hs1_3, hs1_4, hs1_5⟩
  refine q_iconst (v := (-1)) dX12_told__144 (by decide) ?_
  exact q_iret rfl (by decide) (by decide) dX12_told__145 hF
def m_X12_write : qm := (RX12, cX12_write, 3, (some .int), [], false)
set_option maxRecDepth 100000 in
set_option maxHeartbeats 4000000 in
theorem x_X12_write (G : qG) (d : Nat) (x1 : Int32) (x2 : Int32) (h : qh) (Q : qr → qh → Prop)  (hF : ((h.I 43 31) = 0 → (((1 : Int32) ≤ 0 → ((x2 < 0 → (Q (.inl (some (.int (-1)))) (h.sI 43 0 1))) ∧ (¬ x2 < 0 → ((x2 ≤ 2 → (vp_in ((3 * x1) + x2) 600 ∧ (Q (.inl (some (.int (h.I 79 (((3 * x1) + x2).toNatClampNeg))))) (h.sI 43 0 1)))) ∧ (¬ x2 ≤ 2 → (Q (.inl (some (.int (-1)))) (h.sI 43 0 1))))))) ∧ (¬ (1 : Int32) ≤ 0 → (Q (.inl (some (.int 0))) (h.sI 43 0 1))))) ∧ (¬ (h.I 43 31) = 0 → ((x1 < 0 → (((1 : Int32) ≤ 0 → ((x2 < 0 → (Q (.inl (some (.int (-1)))) (h.sI 43 0 1))) ∧ (¬ x2 < 0 → ((x2 ≤ 2 → (vp_in ((3 * x1) + x2) 600 ∧ (Q (.inl (some (.int (h.I 79 (((3 * x1) + x2).toNatClampNeg))))) (h.sI 43 0 1)))) ∧ (¬ x2 ≤ 2 → (Q (.inl (some (.int (-1)))) (h.sI 43 0 1))))))) ∧ (¬ (1 : Int32) ≤ 0 → (Q (.inl (some (.int 0))) (h.sI 43 0 1))))) ∧ (¬ x1 < 0 → (q_M0 G d yJ9_min_7cf53 [.int (h.I 43 37), .int 200] h (q_ri (fun r4 h3 => ((if x1 < r4 then (0 : Int32) else 1) ≤ 0 → ((x2 < 0 → (Q (.inl (some (.int (-1)))) (h3.sI 43 0 (if x1 < r4 then (0 : Int32) else 1)))) ∧ (¬ x2 < 0 → ((x2 ≤ 2 → (vp_in ((3 * x1) + x2) 600 ∧ (Q (.inl (some (.int (h3.I 79 (((3 * x1) + x2).toNatClampNeg))))) (h3.sI 43 0 (if x1 < r4 then (0 : Int32) else 1))))) ∧ (¬ x2 ≤ 2 → (Q (.inl (some (.int (-1)))) (h3.sI 43 0 (if x1 < r4 then (0 : Int32) else 1)))))))) ∧ (¬ (if x1 < r4 then (0 : Int32) else 1) ≤ 0 → (Q (.inl (some (.int 0))) (h3.sI 43 0 (if x1 < r4 then (0 : Int32) else 1))))) (fun E h => Q (.inr E) h))))))) : q_M0 G (d + 1) yX12_write [.ref 43, .int x1, .int x2] h Q := by
  refine q_of (M := m_X12_write) (by decide +kernel) rfl rfl cd_X12_write (by decide) (Nat.le_of_ble_eq_true rfl) ?_
  show q_N0 G m_X12_write (d + 1) Q 0 [.ref 43, .int x1, .int x2] [] h
  refine q_aload_n (i := 0) dX12_write_0 rfl rfl ?_
  refine q_aload_n (i := 0) dX12_write_1 rfl rfl ?_
  refine q_getIv (v := h.I 43 31) 13 31 fl_X12_340 (by decide) rfl rfl (rfl) dX12_write_2 ?_
  refine q_if_eq (tgt := 26) dX12_write_5 (by decide) (fun hb => ?_) (fun hb => ?_)
  · have hF := hF.1 hb
    refine q_iconst (v := 1) dX12_write_26 (by decide) ?_
    refine q_goto (tgt := 31) dX12_write_27 (by decide) ?_
    refine q_putI 13 0 fp_X12_83 (Or.inr ⟨_, _, _, rfl, rfl⟩) (by decide) rfl rfl dX12_write_31 ?_
    refine q_aload_n (i := 0) dX12_write_34 rfl rfl ?_
    refine q_getIv (v := 1) 13 0 fl_X12_83 (by decide) rfl rfl (q_I_same _ _ _ _) dX12_write_35 ?_
    refine q_if_le (tgt := 43) dX12_write_38 (by decide) (fun hb => ?_) (fun hb => ?_)
    · have hF := hF.1 hb
      refine q_iload_n (i := 2) dX12_write_43 rfl rfl ?_
      refine q_if_lt (tgt := 52) dX12_write_44 (by decide) (fun hb => ?_) (fun hb => ?_)
      · have hF := hF.1 hb
        refine q_iconst (v := (-1)) dX12_write_52 (by decide) ?_
        refine q_goto (tgt := 66) dX12_write_53 (by decide) ?_
        exact q_iret rfl (by decide) (by decide) dX12_write_66 hF
      · have hF := hF.2 hb
        refine q_iload_n (i := 2) dX12_write_47 rfl rfl ?_
        refine q_iconst (v := 2) dX12_write_48 (by decide) ?_
        refine q_icmp_le (tgt := 56) dX12_write_49 (by decide) (fun hb => ?_) (fun hb => ?_)
        · have hF := hF.1 hb
          refine q_aload_n (i := 0) dX12_write_56 rfl rfl ?_
          refine q_getP 13 38 79 fl_X12_71 (by decide) rfl rfl rfl dX12_write_57 ?_
          refine q_iconst (v := 3) dX12_write_60 (by decide) ?_
          refine q_iload_n (i := 1) dX12_write_61 rfl rfl ?_
          refine q_imul dX12_write_62 ?_
          refine q_iload_n (i := 2) dX12_write_63 rfl rfl ?_
          refine q_iadd dX12_write_64 ?_
          obtain ⟨hi1, hF⟩ := hF
          refine q_ialoadv (v := h.I 79 (((3 * x1) + x2).toNatClampNeg)) (n := 600) (by decide) rfl hi1 ((q_I_neo (by decide)).trans (rfl)) dX12_write_65 ?_
          exact q_iret rfl (by decide) (by decide) dX12_write_66 hF
        · have hF := hF.2 hb
          refine q_iconst (v := (-1)) dX12_write_52 (by decide) ?_
          refine q_goto (tgt := 66) dX12_write_53 (by decide) ?_
          exact q_iret rfl (by decide) (by decide) dX12_write_66 hF
    · have hF := hF.2 hb
      refine q_iconst (v := 0) dX12_write_41 (by decide) ?_
      exact q_iret rfl (by decide) (by decide) dX12_write_42 hF
  · have hF := hF.2 hb
    refine q_iload_n (i := 1) dX12_write_8 rfl rfl ?_
    refine q_if_lt (tgt := 26) dX12_write_9 (by decide) (fun hb => ?_) (fun hb => ?_)
    · have hF := hF.1 hb
      refine q_iconst (v := 1) dX12_write_26 (by decide) ?_
      refine q_goto (tgt := 31) dX12_write_27 (by decide) ?_
      refine q_putI 13 0 fp_X12_83 (Or.inr ⟨_, _, _, rfl, rfl⟩) (by decide) rfl rfl dX12_write_31 ?_
      refine q_aload_n (i := 0) dX12_write_34 rfl rfl ?_
      refine q_getIv (v := 1) 13 0 fl_X12_83 (by decide) rfl rfl (q_I_same _ _ _ _) dX12_write_35 ?_
      refine q_if_le (tgt := 43) dX12_write_38 (by decide) (fun hb => ?_) (fun hb => ?_)
      · have hF := hF.1 hb
        refine q_iload_n (i := 2) dX12_write_43 rfl rfl ?_
        refine q_if_lt (tgt := 52) dX12_write_44 (by decide) (fun hb => ?_) (fun hb => ?_)
        · have hF := hF.1 hb
          refine q_iconst (v := (-1)) dX12_write_52 (by decide) ?_
          refine q_goto (tgt := 66) dX12_write_53 (by decide) ?_
          exact q_iret rfl (by decide) (by decide) dX12_write_66 hF
        · have hF := hF.2 hb
          refine q_iload_n (i := 2) dX12_write_47 rfl rfl ?_
          refine q_iconst (v := 2) dX12_write_48 (by decide) ?_
          refine q_icmp_le (tgt := 56) dX12_write_49 (by decide) (fun hb => ?_) (fun hb => ?_)
          · have hF := hF.1 hb
            refine q_aload_n (i := 0) dX12_write_56 rfl rfl ?_
            refine q_getP 13 38 79 fl_X12_71 (by decide) rfl rfl rfl dX12_write_57 ?_
            refine q_iconst (v := 3) dX12_write_60 (by decide) ?_
            refine q_iload_n (i := 1) dX12_write_61 rfl rfl ?_
            refine q_imul dX12_write_62 ?_
            refine q_iload_n (i := 2) dX12_write_63 rfl rfl ?_
            refine q_iadd dX12_write_64 ?_
            obtain ⟨hi2, hF⟩ := hF
            refine q_ialoadv (v := h.I 79 (((3 * x1) + x2).toNatClampNeg)) (n := 600) (by decide) rfl hi2 ((q_I_neo (by decide)).trans (rfl)) dX12_write_65 ?_
            exact q_iret rfl (by decide) (by decide) dX12_write_66 hF
          · have hF := hF.2 hb
            refine q_iconst (v := (-1)) dX12_write_52 (by decide) ?_
            refine q_goto (tgt := 66) dX12_write_53 (by decide) ?_
            exact q_iret rfl (by decide) (by decide) dX12_write_66 hF
      · have hF := hF.2 hb
        refine q_iconst (v := 0) dX12_write_41 (by decide) ?_
        exact q_iret rfl (by decide) (by decide) dX12_write_42 hF
    · have hF := hF.2 hb
      refine q_iload_n (i := 1) dX12_write_12 rfl rfl ?_
      refine q_aload_n (i := 0) dX12_write_13 rfl rfl ?_
      refine q_getIv (v := h.I 43 37) 13 37 fl_X12_402 (by decide) rfl rfl (rfl) dX12_write_14 ?_
      refine q_sipush (v := 200) dX12_write_17 (by decide) ?_
      refine q_callSi (As := [.int (h.I 43 37), .int 200]) (st := [.int x1, .ref 43]) cs_X12_412 rfl (Nat.le_refl _) (Nat.le_of_ble_eq_true rfl) (by decide) dX12_write_20 rfl hF (fun r4 h3 hF => ?_)
      have K5 := q_ite (c := x1 < r4) (X := fun v => q_N0 G m_X12_write (d + 1) Q 31 [.ref 43, .int x1, .int x2] (.int v :: [.ref 43]) h3) (a := 0) (b := 1) (by
        refine q_putI 13 0 fp_X12_83 (Or.inr ⟨_, _, _, rfl, rfl⟩) (by decide) rfl rfl dX12_write_31 ?_
        refine q_aload_n (i := 0) dX12_write_34 rfl rfl ?_
        refine q_getIv (v := if x1 < r4 then (0 : Int32) else 1) 13 0 fl_X12_83 (by decide) rfl rfl (q_I_same _ _ _ _) dX12_write_35 ?_
        refine q_if_le (tgt := 43) dX12_write_38 (by decide) (fun hb => ?_) (fun hb => ?_)
        · have hF := hF.1 hb
          refine q_iload_n (i := 2) dX12_write_43 rfl rfl ?_
          refine q_if_lt (tgt := 52) dX12_write_44 (by decide) (fun hb => ?_) (fun hb => ?_)
          · have hF := hF.1 hb
            refine q_iconst (v := (-1)) dX12_write_52 (by decide) ?_
            refine q_goto (tgt := 66) dX12_write_53 (by decide) ?_
            exact q_iret rfl (by decide) (by decide) dX12_write_66 hF
          · have hF := hF.2 hb
            refine q_iload_n (i := 2) dX12_write_47 rfl rfl ?_
            refine q_iconst (v := 2) dX12_write_48 (by decide) ?_
            refine q_icmp_le (tgt := 56) dX12_write_49 (by decide) (fun hb => ?_) (fun hb => ?_)
            · have hF := hF.1 hb
              refine q_aload_n (i := 0) dX12_write_56 rfl rfl ?_
              refine q_getP 13 38 79 fl_X12_71 (by decide) rfl rfl rfl dX12_write_57 ?_
              refine q_iconst (v := 3) dX12_write_60 (by decide) ?_
              refine q_iload_n (i := 1) dX12_write_61 rfl rfl ?_
              refine q_imul dX12_write_62 ?_
              refine q_iload_n (i := 2) dX12_write_63 rfl rfl ?_
              refine q_iadd dX12_write_64 ?_
              obtain ⟨hi6, hF⟩ := hF
              refine q_ialoadv (v := h3.I 79 (((3 * x1) + x2).toNatClampNeg)) (n := 600) (by decide) rfl hi6 ((q_I_neo (by decide)).trans (rfl)) dX12_write_65 ?_
              exact q_iret rfl (by decide) (by decide) dX12_write_66 hF
            · have hF := hF.2 hb
              refine q_iconst (v := (-1)) dX12_write_52 (by decide) ?_
              refine q_goto (tgt := 66) dX12_write_53 (by decide) ?_
              exact q_iret rfl (by decide) (by decide) dX12_write_66 hF
        · have hF := hF.2 hb
          refine q_iconst (v := 0) dX12_write_41 (by decide) ?_
          exact q_iret rfl (by decide) (by decide) dX12_write_42 hF)
      refine q_icmp_lt (tgt := 30) dX12_write_23 (by decide) (fun hb => ?_) (fun hb => ?_)
      · refine q_iconst (v := 0) dX12_write_30 (by decide) ?_
        exact K5.1 hb
      · refine q_iconst (v := 1) dX12_write_26 (by decide) ?_
        refine q_goto (tgt := 31) dX12_write_27 (by decide) ?_
        exact K5.2 hb
def m_X12_count : qm := (RX12, cX12_count, 2, (some .int), [], false)
set_option maxRecDepth 100000 in
set_option maxHeartbeats 4000000 in
theorem x_X12_count (G : qG) (d : Nat) (x1 : Int32) (h : qh) (Q : qr → qh → Prop)  (hF : (x1 = 0 → (Q (.inl (some (.int (h.I 43 2)))) (h.sI 43 0 0))) ∧ (x1 = 1 → (Q (.inl (some (.int (if (h.I 43 23) = 0 then (0 : Int32) else 1)))) (h.sI 43 0 0))) ∧ (x1 = 2 → (((h.I 43 23) = 0 → (Q (.inl (some (.int 0))) (h.sI 43 0 0))) ∧ (¬ (h.I 43 23) = 0 → (∃ c4, h.R 43 21 = some c4 ∧ q_prg c4 ∧ (Q (.inl (some (.int (h.I c4 0)))) (h.sI 43 0 0)))))) ∧ (x1 = 3 → (((h.I 43 23) = 0 → (Q (.inl (some (.int 0))) (h.sI 43 0 0))) ∧ (¬ (h.I 43 23) = 0 → (∃ c5, h.R 43 21 = some c5 ∧ q_prg c5 ∧ (Q (.inl (some (.int (h.I c5 1)))) (h.sI 43 0 0)))))) ∧ (x1 = 4 → (((h.I 43 23) = 0 → (Q (.inl (some (.int 0))) (h.sI 43 0 0))) ∧ (¬ (h.I 43 23) = 0 → (∃ c6, h.R 43 21 = some c6 ∧ q_prg c6 ∧ (Q (.inl (some (.int (h.I c6 2)))) (h.sI 43 0 0)))))) ∧ (x1 = 5 → (((h.I 43 23) = 0 → (Q (.inl (some (.int 0))) (h.sI 43 0 0))) ∧ (¬ (h.I 43 23) = 0 → (∃ c7, h.R 43 21 = some c7 ∧ q_prg c7 ∧ (Q (.inl (some (.int (h.I c7 3)))) (h.sI 43 0 0)))))) ∧ (x1 = 6 → (Q (.inl (some (.int (h.I 43 6)))) (h.sI 43 0 0))) ∧ (x1 = 7 → (Q (.inl (some (.int 0))) (h.sI 43 0 0))) ∧ (x1 = 8 → (Q (.inl (some (.int 0))) (h.sI 43 0 0))) ∧ (x1 = 9 → (Q (.inl (some (.int 0))) (h.sI 43 0 0))) ∧ (x1 = 10 → (Q (.inl (some (.int 0))) (h.sI 43 0 0))) ∧ (¬ x1 = 0 ∧ ¬ x1 = 1 ∧ ¬ x1 = 2 ∧ ¬ x1 = 3 ∧ ¬ x1 = 4 ∧ ¬ x1 = 5 ∧ ¬ x1 = 6 ∧ ¬ x1 = 7 ∧ ¬ x1 = 8 ∧ ¬ x1 = 9 ∧ ¬ x1 = 10 → (Q (.inl (some (.int (-1)))) (h.sI 43 0 0)))) : q_M0 G (d + 1) yX12_count [.ref 43, .int x1] h Q := by
  refine q_of (M := m_X12_count) (by decide +kernel) rfl rfl cd_X12_count (by decide) (Nat.le_of_ble_eq_true rfl) ?_
  show q_N0 G m_X12_count (d + 1) Q 0 [.ref 43, .int x1] [] h
  refine q_aload_n (i := 0) dX12_count_0 rfl rfl ?_
  refine q_iconst (v := 0) dX12_count_1 (by decide) ?_
  refine q_putI 13 0 fp_X12_83 (Or.inr ⟨_, _, _, rfl, rfl⟩) (by decide) rfl rfl dX12_count_2 ?_
  refine q_iload_n (i := 1) dX12_count_5 rfl rfl ?_
  refine q_by (x1 = 0) (fun hs1_0 => ?_) (fun hs1_0 => ?_)
  · have hF := hF.1 hs1_0
    refine q_tableIn (tgt := 64) dX12_count_6 (by rw [hs1_0]; decide) (by rw [hs1_0]; decide) (by first | (rw [hs1_0]; done) | (rw [hs1_0]; rfl)) (by decide) ?_
    refine q_aload_n (i := 0) dX12_count_64 rfl rfl ?_
    refine q_getIv (v := h.I 43 2) 13 2 fl_X12_86 (by decide) rfl rfl ((q_I_nek (by decide)).trans (rfl)) dX12_count_65 ?_
    exact q_iret rfl (by decide) (by decide) dX12_count_68 hF
  have hF := hF.2
  refine q_by (x1 = 1) (fun hs1_1 => ?_) (fun hs1_1 => ?_)
  · have hF := hF.1 hs1_1
    refine q_tableIn (tgt := 69) dX12_count_6 (by rw [hs1_1]; decide) (by rw [hs1_1]; decide) (by first | (rw [hs1_1]; done) | (rw [hs1_1]; rfl)) (by decide) ?_
    refine q_aload_n (i := 0) dX12_count_69 rfl rfl ?_
    refine q_getIv (v := h.I 43 23) 13 23 fl_X12_336 (by decide) rfl rfl ((q_I_nek (by decide)).trans (rfl)) dX12_count_70 ?_
    have K3 := q_ite (c := (h.I 43 23) = 0) (X := fun v => q_N0 G m_X12_count (d + 1) Q 81 [.ref 43, .int x1] (.int v :: []) (h.sI 43 0 0)) (a := 0) (b := 1) (by
      exact q_iret rfl (by decide) (by decide) dX12_count_81 hF)
    refine q_if_eq (tgt := 80) dX12_count_73 (by decide) (fun hb => ?_) (fun hb => ?_)
    · refine q_iconst (v := 0) dX12_count_80 (by decide) ?_
      exact K3.1 hb
    · refine q_iconst (v := 1) dX12_count_76 (by decide) ?_
      refine q_goto (tgt := 81) dX12_count_77 (by decide) ?_
      exact K3.2 hb
  have hF := hF.2
  refine q_by (x1 = 2) (fun hs1_2 => ?_) (fun hs1_2 => ?_)
  · have hF := hF.1 hs1_2
    refine q_tableIn (tgt := 82) dX12_count_6 (by rw [hs1_2]; decide) (by rw [hs1_2]; decide) (by first | (rw [hs1_2]; done) | (rw [hs1_2]; rfl)) (by decide) ?_
    refine q_aload_n (i := 0) dX12_count_82 rfl rfl ?_
    refine q_getIv (v := h.I 43 23) 13 23 fl_X12_336 (by decide) rfl rfl ((q_I_nek (by decide)).trans (rfl)) dX12_count_83 ?_
    refine q_if_eq (tgt := 99) dX12_count_86 (by decide) (fun hb => ?_) (fun hb => ?_)
    · have hF := hF.1 hb
      refine q_iconst (v := 0) dX12_count_99 (by decide) ?_
      exact q_iret rfl (by decide) (by decide) dX12_count_100 hF
    · have hF := hF.2 hb
      refine q_aload_n (i := 0) dX12_count_89 rfl rfl ?_
      obtain ⟨c4, hrc4, hc4, hF⟩ := hF
      refine q_getR (k := c4) 13 21 fl_X12_46 (by decide) rfl rfl hrc4 dX12_count_90 ?_
      refine q_getIv (v := h.I c4 0) 12 0 fl_X12_225 (q_prg_n hc4 0) (q_prg_K hc4) rfl ((q_I_neo (by rcases hc4 with rfl | rfl <;> decide)).trans (rfl)) dX12_count_93 ?_
      refine q_goto (tgt := 100) dX12_count_96 (by decide) ?_
      exact q_iret rfl (by decide) (by decide) dX12_count_100 hF
  have hF := hF.2
  refine q_by (x1 = 3) (fun hs1_3 => ?_) (fun hs1_3 => ?_)
  · have hF := hF.1 hs1_3
    refine q_tableIn (tgt := 101) dX12_count_6 (by rw [hs1_3]; decide) (by rw [hs1_3]; decide) (by first | (rw [hs1_3]; done) | (rw [hs1_3]; rfl)) (by decide) ?_
    refine q_aload_n (i := 0) dX12_count_101 rfl rfl ?_
    refine q_getIv (v := h.I 43 23) 13 23 fl_X12_336 (by decide) rfl rfl ((q_I_nek (by decide)).trans (rfl)) dX12_count_102 ?_
    refine q_if_eq (tgt := 118) dX12_count_105 (by decide) (fun hb => ?_) (fun hb => ?_)
    · have hF := hF.1 hb
      refine q_iconst (v := 0) dX12_count_118 (by decide) ?_
      exact q_iret rfl (by decide) (by decide) dX12_count_119 hF
    · have hF := hF.2 hb
      refine q_aload_n (i := 0) dX12_count_108 rfl rfl ?_
      obtain ⟨c5, hrc5, hc5, hF⟩ := hF
      refine q_getR (k := c5) 13 21 fl_X12_46 (by decide) rfl rfl hrc5 dX12_count_109 ?_
      refine q_getIv (v := h.I c5 1) 12 1 fl_X12_231 (q_prg_n hc5 0) (q_prg_K hc5) rfl ((q_I_neo (by rcases hc5 with rfl | rfl <;> decide)).trans (rfl)) dX12_count_112 ?_
      refine q_goto (tgt := 119) dX12_count_115 (by decide) ?_
      exact q_iret rfl (by decide) (by decide) dX12_count_119 hF
  have hF := hF.2
  refine q_by (x1 = 4) (fun hs1_4 => ?_) (fun hs1_4 => ?_)
  · have hF := hF.1 hs1_4
    refine q_tableIn (tgt := 120) dX12_count_6 (by rw [hs1_4]; decide) (by rw [hs1_4]; decide) (by first | (rw [hs1_4]; done) | (rw [hs1_4]; rfl)) (by decide) ?_
    refine q_aload_n (i := 0) dX12_count_120 rfl rfl ?_
    refine q_getIv (v := h.I 43 23) 13 23 fl_X12_336 (by decide) rfl rfl ((q_I_nek (by decide)).trans (rfl)) dX12_count_121 ?_
    refine q_if_eq (tgt := 137) dX12_count_124 (by decide) (fun hb => ?_) (fun hb => ?_)
    · have hF := hF.1 hb
      refine q_iconst (v := 0) dX12_count_137 (by decide) ?_
      exact q_iret rfl (by decide) (by decide) dX12_count_138 hF
    · have hF := hF.2 hb
      refine q_aload_n (i := 0) dX12_count_127 rfl rfl ?_
      obtain ⟨c6, hrc6, hc6, hF⟩ := hF
      refine q_getR (k := c6) 13 21 fl_X12_46 (by decide) rfl rfl hrc6 dX12_count_128 ?_
      refine q_getIv (v := h.I c6 2) 12 2 fl_X12_237 (q_prg_n hc6 0) (q_prg_K hc6) rfl ((q_I_neo (by rcases hc6 with rfl | rfl <;> decide)).trans (rfl)) dX12_count_131 ?_
      refine q_goto (tgt := 138) dX12_count_134 (by decide) ?_
      exact q_iret rfl (by decide) (by decide) dX12_count_138 hF
  have hF := hF.2
  refine q_by (x1 = 5) (fun hs1_5 => ?_) (fun hs1_5 => ?_)
  · have hF := hF.1 hs1_5
    refine q_tableIn (tgt := 139) dX12_count_6 (by rw [hs1_5]; decide) (by rw [hs1_5]; decide) (by first | (rw [hs1_5]; done) | (rw [hs1_5]; rfl)) (by decide) ?_
    refine q_aload_n (i := 0) dX12_count_139 rfl rfl ?_
    refine q_getIv (v := h.I 43 23) 13 23 fl_X12_336 (by decide) rfl rfl ((q_I_nek (by decide)).trans (rfl)) dX12_count_140 ?_
    refine q_if_eq (tgt := 156) dX12_count_143 (by decide) (fun hb => ?_) (fun hb => ?_)
    · have hF := hF.1 hb
      refine q_iconst (v := 0) dX12_count_156 (by decide) ?_
      exact q_iret rfl (by decide) (by decide) dX12_count_157 hF
    · have hF := hF.2 hb
      refine q_aload_n (i := 0) dX12_count_146 rfl rfl ?_
      obtain ⟨c7, hrc7, hc7, hF⟩ := hF
      refine q_getR (k := c7) 13 21 fl_X12_46 (by decide) rfl rfl hrc7 dX12_count_147 ?_
      refine q_getIv (v := h.I c7 3) 12 3 fl_X12_289 (q_prg_n hc7 0) (q_prg_K hc7) rfl ((q_I_neo (by rcases hc7 with rfl | rfl <;> decide)).trans (rfl)) dX12_count_150 ?_
      refine q_goto (tgt := 157) dX12_count_153 (by decide) ?_
      exact q_iret rfl (by decide) (by decide) dX12_count_157 hF
  have hF := hF.2
  refine q_by (x1 = 6) (fun hs1_6 => ?_) (fun hs1_6 => ?_)
  · have hF := hF.1 hs1_6
    refine q_tableIn (tgt := 158) dX12_count_6 (by rw [hs1_6]; decide) (by rw [hs1_6]; decide) (by first | (rw [hs1_6]; done) | (rw [hs1_6]; rfl)) (by decide) ?_
    refine q_aload_n (i := 0) dX12_count_158 rfl rfl ?_
    refine q_getIv (v := h.I 43 6) 13 6 fl_X12_346 (by decide) rfl rfl ((q_I_nek (by decide)).trans (rfl)) dX12_count_159 ?_
    exact q_iret rfl (by decide) (by decide) dX12_count_162 hF
  have hF := hF.2
  refine q_by (x1 = 7) (fun hs1_7 => ?_) (fun hs1_7 => ?_)
  · have hF := hF.1 hs1_7
    refine q_tableIn (tgt := 163) dX12_count_6 (by rw [hs1_7]; decide) (by rw [hs1_7]; decide) (by first | (rw [hs1_7]; done) | (rw [hs1_7]; rfl)) (by decide) ?_
    refine q_iconst (v := 0) dX12_count_163 (by decide) ?_
    exact q_iret rfl (by decide) (by decide) dX12_count_164 hF
  have hF := hF.2
  refine q_by (x1 = 8) (fun hs1_8 => ?_) (fun hs1_8 => ?_)
  · have hF := hF.1 hs1_8
    refine q_tableIn (tgt := 163) dX12_count_6 (by rw [hs1_8]; decide) (by rw [hs1_8]; decide) (by first | (rw [hs1_8]; done) | (rw [hs1_8]; rfl)) (by decide) ?_
    refine q_iconst (v := 0) dX12_count_163 (by decide) ?_
    exact q_iret rfl (by decide) (by decide) dX12_count_164 hF
  have hF := hF.2
  refine q_by (x1 = 9) (fun hs1_9 => ?_) (fun hs1_9 => ?_)
  · have hF := hF.1 hs1_9
    refine q_tableIn (tgt := 163) dX12_count_6 (by rw [hs1_9]; decide) (by rw [hs1_9]; decide) (by first | (rw [hs1_9]; done) | (rw [hs1_9]; rfl)) (by decide) ?_
    refine q_iconst (v := 0) dX12_count_163 (by decide) ?_
    exact q_iret rfl (by decide) (by decide) dX12_count_164 hF
  have hF := hF.2
  refine q_by (x1 = 10) (fun hs1_10 => ?_) (fun hs1_10 => ?_)
  · have hF := hF.1 hs1_10
    refine q_tableIn (tgt := 163) dX12_count_6 (by rw [hs1_10]; decide) (by rw [hs1_10]; decide) (by first | (rw [hs1_10]; done) | (rw [hs1_10]; rfl)) (by decide) ?_
    refine q_iconst (v := 0) dX12_count_163 (by decide) ?_
    exact q_iret rfl (by decide) (by decide) dX12_count_164 hF
  have hF := hF.2
  refine q_tableOut (tgt := 165) dX12_count_6 (by have n0 := lv_neT hs1_0 (a := 0) (by decide); have n1 := lv_neT hs1_1 (a := 1) (by decide); have n2 := lv_neT hs1_2 (a := 2) (by decide); have n3 := lv_neT hs1_3 (a := 3) (by decide); have n4 := lv_neT hs1_4 (a := 4) (by decide); have n5 := lv_neT hs1_5 (a := 5) (by decide); have n6 := lv_neT hs1_6 (a := 6) (by decide); have n7 := lv_neT hs1_7 (a := 7) (by decide); have n8 := lv_neT hs1_8 (a := 8) (by decide); have n9 := lv_neT hs1_9 (a := 9) (by decide); have n10 := lv_neT hs1_10 (a := 10) (by decide); omega) (by decide) ?_
  have hF := hF ⟨hs1_0, hs1_1, hs1_2, hs1_3, hs1_4, hs1_5, hs1_6, hs1_7, hs1_8, hs1_9, hs1_10⟩
  refine q_iconst (v := (-1)) dX12_count_165 (by decide) ?_
  exact q_iret rfl (by decide) (by decide) dX12_count_166 hF
def m_X12_size : qm := (RX12, cX12_size, 2, (some .int), [], false)
set_option maxRecDepth 100000 in
set_option maxHeartbeats 4000000 in
theorem x_X12_size (G : qG) (d : Nat) (x1 : Int32) (h : qh) (Q : qr → qh → Prop)  (hF : ((h.I 43 23) = 0 → (Q (.inl (some (.int (-1)))) (h.sI 43 0 0))) ∧ (¬ (h.I 43 23) = 0 → ((x1 < 0 → (Q (.inl (some (.int (-1)))) (h.sI 43 0 0))) ∧ (¬ x1 < 0 → (∃ c1, h.R 43 21 = some c1 ∧ q_prg c1 ∧ ((x1 < (h.I c1 0) → (vp_in x1 8 ∧ (Q (.inl (some (.int (h.I (c1 + 1) x1.toNatClampNeg)))) (h.sI 43 0 0)))) ∧ (¬ x1 < (h.I c1 0) → (Q (.inl (some (.int (-1)))) (h.sI 43 0 0))))))))) : q_M0 G (d + 1) yX12_size [.ref 43, .int x1] h Q := by
  refine q_of (M := m_X12_size) (by decide +kernel) rfl rfl cd_X12_size (by decide) (Nat.le_of_ble_eq_true rfl) ?_
  show q_N0 G m_X12_size (d + 1) Q 0 [.ref 43, .int x1] [] h
  refine q_aload_n (i := 0) dX12_size_0 rfl rfl ?_
  refine q_iconst (v := 0) dX12_size_1 (by decide) ?_
  refine q_putI 13 0 fp_X12_83 (Or.inr ⟨_, _, _, rfl, rfl⟩) (by decide) rfl rfl dX12_size_2 ?_
  refine q_aload_n (i := 0) dX12_size_5 rfl rfl ?_
  refine q_getIv (v := h.I 43 23) 13 23 fl_X12_336 (by decide) rfl rfl ((q_I_nek (by decide)).trans (rfl)) dX12_size_6 ?_
  refine q_if_eq (tgt := 27) dX12_size_9 (by decide) (fun hb => ?_) (fun hb => ?_)
  · have hF := hF.1 hb
    refine q_iconst (v := (-1)) dX12_size_27 (by decide) ?_
    refine q_goto (tgt := 40) dX12_size_28 (by decide) ?_
    exact q_iret rfl (by decide) (by decide) dX12_size_40 hF
  · have hF := hF.2 hb
    refine q_iload_n (i := 1) dX12_size_12 rfl rfl ?_
    refine q_if_lt (tgt := 27) dX12_size_13 (by decide) (fun hb => ?_) (fun hb => ?_)
    · have hF := hF.1 hb
      refine q_iconst (v := (-1)) dX12_size_27 (by decide) ?_
      refine q_goto (tgt := 40) dX12_size_28 (by decide) ?_
      exact q_iret rfl (by decide) (by decide) dX12_size_40 hF
    · have hF := hF.2 hb
      refine q_iload_n (i := 1) dX12_size_16 rfl rfl ?_
      refine q_aload_n (i := 0) dX12_size_17 rfl rfl ?_
      obtain ⟨c1, hrc1, hc1, hF⟩ := hF
      refine q_getR (k := c1) 13 21 fl_X12_46 (by decide) rfl rfl hrc1 dX12_size_18 ?_
      refine q_getIv (v := h.I c1 0) 12 0 fl_X12_225 (q_prg_n hc1 0) (q_prg_K hc1) rfl ((q_I_neo (by rcases hc1 with rfl | rfl <;> decide)).trans (rfl)) dX12_size_21 ?_
      refine q_icmp_lt (tgt := 31) dX12_size_24 (by decide) (fun hb => ?_) (fun hb => ?_)
      · have hF := hF.1 hb
        refine q_aload_n (i := 0) dX12_size_31 rfl rfl ?_
        refine q_getR (k := c1) 13 21 fl_X12_46 (by decide) rfl rfl hrc1 dX12_size_32 ?_
        refine q_getP 12 8 (c1 + 1) fl_X12_228 (q_prg_n hc1 0) (q_prg_K hc1) rfl (q_prg_P hc1 8) dX12_size_35 ?_
        refine q_iload_n (i := 1) dX12_size_38 rfl rfl ?_
        obtain ⟨hi2, hF⟩ := hF
        refine q_ialoadv (v := h.I (c1 + 1) x1.toNatClampNeg) (n := 8) (q_prg_n hc1 1) (q_prg_A hc1 8) hi2 ((q_I_neo (by rcases hc1 with rfl | rfl <;> decide)).trans (rfl)) dX12_size_39 ?_
        exact q_iret rfl (by decide) (by decide) dX12_size_40 hF
      · have hF := hF.2 hb
        refine q_iconst (v := (-1)) dX12_size_27 (by decide) ?_
        refine q_goto (tgt := 40) dX12_size_28 (by decide) ?_
        exact q_iret rfl (by decide) (by decide) dX12_size_40 hF
