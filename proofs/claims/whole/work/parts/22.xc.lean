def m_X12_thrown : qm := (RX12, cX12_thrown, 1, (some .int), [], false)
set_option maxRecDepth 100000 in
set_option maxHeartbeats 4000000 in
theorem x_X12_thrown (G : qG) (d : Nat)  (h : qh) (Q : qr → qh → Prop)  (hF : Q (.inl (some (.int (h.I 43 0)))) h) : q_M0 G (d + 1) yX12_thrown [.ref 43] h Q := by
  refine q_of (M := m_X12_thrown) (by decide +kernel) rfl rfl cd_X12_thrown (by decide) (Nat.le_of_ble_eq_true rfl) ?_
  show q_N0 G m_X12_thrown (d + 1) Q 0 [.ref 43] [] h
  refine q_aload_n (i := 0) dX12_thrown_0 rfl rfl ?_
  refine q_getIv (v := h.I 43 0) 13 0 fl_X12_83 (by decide) rfl rfl (rfl) dX12_thrown_1 ?_
  exact q_iret rfl (by decide) (by decide) dX12_thrown_4 hF
def m_X12_feed : qm := (RX12, cX12_feed, 6, (some .int), [], false)
set_option maxRecDepth 100000 in
set_option maxHeartbeats 4000000 in
theorem x_X12_feed (G : qG) (d : Nat) (x1 : Int32) (x2 : Int32) (x3 : Int32) (x4 : Int32) (x5 : Int32) (h : qh) (Q : qr → qh → Prop)  (hF : (((h.I 43 2) + 20) ≤ 2000 → (q_M0 G d yX12_four [.ref 43, .int x1] (h.sI 43 0 0) (q_rv (fun h1 => q_M0 G d yX12_four [.ref 43, .int x2] h1 (q_rv (fun h2 => q_M0 G d yX12_four [.ref 43, .int x3] h2 (q_rv (fun h3 => q_M0 G d yX12_four [.ref 43, .int x4] h3 (q_rv (fun h4 => q_M0 G d yX12_four [.ref 43, .int x5] h4 (q_rv (fun h5 => Q (.inl (some (.int (h5.I 43 2)))) h5) (fun E h => Q (.inr E) h))) (fun E h => Q (.inr E) h))) (fun E h => Q (.inr E) h))) (fun E h => Q (.inr E) h))) (fun E h => Q (.inr E) h)))) ∧ (¬ ((h.I 43 2) + 20) ≤ 2000 → (Q (.inl (some (.int (-1)))) (h.sI 43 0 0)))) : q_M0 G (d + 1) yX12_feed [.ref 43, .int x1, .int x2, .int x3, .int x4, .int x5] h Q := by
  refine q_of (M := m_X12_feed) (by decide +kernel) rfl rfl cd_X12_feed (by decide) (Nat.le_of_ble_eq_true rfl) ?_
  show q_N0 G m_X12_feed (d + 1) Q 0 [.ref 43, .int x1, .int x2, .int x3, .int x4, .int x5] [] h
  refine q_aload_n (i := 0) dX12_feed_0 rfl rfl ?_
  refine q_iconst (v := 0) dX12_feed_1 (by decide) ?_
  refine q_putI 13 0 fp_X12_83 (Or.inr ⟨_, _, _, rfl, rfl⟩) (by decide) rfl rfl dX12_feed_2 ?_
  refine q_aload_n (i := 0) dX12_feed_5 rfl rfl ?_
  refine q_getIv (v := h.I 43 2) 13 2 fl_X12_86 (by decide) rfl rfl ((q_I_nek (by decide)).trans (rfl)) dX12_feed_6 ?_
  refine q_bipush (v := 20) dX12_feed_9 (by decide) ?_
  refine q_iadd dX12_feed_11 ?_
  refine q_sipush (v := 2000) dX12_feed_12 (by decide) ?_
  refine q_icmp_le (tgt := 20) dX12_feed_15 (by decide) (fun hb => ?_) (fun hb => ?_)
  · have hF := hF.1 hb
    refine q_aload_n (i := 0) dX12_feed_20 rfl rfl ?_
    refine q_iload_n (i := 1) dX12_feed_21 rfl rfl ?_
    refine q_callVv (ci := 13) (o := 43) (As := [.int x1]) (st := []) cv_X12_89 ⟨_, _, rfl⟩ (by decide) rfl rfl (Nat.le_refl _) (Nat.le_of_ble_eq_true rfl) (by decide) dX12_feed_22 rfl hF (fun h1 hF => ?_)
    refine q_aload_n (i := 0) dX12_feed_25 rfl rfl ?_
    refine q_iload_n (i := 2) dX12_feed_26 rfl rfl ?_
    refine q_callVv (ci := 13) (o := 43) (As := [.int x2]) (st := []) cv_X12_89 ⟨_, _, rfl⟩ (by decide) rfl rfl (Nat.le_refl _) (Nat.le_of_ble_eq_true rfl) (by decide) dX12_feed_27 rfl hF (fun h2 hF => ?_)
    refine q_aload_n (i := 0) dX12_feed_30 rfl rfl ?_
    refine q_iload_n (i := 3) dX12_feed_31 rfl rfl ?_
    refine q_callVv (ci := 13) (o := 43) (As := [.int x3]) (st := []) cv_X12_89 ⟨_, _, rfl⟩ (by decide) rfl rfl (Nat.le_refl _) (Nat.le_of_ble_eq_true rfl) (by decide) dX12_feed_32 rfl hF (fun h3 hF => ?_)
    refine q_aload_n (i := 0) dX12_feed_35 rfl rfl ?_
    refine q_iload dX12_feed_36 rfl ?_
    refine q_callVv (ci := 13) (o := 43) (As := [.int x4]) (st := []) cv_X12_89 ⟨_, _, rfl⟩ (by decide) rfl rfl (Nat.le_refl _) (Nat.le_of_ble_eq_true rfl) (by decide) dX12_feed_38 rfl hF (fun h4 hF => ?_)
    refine q_aload_n (i := 0) dX12_feed_41 rfl rfl ?_
    refine q_iload dX12_feed_42 rfl ?_
    refine q_callVv (ci := 13) (o := 43) (As := [.int x5]) (st := []) cv_X12_89 ⟨_, _, rfl⟩ (by decide) rfl rfl (Nat.le_refl _) (Nat.le_of_ble_eq_true rfl) (by decide) dX12_feed_44 rfl hF (fun h5 hF => ?_)
    refine q_aload_n (i := 0) dX12_feed_47 rfl rfl ?_
    refine q_getIv (v := h5.I 43 2) 13 2 fl_X12_86 (by decide) rfl rfl (rfl) dX12_feed_48 ?_
    exact q_iret rfl (by decide) (by decide) dX12_feed_51 hF
  · have hF := hF.2 hb
    refine q_iconst (v := (-1)) dX12_feed_18 (by decide) ?_
    exact q_iret rfl (by decide) (by decide) dX12_feed_19 hF
def m_X12_four : qm := (RX12, cX12_four, 3, none, [], false)
set_option maxRecDepth 100000 in
set_option maxHeartbeats 4000000 in
theorem x_X12_four (G : qG) (d : Nat) (x1 : Int32) (h : qh) (Q : qr → qh → Prop)  (hF : q_N0 G m_X12_four (d + 1) Q 3 [.ref 43, .int x1, .int 24] [] h) : q_M0 G (d + 1) yX12_four [.ref 43, .int x1] h Q := by
  refine q_of (M := m_X12_four) (by decide +kernel) rfl rfl cd_X12_four (by decide) (Nat.le_of_ble_eq_true rfl) ?_
  show q_N0 G m_X12_four (d + 1) Q 0 [.ref 43, .int x1, .null] [] h
  refine q_bipush (v := 24) dX12_four_0 (by decide) ?_
  refine q_istore_n (i := 2) dX12_four_2 rfl (by decide) rfl ?_
  exact hF
set_option maxRecDepth 100000 in
set_option maxHeartbeats 4000000 in
theorem x_X12_four_3 (G : qG) (d : Nat) (l1 : Int32) (l2 : Int32) (h : qh) (Q : qr → qh → Prop)  (hF : (l2 < 0 → (Q (.inl none) h)) ∧ (¬ l2 < 0 → (vp_in (h.I 43 2) 2000 ∧ (q_N0 G m_X12_four (d + 1) Q 3 [.ref 43, .int l1, .int (l2 + (-8))] [] ((h.sI 44 ((h.I 43 2).toNatClampNeg) (((l1 >>> (l2 &&& 31)).toInt8.toInt32).toInt8.toInt32)).sI 43 2 ((h.I 43 2) + 1)))))) : q_N0 G m_X12_four (d + 1) Q 3 [.ref 43, .int l1, .int l2] [] h := by
  refine q_iload_n (i := 2) dX12_four_3 rfl rfl ?_
  refine q_if_lt (tgt := 36) dX12_four_4 (by decide) (fun hb => ?_) (fun hb => ?_)
  · have hF := hF.1 hb
    exact q_vret rfl (by decide) (by decide) dX12_four_36 hF
  · have hF := hF.2 hb
    refine q_aload_n (i := 0) dX12_four_7 rfl rfl ?_
    refine q_getP 13 1 44 fl_X12_9 (by decide) rfl rfl rfl dX12_four_8 ?_
    refine q_aload_n (i := 0) dX12_four_11 rfl rfl ?_
    refine q_getIv (v := h.I 43 2) 13 2 fl_X12_86 (by decide) rfl rfl (rfl) dX12_four_12 ?_
    refine q_iload_n (i := 1) dX12_four_15 rfl rfl ?_
    refine q_iload_n (i := 2) dX12_four_16 rfl rfl ?_
    refine q_ishr dX12_four_17 ?_
    refine q_i2b (v := (l1 >>> (l2 &&& 31)).toInt8.toInt32) dX12_four_18 rfl ?_
    obtain ⟨hi1, hF⟩ := hF
    refine q_bastore (n := 2000) (by decide) rfl hi1 dX12_four_19 ?_
    refine q_aload_n (i := 0) dX12_four_20 rfl rfl ?_
    refine q_dup dX12_four_21 rfl ?_
    refine q_getIv (v := h.I 43 2) 13 2 fl_X12_86 (by decide) rfl rfl ((q_I_neo (by decide)).trans (rfl)) dX12_four_22 ?_
    refine q_iconst (v := 1) dX12_four_25 (by decide) ?_
    refine q_iadd dX12_four_26 ?_
    refine q_putI 13 2 fp_X12_86 (Or.inr ⟨_, _, _, rfl, rfl⟩) (by decide) rfl rfl dX12_four_27 ?_
    refine q_iinc (v := l2 + (-8)) dX12_four_30 rfl rfl (by decide) rfl ?_
    refine q_goto (tgt := 3) dX12_four_33 (by decide) ?_
    exact hF
def m_X12_isSmall : qm := (RX12, cX12_isSmall, 1, (some .boolean), [], false)
set_option maxRecDepth 100000 in
set_option maxHeartbeats 4000000 in
theorem x_X12_isSmall (G : qG) (d : Nat) (x1 : Int32) (h : qh) (Q : qr → qh → Prop)  (hF : (x1 < 97 → (Q (.inl (some (.int 0))) h)) ∧ (¬ x1 < 97 → (((if 122 < x1 then (0 : Int32) else 1) = 0 ∨ (if 122 < x1 then (0 : Int32) else 1) = 1) ∧ Q (.inl (some (.int (if 122 < x1 then (0 : Int32) else 1)))) h))) : q_M0 G (d + 1) yX12_isSmall [.int x1] h Q := by
  refine q_of (M := m_X12_isSmall) (by decide +kernel) rfl rfl cd_X12_isSmall (by decide) (Nat.le_of_ble_eq_true rfl) ?_
  show q_N0 G m_X12_isSmall (d + 1) Q 0 [.int x1] [] h
  refine q_iload_n (i := 0) dX12_isSmall_0 rfl rfl ?_
  refine q_bipush (v := 97) dX12_isSmall_1 (by decide) ?_
  refine q_icmp_lt (tgt := 16) dX12_isSmall_3 (by decide) (fun hb => ?_) (fun hb => ?_)
  · have hF := hF.1 hb
    refine q_iconst (v := 0) dX12_isSmall_16 (by decide) ?_
    exact q_zret rfl (by decide) (by decide) (by decide) dX12_isSmall_17 hF
  · have hF := hF.2 hb
    refine q_iload_n (i := 0) dX12_isSmall_6 rfl rfl ?_
    refine q_bipush (v := 122) dX12_isSmall_7 (by decide) ?_
    have K1 := q_ite (c := 122 < x1) (X := fun v => q_N0 G m_X12_isSmall (d + 1) Q 17 [.int x1] (.int v :: []) h) (a := 0) (b := 1) (by
      exact q_zret rfl hF.1 (by decide) (by decide) dX12_isSmall_17 hF.2)
    refine q_icmp_gt (tgt := 16) dX12_isSmall_9 (by decide) (fun hb => ?_) (fun hb => ?_)
    · refine q_iconst (v := 0) dX12_isSmall_16 (by decide) ?_
      exact K1.1 hb
    · refine q_iconst (v := 1) dX12_isSmall_12 (by decide) ?_
      refine q_goto (tgt := 17) dX12_isSmall_13 (by decide) ?_
      exact K1.2 hb
def m_X12_isDigit : qm := (RX12, cX12_isDigit, 1, (some .boolean), [], false)
set_option maxRecDepth 100000 in
set_option maxHeartbeats 4000000 in
theorem x_X12_isDigit (G : qG) (d : Nat) (x1 : Int32) (h : qh) (Q : qr → qh → Prop)  (hF : (x1 < 48 → (Q (.inl (some (.int 0))) h)) ∧ (¬ x1 < 48 → (((if 57 < x1 then (0 : Int32) else 1) = 0 ∨ (if 57 < x1 then (0 : Int32) else 1) = 1) ∧ Q (.inl (some (.int (if 57 < x1 then (0 : Int32) else 1)))) h))) : q_M0 G (d + 1) yX12_isDigit [.int x1] h Q := by
  refine q_of (M := m_X12_isDigit) (by decide +kernel) rfl rfl cd_X12_isDigit (by decide) (Nat.le_of_ble_eq_true rfl) ?_
  show q_N0 G m_X12_isDigit (d + 1) Q 0 [.int x1] [] h
  refine q_iload_n (i := 0) dX12_isDigit_0 rfl rfl ?_
  refine q_bipush (v := 48) dX12_isDigit_1 (by decide) ?_
  refine q_icmp_lt (tgt := 16) dX12_isDigit_3 (by decide) (fun hb => ?_) (fun hb => ?_)
  · have hF := hF.1 hb
    refine q_iconst (v := 0) dX12_isDigit_16 (by decide) ?_
    exact q_zret rfl (by decide) (by decide) (by decide) dX12_isDigit_17 hF
  · have hF := hF.2 hb
    refine q_iload_n (i := 0) dX12_isDigit_6 rfl rfl ?_
    refine q_bipush (v := 57) dX12_isDigit_7 (by decide) ?_
    have K1 := q_ite (c := 57 < x1) (X := fun v => q_N0 G m_X12_isDigit (d + 1) Q 17 [.int x1] (.int v :: []) h) (a := 0) (b := 1) (by
      exact q_zret rfl hF.1 (by decide) (by decide) dX12_isDigit_17 hF.2)
    refine q_icmp_gt (tgt := 16) dX12_isDigit_9 (by decide) (fun hb => ?_) (fun hb => ?_)
    · refine q_iconst (v := 0) dX12_isDigit_16 (by decide) ?_
      exact K1.1 hb
    · refine q_iconst (v := 1) dX12_isDigit_12 (by decide) ?_
      refine q_goto (tgt := 17) dX12_isDigit_13 (by decide) ?_
      exact K1.2 hb
def m_X12_byteAt : qm := (RX12, cX12_byteAt, 2, (some .int), [], false)
set_option maxRecDepth 100000 in
set_option maxHeartbeats 4000000 in
theorem x_X12_byteAt (G : qG) (d : Nat) (x1 : Int32) (h : qh) (Q : qr → qh → Prop)  (hF : ((h.I 43 9) ≤ x1 → (Q (.inl (some (.int 0))) h)) ∧ (¬ (h.I 43 9) ≤ x1 → (vp_in x1 2000 ∧ (Q (.inl (some (.int ((h.I 46 x1.toNatClampNeg) &&& 255)))) h)))) : q_M0 G (d + 1) yX12_byteAt [.ref 43, .int x1] h Q := by
  refine q_of (M := m_X12_byteAt) (by decide +kernel) rfl rfl cd_X12_byteAt (by decide) (Nat.le_of_ble_eq_true rfl) ?_
  show q_N0 G m_X12_byteAt (d + 1) Q 0 [.ref 43, .int x1] [] h
  refine q_iload_n (i := 1) dX12_byteAt_0 rfl rfl ?_
  refine q_aload_n (i := 0) dX12_byteAt_1 rfl rfl ?_
  refine q_getIv (v := h.I 43 9) 13 9 fl_X12_93 (by decide) rfl rfl (rfl) dX12_byteAt_2 ?_
  refine q_icmp_ge (tgt := 21) dX12_byteAt_5 (by decide) (fun hb => ?_) (fun hb => ?_)
  · have hF := hF.1 hb
    refine q_iconst (v := 0) dX12_byteAt_21 (by decide) ?_
    exact q_iret rfl (by decide) (by decide) dX12_byteAt_22 hF
  · have hF := hF.2 hb
    refine q_aload_n (i := 0) dX12_byteAt_8 rfl rfl ?_
    refine q_getP 13 8 46 fl_X12_21 (by decide) rfl rfl rfl dX12_byteAt_9 ?_
    refine q_iload_n (i := 1) dX12_byteAt_12 rfl rfl ?_
    obtain ⟨hi1, hF⟩ := hF
    refine q_baloadv (v := h.I 46 x1.toNatClampNeg) (n := 2000) (by decide) rfl hi1 (rfl) dX12_byteAt_13 ?_
    refine q_sipush (v := 255) dX12_byteAt_14 (by decide) ?_
    refine q_iand dX12_byteAt_17 ?_
    refine q_goto (tgt := 22) dX12_byteAt_18 (by decide) ?_
    exact q_iret rfl (by decide) (by decide) dX12_byteAt_22 hF
def m_X12_token : qm := (RX12, cX12_token, 4, none, [], false)
set_option maxRecDepth 100000 in
set_option maxHeartbeats 4000000 in
theorem x_X12_token (G : qG) (d : Nat) (x1 : Int32) (x2 : Int32) (x3 : Int32) (h : qh) (Q : qr → qh → Prop)  (hF : vp_in (h.I 43 13) 2001 ∧ (vp_in (h.I 43 13) 2001 ∧ (vp_in (h.I 43 13) 2001 ∧ (Q (.inl none) ((((h.sI 47 ((h.I 43 13).toNatClampNeg) x1).sI 48 ((h.I 43 13).toNatClampNeg) x2).sI 49 ((h.I 43 13).toNatClampNeg) x3).sI 43 13 ((h.I 43 13) + 1)))))) : q_M0 G (d + 1) yX12_token [.ref 43, .int x1, .int x2, .int x3] h Q := by
  refine q_of (M := m_X12_token) (by decide +kernel) rfl rfl cd_X12_token (by decide) (Nat.le_of_ble_eq_true rfl) ?_
  show q_N0 G m_X12_token (d + 1) Q 0 [.ref 43, .int x1, .int x2, .int x3] [] h
  refine q_aload_n (i := 0) dX12_token_0 rfl rfl ?_
  refine q_getP 13 10 47 fl_X12_24 (by decide) rfl rfl rfl dX12_token_1 ?_
  refine q_aload_n (i := 0) dX12_token_4 rfl rfl ?_
  refine q_getIv (v := h.I 43 13) 13 13 fl_X12_96 (by decide) rfl rfl (rfl) dX12_token_5 ?_
  refine q_iload_n (i := 1) dX12_token_8 rfl rfl ?_
  obtain ⟨hi1, hF⟩ := hF
  refine q_iastore (n := 2001) (by decide) rfl hi1 dX12_token_9 ?_
  refine q_aload_n (i := 0) dX12_token_10 rfl rfl ?_
  refine q_getP 13 11 48 fl_X12_27 (by decide) rfl rfl rfl dX12_token_11 ?_
  refine q_aload_n (i := 0) dX12_token_14 rfl rfl ?_
  refine q_getIv (v := h.I 43 13) 13 13 fl_X12_96 (by decide) rfl rfl ((q_I_neo (by decide)).trans (rfl)) dX12_token_15 ?_
  refine q_iload_n (i := 2) dX12_token_18 rfl rfl ?_
  obtain ⟨hi2, hF⟩ := hF
  refine q_iastore (n := 2001) (by decide) rfl hi2 dX12_token_19 ?_
  refine q_aload_n (i := 0) dX12_token_20 rfl rfl ?_
  refine q_getP 13 12 49 fl_X12_30 (by decide) rfl rfl rfl dX12_token_21 ?_
  refine q_aload_n (i := 0) dX12_token_24 rfl rfl ?_
  refine q_getIv (v := h.I 43 13) 13 13 fl_X12_96 (by decide) rfl rfl ((q_I_neo (by decide)).trans ( (q_I_neo (by decide)).trans (rfl))) dX12_token_25 ?_
  refine q_iload_n (i := 3) dX12_token_28 rfl rfl ?_
  obtain ⟨hi3, hF⟩ := hF
  refine q_iastore (n := 2001) (by decide) rfl hi3 dX12_token_29 ?_
  refine q_aload_n (i := 0) dX12_token_30 rfl rfl ?_
  refine q_dup dX12_token_31 rfl ?_
  refine q_getIv (v := h.I 43 13) 13 13 fl_X12_96 (by decide) rfl rfl ((q_I_neo (by decide)).trans ( (q_I_neo (by decide)).trans ( (q_I_neo (by decide)).trans (rfl)))) dX12_token_32 ?_
  refine q_iconst (v := 1) dX12_token_35 (by decide) ?_
  refine q_iadd dX12_token_36 ?_
  refine q_putI 13 13 fp_X12_96 (Or.inr ⟨_, _, _, rfl, rfl⟩) (by decide) rfl rfl dX12_token_37 ?_
  exact q_vret rfl (by decide) (by decide) dX12_token_40 hF
def m_X12_isWord : qm := (RX12, cX12_isWord, 8, (some .boolean), [], false)
set_option maxRecDepth 100000 in
set_option maxHeartbeats 4000000 in
theorem x_X12_isWord (G : qG) (d : Nat) (x1 : Int32) (x2 : Int32) (x3 : Int64) (h : qh) (Q : qr → qh → Prop)  (hF : q_N0 G m_X12_isWord (d + 1) Q 6 [.ref 43, .int x1, .int x2, .long x3, .null, .long 0, .null, .int 0] [] h) : q_M0 G (d + 1) yX12_isWord [.ref 43, .int x1, .int x2, .long x3] h Q := by
  refine q_of (M := m_X12_isWord) (by decide +kernel) rfl rfl cd_X12_isWord (by decide) (Nat.le_of_ble_eq_true rfl) ?_
  show q_N0 G m_X12_isWord (d + 1) Q 0 [.ref 43, .int x1, .int x2, .long x3, .null, .null, .null, .null] [] h
  refine q_lconst (v := 0) dX12_isWord_0 (by decide) ?_
  refine q_lstore dX12_isWord_1 (by decide) rfl ?_
  refine q_iconst (v := 0) dX12_isWord_3 (by decide) ?_
  refine q_istore dX12_isWord_4 (by decide) rfl ?_
  exact hF
set_option maxRecDepth 100000 in
set_option maxHeartbeats 4000000 in
theorem x_X12_isWord_6 (G : qG) (d : Nat) (l1 : Int32) (l2 : Int32) (l3 : Int64) (l5 : Int64) (l7 : Int32) (h : qh) (Q : qr → qh → Prop)  (hF : (l2 ≤ l7 → (((if (lg_cmp l5 l3) = 0 then (1 : Int32) else 0) = 0 ∨ (if (lg_cmp l5 l3) = 0 then (1 : Int32) else 0) = 1) ∧ Q (.inl (some (.int (if (lg_cmp l5 l3) = 0 then (1 : Int32) else 0)))) h)) ∧ (¬ l2 ≤ l7 → (q_M0 G d yX12_byteAt [.ref 43, .int (l1 + l7)] h (q_ri (fun r3 h2 => q_N0 G m_X12_isWord (d + 1) Q 6 [.ref 43, .int l1, .int l2, .long l3, .null, .long ((l5 <<< (Int32.toInt64 8 &&& 63)) ||| r3.toInt64), .null, .int (l7 + 1)] [] h2) (fun E h => Q (.inr E) h))))) : q_N0 G m_X12_isWord (d + 1) Q 6 [.ref 43, .int l1, .int l2, .long l3, .null, .long l5, .null, .int l7] [] h := by
  refine q_iload dX12_isWord_6 rfl ?_
  refine q_iload_n (i := 2) dX12_isWord_8 rfl rfl ?_
  refine q_icmp_ge (tgt := 35) dX12_isWord_9 (by decide) (fun hb => ?_) (fun hb => ?_)
  · have hF := hF.1 hb
    refine q_lload dX12_isWord_35 rfl ?_
    refine q_lload_n (i := 3) dX12_isWord_37 rfl rfl ?_
    refine q_lcmp dX12_isWord_38 ?_
    have K1 := q_ite (c := (lg_cmp l5 l3) = 0) (X := fun v => q_N0 G m_X12_isWord (d + 1) Q 47 [.ref 43, .int l1, .int l2, .long l3, .null, .long l5, .null, .int l7] (.int v :: []) h) (a := 1) (b := 0) (by
      exact q_zret rfl hF.1 (by decide) (by decide) dX12_isWord_47 hF.2)
    refine q_if_ne (tgt := 46) dX12_isWord_39 (by decide) (fun hb => ?_) (fun hb => ?_)
    · refine q_iconst (v := 0) dX12_isWord_46 (by decide) ?_
      exact K1.2 hb
    · refine q_iconst (v := 1) dX12_isWord_42 (by decide) ?_
      refine q_goto (tgt := 47) dX12_isWord_43 (by decide) ?_
      exact K1.1 hb
  · have hF := hF.2 hb
    refine q_lload dX12_isWord_12 rfl ?_
    refine q_bipush (v := 8) dX12_isWord_14 (by decide) ?_
    refine q_lshl (v := l5 <<< (Int32.toInt64 8 &&& 63)) dX12_isWord_16 rfl ?_
    refine q_aload_n (i := 0) dX12_isWord_17 rfl rfl ?_
    refine q_iload_n (i := 1) dX12_isWord_18 rfl rfl ?_
    refine q_iload dX12_isWord_19 rfl ?_
    refine q_iadd dX12_isWord_21 ?_
    refine q_callVi (ci := 13) (o := 43) (As := [.int (l1 + l7)]) (st := [.long (l5 <<< (Int32.toInt64 8 &&& 63))]) cv_X12_99 ⟨_, _, rfl⟩ (by decide) rfl rfl (Nat.le_refl _) (Nat.le_of_ble_eq_true rfl) (by decide) dX12_isWord_22 rfl hF (fun r3 h2 hF => ?_)
    refine q_i2l (v := r3.toInt64) dX12_isWord_25 rfl ?_
    refine q_lor dX12_isWord_26 ?_
    refine q_lstore dX12_isWord_27 (by decide) rfl ?_
    refine q_iinc (v := l7 + 1) dX12_isWord_29 rfl rfl (by decide) rfl ?_
    refine q_goto (tgt := 6) dX12_isWord_32 (by decide) ?_
    exact hF
def m_X12_wordOf : qm := (RX12, cX12_wordOf, 3, (some .int), [], false)
set_option maxRecDepth 100000 in
set_option maxHeartbeats 4000000 in
theorem x_X12_wordOf (G : qG) (d : Nat) (x1 : Int32) (x2 : Int32) (h : qh) (Q : qr → qh → Prop)  (hF : q_M0 G d yX12_isWord [.ref 43, .int x1, .int x2, .long 6909556] h (q_ri (fun r2 h1 => (r2 = 0 → (q_M0 G d yX12_isWord [.ref 43, .int x1, .int x2, .long 26982] h1 (q_ri (fun r4 h3 => (r4 = 0 → (q_M0 G d yX12_isWord [.ref 43, .int x1, .int x2, .long 1701606245] h3 (q_ri (fun r6 h5 => (r6 = 0 → (q_M0 G d yX12_isWord [.ref 43, .int x1, .int x2, .long 512852847717] h5 (q_ri (fun r8 h7 => (r8 = 0 → (q_M0 G d yX12_isWord [.ref 43, .int x1, .int x2, .long 422826041707] h7 (q_ri (fun r10 h9 => (r10 = 0 → (q_M0 G d yX12_isWord [.ref 43, .int x1, .int x2, .long 7165066978433856869] h9 (q_ri (fun r12 h11 => (r12 = 0 → (q_M0 G d yX12_isWord [.ref 43, .int x1, .int x2, .long 125780071117422] h11 (q_ri (fun r14 h13 => (r14 = 0 → (Q (.inl (some (.int 2))) h13)) ∧ (¬ r14 = 0 → (Q (.inl (some (.int 11))) h13))) (fun E h => Q (.inr E) h)))) ∧ (¬ r12 = 0 → (Q (.inl (some (.int 10))) h11))) (fun E h => Q (.inr E) h)))) ∧ (¬ r10 = 0 → (Q (.inl (some (.int 9))) h9))) (fun E h => Q (.inr E) h)))) ∧ (¬ r8 = 0 → (Q (.inl (some (.int 8))) h7))) (fun E h => Q (.inr E) h)))) ∧ (¬ r6 = 0 → (Q (.inl (some (.int 7))) h5))) (fun E h => Q (.inr E) h)))) ∧ (¬ r4 = 0 → (Q (.inl (some (.int 6))) h3))) (fun E h => Q (.inr E) h)))) ∧ (¬ r2 = 0 → (Q (.inl (some (.int 5))) h1))) (fun E h => Q (.inr E) h))) : q_M0 G (d + 1) yX12_wordOf [.ref 43, .int x1, .int x2] h Q := by
  refine q_of (M := m_X12_wordOf) (by decide +kernel) rfl rfl cd_X12_wordOf (by decide) (Nat.le_of_ble_eq_true rfl) ?_
  show q_N0 G m_X12_wordOf (d + 1) Q 0 [.ref 43, .int x1, .int x2] [] h
  refine q_aload_n (i := 0) dX12_wordOf_0 rfl rfl ?_
  refine q_iload_n (i := 1) dX12_wordOf_1 rfl rfl ?_
  refine q_iload_n (i := 2) dX12_wordOf_2 rfl rfl ?_
  refine q_ldc2 cl_X12_103 dX12_wordOf_3 ?_
  refine q_callVi (ci := 13) (o := 43) (As := [.int x1, .int x2, .long 6909556]) (st := []) cv_X12_105 ⟨_, _, rfl⟩ (by decide) rfl rfl (Nat.le_refl _) (Nat.le_of_ble_eq_true rfl) (by decide) dX12_wordOf_6 rfl hF (fun r2 h1 hF => ?_)
  refine q_if_eq (tgt := 14) dX12_wordOf_9 (by decide) (fun hb => ?_) (fun hb => ?_)
  · have hF := hF.1 hb
    refine q_aload_n (i := 0) dX12_wordOf_14 rfl rfl ?_
    refine q_iload_n (i := 1) dX12_wordOf_15 rfl rfl ?_
    refine q_iload_n (i := 2) dX12_wordOf_16 rfl rfl ?_
    refine q_ldc2 cl_X12_109 dX12_wordOf_17 ?_
    refine q_callVi (ci := 13) (o := 43) (As := [.int x1, .int x2, .long 26982]) (st := []) cv_X12_105 ⟨_, _, rfl⟩ (by decide) rfl rfl (Nat.le_refl _) (Nat.le_of_ble_eq_true rfl) (by decide) dX12_wordOf_20 rfl hF (fun r4 h3 hF => ?_)
    refine q_if_eq (tgt := 29) dX12_wordOf_23 (by decide) (fun hb => ?_) (fun hb => ?_)
    · have hF := hF.1 hb
      refine q_aload_n (i := 0) dX12_wordOf_29 rfl rfl ?_
      refine q_iload_n (i := 1) dX12_wordOf_30 rfl rfl ?_
      refine q_iload_n (i := 2) dX12_wordOf_31 rfl rfl ?_
      refine q_ldc2 cl_X12_111 dX12_wordOf_32 ?_
      refine q_callVi (ci := 13) (o := 43) (As := [.int x1, .int x2, .long 1701606245]) (st := []) cv_X12_105 ⟨_, _, rfl⟩ (by decide) rfl rfl (Nat.le_refl _) (Nat.le_of_ble_eq_true rfl) (by decide) dX12_wordOf_35 rfl hF (fun r6 h5 hF => ?_)
      refine q_if_eq (tgt := 44) dX12_wordOf_38 (by decide) (fun hb => ?_) (fun hb => ?_)
      · have hF := hF.1 hb
        refine q_aload_n (i := 0) dX12_wordOf_44 rfl rfl ?_
        refine q_iload_n (i := 1) dX12_wordOf_45 rfl rfl ?_
        refine q_iload_n (i := 2) dX12_wordOf_46 rfl rfl ?_
        refine q_ldc2 cl_X12_113 dX12_wordOf_47 ?_
        refine q_callVi (ci := 13) (o := 43) (As := [.int x1, .int x2, .long 512852847717]) (st := []) cv_X12_105 ⟨_, _, rfl⟩ (by decide) rfl rfl (Nat.le_refl _) (Nat.le_of_ble_eq_true rfl) (by decide) dX12_wordOf_50 rfl hF (fun r8 h7 hF => ?_)
        refine q_if_eq (tgt := 59) dX12_wordOf_53 (by decide) (fun hb => ?_) (fun hb => ?_)
        · have hF := hF.1 hb
          refine q_aload_n (i := 0) dX12_wordOf_59 rfl rfl ?_
          refine q_iload_n (i := 1) dX12_wordOf_60 rfl rfl ?_
          refine q_iload_n (i := 2) dX12_wordOf_61 rfl rfl ?_
          refine q_ldc2 cl_X12_115 dX12_wordOf_62 ?_
          refine q_callVi (ci := 13) (o := 43) (As := [.int x1, .int x2, .long 422826041707]) (st := []) cv_X12_105 ⟨_, _, rfl⟩ (by decide) rfl rfl (Nat.le_refl _) (Nat.le_of_ble_eq_true rfl) (by decide) dX12_wordOf_65 rfl hF (fun r10 h9 hF => ?_)
          refine q_if_eq (tgt := 74) dX12_wordOf_68 (by decide) (fun hb => ?_) (fun hb => ?_)
          · have hF := hF.1 hb
            refine q_aload_n (i := 0) dX12_wordOf_74 rfl rfl ?_
            refine q_iload_n (i := 1) dX12_wordOf_75 rfl rfl ?_
            refine q_iload_n (i := 2) dX12_wordOf_76 rfl rfl ?_
            refine q_ldc2 cl_X12_117 dX12_wordOf_77 ?_
            refine q_callVi (ci := 13) (o := 43) (As := [.int x1, .int x2, .long 7165066978433856869]) (st := []) cv_X12_105 ⟨_, _, rfl⟩ (by decide) rfl rfl (Nat.le_refl _) (Nat.le_of_ble_eq_true rfl) (by decide) dX12_wordOf_80 rfl hF (fun r12 h11 hF => ?_)
            refine q_if_eq (tgt := 89) dX12_wordOf_83 (by decide) (fun hb => ?_) (fun hb => ?_)
            · have hF := hF.1 hb
              refine q_aload_n (i := 0) dX12_wordOf_89 rfl rfl ?_
              refine q_iload_n (i := 1) dX12_wordOf_90 rfl rfl ?_
              refine q_iload_n (i := 2) dX12_wordOf_91 rfl rfl ?_
              refine q_ldc2 cl_X12_119 dX12_wordOf_92 ?_
              refine q_callVi (ci := 13) (o := 43) (As := [.int x1, .int x2, .long 125780071117422]) (st := []) cv_X12_105 ⟨_, _, rfl⟩ (by decide) rfl rfl (Nat.le_refl _) (Nat.le_of_ble_eq_true rfl) (by decide) dX12_wordOf_95 rfl hF (fun r14 h13 hF => ?_)
              refine q_if_eq (tgt := 104) dX12_wordOf_98 (by decide) (fun hb => ?_) (fun hb => ?_)
              · have hF := hF.1 hb
                refine q_iconst (v := 2) dX12_wordOf_104 (by decide) ?_
                exact q_iret rfl (by decide) (by decide) dX12_wordOf_105 hF
              · have hF := hF.2 hb
                refine q_bipush (v := 11) dX12_wordOf_101 (by decide) ?_
                exact q_iret rfl (by decide) (by decide) dX12_wordOf_103 hF
            · have hF := hF.2 hb
              refine q_bipush (v := 10) dX12_wordOf_86 (by decide) ?_
              exact q_iret rfl (by decide) (by decide) dX12_wordOf_88 hF
          · have hF := hF.2 hb
            refine q_bipush (v := 9) dX12_wordOf_71 (by decide) ?_
            exact q_iret rfl (by decide) (by decide) dX12_wordOf_73 hF
        · have hF := hF.2 hb
          refine q_bipush (v := 8) dX12_wordOf_56 (by decide) ?_
          exact q_iret rfl (by decide) (by decide) dX12_wordOf_58 hF
      · have hF := hF.2 hb
        refine q_bipush (v := 7) dX12_wordOf_41 (by decide) ?_
        exact q_iret rfl (by decide) (by decide) dX12_wordOf_43 hF
    · have hF := hF.2 hb
      refine q_bipush (v := 6) dX12_wordOf_26 (by decide) ?_
      exact q_iret rfl (by decide) (by decide) dX12_wordOf_28 hF
  · have hF := hF.2 hb
    refine q_iconst (v := 5) dX12_wordOf_12 (by decide) ?_
    exact q_iret rfl (by decide) (by decide) dX12_wordOf_13 hF
def m_X12_signAt : qm := (RX12, cX12_signAt, 4, (some .int), [], false)
set_option maxRecDepth 100000 in
set_option maxHeartbeats 4000000 in
theorem x_X12_signAt (G : qG) (d : Nat) (x1 : Int32) (h : qh) (Q : qr → qh → Prop)  (hF : q_M0 G d yX12_byteAt [.ref 43, .int x1] h (q_ri (fun r2 h1 => q_M0 G d yX12_byteAt [.ref 43, .int (x1 + 1)] h1 (q_ri (fun r4 h3 => (r2 = 61 → (q_N0 G m_X12_signAt (d + 1) Q 38 [.ref 43, .int x1, .int r2, .int r4] [] h3)) ∧ (¬ r2 = 61 → ((r2 = 33 → (q_N0 G m_X12_signAt (d + 1) Q 38 [.ref 43, .int x1, .int r2, .int r4] [] h3)) ∧ (¬ r2 = 33 → ((r2 = 60 → (q_N0 G m_X12_signAt (d + 1) Q 38 [.ref 43, .int x1, .int r2, .int r4] [] h3)) ∧ (¬ r2 = 60 → ((¬ r2 = 62 → (q_N0 G m_X12_signAt (d + 1) Q 51 [.ref 43, .int x1, .int r2, .int r4] [] h3)) ∧ (r2 = 62 → (q_N0 G m_X12_signAt (d + 1) Q 38 [.ref 43, .int x1, .int r2, .int r4] [] h3))))))))) (fun E h => Q (.inr E) h))) (fun E h => Q (.inr E) h))) : q_M0 G (d + 1) yX12_signAt [.ref 43, .int x1] h Q := by
  refine q_of (M := m_X12_signAt) (by decide +kernel) rfl rfl cd_X12_signAt (by decide) (Nat.le_of_ble_eq_true rfl) ?_
  show q_N0 G m_X12_signAt (d + 1) Q 0 [.ref 43, .int x1, .null, .null] [] h
  refine q_aload_n (i := 0) dX12_signAt_0 rfl rfl ?_
  refine q_iload_n (i := 1) dX12_signAt_1 rfl rfl ?_
  refine q_callVi (ci := 13) (o := 43) (As := [.int x1]) (st := []) cv_X12_99 ⟨_, _, rfl⟩ (by decide) rfl rfl (Nat.le_refl _) (Nat.le_of_ble_eq_true rfl) (by decide) dX12_signAt_2 rfl hF (fun r2 h1 hF => ?_)
  refine q_istore_n (i := 2) dX12_signAt_5 rfl (by decide) rfl ?_
  refine q_aload_n (i := 0) dX12_signAt_6 rfl rfl ?_
  refine q_iload_n (i := 1) dX12_signAt_7 rfl rfl ?_
  refine q_iconst (v := 1) dX12_signAt_8 (by decide) ?_
  refine q_iadd dX12_signAt_9 ?_
  refine q_callVi (ci := 13) (o := 43) (As := [.int (x1 + 1)]) (st := []) cv_X12_99 ⟨_, _, rfl⟩ (by decide) rfl rfl (Nat.le_refl _) (Nat.le_of_ble_eq_true rfl) (by decide) dX12_signAt_10 rfl hF (fun r4 h3 hF => ?_)
  refine q_istore_n (i := 3) dX12_signAt_13 rfl (by decide) rfl ?_
  refine q_iload_n (i := 2) dX12_signAt_14 rfl rfl ?_
  refine q_bipush (v := 61) dX12_signAt_15 (by decide) ?_
  refine q_icmp_eq (tgt := 38) dX12_signAt_17 (by decide) (fun hb => ?_) (fun hb => ?_)
  · have hF := hF.1 hb
    exact hF
  · have hF := hF.2 hb
    refine q_iload_n (i := 2) dX12_signAt_20 rfl rfl ?_
    refine q_bipush (v := 33) dX12_signAt_21 (by decide) ?_
    refine q_icmp_eq (tgt := 38) dX12_signAt_23 (by decide) (fun hb => ?_) (fun hb => ?_)
    · have hF := hF.1 hb
      exact hF
    · have hF := hF.2 hb
      refine q_iload_n (i := 2) dX12_signAt_26 rfl rfl ?_
      refine q_bipush (v := 60) dX12_signAt_27 (by decide) ?_
      refine q_icmp_eq (tgt := 38) dX12_signAt_29 (by decide) (fun hb => ?_) (fun hb => ?_)
      · have hF := hF.1 hb
        exact hF
      · have hF := hF.2 hb
        refine q_iload_n (i := 2) dX12_signAt_32 rfl rfl ?_
        refine q_bipush (v := 62) dX12_signAt_33 (by decide) ?_
        refine q_icmp_ne (tgt := 51) dX12_signAt_35 (by decide) (fun hb => ?_) (fun hb => ?_)
        · have hF := hF.1 hb
          exact hF
        · have hF := hF.2 hb
          exact hF
set_option maxRecDepth 100000 in
set_option maxHeartbeats 4000000 in
theorem x_X12_signAt_38 (G : qG) (d : Nat) (l1 : Int32) (l2 : Int32) (l3 : Int32) (h : qh) (Q : qr → qh → Prop)  (hF : (¬ l3 = 61 → (q_N0 G m_X12_signAt (d + 1) Q 51 [.ref 43, .int l1, .int l2, .int l3] [] h)) ∧ (l3 = 61 → (Q (.inl (some (.int ((l2 <<< (8 &&& 31)) ||| l3)))) h))) : q_N0 G m_X12_signAt (d + 1) Q 38 [.ref 43, .int l1, .int l2, .int l3] [] h := by
  refine q_iload_n (i := 3) dX12_signAt_38 rfl rfl ?_
  refine q_bipush (v := 61) dX12_signAt_39 (by decide) ?_
  refine q_icmp_ne (tgt := 51) dX12_signAt_41 (by decide) (fun hb => ?_) (fun hb => ?_)
  · have hF := hF.1 hb
    exact hF
  · have hF := hF.2 hb
    refine q_iload_n (i := 2) dX12_signAt_44 rfl rfl ?_
    refine q_bipush (v := 8) dX12_signAt_45 (by decide) ?_
    refine q_ishl dX12_signAt_47 ?_
    refine q_iload_n (i := 3) dX12_signAt_48 rfl rfl ?_
    refine q_ior dX12_signAt_49 ?_
    exact q_iret rfl (by decide) (by decide) dX12_signAt_50 hF
set_option maxRecDepth 100000 in
set_option maxHeartbeats 4000000 in
theorem x_X12_signAt_51 (G : qG) (d : Nat) (l1 : Int32) (l2 : Int32) (l3 : Int32) (h : qh) (Q : qr → qh → Prop)  (hF : (l2 = 60 → (q_N0 G m_X12_signAt (d + 1) Q 75 [.ref 43, .int l1, .int l2, .int l3] [] h)) ∧ (¬ l2 = 60 → ((l2 = 62 → (q_N0 G m_X12_signAt (d + 1) Q 75 [.ref 43, .int l1, .int l2, .int l3] [] h)) ∧ (¬ l2 = 62 → ((l2 = 38 → (q_N0 G m_X12_signAt (d + 1) Q 75 [.ref 43, .int l1, .int l2, .int l3] [] h)) ∧ (¬ l2 = 38 → ((¬ l2 = 124 → (q_N0 G m_X12_signAt (d + 1) Q 87 [.ref 43, .int l1, .int l2, .int l3] [] h)) ∧ (l2 = 124 → (q_N0 G m_X12_signAt (d + 1) Q 75 [.ref 43, .int l1, .int l2, .int l3] [] h))))))))) : q_N0 G m_X12_signAt (d + 1) Q 51 [.ref 43, .int l1, .int l2, .int l3] [] h := by
  refine q_iload_n (i := 2) dX12_signAt_51 rfl rfl ?_
  refine q_bipush (v := 60) dX12_signAt_52 (by decide) ?_
  refine q_icmp_eq (tgt := 75) dX12_signAt_54 (by decide) (fun hb => ?_) (fun hb => ?_)
  · have hF := hF.1 hb
    exact hF
  · have hF := hF.2 hb
    refine q_iload_n (i := 2) dX12_signAt_57 rfl rfl ?_
    refine q_bipush (v := 62) dX12_signAt_58 (by decide) ?_
    refine q_icmp_eq (tgt := 75) dX12_signAt_60 (by decide) (fun hb => ?_) (fun hb => ?_)
    · have hF := hF.1 hb
      exact hF
    · have hF := hF.2 hb
      refine q_iload_n (i := 2) dX12_signAt_63 rfl rfl ?_
      refine q_bipush (v := 38) dX12_signAt_64 (by decide) ?_
      refine q_icmp_eq (tgt := 75) dX12_signAt_66 (by decide) (fun hb => ?_) (fun hb => ?_)
      · have hF := hF.1 hb
        exact hF
      · have hF := hF.2 hb
        refine q_iload_n (i := 2) dX12_signAt_69 rfl rfl ?_
        refine q_bipush (v := 124) dX12_signAt_70 (by decide) ?_
        refine q_icmp_ne (tgt := 87) dX12_signAt_72 (by decide) (fun hb => ?_) (fun hb => ?_)
        · have hF := hF.1 hb
          exact hF
        · have hF := hF.2 hb
          exact hF
set_option maxRecDepth 100000 in
set_option maxHeartbeats 4000000 in
theorem x_X12_signAt_75 (G : qG) (d : Nat) (l1 : Int32) (l2 : Int32) (l3 : Int32) (h : qh) (Q : qr → qh → Prop)  (hF : (¬ l3 = l2 → (q_N0 G m_X12_signAt (d + 1) Q 87 [.ref 43, .int l1, .int l2, .int l3] [] h)) ∧ (l3 = l2 → (Q (.inl (some (.int ((l2 <<< (8 &&& 31)) ||| l3)))) h))) : q_N0 G m_X12_signAt (d + 1) Q 75 [.ref 43, .int l1, .int l2, .int l3] [] h := by
  refine q_iload_n (i := 3) dX12_signAt_75 rfl rfl ?_
  refine q_iload_n (i := 2) dX12_signAt_76 rfl rfl ?_
  refine q_icmp_ne (tgt := 87) dX12_signAt_77 (by decide) (fun hb => ?_) (fun hb => ?_)
  · have hF := hF.1 hb
    exact hF
  · have hF := hF.2 hb
    refine q_iload_n (i := 2) dX12_signAt_80 rfl rfl ?_
    refine q_bipush (v := 8) dX12_signAt_81 (by decide) ?_
    refine q_ishl dX12_signAt_83 ?_
    refine q_iload_n (i := 3) dX12_signAt_84 rfl rfl ?_
    refine q_ior dX12_signAt_85 ?_
    exact q_iret rfl (by decide) (by decide) dX12_signAt_86 hF
set_option maxRecDepth 100000 in
set_option maxHeartbeats 4000000 in
theorem x_X12_signAt_87 (G : qG) (d : Nat) (l1 : Int32) (l2 : Int32) (l3 : Int32) (h : qh) (Q : qr → qh → Prop)  (hF : (l2 = 33 → (q_N0 G m_X12_signAt (d + 1) Q 480 [.ref 43, .int l1, .int l2, .int l3] [] h)) ∧ (l2 = 34 → (q_N0 G m_X12_signAt (d + 1) Q 482 [.ref 43, .int l1, .int l2, .int l3] [] h)) ∧ (l2 = 35 → (q_N0 G m_X12_signAt (d + 1) Q 482 [.ref 43, .int l1, .int l2, .int l3] [] h)) ∧ (l2 = 36 → (q_N0 G m_X12_signAt (d + 1) Q 482 [.ref 43, .int l1, .int l2, .int l3] [] h)) ∧ (l2 = 37 → (q_N0 G m_X12_signAt (d + 1) Q 480 [.ref 43, .int l1, .int l2, .int l3] [] h)) ∧ (l2 = 38 → (q_N0 G m_X12_signAt (d + 1) Q 480 [.ref 43, .int l1, .int l2, .int l3] [] h)) ∧ (l2 = 39 → (q_N0 G m_X12_signAt (d + 1) Q 482 [.ref 43, .int l1, .int l2, .int l3] [] h)) ∧ (l2 = 40 → (q_N0 G m_X12_signAt (d + 1) Q 480 [.ref 43, .int l1, .int l2, .int l3] [] h)) ∧ (l2 = 41 → (q_N0 G m_X12_signAt (d + 1) Q 480 [.ref 43, .int l1, .int l2, .int l3] [] h)) ∧ (l2 = 42 → (q_N0 G m_X12_signAt (d + 1) Q 480 [.ref 43, .int l1, .int l2, .int l3] [] h)) ∧ (l2 = 43 → (q_N0 G m_X12_signAt (d + 1) Q 480 [.ref 43, .int l1, .int l2, .int l3] [] h)) ∧ (l2 = 44 → (q_N0 G m_X12_signAt (d + 1) Q 480 [.ref 43, .int l1, .int l2, .int l3] [] h)) ∧ (l2 = 45 → (q_N0 G m_X12_signAt (d + 1) Q 480 [.ref 43, .int l1, .int l2, .int l3] [] h)) ∧ (l2 = 46 → (q_N0 G m_X12_signAt (d + 1) Q 482 [.ref 43, .int l1, .int l2, .int l3] [] h)) ∧ (l2 = 47 → (q_N0 G m_X12_signAt (d + 1) Q 480 [.ref 43, .int l1, .int l2, .int l3] [] h)) ∧ (l2 = 48 → (q_N0 G m_X12_signAt (d + 1) Q 482 [.ref 43, .int l1, .int l2, .int l3] [] h)) ∧ (l2 = 49 → (q_N0 G m_X12_signAt (d + 1) Q 482 [.ref 43, .int l1, .int l2, .int l3] [] h)) ∧ (l2 = 50 → (q_N0 G m_X12_signAt (d + 1) Q 482 [.ref 43, .int l1, .int l2, .int l3] [] h)) ∧ (l2 = 51 → (q_N0 G m_X12_signAt (d + 1) Q 482 [.ref 43, .int l1, .int l2, .int l3] [] h)) ∧ (l2 = 52 → (q_N0 G m_X12_signAt (d + 1) Q 482 [.ref 43, .int l1, .int l2, .int l3] [] h)) ∧ (l2 = 53 → (q_N0 G m_X12_signAt (d + 1) Q 482 [.ref 43, .int l1, .int l2, .int l3] [] h)) ∧ (l2 = 54 → (q_N0 G m_X12_signAt (d + 1) Q 482 [.ref 43, .int l1, .int l2, .int l3] [] h)) ∧ (l2 = 55 → (q_N0 G m_X12_signAt (d + 1) Q 482 [.ref 43, .int l1, .int l2, .int l3] [] h)) ∧ (l2 = 56 → (q_N0 G m_X12_signAt (d + 1) Q 482 [.ref 43, .int l1, .int l2, .int l3] [] h)) ∧ (l2 = 57 → (q_N0 G m_X12_signAt (d + 1) Q 482 [.ref 43, .int l1, .int l2, .int l3] [] h)) ∧ (l2 = 58 → (q_N0 G m_X12_signAt (d + 1) Q 482 [.ref 43, .int l1, .int l2, .int l3] [] h)) ∧ (l2 = 59 → (q_N0 G m_X12_signAt (d + 1) Q 480 [.ref 43, .int l1, .int l2, .int l3] [] h)) ∧ (l2 = 60 → (q_N0 G m_X12_signAt (d + 1) Q 480 [.ref 43, .int l1, .int l2, .int l3] [] h)) ∧ (l2 = 61 → (q_N0 G m_X12_signAt (d + 1) Q 480 [.ref 43, .int l1, .int l2, .int l3] [] h)) ∧ (l2 = 62 → (q_N0 G m_X12_signAt (d + 1) Q 480 [.ref 43, .int l1, .int l2, .int l3] [] h)) ∧ (l2 = 63 → (q_N0 G m_X12_signAt (d + 1) Q 482 [.ref 43, .int l1, .int l2, .int l3] [] h)) ∧ (l2 = 64 → (q_N0 G m_X12_signAt (d + 1) Q 482 [.ref 43, .int l1, .int l2, .int l3] [] h)) ∧ (l2 = 65 → (q_N0 G m_X12_signAt (d + 1) Q 482 [.ref 43, .int l1, .int l2, .int l3] [] h)) ∧ (l2 = 66 → (q_N0 G m_X12_signAt (d + 1) Q 482 [.ref 43, .int l1, .int l2, .int l3] [] h)) ∧ (l2 = 67 → (q_N0 G m_X12_signAt (d + 1) Q 482 [.ref 43, .int l1, .int l2, .int l3] [] h)) ∧ (l2 = 68 → (q_N0 G m_X12_signAt (d + 1) Q 482 [.ref 43, .int l1, .int l2, .int l3] [] h)) ∧ (l2 = 69 → (q_N0 G m_X12_signAt (d + 1) Q 482 [.ref 43, .int l1, .int l2, .int l3] [] h)) ∧ (l2 = 70 → (q_N0 G m_X12_signAt (d + 1) Q 482 [.ref 43, .int l1, .int l2, .int l3] [] h)) ∧ (l2 = 71 → (q_N0 G m_X12_signAt (d + 1) Q 482 [.ref 43, .int l1, .int l2, .int l3] [] h)) ∧ (l2 = 72 → (q_N0 G m_X12_signAt (d + 1) Q 482 [.ref 43, .int l1, .int l2, .int l3] [] h)) ∧ (l2 = 73 → (q_N0 G m_X12_signAt (d + 1) Q 482 [.ref 43, .int l1, .int l2, .int l3] [] h)) ∧ (l2 = 74 → (q_N0 G m_X12_signAt (d + 1) Q 482 [.ref 43, .int l1, .int l2, .int l3] [] h)) ∧ (l2 = 75 → (q_N0 G m_X12_signAt (d + 1) Q 482 [.ref 43, .int l1, .int l2, .int l3] [] h)) ∧ (l2 = 76 → (q_N0 G m_X12_signAt (d + 1) Q 482 [.ref 43, .int l1, .int l2, .int l3] [] h)) ∧ (l2 = 77 → (q_N0 G m_X12_signAt (d + 1) Q 482 [.ref 43, .int l1, .int l2, .int l3] [] h)) ∧ (l2 = 78 → (q_N0 G m_X12_signAt (d + 1) Q 482 [.ref 43, .int l1, .int l2, .int l3] [] h)) ∧ (l2 = 79 → (q_N0 G m_X12_signAt (d + 1) Q 482 [.ref 43, .int l1, .int l2, .int l3] [] h)) ∧ (l2 = 80 → (q_N0 G m_X12_signAt (d + 1) Q 482 [.ref 43, .int l1, .int l2, .int l3] [] h)) ∧ (l2 = 81 → (q_N0 G m_X12_signAt (d + 1) Q 482 [.ref 43, .int l1, .int l2, .int l3] [] h)) ∧ (l2 = 82 → (q_N0 G m_X12_signAt (d + 1) Q 482 [.ref 43, .int l1, .int l2, .int l3] [] h)) ∧ (l2 = 83 → (q_N0 G m_X12_signAt (d + 1) Q 482 [.ref 43, .int l1, .int l2, .int l3] [] h)) ∧ (l2 = 84 → (q_N0 G m_X12_signAt (d + 1) Q 482 [.ref 43, .int l1, .int l2, .int l3] [] h)) ∧ (l2 = 85 → (q_N0 G m_X12_signAt (d + 1) Q 482 [.ref 43, .int l1, .int l2, .int l3] [] h)) ∧ (l2 = 86 → (q_N0 G m_X12_signAt (d + 1) Q 482 [.ref 43, .int l1, .int l2, .int l3] [] h)) ∧ (l2 = 87 → (q_N0 G m_X12_signAt (d + 1) Q 482 [.ref 43, .int l1, .int l2, .int l3] [] h)) ∧ (l2 = 88 → (q_N0 G m_X12_signAt (d + 1) Q 482 [.ref 43, .int l1, .int l2, .int l3] [] h)) ∧ (l2 = 89 → (q_N0 G m_X12_signAt (d + 1) Q 482 [.ref 43, .int l1, .int l2, .int l3] [] h)) ∧ (l2 = 90 → (q_N0 G m_X12_signAt (d + 1) Q 482 [.ref 43, .int l1, .int l2, .int l3] [] h)) ∧ (l2 = 91 → (q_N0 G m_X12_signAt (d + 1) Q 480 [.ref 43, .int l1, .int l2, .int l3] [] h)) ∧ (l2 = 92 → (q_N0 G m_X12_signAt (d + 1) Q 482 [.ref 43, .int l1, .int l2, .int l3] [] h)) ∧ (l2 = 93 → (q_N0 G m_X12_signAt (d + 1) Q 480 [.ref 43, .int l1, .int l2, .int l3] [] h)) ∧ (l2 = 94 → (q_N0 G m_X12_signAt (d + 1) Q 480 [.ref 43, .int l1, .int l2, .int l3] [] h)) ∧ (l2 = 95 → (q_N0 G m_X12_signAt (d + 1) Q 482 [.ref 43, .int l1, .int l2, .int l3] [] h)) ∧ (l2 = 96 → (q_N0 G m_X12_signAt (d + 1) Q 482 [.ref 43, .int l1, .int l2, .int l3] [] h)) ∧ (l2 = 97 → (q_N0 G m_X12_signAt (d + 1) Q 482 [.ref 43, .int l1, .int l2, .int l3] [] h)) ∧ (l2 = 98 → (q_N0 G m_X12_signAt (d + 1) Q 482 [.ref 43, .int l1, .int l2, .int l3] [] h)) ∧ (l2 = 99 → (q_N0 G m_X12_signAt (d + 1) Q 482 [.ref 43, .int l1, .int l2, .int l3] [] h)) ∧ (l2 = 100 → (q_N0 G m_X12_signAt (d + 1) Q 482 [.ref 43, .int l1, .int l2, .int l3] [] h)) ∧ (l2 = 101 → (q_N0 G m_X12_signAt (d + 1) Q 482 [.ref 43, .int l1, .int l2, .int l3] [] h)) ∧ (l2 = 102 → (q_N0 G m_X12_signAt (d + 1) Q 482 [.ref 43, .int l1, .int l2, .int l3] [] h)) ∧ (l2 = 103 → (q_N0 G m_X12_signAt (d + 1) Q 482 [.ref 43, .int l1, .int l2, .int l3] [] h)) ∧ (l2 = 104 → (q_N0 G m_X12_signAt (d + 1) Q 482 [.ref 43, .int l1, .int l2, .int l3] [] h)) ∧ (l2 = 105 → (q_N0 G m_X12_signAt (d + 1) Q 482 [.ref 43, .int l1, .int l2, .int l3] [] h)) ∧ (l2 = 106 → (q_N0 G m_X12_signAt (d + 1) Q 482 [.ref 43, .int l1, .int l2, .int l3] [] h)) ∧ (l2 = 107 → (q_N0 G m_X12_signAt (d + 1) Q 482 [.ref 43, .int l1, .int l2, .int l3] [] h)) ∧ (l2 = 108 → (q_N0 G m_X12_signAt (d + 1) Q 482 [.ref 43, .int l1, .int l2, .int l3] [] h)) ∧ (l2 = 109 → (q_N0 G m_X12_signAt (d + 1) Q 482 [.ref 43, .int l1, .int l2, .int l3] [] h)) ∧ (l2 = 110 → (q_N0 G m_X12_signAt (d + 1) Q 482 [.ref 43, .int l1, .int l2, .int l3] [] h)) ∧ (l2 = 111 → (q_N0 G m_X12_signAt (d + 1) Q 482 [.ref 43, .int l1, .int l2, .int l3] [] h)) ∧ (l2 = 112 → (q_N0 G m_X12_signAt (d + 1) Q 482 [.ref 43, .int l1, .int l2, .int l3] [] h)) ∧ (l2 = 113 → (q_N0 G m_X12_signAt (d + 1) Q 482 [.ref 43, .int l1, .int l2, .int l3] [] h)) ∧ (l2 = 114 → (q_N0 G m_X12_signAt (d + 1) Q 482 [.ref 43, .int l1, .int l2, .int l3] [] h)) ∧ (l2 = 115 → (q_N0 G m_X12_signAt (d + 1) Q 482 [.ref 43, .int l1, .int l2, .int l3] [] h)) ∧ (l2 = 116 → (q_N0 G m_X12_signAt (d + 1) Q 482 [.ref 43, .int l1, .int l2, .int l3] [] h)) ∧ (l2 = 117 → (q_N0 G m_X12_signAt (d + 1) Q 482 [.ref 43, .int l1, .int l2, .int l3] [] h)) ∧ (l2 = 118 → (q_N0 G m_X12_signAt (d + 1) Q 482 [.ref 43, .int l1, .int l2, .int l3] [] h)) ∧ (l2 = 119 → (q_N0 G m_X12_signAt (d + 1) Q 482 [.ref 43, .int l1, .int l2, .int l3] [] h)) ∧ (l2 = 120 → (q_N0 G m_X12_signAt (d + 1) Q 482 [.ref 43, .int l1, .int l2, .int l3] [] h)) ∧ (l2 = 121 → (q_N0 G m_X12_signAt (d + 1) Q 482 [.ref 43, .int l1, .int l2, .int l3] [] h)) ∧ (l2 = 122 → (q_N0 G m_X12_signAt (d + 1) Q 482 [.ref 43, .int l1, .int l2, .int l3] [] h)) ∧ (l2 = 123 → (q_N0 G m_X12_signAt (d + 1) Q 480 [.ref 43, .int l1, .int l2, .int l3] [] h)) ∧ (l2 = 124 → (q_N0 G m_X12_signAt (d + 1) Q 480 [.ref 43, .int l1, .int l2, .int l3] [] h)) ∧ (l2 = 125 → (q_N0 G m_X12_signAt (d + 1) Q 480 [.ref 43, .int l1, .int l2, .int l3] [] h)) ∧ (l2 = 126 → (q_N0 G m_X12_signAt (d + 1) Q 480 [.ref 43, .int l1, .int l2, .int l3] [] h)) ∧ (¬ l2 = 33 ∧ ¬ l2 = 34 ∧ ¬ l2 = 35 ∧ ¬ l2 = 36 ∧ ¬ l2 = 37 ∧ ¬ l2 = 38 ∧ ¬ l2 = 39 ∧ ¬ l2 = 40 ∧ ¬ l2 = 41 ∧ ¬ l2 = 42 ∧ ¬ l2 = 43 ∧ ¬ l2 = 44 ∧ ¬ l2 = 45 ∧ ¬ l2 = 46 ∧ ¬ l2 = 47 ∧ ¬ l2 = 48 ∧ ¬ l2 = 49 ∧ ¬ l2 = 50 ∧ ¬ l2 = 51 ∧ ¬ l2 = 52 ∧ ¬ l2 = 53 ∧ ¬ l2 = 54 ∧ ¬ l2 = 55 ∧ ¬ l2 = 56 ∧ ¬ l2 = 57 ∧ ¬ l2 = 58 ∧ ¬ l2 = 59 ∧ ¬ l2 = 60 ∧ ¬ l2 = 61 ∧ ¬ l2 = 62 ∧ ¬ l2 = 63 ∧ ¬ l2 = 64 ∧ ¬ l2 = 65 ∧ ¬ l2 = 66 ∧ ¬ l2 = 67 ∧ ¬ l2 = 68 ∧ ¬ l2 = 69 ∧ ¬ l2 = 70 ∧ ¬ l2 = 71 ∧ ¬ l2 = 72 ∧ ¬ l2 = 73 ∧ ¬ l2 = 74 ∧ ¬ l2 = 75 ∧ ¬ l2 = 76 ∧ ¬ l2 = 77 ∧ ¬ l2 = 78 ∧ ¬ l2 = 79 ∧ ¬ l2 = 80 ∧ ¬ l2 = 81 ∧ ¬ l2 = 82 ∧ ¬ l2 = 83 ∧ ¬ l2 = 84 ∧ ¬ l2 = 85 ∧ ¬ l2 = 86 ∧ ¬ l2 = 87 ∧ ¬ l2 = 88 ∧ ¬ l2 = 89 ∧ ¬ l2 = 90 ∧ ¬ l2 = 91 ∧ ¬ l2 = 92 ∧ ¬ l2 = 93 ∧ ¬ l2 = 94 ∧ ¬ l2 = 95 ∧ ¬ l2 = 96 ∧ ¬ l2 = 97 ∧ ¬ l2 = 98 ∧ ¬ l2 = 99 ∧ ¬ l2 = 100 ∧ ¬ l2 = 101 ∧ ¬ l2 = 102 ∧ ¬ l2 = 103 ∧ ¬ l2 = 104 ∧ ¬ l2 = 105 ∧ ¬ l2 = 106 ∧ ¬ l2 = 107 ∧ ¬ l2 = 108 ∧ ¬ l2 = 109 ∧ ¬ l2 = 110 ∧ ¬ l2 = 111 ∧ ¬ l2 = 112 ∧ ¬ l2 = 113 ∧ ¬ l2 = 114 ∧ ¬ l2 = 115 ∧ ¬ l2 = 116 ∧ ¬ l2 = 117 ∧ ¬ l2 = 118 ∧ ¬ l2 = 119 ∧ ¬ l2 = 120 ∧ ¬ l2 = 121 ∧ ¬ l2 = 122 ∧ ¬ l2 = 123 ∧ ¬ l2 = 124 ∧ ¬ l2 = 125 ∧ ¬ l2 = 126 → (q_N0 G m_X12_signAt (d + 1) Q 482 [.ref 43, .int l1, .int l2, .int l3] [] h))) : q_N0 G m_X12_signAt (d + 1) Q 87 [.ref 43, .int l1, .int l2, .int l3] [] h := by
  refine q_iload_n (i := 2) dX12_signAt_87 rfl rfl ?_
  refine q_by (l2 = 33) (fun hs5_0 => ?_) (fun hs5_0 => ?_)
  · have hF := hF.1 hs5_0
    refine q_tableIn (tgt := 480) dX12_signAt_88 (by rw [hs5_0]; decide) (by rw [hs5_0]; decide) (by first | (rw [hs5_0]; done) | (rw [hs5_0]; rfl)) (by decide) ?_
    exact hF
  have hF := hF.2
  refine q_by (l2 = 34) (fun hs5_1 => ?_) (fun hs5_1 => ?_)
  · have hF := hF.1 hs5_1
    refine q_tableIn (tgt := 482) dX12_signAt_88 (by rw [hs5_1]; decide) (by rw [hs5_1]; decide) (by first | (rw [hs5_1]; done) | (rw [hs5_1]; rfl)) (by decide) ?_
    exact hF
  have hF := hF.2
  refine q_by (l2 = 35) (fun hs5_2 => ?_) (fun hs5_2 => ?_)
  · have hF := hF.1 hs5_2
    refine q_tableIn (tgt := 482) dX12_signAt_88 (by rw [hs5_2]; decide) (by rw [hs5_2]; decide) (by first | (rw [hs5_2]; done) | (rw [hs5_2]; rfl)) (by decide) ?_
    exact hF
  have hF := hF.2
  refine q_by (l2 = 36) (fun hs5_3 => ?_) (fun hs5_3 => ?_)
  · have hF := hF.1 hs5_3
    refine q_tableIn (tgt := 482) dX12_signAt_88 (by rw [hs5_3]; decide) (by rw [hs5_3]; decide) (by first | (rw [hs5_3]; done) | (rw [hs5_3]; rfl)) (by decide) ?_
    exact hF
  have hF := hF.2
  refine q_by (l2 = 37) (fun hs5_4 => ?_) (fun hs5_4 => ?_)
  · have hF := hF.1 hs5_4
    refine q_tableIn (tgt := 480) dX12_signAt_88 (by rw [hs5_4]; decide) (by rw [hs5_4]; decide) (by first | (rw [hs5_4]; done) | (rw [hs5_4]; rfl)) (by decide) ?_
    exact hF
  have hF := hF.2
  refine q_by (l2 = 38) (fun hs5_5 => ?_) (fun hs5_5 => ?_)
  · have hF := hF.1 hs5_5
    refine q_tableIn (tgt := 480) dX12_signAt_88 (by rw [hs5_5]; decide) (by rw [hs5_5]; decide) (by first | (rw [hs5_5]; done) | (rw [hs5_5]; rfl)) (by decide) ?_
    exact hF
  have hF := hF.2
  refine q_by (l2 = 39) (fun hs5_6 => ?_) (fun hs5_6 => ?_)
  · have hF := hF.1 hs5_6
    refine q_tableIn (tgt := 482) dX12_signAt_88 (by rw [hs5_6]; decide) (by rw [hs5_6]; decide) (by first | (rw [hs5_6]; done) | (rw [hs5_6]; rfl)) (by decide) ?_
    exact hF
  have hF := hF.2
  refine q_by (l2 = 40) (fun hs5_7 => ?_) (fun hs5_7 => ?_)
  · have hF := hF.1 hs5_7
    refine q_tableIn (tgt := 480) dX12_signAt_88 (by rw [hs5_7]; decide) (by rw [hs5_7]; decide) (by first | (rw [hs5_7]; done) | (rw [hs5_7]; rfl)) (by decide) ?_
    exact hF
  have hF := hF.2
  refine q_by (l2 = 41) (fun hs5_8 => ?_) (fun hs5_8 => ?_)
  · have hF := hF.1 hs5_8
    refine q_tableIn (tgt := 480) dX12_signAt_88 (by rw [hs5_8]; decide) (by rw [hs5_8]; decide) (by first | (rw [hs5_8]; done) | (rw [hs5_8]; rfl)) (by decide) ?_
    exact hF
  have hF := hF.2
  refine q_by (l2 = 42) (fun hs5_9 => ?_) (fun hs5_9 => ?_)
  · have hF := hF.1 hs5_9
    refine q_tableIn (tgt := 480) dX12_signAt_88 (by rw [hs5_9]; decide) (by rw [hs5_9]; decide) (by first | (rw [hs5_9]; done) | (rw [hs5_9]; rfl)) (by decide) ?_
    exact hF
  have hF := hF.2
  refine q_by (l2 = 43) (fun hs5_10 => ?_) (fun hs5_10 => ?_)
  · have hF := hF.1 hs5_10
    refine q_tableIn (tgt := 480) dX12_signAt_88 (by rw [hs5_10]; decide) (by rw [hs5_10]; decide) (by first | (rw [hs5_10]; done) | (rw [hs5_10]; rfl)) (by decide) ?_
    exact hF
  have hF := hF.2
  refine q_by (l2 = 44) (fun hs5_11 => ?_) (fun hs5_11 => ?_)
  · have hF := hF.1 hs5_11
    refine q_tableIn (tgt := 480) dX12_signAt_88 (by rw [hs5_11]; decide) (by rw [hs5_11]; decide) (by first | (rw [hs5_11]; done) | (rw [hs5_11]; rfl)) (by decide) ?_
    exact hF
  have hF := hF.2
  refine q_by (l2 = 45) (fun hs5_12 => ?_) (fun hs5_12 => ?_)
  · have hF := hF.1 hs5_12
    refine q_tableIn (tgt := 480) dX12_signAt_88 (by rw [hs5_12]; decide) (by rw [hs5_12]; decide) (by first | (rw [hs5_12]; done) | (rw [hs5_12]; rfl)) (by decide) ?_
    exact hF
  have hF := hF.2
  refine q_by (l2 = 46) (fun hs5_13 => ?_) (fun hs5_13 => ?_)
  · have hF := hF.1 hs5_13
    refine q_tableIn (tgt := 482) dX12_signAt_88 (by rw [hs5_13]; decide) (by rw [hs5_13]; decide) (by first | (rw [hs5_13]; done) | (rw [hs5_13]; rfl)) (by decide) ?_
    exact hF
  have hF := hF.2
  refine q_by (l2 = 47) (fun hs5_14 => ?_) (fun hs5_14 => ?_)
  · have hF := hF.1 hs5_14
    refine q_tableIn (tgt := 480) dX12_signAt_88 (by rw [hs5_14]; decide) (by rw [hs5_14]; decide) (by first | (rw [hs5_14]; done) | (rw [hs5_14]; rfl)) (by decide) ?_
    exact hF
  have hF := hF.2
  refine q_by (l2 = 48) (fun hs5_15 => ?_) (fun hs5_15 => ?_)
  · have hF := hF.1 hs5_15
    refine q_tableIn (tgt := 482) dX12_signAt_88 (by rw [hs5_15]; decide) (by rw [hs5_15]; decide) (by first | (rw [hs5_15]; done) | (rw [hs5_15]; rfl)) (by decide) ?_
    exact hF
  have hF := hF.2
  refine q_by (l2 = 49) (fun hs5_16 => ?_) (fun hs5_16 => ?_)
  · have hF := hF.1 hs5_16
    refine q_tableIn (tgt := 482) dX12_signAt_88 (by rw [hs5_16]; decide) (by rw [hs5_16]; decide) (by first | (rw [hs5_16]; done) | (rw [hs5_16]; rfl)) (by decide) ?_
    exact hF
  have hF := hF.2
  refine q_by (l2 = 50) (fun hs5_17 => ?_) (fun hs5_17 => ?_)
  · have hF := hF.1 hs5_17
    refine q_tableIn (tgt := 482) dX12_signAt_88 (by rw [hs5_17]; decide) (by rw [hs5_17]; decide) (by first | (rw [hs5_17]; done) | (rw [hs5_17]; rfl)) (by decide) ?_
    exact hF
  have hF := hF.2
  refine q_by (l2 = 51) (fun hs5_18 => ?_) (fun hs5_18 => ?_)
  · have hF := hF.1 hs5_18
    refine q_tableIn (tgt := 482) dX12_signAt_88 (by rw [hs5_18]; decide) (by rw [hs5_18]; decide) (by first | (rw [hs5_18]; done) | (rw [hs5_18]; rfl)) (by decide) ?_
    exact hF
  have hF := hF.2
  refine q_by (l2 = 52) (fun hs5_19 => ?_) (fun hs5_19 => ?_)
  · have hF := hF.1 hs5_19
    refine q_tableIn (tgt := 482) dX12_signAt_88 (by rw [hs5_19]; decide) (by rw [hs5_19]; decide) (by first | (rw [hs5_19]; done) | (rw [hs5_19]; rfl)) (by decide) ?_
    exact hF
  have hF := hF.2
  refine q_by (l2 = 53) (fun hs5_20 => ?_) (fun hs5_20 => ?_)
  · have hF := hF.1 hs5_20
    refine q_tableIn (tgt := 482) dX12_signAt_88 (by rw [hs5_20]; decide) (by rw [hs5_20]; decide) (by first | (rw [hs5_20]; done) | (rw [hs5_20]; rfl)) (by decide) ?_
    exact hF
  have hF := hF.2
  refine q_by (l2 = 54) (fun hs5_21 => ?_) (fun hs5_21 => ?_)
  · have hF := hF.1 hs5_21
    refine q_tableIn (tgt := 482) dX12_signAt_88 (by rw [hs5_21]; decide) (by rw [hs5_21]; decide) (by first | (rw [hs5_21]; done) | (rw [hs5_21]; rfl)) (by decide) ?_
    exact hF
  have hF := hF.2
  refine q_by (l2 = 55) (fun hs5_22 => ?_) (fun hs5_22 => ?_)
  · have hF := hF.1 hs5_22
    refine q_tableIn (tgt := 482) dX12_signAt_88 (by rw [hs5_22]; decide) (by rw [hs5_22]; decide) (by first | (rw [hs5_22]; done) | (rw [hs5_22]; rfl)) (by decide) ?_
    exact hF
  have hF := hF.2
  refine q_by (l2 = 56) (fun hs5_23 => ?_) (fun hs5_23 => ?_)
  · have hF := hF.1 hs5_23
    refine q_tableIn (tgt := 482) dX12_signAt_88 (by rw [hs5_23]; decide) (by rw [hs5_23]; decide) (by first | (rw [hs5_23]; done) | (rw [hs5_23]; rfl)) (by decide) ?_
    exact hF
  have hF := hF.2
  refine q_by (l2 = 57) (fun hs5_24 => ?_) (fun hs5_24 => ?_)
  · have hF := hF.1 hs5_24
    refine q_tableIn (tgt := 482) dX12_signAt_88 (by rw [hs5_24]; decide) (by rw [hs5_24]; decide) (by first | (rw [hs5_24]; done) | (rw [hs5_24]; rfl)) (by decide) ?_
    exact hF
  have hF := hF.2
  refine q_by (l2 = 58) (fun hs5_25 => ?_) (fun hs5_25 => ?_)
  · have hF := hF.1 hs5_25
    refine q_tableIn (tgt := 482) dX12_signAt_88 (by rw [hs5_25]; decide) (by rw [hs5_25]; decide) (by first | (rw [hs5_25]; done) | (rw [hs5_25]; rfl)) (by decide) ?_
    exact hF
  have hF := hF.2
  refine q_by (l2 = 59) (fun hs5_26 => ?_) (fun hs5_26 => ?_)
  · have hF := hF.1 hs5_26
    refine q_tableIn (tgt := 480) dX12_signAt_88 (by rw [hs5_26]; decide) (by rw [hs5_26]; decide) (by first | (rw [hs5_26]; done) | (rw [hs5_26]; rfl)) (by decide) ?_
    exact hF
  have hF := hF.2
  refine q_by (l2 = 60) (fun hs5_27 => ?_) (fun hs5_27 => ?_)
  · have hF := hF.1 hs5_27
    refine q_tableIn (tgt := 480) dX12_signAt_88 (by rw [hs5_27]; decide) (by rw [hs5_27]; decide) (by first | (rw [hs5_27]; done) | (rw [hs5_27]; rfl)) (by decide) ?_
    exact hF
  have hF := hF.2
  refine q_by (l2 = 61) (fun hs5_28 => ?_) (fun hs5_28 => ?_)
  · have hF := hF.1 hs5_28
    refine q_tableIn (tgt := 480) dX12_signAt_88 (by rw [hs5_28]; decide) (by rw [hs5_28]; decide) (by first | (rw [hs5_28]; done) | (rw [hs5_28]; rfl)) (by decide) ?_
    exact hF
  have hF := hF.2
  refine q_by (l2 = 62) (fun hs5_29 => ?_) (fun hs5_29 => ?_)
  · have hF := hF.1 hs5_29
    refine q_tableIn (tgt := 480) dX12_signAt_88 (by rw [hs5_29]; decide) (by rw [hs5_29]; decide) (by first | (rw [hs5_29]; done) | (rw [hs5_29]; rfl)) (by decide) ?_
    exact hF
  have hF := hF.2
  refine q_by (l2 = 63) (fun hs5_30 => ?_) (fun hs5_30 => ?_)
  · have hF := hF.1 hs5_30
    refine q_tableIn (tgt := 482) dX12_signAt_88 (by rw [hs5_30]; decide) (by rw [hs5_30]; decide) (by first | (rw [hs5_30]; done) | (rw [hs5_30]; rfl)) (by decide) ?_
    exact hF
  have hF := hF.2
  refine q_by (l2 = 64) (fun hs5_31 => ?_) (fun hs5_31 => ?_)
  · have hF := hF.1 hs5_31
    refine q_tableIn (tgt := 482) dX12_signAt_88 (by rw [hs5_31]; decide) (by rw [hs5_31]; decide) (by first | (rw [hs5_31]; done) | (rw [hs5_31]; rfl)) (by decide) ?_
    exact hF
  have hF := hF.2
  refine q_by (l2 = 65) (fun hs5_32 => ?_) (fun hs5_32 => ?_)
  · have hF := hF.1 hs5_32
    refine q_tableIn (tgt := 482) dX12_signAt_88 (by rw [hs5_32]; decide) (by rw [hs5_32]; decide) (by first | (rw [hs5_32]; done) | (rw [hs5_32]; rfl)) (by decide) ?_
    exact hF
  have hF := hF.2
  refine q_by (l2 = 66) (fun hs5_33 => ?_) (fun hs5_33 => ?_)
  · have hF := hF.1 hs5_33
    refine q_tableIn (tgt := 482) dX12_signAt_88 (by rw [hs5_33]; decide) (by rw [hs5_33]; decide) (by first | (rw [hs5_33]; done) | (rw [hs5_33]; rfl)) (by decide) ?_
    exact hF
  have hF := hF.2
  refine q_by (l2 = 67) (fun hs5_34 => ?_) (fun hs5_34 => ?_)
  · have hF := hF.1 hs5_34
    refine q_tableIn (tgt := 482) dX12_signAt_88 (by rw [hs5_34]; decide) (by rw [hs5_34]; decide) (by first | (rw [hs5_34]; done) | (rw [hs5_34]; rfl)) (by decide) ?_
    exact hF
  have hF := hF.2
  refine q_by (l2 = 68) (fun hs5_35 => ?_) (fun hs5_35 => ?_)
  · have hF := hF.1 hs5_35
    refine q_tableIn (tgt := 482) dX12_signAt_88 (by rw [hs5_35]; decide) (by rw [hs5_35]; decide) (by first | (rw [hs5_35]; done) | (rw [hs5_35]; rfl)) (by decide) ?_
    exact hF
  have hF := hF.2
  refine q_by (l2 = 69) (fun hs5_36 => ?_) (fun hs5_36 => ?_)
  · have hF := hF.1 hs5_36
    refine q_tableIn (tgt := 482) dX12_signAt_88 (by rw [hs5_36]; decide) (by rw [hs5_36]; decide) (by first | (rw [hs5_36]; done) | (rw [hs5_36]; rfl)) (by decide) ?_
    exact hF
  have hF := hF.2
  refine q_by (l2 = 70) (fun hs5_37 => ?_) (fun hs5_37 => ?_)
  · have hF := hF.1 hs5_37
    refine q_tableIn (tgt := 482) dX12_signAt_88 (by rw [hs5_37]; decide) (by rw [hs5_37]; decide) (by first | (rw [hs5_37]; done) | (rw [hs5_37]; rfl)) (by decide) ?_
    exact hF
  have hF := hF.2
  refine q_by (l2 = 71) (fun hs5_38 => ?_) (fun hs5_38 => ?_)
  · have hF := hF.1 hs5_38
    refine q_tableIn (tgt := 482) dX12_signAt_88 (by rw [hs5_38]; decide) (by rw [hs5_38]; decide) (by first | (rw [hs5_38]; done) | (rw [hs5_38]; rfl)) (by decide) ?_
    exact hF
  have hF := hF.2
  refine q_by (l2 = 72) (fun hs5_39 => ?_) (fun hs5_39 => ?_)
  · have hF := hF.1 hs5_39
    refine q_tableIn (tgt := 482) dX12_signAt_88 (by rw [hs5_39]; decide) (by rw [hs5_39]; decide) (by first | (rw [hs5_39]; done) | (rw [hs5_39]; rfl)) (by decide) ?_
    exact hF
  have hF := hF.2
  refine q_by (l2 = 73) (fun hs5_40 => ?_) (fun hs5_40 => ?_)
  · have hF := hF.1 hs5_40
    refine q_tableIn (tgt := 482) dX12_signAt_88 (by rw [hs5_40]; decide) (by rw [hs5_40]; decide) (by first | (rw [hs5_40]; done) | (rw [hs5_40]; rfl)) (by decide) ?_
    exact hF
  have hF := hF.2
  refine q_by (l2 = 74) (fun hs5_41 => ?_) (fun hs5_41 => ?_)
  · have hF := hF.1 hs5_41
    refine q_tableIn (tgt := 482) dX12_signAt_88 (by rw [hs5_41]; decide) (by rw [hs5_41]; decide) (by first | (rw [hs5_41]; done) | (rw [hs5_41]; rfl)) (by decide) ?_
    exact hF
  have hF := hF.2
  refine q_by (l2 = 75) (fun hs5_42 => ?_) (fun hs5_42 => ?_)
  · have hF := hF.1 hs5_42
    refine q_tableIn (tgt := 482) dX12_signAt_88 (by rw [hs5_42]; decide) (by rw [hs5_42]; decide) (by first | (rw [hs5_42]; done) | (rw [hs5_42]; rfl)) (by decide) ?_
    exact hF
  have hF := hF.2
  refine q_by (l2 = 76) (fun hs5_43 => ?_) (fun hs5_43 => ?_)
  · have hF := hF.1 hs5_43
    refine q_tableIn (tgt := 482) dX12_signAt_88 (by rw [hs5_43]; decide) (by rw [hs5_43]; decide) (by first | (rw [hs5_43]; done) | (rw [hs5_43]; rfl)) (by decide) ?_
    exact hF
  have hF := hF.2
  refine q_by (l2 = 77) (fun hs5_44 => ?_) (fun hs5_44 => ?_)
  · have hF := hF.1 hs5_44
    refine q_tableIn (tgt := 482) dX12_signAt_88 (by rw [hs5_44]; decide) (by rw [hs5_44]; decide) (by first | (rw [hs5_44]; done) | (rw [hs5_44]; rfl)) (by decide) ?_
    exact hF
  have hF := hF.2
  refine q_by (l2 = 78) (fun hs5_45 => ?_) (fun hs5_45 => ?_)
  · have hF := hF.1 hs5_45
    refine q_tableIn (tgt := 482) dX12_signAt_88 (by rw [hs5_45]; decide) (by rw [hs5_45]; decide) (by first | (rw [hs5_45]; done) | (rw [hs5_45]; rfl)) (by decide) ?_
    exact hF
  have hF := hF.2
  refine q_by (l2 = 79) (fun hs5_46 => ?_) (fun hs5_46 => ?_)
  · have hF := hF.1 hs5_46
    refine q_tableIn (tgt := 482) dX12_signAt_88 (by rw [hs5_46]; decide) (by rw [hs5_46]; decide) (by first | (rw [hs5_46]; done) | (rw [hs5_46]; rfl)) (by decide) ?_
    exact hF
  have hF := hF.2
  refine q_by (l2 = 80) (fun hs5_47 => ?_) (fun hs5_47 => ?_)
  · have hF := hF.1 hs5_47
    refine q_tableIn (tgt := 482) dX12_signAt_88 (by rw [hs5_47]; decide) (by rw [hs5_47]; decide) (by first | (rw [hs5_47]; done) | (rw [hs5_47]; rfl)) (by decide) ?_
    exact hF
  have hF := hF.2
  refine q_by (l2 = 81) (fun hs5_48 => ?_) (fun hs5_48 => ?_)
  · have hF := hF.1 hs5_48
    refine q_tableIn (tgt := 482) dX12_signAt_88 (by rw [hs5_48]; decide) (by rw [hs5_48]; decide) (by first | (rw [hs5_48]; done) | (rw [hs5_48]; rfl)) (by decide) ?_
    exact hF
  have hF := hF.2
  refine q_by (l2 = 82) (fun hs5_49 => ?_) (fun hs5_49 => ?_)
  · have hF := hF.1 hs5_49
    refine q_tableIn (tgt := 482) dX12_signAt_88 (by rw [hs5_49]; decide) (by rw [hs5_49]; decide) (by first | (rw [hs5_49]; done) | (rw [hs5_49]; rfl)) (by decide) ?_
    exact hF
  have hF := hF.2
  refine q_by (l2 = 83) (fun hs5_50 => ?_) (fun hs5_50 => ?_)
  · have hF := hF.1 hs5_50
    refine q_tableIn (tgt := 482) dX12_signAt_88 (by rw [hs5_50]; decide) (by rw [hs5_50]; decide) (by first | (rw [hs5_50]; done) | (rw [hs5_50]; rfl)) (by decide) ?_
    exact hF
  have hF := hF.2
  refine q_by (l2 = 84) (fun hs5_51 => ?_) (fun hs5_51 => ?_)
  · have hF := hF.1 hs5_51
    refine q_tableIn (tgt := 482) dX12_signAt_88 (by rw [hs5_51]; decide) (by rw [hs5_51]; decide) (by first | (rw [hs5_51]; done) | (rw [hs5_51]; rfl)) (by decide) ?_
    exact hF
  have hF := hF.2
  refine q_by (l2 = 85) (fun hs5_52 => ?_) (fun hs5_52 => ?_)
  · have hF := hF.1 hs5_52
    refine q_tableIn (tgt := 482) dX12_signAt_88 (by rw [hs5_52]; decide) (by rw [hs5_52]; decide) (by first | (rw [hs5_52]; done) | (rw [hs5_52]; rfl)) (by decide) ?_
    exact hF
  have hF := hF.2
  refine q_by (l2 = 86) (fun hs5_53 => ?_) (fun hs5_53 => ?_)
  · have hF := hF.1 hs5_53
    refine q_tableIn (tgt := 482) dX12_signAt_88 (by rw [hs5_53]; decide) (by rw [hs5_53]; decide) (by first | (rw [hs5_53]; done) | (rw [hs5_53]; rfl)) (by decide) ?_
    exact hF
  have hF := hF.2
  refine q_by (l2 = 87) (fun hs5_54 => ?_) (fun hs5_54 => ?_)
  · have hF := hF.1 hs5_54
    refine q_tableIn (tgt := 482) dX12_signAt_88 (by rw [hs5_54]; decide) (by rw [hs5_54]; decide) (by first | (rw [hs5_54]; done) | (rw [hs5_54]; rfl)) (by decide) ?_
    exact hF
  have hF := hF.2
  refine q_by (l2 = 88) (fun hs5_55 => ?_) (fun hs5_55 => ?_)
  · have hF := hF.1 hs5_55
    refine q_tableIn (tgt := 482) dX12_signAt_88 (by rw [hs5_55]; decide) (by rw [hs5_55]; decide) (by first | (rw [hs5_55]; done) | (rw [hs5_55]; rfl)) (by decide) ?_
    exact hF
  have hF := hF.2
  refine q_by (l2 = 89) (fun hs5_56 => ?_) (fun hs5_56 => ?_)
  · have hF := hF.1 hs5_56
    refine q_tableIn (tgt := 482) dX12_signAt_88 (by rw [hs5_56]; decide) (by rw [hs5_56]; decide) (by first | (rw [hs5_56]; done) | (rw [hs5_56]; rfl)) (by decide) ?_
    exact hF
  have hF := hF.2
  refine q_by (l2 = 90) (fun hs5_57 => ?_) (fun hs5_57 => ?_)
  · have hF := hF.1 hs5_57
    refine q_tableIn (tgt := 482) dX12_signAt_88 (by rw [hs5_57]; decide) (by rw [hs5_57]; decide) (by first | (rw [hs5_57]; done) | (rw [hs5_57]; rfl)) (by decide) ?_
    exact hF
  have hF := hF.2
  refine q_by (l2 = 91) (fun hs5_58 => ?_) (fun hs5_58 => ?_)
  · have hF := hF.1 hs5_58
    refine q_tableIn (tgt := 480) dX12_signAt_88 (by rw [hs5_58]; decide) (by rw [hs5_58]; decide) (by first | (rw [hs5_58]; done) | (rw [hs5_58]; rfl)) (by decide) ?_
    exact hF
  have hF := hF.2
  refine q_by (l2 = 92) (fun hs5_59 => ?_) (fun hs5_59 => ?_)
  · have hF := hF.1 hs5_59
    refine q_tableIn (tgt := 482) dX12_signAt_88 (by rw [hs5_59]; decide) (by rw [hs5_59]; decide) (by first | (rw [hs5_59]; done) | (rw [hs5_59]; rfl)) (by decide) ?_
    exact hF
  have hF := hF.2
  refine q_by (l2 = 93) (fun hs5_60 => ?_) (fun hs5_60 => ?_)
  · have hF := hF.1 hs5_60
    refine q_tableIn (tgt := 480) dX12_signAt_88 (by rw [hs5_60]; decide) (by rw [hs5_60]; decide) (by first | (rw [hs5_60]; done) | (rw [hs5_60]; rfl)) (by decide) ?_
    exact hF
  have hF := hF.2
  refine q_by (l2 = 94) (fun hs5_61 => ?_) (fun hs5_61 => ?_)
  · have hF := hF.1 hs5_61
    refine q_tableIn (tgt := 480) dX12_signAt_88 (by rw [hs5_61]; decide) (by rw [hs5_61]; decide) (by first | (rw [hs5_61]; done) | (rw [hs5_61]; rfl)) (by decide) ?_
    exact hF
  have hF := hF.2
  refine q_by (l2 = 95) (fun hs5_62 => ?_) (fun hs5_62 => ?_)
  · have hF := hF.1 hs5_62
    refine q_tableIn (tgt := 482) dX12_signAt_88 (by rw [hs5_62]; decide) (by rw [hs5_62]; decide) (by first | (rw [hs5_62]; done) | (rw [hs5_62]; rfl)) (by decide) ?_
    exact hF
  have hF := hF.2
  refine q_by (l2 = 96) (fun hs5_63 => ?_) (fun hs5_63 => ?_)
  · have hF := hF.1 hs5_63
    refine q_tableIn (tgt := 482) dX12_signAt_88 (by rw [hs5_63]; decide) (by rw [hs5_63]; decide) (by first | (rw [hs5_63]; done) | (rw [hs5_63]; rfl)) (by decide) ?_
    exact hF
  have hF := hF.2
  refine q_by (l2 = 97) (fun hs5_64 => ?_) (fun hs5_64 => ?_)
  · have hF := hF.1 hs5_64
    refine q_tableIn (tgt := 482) dX12_signAt_88 (by rw [hs5_64]; decide) (by rw [hs5_64]; decide) (by first | (rw [hs5_64]; done) | (rw [hs5_64]; rfl)) (by decide) ?_
    exact hF
  have hF := hF.2
  refine q_by (l2 = 98) (fun hs5_65 => ?_) (fun hs5_65 => ?_)
  · have hF := hF.1 hs5_65
    refine q_tableIn (tgt := 482) dX12_signAt_88 (by rw [hs5_65]; decide) (by rw [hs5_65]; decide) (by first | (rw [hs5_65]; done) | (rw [hs5_65]; rfl)) (by decide) ?_
    exact hF
  have hF := hF.2
  refine q_by (l2 = 99) (fun hs5_66 => ?_) (fun hs5_66 => ?_)
  · have hF := hF.1 hs5_66
    refine q_tableIn (tgt := 482) dX12_signAt_88 (by rw [hs5_66]; decide) (by rw [hs5_66]; decide) (by first | (rw [hs5_66]; done) | (rw [hs5_66]; rfl)) (by decide) ?_
    exact hF
  have hF := hF.2
  refine q_by (l2 = 100) (fun hs5_67 => ?_) (fun hs5_67 => ?_)
  · have hF := hF.1 hs5_67
    refine q_tableIn (tgt := 482) dX12_signAt_88 (by rw [hs5_67]; decide) (by rw [hs5_67]; decide) (by first | (rw [hs5_67]; done) | (rw [hs5_67]; rfl)) (by decide) ?_
    exact hF
  have hF := hF.2
  refine q_by (l2 = 101) (fun hs5_68 => ?_) (fun hs5_68 => ?_)
  · have hF := hF.1 hs5_68
    refine q_tableIn (tgt := 482) dX12_signAt_88 (by rw [hs5_68]; decide) (by rw [hs5_68]; decide) (by first | (rw [hs5_68]; done) | (rw [hs5_68]; rfl)) (by decide) ?_
    exact hF
  have hF := hF.2
  refine q_by (l2 = 102) (fun hs5_69 => ?_) (fun hs5_69 => ?_)
  · have hF := hF.1 hs5_69
    refine q_tableIn (tgt := 482) dX12_signAt_88 (by rw [hs5_69]; decide) (by rw [hs5_69]; decide) (by first | (rw [hs5_69]; done) | (rw [hs5_69]; rfl)) (by decide) ?_
    exact hF
  have hF := hF.2
  refine q_by (l2 = 103) (fun hs5_70 => ?_) (fun hs5_70 => ?_)
  · have hF := hF.1 hs5_70
    refine q_tableIn (tgt := 482) dX12_signAt_88 (by rw [hs5_70]; decide) (by rw [hs5_70]; decide) (by first | (rw [hs5_70]; done) | (rw [hs5_70]; rfl)) (by decide) ?_
    exact hF
  have hF := hF.2
  refine q_by (l2 = 104) (fun hs5_71 => ?_) (fun hs5_71 => ?_)
  · have hF := hF.1 hs5_71
    refine q_tableIn (tgt := 482) dX12_signAt_88 (by rw [hs5_71]; decide) (by rw [hs5_71]; decide) (by first | (rw [hs5_71]; done) | (rw [hs5_71]; rfl)) (by decide) ?_
    exact hF
  have hF := hF.2
  refine q_by (l2 = 105) (fun hs5_72 => ?_) (fun hs5_72 => ?_)
  · have hF := hF.1 hs5_72
    refine q_tableIn (tgt := 482) dX12_signAt_88 (by rw [hs5_72]; decide) (by rw [hs5_72]; decide) (by first | (rw [hs5_72]; done) | (rw [hs5_72]; rfl)) (by decide) ?_
    exact hF
  have hF := hF.2
  refine q_by (l2 = 106) (fun hs5_73 => ?_) (fun hs5_73 => ?_)
  · have hF := hF.1 hs5_73
    refine q_tableIn (tgt := 482) dX12_signAt_88 (by rw [hs5_73]; decide) (by rw [hs5_73]; decide) (by first | (rw [hs5_73]; done) | (rw [hs5_73]; rfl)) (by decide) ?_
    exact hF
  have hF := hF.2
  refine q_by (l2 = 107) (fun hs5_74 => ?_) (fun hs5_74 => ?_)
  · have hF := hF.1 hs5_74
    refine q_tableIn (tgt := 482) dX12_signAt_88 (by rw [hs5_74]; decide) (by rw [hs5_74]; decide) (by first | (rw [hs5_74]; done) | (rw [hs5_74]; rfl)) (by decide) ?_
    exact hF
  have hF := hF.2
  refine q_by (l2 = 108) (fun hs5_75 => ?_) (fun hs5_75 => ?_)
  · have hF := hF.1 hs5_75
    refine q_tableIn (tgt := 482) dX12_signAt_88 (by rw [hs5_75]; decide) (by rw [hs5_75]; decide) (by first | (rw [hs5_75]; done) | (rw [hs5_75]; rfl)) (by decide) ?_
    exact hF
  have hF := hF.2
  refine q_by (l2 = 109) (fun hs5_76 => ?_) (fun hs5_76 => ?_)
  · have hF := hF.1 hs5_76
    refine q_tableIn (tgt := 482) dX12_signAt_88 (by rw [hs5_76]; decide) (by rw [hs5_76]; decide) (by first | (rw [hs5_76]; done) | (rw [hs5_76]; rfl)) (by decide) ?_
    exact hF
  have hF := hF.2
  refine q_by (l2 = 110) (fun hs5_77 => ?_) (fun hs5_77 => ?_)
  · have hF := hF.1 hs5_77
    refine q_tableIn (tgt := 482) dX12_signAt_88 (by rw [hs5_77]; decide) (by rw [hs5_77]; decide) (by first | (rw [hs5_77]; done) | (rw [hs5_77]; rfl)) (by decide) ?_
    exact hF
  have hF := hF.2
  refine q_by (l2 = 111) (fun hs5_78 => ?_) (fun hs5_78 => ?_)
  · have hF := hF.1 hs5_78
    refine q_tableIn (tgt := 482) dX12_signAt_88 (by rw [hs5_78]; decide) (by rw [hs5_78]; decide) (by first | (rw [hs5_78]; done) | (rw [hs5_78]; rfl)) (by decide) ?_
    exact hF
  have hF := hF.2
  refine q_by (l2 = 112) (fun hs5_79 => ?_) (fun hs5_79 => ?_)
  · have hF := hF.1 hs5_79
    refine q_tableIn (tgt := 482) dX12_signAt_88 (by rw [hs5_79]; decide) (by rw [hs5_79]; decide) (by first | (rw [hs5_79]; done) | (rw [hs5_79]; rfl)) (by decide) ?_
    exact hF
  have hF := hF.2
  refine q_by (l2 = 113) (fun hs5_80 => ?_) (fun hs5_80 => ?_)
  · have hF := hF.1 hs5_80
    refine q_tableIn (tgt := 482) dX12_signAt_88 (by rw [hs5_80]; decide) (by rw [hs5_80]; decide) (by first | (rw [hs5_80]; done) | (rw [hs5_80]; rfl)) (by decide) ?_
    exact hF
  have hF := hF.2
  refine q_by (l2 = 114) (fun hs5_81 => ?_) (fun hs5_81 => ?_)
  · have hF := hF.1 hs5_81
    refine q_tableIn (tgt := 482) dX12_signAt_88 (by rw [hs5_81]; decide) (by rw [hs5_81]; decide) (by first | (rw [hs5_81]; done) | (rw [hs5_81]; rfl)) (by decide) ?_
    exact hF
  have hF := hF.2
  refine q_by (l2 = 115) (fun hs5_82 => ?_) (fun hs5_82 => ?_)
  · have hF := hF.1 hs5_82
    refine q_tableIn (tgt := 482) dX12_signAt_88 (by rw [hs5_82]; decide) (by rw [hs5_82]; decide) (by first | (rw [hs5_82]; done) | (rw [hs5_82]; rfl)) (by decide) ?_
    exact hF
  have hF := hF.2
  refine q_by (l2 = 116) (fun hs5_83 => ?_) (fun hs5_83 => ?_)
  · have hF := hF.1 hs5_83
    refine q_tableIn (tgt := 482) dX12_signAt_88 (by rw [hs5_83]; decide) (by rw [hs5_83]; decide) (by first | (rw [hs5_83]; done) | (rw [hs5_83]; rfl)) (by decide) ?_
    exact hF
  have hF := hF.2
  refine q_by (l2 = 117) (fun hs5_84 => ?_) (fun hs5_84 => ?_)
  · have hF := hF.1 hs5_84
    refine q_tableIn (tgt := 482) dX12_signAt_88 (by rw [hs5_84]; decide) (by rw [hs5_84]; decide) (by first | (rw [hs5_84]; done) | (rw [hs5_84]; rfl)) (by decide) ?_
    exact hF
  have hF := hF.2
  refine q_by (l2 = 118) (fun hs5_85 => ?_) (fun hs5_85 => ?_)
  · have hF := hF.1 hs5_85
    refine q_tableIn (tgt := 482) dX12_signAt_88 (by rw [hs5_85]; decide) (by rw [hs5_85]; decide) (by first | (rw [hs5_85]; done) | (rw [hs5_85]; rfl)) (by decide) ?_
    exact hF
  have hF := hF.2
  refine q_by (l2 = 119) (fun hs5_86 => ?_) (fun hs5_86 => ?_)
  · have hF := hF.1 hs5_86
    refine q_tableIn (tgt := 482) dX12_signAt_88 (by rw [hs5_86]; decide) (by rw [hs5_86]; decide) (by first | (rw [hs5_86]; done) | (rw [hs5_86]; rfl)) (by decide) ?_
    exact hF
  have hF := hF.2
  refine q_by (l2 = 120) (fun hs5_87 => ?_) (fun hs5_87 => ?_)
  · have hF := hF.1 hs5_87
    refine q_tableIn (tgt := 482) dX12_signAt_88 (by rw [hs5_87]; decide) (by rw [hs5_87]; decide) (by first | (rw [hs5_87]; done) | (rw [hs5_87]; rfl)) (by decide) ?_
    exact hF
  have hF := hF.2
  refine q_by (l2 = 121) (fun hs5_88 => ?_) (fun hs5_88 => ?_)
  · have hF := hF.1 hs5_88
    refine q_tableIn (tgt := 482) dX12_signAt_88 (by rw [hs5_88]; decide) (by rw [hs5_88]; decide) (by first | (rw [hs5_88]; done) | (rw [hs5_88]; rfl)) (by decide) ?_
    exact hF
  have hF := hF.2
  refine q_by (l2 = 122) (fun hs5_89 => ?_) (fun hs5_89 => ?_)
  · have hF := hF.1 hs5_89
    refine q_tableIn (tgt := 482) dX12_signAt_88 (by rw [hs5_89]; decide) (by rw [hs5_89]; decide) (by first | (rw [hs5_89]; done) | (rw [hs5_89]; rfl)) (by decide) ?_
    exact hF
  have hF := hF.2
  refine q_by (l2 = 123) (fun hs5_90 => ?_) (fun hs5_90 => ?_)
  · have hF := hF.1 hs5_90
    refine q_tableIn (tgt := 480) dX12_signAt_88 (by rw [hs5_90]; decide) (by rw [hs5_90]; decide) (by first | (rw [hs5_90]; done) | (rw [hs5_90]; rfl)) (by decide) ?_
    exact hF
  have hF := hF.2
  refine q_by (l2 = 124) (fun hs5_91 => ?_) (fun hs5_91 => ?_)
  · have hF := hF.1 hs5_91
    refine q_tableIn (tgt := 480) dX12_signAt_88 (by rw [hs5_91]; decide) (by rw [hs5_91]; decide) (by first | (rw [hs5_91]; done) | (rw [hs5_91]; rfl)) (by decide) ?_
    exact hF
  have hF := hF.2
  refine q_by (l2 = 125) (fun hs5_92 => ?_) (fun hs5_92 => ?_)
  · have hF := hF.1 hs5_92
    refine q_tableIn (tgt := 480) dX12_signAt_88 (by rw [hs5_92]; decide) (by rw [hs5_92]; decide) (by first | (rw [hs5_92]; done) | (rw [hs5_92]; rfl)) (by decide) ?_
    exact hF
  have hF := hF.2
  refine q_by (l2 = 126) (fun hs5_93 => ?_) (fun hs5_93 => ?_)
  · have hF := hF.1 hs5_93
    refine q_tableIn (tgt := 480) dX12_signAt_88 (by rw [hs5_93]; decide) (by rw [hs5_93]; decide) (by first | (rw [hs5_93]; done) | (rw [hs5_93]; rfl)) (by decide) ?_
    exact hF
  have hF := hF.2
  refine q_tableOut (tgt := 482) dX12_signAt_88 (by have n0 := lv_neT hs5_0 (a := 33) (by decide); have n1 := lv_neT hs5_1 (a := 34) (by decide); have n2 := lv_neT hs5_2 (a := 35) (by decide); have n3 := lv_neT hs5_3 (a := 36) (by decide); have n4 := lv_neT hs5_4 (a := 37) (by decide); have n5 := lv_neT hs5_5 (a := 38) (by decide); have n6 := lv_neT hs5_6 (a := 39) (by decide); have n7 := lv_neT hs5_7 (a := 40) (by decide); have n8 := lv_neT hs5_8 (a := 41) (by decide); have n9 := lv_neT hs5_9 (a := 42) (by decide); have n10 := lv_neT hs5_10 (a := 43) (by decide); have n11 := lv_neT hs5_11 (a := 44) (by decide); have n12 := lv_neT hs5_12 (a := 45) (by decide); have n13 := lv_neT hs5_13 (a := 46) (by decide); have n14 := lv_neT hs5_14 (a := 47) (by decide); have n15 := lv_neT hs5_15 (a := 48) (by decide); have n16 := lv_neT hs5_16 (a := 49) (by decide); have n17 := lv_neT hs5_17 (a := 50) (by decide); have n18 := lv_neT hs5_18 (a := 51) (by decide); have n19 := lv_neT hs5_19 (a := 52) (by decide); have n20 := lv_neT hs5_20 (a := 53) (by decide); have n21 := lv_neT hs5_21 (a := 54) (by decide); have n22 := lv_neT hs5_22 (a := 55) (by decide); have n23 := lv_neT hs5_23 (a := 56) (by decide); have n24 := lv_neT hs5_24 (a := 57) (by decide); have n25 := lv_neT hs5_25 (a := 58) (by decide); have n26 := lv_neT hs5_26 (a := 59) (by decide); have n27 := lv_neT hs5_27 (a := 60) (by decide); have n28 := lv_neT hs5_28 (a := 61) (by decide); have n29 := lv_neT hs5_29 (a := 62) (by decide); have n30 := lv_neT hs5_30 (a := 63) (by decide); have n31 := lv_neT hs5_31 (a := 64) (by decide); have n32 := lv_neT hs5_32 (a := 65) (by decide); have n33 := lv_neT hs5_33 (a := 66) (by decide); have n34 := lv_neT hs5_34 (a := 67) (by decide); have n35 := lv_neT hs5_35 (a := 68) (by decide); have n36 := lv_neT hs5_36 (a := 69) (by decide); have n37 := lv_neT hs5_37 (a := 70) (by decide); have n38 := lv_neT hs5_38 (a := 71) (by decide); have n39 := lv_neT hs5_39 (a := 72) (by decide); have n40 := lv_neT hs5_40 (a := 73) (by decide); have n41 := lv_neT hs5_41 (a := 74) (by decide); have n42 := lv_neT hs5_42 (a := 75) (by decide); have n43 := lv_neT hs5_43 (a := 76) (by decide); have n44 := lv_neT hs5_44 (a := 77) (by decide); have n45 := lv_neT hs5_45 (a := 78) (by decide); have n46 := lv_neT hs5_46 (a := 79) (by decide); have n47 := lv_neT hs5_47 (a := 80) (by decide); have n48 := lv_neT hs5_48 (a := 81) (by decide); have n49 := lv_neT hs5_49 (a := 82) (by decide); have n50 := lv_neT hs5_50 (a := 83) (by decide); have n51 := lv_neT hs5_51 (a := 84) (by decide); have n52 := lv_neT hs5_52 (a := 85) (by decide); have n53 := lv_neT hs5_53 (a := 86) (by decide); have n54 := lv_neT hs5_54 (a := 87) (by decide); have n55 := lv_neT hs5_55 (a := 88) (by decide); have n56 := lv_neT hs5_56 (a := 89) (by decide); have n57 := lv_neT hs5_57 (a := 90) (by decide); have n58 := lv_neT hs5_58 (a := 91) (by decide); have n59 := lv_neT hs5_59 (a := 92) (by decide); have n60 := lv_neT hs5_60 (a := 93) (by decide); have n61 := lv_neT hs5_61 (a := 94) (by decide); have n62 := lv_neT hs5_62 (a := 95) (by decide); have n63 := lv_neT hs5_63 (a := 96) (by decide); have n64 := lv_neT hs5_64 (a := 97) (by decide); have n65 := lv_neT hs5_65 (a := 98) (by decide); have n66 := lv_neT hs5_66 (a := 99) (by decide); have n67 := lv_neT hs5_67 (a := 100) (by decide); have n68 := lv_neT hs5_68 (a := 101) (by decide); have n69 := lv_neT hs5_69 (a := 102) (by decide); have n70 := lv_neT hs5_70 (a := 103) (by decide); have n71 := lv_neT hs5_71 (a := 104) (by decide); have n72 := lv_neT hs5_72 (a := 105) (by decide); have n73 := lv_neT hs5_73 (a := 106) (by decide); have n74 := lv_neT hs5_74 (a := 107) (by decide); have n75 := lv_neT hs5_75 (a := 108) (by decide); have n76 := lv_neT hs5_76 (a := 109) (by decide); have n77 := lv_neT hs5_77 (a := 110) (by decide); have n78 := lv_neT hs5_78 (a := 111) (by decide); have n79 := lv_neT hs5_79 (a := 112) (by decide); have n80 := lv_neT hs5_80 (a := 113) (by decide); have n81 := lv_neT hs5_81 (a := 114) (by decide); have n82 := lv_neT hs5_82 (a := 115) (by decide); have n83 := lv_neT hs5_83 (a := 116) (by decide); have n84 := lv_neT hs5_84 (a := 117) (by decide); have n85 := lv_neT hs5_85 (a := 118) (by decide); have n86 := lv_neT hs5_86 (a := 119) (by decide); have n87 := lv_neT hs5_87 (a := 120) (by decide); have n88 := lv_neT hs5_88 (a := 121) (by decide); have n89 := lv_neT hs5_89 (a := 122) (by decide); have n90 := lv_neT hs5_90 (a := 123) (by decide); have n91 := lv_neT hs5_91 (a := 124) (by decide); have n92 := lv_neT hs5_92 (a := 125) (by decide); have n93 := lv_neT hs5_93 (a := 126) (by decide); omega) (by decide) ?_
  have hF := hF ⟨hs5_0, hs5_1, hs5_2, hs5_3, hs5_4, hs5_5, hs5_6, hs5_7, hs5_8, hs5_9, hs5_10, hs5_11, hs5_12, hs5_13, hs5_14, hs5_15, hs5_16, hs5_17, hs5_18, hs5_19, hs5_20, hs5_21, hs5_22, hs5_23, hs5_24, hs5_25, hs5_26, hs5_27, hs5_28, hs5_29, hs5_30, hs5_31, hs5_32, hs5_33, hs5_34, hs5_35, hs5_36, hs5_37, hs5_38, hs5_39, hs5_40, hs5_41, hs5_42, hs5_43, hs5_44, hs5_45, hs5_46, hs5_47, hs5_48, hs5_49, hs5_50, hs5_51, hs5_52, hs5_53, hs5_54, hs5_55, hs5_56, hs5_57, hs5_58, hs5_59, hs5_60, hs5_61, hs5_62, hs5_63, hs5_64, hs5_65, hs5_66, hs5_67, hs5_68, hs5_69, hs5_70, hs5_71, hs5_72, hs5_73, hs5_74, hs5_75, hs5_76, hs5_77, hs5_78, hs5_79, hs5_80, hs5_81, hs5_82, hs5_83, hs5_84, hs5_85, hs5_86, hs5_87, hs5_88, hs5_89, hs5_90, hs5_91, hs5_92, hs5_93⟩
  exact hF
set_option maxRecDepth 100000 in
set_option maxHeartbeats 4000000 in
theorem x_X12_signAt_480 (G : qG) (d : Nat) (l1 : Int32) (l2 : Int32) (l3 : Int32) (h : qh) (Q : qr → qh → Prop)  (hF : Q (.inl (some (.int l2))) h) : q_N0 G m_X12_signAt (d + 1) Q 480 [.ref 43, .int l1, .int l2, .int l3] [] h := by
  refine q_iload_n (i := 2) dX12_signAt_480 rfl rfl ?_
  exact q_iret rfl (by decide) (by decide) dX12_signAt_481 hF
set_option maxRecDepth 100000 in
set_option maxHeartbeats 4000000 in
theorem x_X12_signAt_482 (G : qG) (d : Nat) (l1 : Int32) (l2 : Int32) (l3 : Int32) (h : qh) (Q : qr → qh → Prop)  (hF : Q (.inl (some (.int 0))) h) : q_N0 G m_X12_signAt (d + 1) Q 482 [.ref 43, .int l1, .int l2, .int l3] [] h := by
  refine q_iconst (v := 0) dX12_signAt_482 (by decide) ?_
  exact q_iret rfl (by decide) (by decide) dX12_signAt_483 hF
def m_X12_scans : qm := (RX12, cX12_scans, 6, none, [], false)
set_option maxRecDepth 100000 in
set_option maxHeartbeats 4000000 in
theorem x_X12_scans (G : qG) (d : Nat)  (h : qh) (Q : qr → qh → Prop)  (hF : q_N0 G m_X12_scans (d + 1) Q 9 [.ref 43, .int 0, .int 1, .null, .null, .null] [] (h.sI 43 13 0)) : q_M0 G (d + 1) yX12_scans [.ref 43] h Q := by
  refine q_of (M := m_X12_scans) (by decide +kernel) rfl rfl cd_X12_scans (by decide) (Nat.le_of_ble_eq_true rfl) ?_
  show q_N0 G m_X12_scans (d + 1) Q 0 [.ref 43, .null, .null, .null, .null, .null] [] h
  refine q_aload_n (i := 0) dX12_scans_0 rfl rfl ?_
  refine q_iconst (v := 0) dX12_scans_1 (by decide) ?_
  refine q_putI 13 13 fp_X12_96 (Or.inr ⟨_, _, _, rfl, rfl⟩) (by decide) rfl rfl dX12_scans_2 ?_
  refine q_iconst (v := 0) dX12_scans_5 (by decide) ?_
  refine q_istore_n (i := 1) dX12_scans_6 rfl (by decide) rfl ?_
  refine q_iconst (v := 1) dX12_scans_7 (by decide) ?_
  refine q_istore_n (i := 2) dX12_scans_8 rfl (by decide) rfl ?_
  exact hF
set_option maxRecDepth 100000 in
set_option maxHeartbeats 4000000 in
theorem x_X12_scans_9 (G : qG) (d : Nat) (l1 : Int32) (l2 : Int32) (h : qh) (Q : qr → qh → Prop)  (hF : (l2 = 0 → ((l2 = 0 → (Q (.inl none) h)) ∧ (¬ l2 = 0 → (q_M0 G d yX12_token [.ref 43, .int 0, .int (h.I 43 9), .int 0] h (q_rv (fun h1 => Q (.inl none) h1) (fun E h => Q (.inr E) h)))))) ∧ (¬ l2 = 0 → (q_N0 G m_X12_scans (d + 1) Q 13 [.ref 43, .int l1, .int l2, .null, .null, .null] [] h))) : q_N0 G m_X12_scans (d + 1) Q 9 [.ref 43, .int l1, .int l2, .null, .null, .null] [] h := by
  refine q_iload_n (i := 2) dX12_scans_9 rfl rfl ?_
  refine q_if_eq (tgt := 297) dX12_scans_10 (by decide) (fun hb => ?_) (fun hb => ?_)
  · have hF := hF.1 hb
    refine q_iload_n (i := 2) dX12_scans_297 rfl rfl ?_
    refine q_if_eq (tgt := 311) dX12_scans_298 (by decide) (fun hb => ?_) (fun hb => ?_)
    · have hF := hF.1 hb
      exact q_vret rfl (by decide) (by decide) dX12_scans_311 hF
    · have hF := hF.2 hb
      refine q_aload_n (i := 0) dX12_scans_301 rfl rfl ?_
      refine q_iconst (v := 0) dX12_scans_302 (by decide) ?_
      refine q_aload_n (i := 0) dX12_scans_303 rfl rfl ?_
      refine q_getIv (v := h.I 43 9) 13 9 fl_X12_93 (by decide) rfl rfl (rfl) dX12_scans_304 ?_
      refine q_iconst (v := 0) dX12_scans_307 (by decide) ?_
      refine q_callVv (ci := 13) (o := 43) (As := [.int 0, .int (h.I 43 9), .int 0]) (st := []) cv_X12_132 ⟨_, _, rfl⟩ (by decide) rfl rfl (Nat.le_refl _) (Nat.le_of_ble_eq_true rfl) (by decide) dX12_scans_308 rfl hF (fun h1 hF => ?_)
      exact q_vret rfl (by decide) (by decide) dX12_scans_311 hF
  · have hF := hF.2 hb
    exact hF
set_option maxRecDepth 100000 in
set_option maxHeartbeats 4000000 in
theorem x_X12_scans_13 (G : qG) (d : Nat) (l1 : Int32) (l2 : Int32) (h : qh) (Q : qr → qh → Prop)  (hF : ((h.I 43 9) ≤ l1 → ((¬ l1 = (h.I 43 9) → (q_M0 G d yX12_byteAt [.ref 43, .int l1] h (q_ri (fun r3 h2 => q_M0 G d yX12_isSmall [.int r3] h2 (q_ri (fun r5 h4 => (r5 = 0 → (q_M0 G d yX12_byteAt [.ref 43, .int l1] h4 (q_ri (fun r7 h6 => q_M0 G d yX12_isDigit [.int r7] h6 (q_ri (fun r9 h8 => (r9 = 0 → (q_M0 G d yX12_signAt [.ref 43, .int l1] h8 (q_ri (fun r11 h10 => q_M0 G d yX12_token [.ref 43, .int (if (if r11 ≤ 0 then (0 : Int32) else 1) = 0 then (1 : Int32) else 4), .int l1, .int r11] h10 (q_rv (fun h14 => q_N0 G m_X12_scans (d + 1) Q 9 [.ref 43, .int (l1 + (if r11 ≤ 255 then (1 : Int32) else 2)), .int (if r11 ≤ 0 then (0 : Int32) else 1), .null, .null, .null] [] h14) (fun E h => Q (.inr E) h))) (fun E h => Q (.inr E) h)))) ∧ (¬ r9 = 0 → (q_N0 G m_X12_scans (d + 1) Q 156 [.ref 43, .int l1, .int l2, .int l1, .long 0, .null] [] h8))) (fun E h => Q (.inr E) h))) (fun E h => Q (.inr E) h)))) ∧ (¬ r5 = 0 → (q_N0 G m_X12_scans (d + 1) Q 73 [.ref 43, .int l1, .int l2, .int l1, .null, .null] [] h4))) (fun E h => Q (.inr E) h))) (fun E h => Q (.inr E) h)))) ∧ (l1 = (h.I 43 9) → ((l2 = 0 → (Q (.inl none) h)) ∧ (¬ l2 = 0 → (q_M0 G d yX12_token [.ref 43, .int 0, .int (h.I 43 9), .int 0] h (q_rv (fun h16 => Q (.inl none) h16) (fun E h => Q (.inr E) h)))))))) ∧ (¬ (h.I 43 9) ≤ l1 → (vp_in l1 2000 ∧ (((h.I 46 l1.toNatClampNeg) = 32 → (q_N0 G m_X12_scans (d + 1) Q 13 [.ref 43, .int (l1 + 1), .int l2, .null, .null, .null] [] h)) ∧ (¬ (h.I 46 l1.toNatClampNeg) = 32 → (vp_in l1 2000 ∧ ((¬ (h.I 46 l1.toNatClampNeg) = 10 → ((¬ l1 = (h.I 43 9) → (q_M0 G d yX12_byteAt [.ref 43, .int l1] h (q_ri (fun r20 h19 => q_M0 G d yX12_isSmall [.int r20] h19 (q_ri (fun r22 h21 => (r22 = 0 → (q_M0 G d yX12_byteAt [.ref 43, .int l1] h21 (q_ri (fun r24 h23 => q_M0 G d yX12_isDigit [.int r24] h23 (q_ri (fun r26 h25 => (r26 = 0 → (q_M0 G d yX12_signAt [.ref 43, .int l1] h25 (q_ri (fun r28 h27 => q_M0 G d yX12_token [.ref 43, .int (if (if r28 ≤ 0 then (0 : Int32) else 1) = 0 then (1 : Int32) else 4), .int l1, .int r28] h27 (q_rv (fun h31 => q_N0 G m_X12_scans (d + 1) Q 9 [.ref 43, .int (l1 + (if r28 ≤ 255 then (1 : Int32) else 2)), .int (if r28 ≤ 0 then (0 : Int32) else 1), .null, .null, .null] [] h31) (fun E h => Q (.inr E) h))) (fun E h => Q (.inr E) h)))) ∧ (¬ r26 = 0 → (q_N0 G m_X12_scans (d + 1) Q 156 [.ref 43, .int l1, .int l2, .int l1, .long 0, .null] [] h25))) (fun E h => Q (.inr E) h))) (fun E h => Q (.inr E) h)))) ∧ (¬ r22 = 0 → (q_N0 G m_X12_scans (d + 1) Q 73 [.ref 43, .int l1, .int l2, .int l1, .null, .null] [] h21))) (fun E h => Q (.inr E) h))) (fun E h => Q (.inr E) h)))) ∧ (l1 = (h.I 43 9) → ((l2 = 0 → (Q (.inl none) h)) ∧ (¬ l2 = 0 → (q_M0 G d yX12_token [.ref 43, .int 0, .int (h.I 43 9), .int 0] h (q_rv (fun h33 => Q (.inl none) h33) (fun E h => Q (.inr E) h)))))))) ∧ ((h.I 46 l1.toNatClampNeg) = 10 → (q_N0 G m_X12_scans (d + 1) Q 13 [.ref 43, .int (l1 + 1), .int l2, .null, .null, .null] [] h))))))))) : q_N0 G m_X12_scans (d + 1) Q 13 [.ref 43, .int l1, .int l2, .null, .null, .null] [] h := by
  refine q_iload_n (i := 1) dX12_scans_13 rfl rfl ?_
  refine q_aload_n (i := 0) dX12_scans_14 rfl rfl ?_
  refine q_getIv (v := h.I 43 9) 13 9 fl_X12_93 (by decide) rfl rfl (rfl) dX12_scans_15 ?_
  refine q_icmp_ge (tgt := 49) dX12_scans_18 (by decide) (fun hb => ?_) (fun hb => ?_)
  · have hF := hF.1 hb
    refine q_iload_n (i := 1) dX12_scans_49 rfl rfl ?_
    refine q_aload_n (i := 0) dX12_scans_50 rfl rfl ?_
    refine q_getIv (v := h.I 43 9) 13 9 fl_X12_93 (by decide) rfl rfl (rfl) dX12_scans_51 ?_
    refine q_icmp_ne (tgt := 60) dX12_scans_54 (by decide) (fun hb => ?_) (fun hb => ?_)
    · have hF := hF.1 hb
      refine q_iload_n (i := 1) dX12_scans_60 rfl rfl ?_
      refine q_istore_n (i := 3) dX12_scans_61 rfl (by decide) rfl ?_
      refine q_aload_n (i := 0) dX12_scans_62 rfl rfl ?_
      refine q_iload_n (i := 1) dX12_scans_63 rfl rfl ?_
      refine q_callVi (ci := 13) (o := 43) (As := [.int l1]) (st := []) cv_X12_99 ⟨_, _, rfl⟩ (by decide) rfl rfl (Nat.le_refl _) (Nat.le_of_ble_eq_true rfl) (by decide) dX12_scans_64 rfl hF (fun r3 h2 hF => ?_)
      refine q_callSi (As := [.int r3]) (st := []) cs_X12_121 rfl (Nat.le_refl _) (Nat.le_of_ble_eq_true rfl) (by decide) dX12_scans_67 rfl hF (fun r5 h4 hF => ?_)
      refine q_if_eq (tgt := 142) dX12_scans_70 (by decide) (fun hb => ?_) (fun hb => ?_)
      · have hF := hF.1 hb
        refine q_aload_n (i := 0) dX12_scans_142 rfl rfl ?_
        refine q_iload_n (i := 1) dX12_scans_143 rfl rfl ?_
        refine q_callVi (ci := 13) (o := 43) (As := [.int l1]) (st := []) cv_X12_99 ⟨_, _, rfl⟩ (by decide) rfl rfl (Nat.le_refl _) (Nat.le_of_ble_eq_true rfl) (by decide) dX12_scans_144 rfl hF (fun r7 h6 hF => ?_)
        refine q_callSi (As := [.int r7]) (st := []) cs_X12_125 rfl (Nat.le_refl _) (Nat.le_of_ble_eq_true rfl) (by decide) dX12_scans_147 rfl hF (fun r9 h8 hF => ?_)
        refine q_if_eq (tgt := 244) dX12_scans_150 (by decide) (fun hb => ?_) (fun hb => ?_)
        · have hF := hF.1 hb
          refine q_aload_n (i := 0) dX12_scans_244 rfl rfl ?_
          refine q_iload_n (i := 1) dX12_scans_245 rfl rfl ?_
          refine q_callVi (ci := 13) (o := 43) (As := [.int l1]) (st := []) cv_X12_150 ⟨_, _, rfl⟩ (by decide) rfl rfl (Nat.le_refl _) (Nat.le_of_ble_eq_true rfl) (by decide) dX12_scans_246 rfl hF (fun r11 h10 hF => ?_)
          refine q_istore dX12_scans_249 (by decide) rfl ?_
          refine q_iload dX12_scans_251 rfl ?_
          have K12 := q_ite (c := r11 ≤ 0) (X := fun v => q_N0 G m_X12_scans (d + 1) Q 261 [.ref 43, .int l1, .int l2, .int l1, .int r11, .null] (.int v :: []) h10) (a := 0) (b := 1) (by
            refine q_istore_n (i := 2) dX12_scans_261 rfl (by decide) rfl ?_
            refine q_aload_n (i := 0) dX12_scans_262 rfl rfl ?_
            refine q_iload_n (i := 2) dX12_scans_263 rfl rfl ?_
            have K13 := q_ite (c := (if r11 ≤ 0 then (0 : Int32) else 1) = 0) (X := fun v => q_N0 G m_X12_scans (d + 1) Q 272 [.ref 43, .int l1, .int (if r11 ≤ 0 then (0 : Int32) else 1), .int l1, .int r11, .null] (.int v :: [.ref 43]) h10) (a := 1) (b := 4) (by
              refine q_iload_n (i := 3) dX12_scans_272 rfl rfl ?_
              refine q_iload dX12_scans_273 rfl ?_
              refine q_callVv (ci := 13) (o := 43) (As := [.int (if (if r11 ≤ 0 then (0 : Int32) else 1) = 0 then (1 : Int32) else 4), .int l1, .int r11]) (st := []) cv_X12_132 ⟨_, _, rfl⟩ (by decide) rfl rfl (Nat.le_refl _) (Nat.le_of_ble_eq_true rfl) (by decide) dX12_scans_275 rfl hF (fun h14 hF => ?_)
              refine q_iload_n (i := 1) dX12_scans_278 rfl rfl ?_
              refine q_iload dX12_scans_279 rfl ?_
              refine q_sipush (v := 255) dX12_scans_281 (by decide) ?_
              have K15 := q_ite (c := r11 ≤ 255) (X := fun v => q_N0 G m_X12_scans (d + 1) Q 292 [.ref 43, .int l1, .int (if r11 ≤ 0 then (0 : Int32) else 1), .int l1, .int r11, .null] (.int v :: [.int l1]) h14) (a := 1) (b := 2) (by
                refine q_iadd dX12_scans_292 ?_
                refine q_istore_n (i := 1) dX12_scans_293 rfl (by decide) rfl ?_
                refine q_goto (tgt := 9) dX12_scans_294 (by decide) ?_
                show q_N0 G m_X12_scans (d + 1) Q 9 [.ref 43, .int (l1 + (if r11 ≤ 255 then (1 : Int32) else 2)), .int (if r11 ≤ 0 then (0 : Int32) else 1), .int l1, .int r11, .null] [] h14
                exact q_fgt (l' := [.ref 43, .int (l1 + (if r11 ≤ 255 then (1 : Int32) else 2)), .int (if r11 ≤ 0 then (0 : Int32) else 1), .null, .null, .null]) (And.intro (Or.inr rfl) ( And.intro (Or.inr rfl) ( And.intro (Or.inr rfl) ( And.intro (Or.inl rfl) ( And.intro (Or.inl rfl) ( And.intro (Or.inl rfl) (trivial))))))) hF)
              refine q_icmp_le (tgt := 291) dX12_scans_284 (by decide) (fun hb => ?_) (fun hb => ?_)
              · refine q_iconst (v := 1) dX12_scans_291 (by decide) ?_
                exact K15.1 hb
              · refine q_iconst (v := 2) dX12_scans_287 (by decide) ?_
                refine q_goto (tgt := 292) dX12_scans_288 (by decide) ?_
                exact K15.2 hb)
            refine q_if_eq (tgt := 271) dX12_scans_264 (by decide) (fun hb => ?_) (fun hb => ?_)
            · refine q_iconst (v := 1) dX12_scans_271 (by decide) ?_
              exact K13.1 hb
            · refine q_iconst (v := 4) dX12_scans_267 (by decide) ?_
              refine q_goto (tgt := 272) dX12_scans_268 (by decide) ?_
              exact K13.2 hb)
          refine q_if_le (tgt := 260) dX12_scans_253 (by decide) (fun hb => ?_) (fun hb => ?_)
          · refine q_iconst (v := 0) dX12_scans_260 (by decide) ?_
            exact K12.1 hb
          · refine q_iconst (v := 1) dX12_scans_256 (by decide) ?_
            refine q_goto (tgt := 261) dX12_scans_257 (by decide) ?_
            exact K12.2 hb
        · have hF := hF.2 hb
          refine q_lconst (v := 0) dX12_scans_153 (by decide) ?_
          refine q_lstore dX12_scans_154 (by decide) rfl ?_
          exact hF
      · have hF := hF.2 hb
        exact hF
    · have hF := hF.2 hb
      refine q_goto (tgt := 297) dX12_scans_57 (by decide) ?_
      refine q_iload_n (i := 2) dX12_scans_297 rfl rfl ?_
      refine q_if_eq (tgt := 311) dX12_scans_298 (by decide) (fun hb => ?_) (fun hb => ?_)
      · have hF := hF.1 hb
        exact q_vret rfl (by decide) (by decide) dX12_scans_311 hF
      · have hF := hF.2 hb
        refine q_aload_n (i := 0) dX12_scans_301 rfl rfl ?_
        refine q_iconst (v := 0) dX12_scans_302 (by decide) ?_
        refine q_aload_n (i := 0) dX12_scans_303 rfl rfl ?_
        refine q_getIv (v := h.I 43 9) 13 9 fl_X12_93 (by decide) rfl rfl (rfl) dX12_scans_304 ?_
        refine q_iconst (v := 0) dX12_scans_307 (by decide) ?_
        refine q_callVv (ci := 13) (o := 43) (As := [.int 0, .int (h.I 43 9), .int 0]) (st := []) cv_X12_132 ⟨_, _, rfl⟩ (by decide) rfl rfl (Nat.le_refl _) (Nat.le_of_ble_eq_true rfl) (by decide) dX12_scans_308 rfl hF (fun h16 hF => ?_)
        exact q_vret rfl (by decide) (by decide) dX12_scans_311 hF
  · have hF := hF.2 hb
    refine q_aload_n (i := 0) dX12_scans_21 rfl rfl ?_
    refine q_getP 13 8 46 fl_X12_21 (by decide) rfl rfl rfl dX12_scans_22 ?_
    refine q_iload_n (i := 1) dX12_scans_25 rfl rfl ?_
    obtain ⟨hi17, hF⟩ := hF
    refine q_baloadv (v := h.I 46 l1.toNatClampNeg) (n := 2000) (by decide) rfl hi17 (rfl) dX12_scans_26 ?_
    refine q_bipush (v := 32) dX12_scans_27 (by decide) ?_
    refine q_icmp_eq (tgt := 43) dX12_scans_29 (by decide) (fun hb => ?_) (fun hb => ?_)
    · have hF := hF.1 hb
      refine q_iinc (v := l1 + 1) dX12_scans_43 rfl rfl (by decide) rfl ?_
      refine q_goto (tgt := 13) dX12_scans_46 (by decide) ?_
      exact hF
    · have hF := hF.2 hb
      refine q_aload_n (i := 0) dX12_scans_32 rfl rfl ?_
      refine q_getP 13 8 46 fl_X12_21 (by decide) rfl rfl rfl dX12_scans_33 ?_
      refine q_iload_n (i := 1) dX12_scans_36 rfl rfl ?_
      obtain ⟨hi18, hF⟩ := hF
      refine q_baloadv (v := h.I 46 l1.toNatClampNeg) (n := 2000) (by decide) rfl hi18 (rfl) dX12_scans_37 ?_
      refine q_bipush (v := 10) dX12_scans_38 (by decide) ?_
      refine q_icmp_ne (tgt := 49) dX12_scans_40 (by decide) (fun hb => ?_) (fun hb => ?_)
      · have hF := hF.1 hb
        refine q_iload_n (i := 1) dX12_scans_49 rfl rfl ?_
        refine q_aload_n (i := 0) dX12_scans_50 rfl rfl ?_
        refine q_getIv (v := h.I 43 9) 13 9 fl_X12_93 (by decide) rfl rfl (rfl) dX12_scans_51 ?_
        refine q_icmp_ne (tgt := 60) dX12_scans_54 (by decide) (fun hb => ?_) (fun hb => ?_)
        · have hF := hF.1 hb
          refine q_iload_n (i := 1) dX12_scans_60 rfl rfl ?_
          refine q_istore_n (i := 3) dX12_scans_61 rfl (by decide) rfl ?_
          refine q_aload_n (i := 0) dX12_scans_62 rfl rfl ?_
          refine q_iload_n (i := 1) dX12_scans_63 rfl rfl ?_
          refine q_callVi (ci := 13) (o := 43) (As := [.int l1]) (st := []) cv_X12_99 ⟨_, _, rfl⟩ (by decide) rfl rfl (Nat.le_refl _) (Nat.le_of_ble_eq_true rfl) (by decide) dX12_scans_64 rfl hF (fun r20 h19 hF => ?_)
          refine q_callSi (As := [.int r20]) (st := []) cs_X12_121 rfl (Nat.le_refl _) (Nat.le_of_ble_eq_true rfl) (by decide) dX12_scans_67 rfl hF (fun r22 h21 hF => ?_)
          refine q_if_eq (tgt := 142) dX12_scans_70 (by decide) (fun hb => ?_) (fun hb => ?_)
          · have hF := hF.1 hb
            refine q_aload_n (i := 0) dX12_scans_142 rfl rfl ?_
            refine q_iload_n (i := 1) dX12_scans_143 rfl rfl ?_
            refine q_callVi (ci := 13) (o := 43) (As := [.int l1]) (st := []) cv_X12_99 ⟨_, _, rfl⟩ (by decide) rfl rfl (Nat.le_refl _) (Nat.le_of_ble_eq_true rfl) (by decide) dX12_scans_144 rfl hF (fun r24 h23 hF => ?_)
            refine q_callSi (As := [.int r24]) (st := []) cs_X12_125 rfl (Nat.le_refl _) (Nat.le_of_ble_eq_true rfl) (by decide) dX12_scans_147 rfl hF (fun r26 h25 hF => ?_)
            refine q_if_eq (tgt := 244) dX12_scans_150 (by decide) (fun hb => ?_) (fun hb => ?_)
            · have hF := hF.1 hb
              refine q_aload_n (i := 0) dX12_scans_244 rfl rfl ?_
              refine q_iload_n (i := 1) dX12_scans_245 rfl rfl ?_
              refine q_callVi (ci := 13) (o := 43) (As := [.int l1]) (st := []) cv_X12_150 ⟨_, _, rfl⟩ (by decide) rfl rfl (Nat.le_refl _) (Nat.le_of_ble_eq_true rfl) (by decide) dX12_scans_246 rfl hF (fun r28 h27 hF => ?_)
              refine q_istore dX12_scans_249 (by decide) rfl ?_
              refine q_iload dX12_scans_251 rfl ?_
              have K29 := q_ite (c := r28 ≤ 0) (X := fun v => q_N0 G m_X12_scans (d + 1) Q 261 [.ref 43, .int l1, .int l2, .int l1, .int r28, .null] (.int v :: []) h27) (a := 0) (b := 1) (by
                refine q_istore_n (i := 2) dX12_scans_261 rfl (by decide) rfl ?_
                refine q_aload_n (i := 0) dX12_scans_262 rfl rfl ?_
                refine q_iload_n (i := 2) dX12_scans_263 rfl rfl ?_
                have K30 := q_ite (c := (if r28 ≤ 0 then (0 : Int32) else 1) = 0) (X := fun v => q_N0 G m_X12_scans (d + 1) Q 272 [.ref 43, .int l1, .int (if r28 ≤ 0 then (0 : Int32) else 1), .int l1, .int r28, .null] (.int v :: [.ref 43]) h27) (a := 1) (b := 4) (by
                  refine q_iload_n (i := 3) dX12_scans_272 rfl rfl ?_
                  refine q_iload dX12_scans_273 rfl ?_
                  refine q_callVv (ci := 13) (o := 43) (As := [.int (if (if r28 ≤ 0 then (0 : Int32) else 1) = 0 then (1 : Int32) else 4), .int l1, .int r28]) (st := []) cv_X12_132 ⟨_, _, rfl⟩ (by decide) rfl rfl (Nat.le_refl _) (Nat.le_of_ble_eq_true rfl) (by decide) dX12_scans_275 rfl hF (fun h31 hF => ?_)
                  refine q_iload_n (i := 1) dX12_scans_278 rfl rfl ?_
                  refine q_iload dX12_scans_279 rfl ?_
                  refine q_sipush (v := 255) dX12_scans_281 (by decide) ?_
                  have K32 := q_ite (c := r28 ≤ 255) (X := fun v => q_N0 G m_X12_scans (d + 1) Q 292 [.ref 43, .int l1, .int (if r28 ≤ 0 then (0 : Int32) else 1), .int l1, .int r28, .null] (.int v :: [.int l1]) h31) (a := 1) (b := 2) (by
                    refine q_iadd dX12_scans_292 ?_
                    refine q_istore_n (i := 1) dX12_scans_293 rfl (by decide) rfl ?_
                    refine q_goto (tgt := 9) dX12_scans_294 (by decide) ?_
                    show q_N0 G m_X12_scans (d + 1) Q 9 [.ref 43, .int (l1 + (if r28 ≤ 255 then (1 : Int32) else 2)), .int (if r28 ≤ 0 then (0 : Int32) else 1), .int l1, .int r28, .null] [] h31
                    exact q_fgt (l' := [.ref 43, .int (l1 + (if r28 ≤ 255 then (1 : Int32) else 2)), .int (if r28 ≤ 0 then (0 : Int32) else 1), .null, .null, .null]) (And.intro (Or.inr rfl) ( And.intro (Or.inr rfl) ( And.intro (Or.inr rfl) ( And.intro (Or.inl rfl) ( And.intro (Or.inl rfl) ( And.intro (Or.inl rfl) (trivial))))))) hF)
                  refine q_icmp_le (tgt := 291) dX12_scans_284 (by decide) (fun hb => ?_) (fun hb => ?_)
                  · refine q_iconst (v := 1) dX12_scans_291 (by decide) ?_
                    exact K32.1 hb
                  · refine q_iconst (v := 2) dX12_scans_287 (by decide) ?_
                    refine q_goto (tgt := 292) dX12_scans_288 (by decide) ?_
                    exact K32.2 hb)
                refine q_if_eq (tgt := 271) dX12_scans_264 (by decide) (fun hb => ?_) (fun hb => ?_)
                · refine q_iconst (v := 1) dX12_scans_271 (by decide) ?_
                  exact K30.1 hb
                · refine q_iconst (v := 4) dX12_scans_267 (by decide) ?_
                  refine q_goto (tgt := 272) dX12_scans_268 (by decide) ?_
                  exact K30.2 hb)
              refine q_if_le (tgt := 260) dX12_scans_253 (by decide) (fun hb => ?_) (fun hb => ?_)
              · refine q_iconst (v := 0) dX12_scans_260 (by decide) ?_
                exact K29.1 hb
              · refine q_iconst (v := 1) dX12_scans_256 (by decide) ?_
                refine q_goto (tgt := 261) dX12_scans_257 (by decide) ?_
                exact K29.2 hb
            · have hF := hF.2 hb
              refine q_lconst (v := 0) dX12_scans_153 (by decide) ?_
              refine q_lstore dX12_scans_154 (by decide) rfl ?_
              exact hF
          · have hF := hF.2 hb
            exact hF
        · have hF := hF.2 hb
          refine q_goto (tgt := 297) dX12_scans_57 (by decide) ?_
          refine q_iload_n (i := 2) dX12_scans_297 rfl rfl ?_
          refine q_if_eq (tgt := 311) dX12_scans_298 (by decide) (fun hb => ?_) (fun hb => ?_)
          · have hF := hF.1 hb
            exact q_vret rfl (by decide) (by decide) dX12_scans_311 hF
          · have hF := hF.2 hb
            refine q_aload_n (i := 0) dX12_scans_301 rfl rfl ?_
            refine q_iconst (v := 0) dX12_scans_302 (by decide) ?_
            refine q_aload_n (i := 0) dX12_scans_303 rfl rfl ?_
            refine q_getIv (v := h.I 43 9) 13 9 fl_X12_93 (by decide) rfl rfl (rfl) dX12_scans_304 ?_
            refine q_iconst (v := 0) dX12_scans_307 (by decide) ?_
            refine q_callVv (ci := 13) (o := 43) (As := [.int 0, .int (h.I 43 9), .int 0]) (st := []) cv_X12_132 ⟨_, _, rfl⟩ (by decide) rfl rfl (Nat.le_refl _) (Nat.le_of_ble_eq_true rfl) (by decide) dX12_scans_308 rfl hF (fun h33 hF => ?_)
            exact q_vret rfl (by decide) (by decide) dX12_scans_311 hF
      · have hF := hF.2 hb
        refine q_iinc (v := l1 + 1) dX12_scans_43 rfl rfl (by decide) rfl ?_
        refine q_goto (tgt := 13) dX12_scans_46 (by decide) ?_
        exact hF
set_option maxRecDepth 100000 in
set_option maxHeartbeats 4000000 in
theorem x_X12_scans_156 (G : qG) (d : Nat) (l1 : Int32) (l2 : Int32) (l3 : Int32) (l4 : Int64) (h : qh) (Q : qr → qh → Prop)  (hF : q_M0 G d yX12_byteAt [.ref 43, .int l1] h (q_ri (fun r35 h34 => q_M0 G d yX12_isDigit [.int r35] h34 (q_ri (fun r37 h36 => (r37 = 0 → ((0 < (lg_cmp l4 2147483647) → (q_M0 G d yX12_token [.ref 43, .int (if (0 : Int32) = 0 then (1 : Int32) else 3), .int l3, .int l4.toInt32] h36 (q_rv (fun h39 => q_N0 G m_X12_scans (d + 1) Q 9 [.ref 43, .int l1, .int 0, .null, .null, .null] [] h39) (fun E h => Q (.inr E) h)))) ∧ (¬ 0 < (lg_cmp l4 2147483647) → (q_M0 G d yX12_byteAt [.ref 43, .int l1] h36 (q_ri (fun r41 h40 => q_M0 G d yX12_isSmall [.int r41] h40 (q_ri (fun r43 h42 => q_M0 G d yX12_token [.ref 43, .int (if (if r43 = 0 then (1 : Int32) else 0) = 0 then (1 : Int32) else 3), .int l3, .int l4.toInt32] h42 (q_rv (fun h46 => q_N0 G m_X12_scans (d + 1) Q 9 [.ref 43, .int l1, .int (if r43 = 0 then (1 : Int32) else 0), .null, .null, .null] [] h46) (fun E h => Q (.inr E) h))) (fun E h => Q (.inr E) h))) (fun E h => Q (.inr E) h)))))) ∧ (¬ r37 = 0 → (q_M0 G d yX12_byteAt [.ref 43, .int l1] h36 (q_ri (fun r48 h47 => q_M0 G d yJ9_min_f86c9 [.long (((l4 * 10) + r48.toInt64) - 48), .long 4000000000] h47 (q_rl (fun r50 h49 => q_N0 G m_X12_scans (d + 1) Q 156 [.ref 43, .int (l1 + 1), .int l2, .int l3, .long r50, .null] [] h49) (fun E h => Q (.inr E) h))) (fun E h => Q (.inr E) h))))) (fun E h => Q (.inr E) h))) (fun E h => Q (.inr E) h))) : q_N0 G m_X12_scans (d + 1) Q 156 [.ref 43, .int l1, .int l2, .int l3, .long l4, .null] [] h := by
  refine q_aload_n (i := 0) dX12_scans_156 rfl rfl ?_
  refine q_iload_n (i := 1) dX12_scans_157 rfl rfl ?_
  refine q_callVi (ci := 13) (o := 43) (As := [.int l1]) (st := []) cv_X12_99 ⟨_, _, rfl⟩ (by decide) rfl rfl (Nat.le_refl _) (Nat.le_of_ble_eq_true rfl) (by decide) dX12_scans_158 rfl hF (fun r35 h34 hF => ?_)
  refine q_callSi (As := [.int r35]) (st := []) cs_X12_125 rfl (Nat.le_refl _) (Nat.le_of_ble_eq_true rfl) (by decide) dX12_scans_161 rfl hF (fun r37 h36 hF => ?_)
  refine q_if_eq (tgt := 198) dX12_scans_164 (by decide) (fun hb => ?_) (fun hb => ?_)
  · have hF := hF.1 hb
    refine q_lload dX12_scans_198 rfl ?_
    refine q_ldc2 cl_X12_148 dX12_scans_200 ?_
    refine q_lcmp dX12_scans_203 ?_
    refine q_if_gt (tgt := 222) dX12_scans_204 (by decide) (fun hb => ?_) (fun hb => ?_)
    · have hF := hF.1 hb
      refine q_iconst (v := 0) dX12_scans_222 (by decide) ?_
      refine q_istore_n (i := 2) dX12_scans_223 rfl (by decide) rfl ?_
      refine q_aload_n (i := 0) dX12_scans_224 rfl rfl ?_
      refine q_iload_n (i := 2) dX12_scans_225 rfl rfl ?_
      have K38 := q_ite (c := (0 : Int32) = 0) (X := fun v => q_N0 G m_X12_scans (d + 1) Q 234 [.ref 43, .int l1, .int 0, .int l3, .long l4, .null] (.int v :: [.ref 43]) h36) (a := 1) (b := 3) (by
        refine q_iload_n (i := 3) dX12_scans_234 rfl rfl ?_
        refine q_lload dX12_scans_235 rfl ?_
        refine q_l2i (v := l4.toInt32) dX12_scans_237 rfl ?_
        refine q_callVv (ci := 13) (o := 43) (As := [.int (if (0 : Int32) = 0 then (1 : Int32) else 3), .int l3, .int l4.toInt32]) (st := []) cv_X12_132 ⟨_, _, rfl⟩ (by decide) rfl rfl (Nat.le_refl _) (Nat.le_of_ble_eq_true rfl) (by decide) dX12_scans_238 rfl hF (fun h39 hF => ?_)
        refine q_goto (tgt := 294) dX12_scans_241 (by decide) ?_
        refine q_goto (tgt := 9) dX12_scans_294 (by decide) ?_
        show q_N0 G m_X12_scans (d + 1) Q 9 [.ref 43, .int l1, .int 0, .int l3, .long l4, .null] [] h39
        exact q_fgt (l' := [.ref 43, .int l1, .int 0, .null, .null, .null]) (And.intro (Or.inr rfl) ( And.intro (Or.inr rfl) ( And.intro (Or.inr rfl) ( And.intro (Or.inl rfl) ( And.intro (Or.inl rfl) ( And.intro (Or.inl rfl) (trivial))))))) hF)
      refine q_if_eq (tgt := 233) dX12_scans_226 (by decide) (fun hb => ?_) (fun hb => ?_)
      · refine q_iconst (v := 1) dX12_scans_233 (by decide) ?_
        exact K38.1 hb
      · refine q_iconst (v := 3) dX12_scans_229 (by decide) ?_
        refine q_goto (tgt := 234) dX12_scans_230 (by decide) ?_
        exact K38.2 hb
    · have hF := hF.2 hb
      refine q_aload_n (i := 0) dX12_scans_207 rfl rfl ?_
      refine q_iload_n (i := 1) dX12_scans_208 rfl rfl ?_
      refine q_callVi (ci := 13) (o := 43) (As := [.int l1]) (st := []) cv_X12_99 ⟨_, _, rfl⟩ (by decide) rfl rfl (Nat.le_refl _) (Nat.le_of_ble_eq_true rfl) (by decide) dX12_scans_209 rfl hF (fun r41 h40 hF => ?_)
      refine q_callSi (As := [.int r41]) (st := []) cs_X12_121 rfl (Nat.le_refl _) (Nat.le_of_ble_eq_true rfl) (by decide) dX12_scans_212 rfl hF (fun r43 h42 hF => ?_)
      have K44 := q_ite (c := r43 = 0) (X := fun v => q_N0 G m_X12_scans (d + 1) Q 223 [.ref 43, .int l1, .int l2, .int l3, .long l4, .null] (.int v :: []) h42) (a := 1) (b := 0) (by
        refine q_istore_n (i := 2) dX12_scans_223 rfl (by decide) rfl ?_
        refine q_aload_n (i := 0) dX12_scans_224 rfl rfl ?_
        refine q_iload_n (i := 2) dX12_scans_225 rfl rfl ?_
        have K45 := q_ite (c := (if r43 = 0 then (1 : Int32) else 0) = 0) (X := fun v => q_N0 G m_X12_scans (d + 1) Q 234 [.ref 43, .int l1, .int (if r43 = 0 then (1 : Int32) else 0), .int l3, .long l4, .null] (.int v :: [.ref 43]) h42) (a := 1) (b := 3) (by
          refine q_iload_n (i := 3) dX12_scans_234 rfl rfl ?_
          refine q_lload dX12_scans_235 rfl ?_
          refine q_l2i (v := l4.toInt32) dX12_scans_237 rfl ?_
          refine q_callVv (ci := 13) (o := 43) (As := [.int (if (if r43 = 0 then (1 : Int32) else 0) = 0 then (1 : Int32) else 3), .int l3, .int l4.toInt32]) (st := []) cv_X12_132 ⟨_, _, rfl⟩ (by decide) rfl rfl (Nat.le_refl _) (Nat.le_of_ble_eq_true rfl) (by decide) dX12_scans_238 rfl hF (fun h46 hF => ?_)
          refine q_goto (tgt := 294) dX12_scans_241 (by decide) ?_
          refine q_goto (tgt := 9) dX12_scans_294 (by decide) ?_
          show q_N0 G m_X12_scans (d + 1) Q 9 [.ref 43, .int l1, .int (if r43 = 0 then (1 : Int32) else 0), .int l3, .long l4, .null] [] h46
          exact q_fgt (l' := [.ref 43, .int l1, .int (if r43 = 0 then (1 : Int32) else 0), .null, .null, .null]) (And.intro (Or.inr rfl) ( And.intro (Or.inr rfl) ( And.intro (Or.inr rfl) ( And.intro (Or.inl rfl) ( And.intro (Or.inl rfl) ( And.intro (Or.inl rfl) (trivial))))))) hF)
        refine q_if_eq (tgt := 233) dX12_scans_226 (by decide) (fun hb => ?_) (fun hb => ?_)
        · refine q_iconst (v := 1) dX12_scans_233 (by decide) ?_
          exact K45.1 hb
        · refine q_iconst (v := 3) dX12_scans_229 (by decide) ?_
          refine q_goto (tgt := 234) dX12_scans_230 (by decide) ?_
          exact K45.2 hb)
      refine q_if_ne (tgt := 222) dX12_scans_215 (by decide) (fun hb => ?_) (fun hb => ?_)
      · refine q_iconst (v := 0) dX12_scans_222 (by decide) ?_
        exact K44.2 hb
      · refine q_iconst (v := 1) dX12_scans_218 (by decide) ?_
        refine q_goto (tgt := 223) dX12_scans_219 (by decide) ?_
        exact K44.1 hb
  · have hF := hF.2 hb
    refine q_lload dX12_scans_167 rfl ?_
    refine q_ldc2 cl_X12_136 dX12_scans_169 ?_
    refine q_lmul dX12_scans_172 ?_
    refine q_aload_n (i := 0) dX12_scans_173 rfl rfl ?_
    refine q_iload_n (i := 1) dX12_scans_174 rfl rfl ?_
    refine q_callVi (ci := 13) (o := 43) (As := [.int l1]) (st := [.long (l4 * 10)]) cv_X12_99 ⟨_, _, rfl⟩ (by decide) rfl rfl (Nat.le_refl _) (Nat.le_of_ble_eq_true rfl) (by decide) dX12_scans_175 rfl hF (fun r48 h47 hF => ?_)
    refine q_i2l (v := r48.toInt64) dX12_scans_178 rfl ?_
    refine q_ladd dX12_scans_179 ?_
    refine q_ldc2 cl_X12_138 dX12_scans_180 ?_
    refine q_lsub dX12_scans_183 ?_
    refine q_ldc2 cl_X12_140 dX12_scans_184 ?_
    refine q_callSl (As := [.long (((l4 * 10) + r48.toInt64) - 48), .long 4000000000]) (st := []) cs_X12_142 rfl (Nat.le_refl _) (Nat.le_of_ble_eq_true rfl) (by decide) dX12_scans_187 rfl hF (fun r50 h49 hF => ?_)
    refine q_lstore dX12_scans_190 (by decide) rfl ?_
    refine q_iinc (v := l1 + 1) dX12_scans_192 rfl rfl (by decide) rfl ?_
    refine q_goto (tgt := 156) dX12_scans_195 (by decide) ?_
    exact hF
set_option maxRecDepth 100000 in
set_option maxHeartbeats 4000000 in
theorem x_X12_scans_73 (G : qG) (d : Nat) (l1 : Int32) (l2 : Int32) (l3 : Int32) (h : qh) (Q : qr → qh → Prop)  (hF : q_M0 G d yX12_byteAt [.ref 43, .int l1] h (q_ri (fun r52 h51 => q_M0 G d yX12_isSmall [.int r52] h51 (q_ri (fun r54 h53 => (¬ r54 = 0 → (q_N0 G m_X12_scans (d + 1) Q 73 [.ref 43, .int (l1 + 1), .int l2, .int l3, .null, .null] [] h53)) ∧ (r54 = 0 → (q_M0 G d yX12_byteAt [.ref 43, .int l1] h53 (q_ri (fun r56 h55 => q_M0 G d yX12_isDigit [.int r56] h55 (q_ri (fun r58 h57 => (r58 = 0 → (((if 8 < (l1 - l3) then (0 : Int32) else 1) = 0 → (q_M0 G d yX12_token [.ref 43, .int 1, .int l3, .int (l1 - l3)] h57 (q_rv (fun h60 => q_N0 G m_X12_scans (d + 1) Q 9 [.ref 43, .int l1, .int (if 8 < (l1 - l3) then (0 : Int32) else 1), .null, .null, .null] [] h60) (fun E h => Q (.inr E) h)))) ∧ (¬ (if 8 < (l1 - l3) then (0 : Int32) else 1) = 0 → (q_M0 G d yX12_wordOf [.ref 43, .int l3, .int (l1 - l3)] h57 (q_ri (fun r62 h61 => q_M0 G d yX12_token [.ref 43, .int r62, .int l3, .int (l1 - l3)] h61 (q_rv (fun h63 => q_N0 G m_X12_scans (d + 1) Q 9 [.ref 43, .int l1, .int (if 8 < (l1 - l3) then (0 : Int32) else 1), .null, .null, .null] [] h63) (fun E h => Q (.inr E) h))) (fun E h => Q (.inr E) h)))))) ∧ (¬ r58 = 0 → (q_N0 G m_X12_scans (d + 1) Q 73 [.ref 43, .int (l1 + 1), .int l2, .int l3, .null, .null] [] h57))) (fun E h => Q (.inr E) h))) (fun E h => Q (.inr E) h))))) (fun E h => Q (.inr E) h))) (fun E h => Q (.inr E) h))) : q_N0 G m_X12_scans (d + 1) Q 73 [.ref 43, .int l1, .int l2, .int l3, .null, .null] [] h := by
  refine q_aload_n (i := 0) dX12_scans_73 rfl rfl ?_
  refine q_iload_n (i := 1) dX12_scans_74 rfl rfl ?_
  refine q_callVi (ci := 13) (o := 43) (As := [.int l1]) (st := []) cv_X12_99 ⟨_, _, rfl⟩ (by decide) rfl rfl (Nat.le_refl _) (Nat.le_of_ble_eq_true rfl) (by decide) dX12_scans_75 rfl hF (fun r52 h51 hF => ?_)
  refine q_callSi (As := [.int r52]) (st := []) cs_X12_121 rfl (Nat.le_refl _) (Nat.le_of_ble_eq_true rfl) (by decide) dX12_scans_78 rfl hF (fun r54 h53 hF => ?_)
  refine q_if_ne (tgt := 95) dX12_scans_81 (by decide) (fun hb => ?_) (fun hb => ?_)
  · have hF := hF.1 hb
    refine q_iinc (v := l1 + 1) dX12_scans_95 rfl rfl (by decide) rfl ?_
    refine q_goto (tgt := 73) dX12_scans_98 (by decide) ?_
    exact hF
  · have hF := hF.2 hb
    refine q_aload_n (i := 0) dX12_scans_84 rfl rfl ?_
    refine q_iload_n (i := 1) dX12_scans_85 rfl rfl ?_
    refine q_callVi (ci := 13) (o := 43) (As := [.int l1]) (st := []) cv_X12_99 ⟨_, _, rfl⟩ (by decide) rfl rfl (Nat.le_refl _) (Nat.le_of_ble_eq_true rfl) (by decide) dX12_scans_86 rfl hF (fun r56 h55 hF => ?_)
    refine q_callSi (As := [.int r56]) (st := []) cs_X12_125 rfl (Nat.le_refl _) (Nat.le_of_ble_eq_true rfl) (by decide) dX12_scans_89 rfl hF (fun r58 h57 hF => ?_)
    refine q_if_eq (tgt := 101) dX12_scans_92 (by decide) (fun hb => ?_) (fun hb => ?_)
    · have hF := hF.1 hb
      refine q_iload_n (i := 1) dX12_scans_101 rfl rfl ?_
      refine q_iload_n (i := 3) dX12_scans_102 rfl rfl ?_
      refine q_isub dX12_scans_103 ?_
      refine q_bipush (v := 8) dX12_scans_104 (by decide) ?_
      have K59 := q_ite (c := 8 < (l1 - l3)) (X := fun v => q_N0 G m_X12_scans (d + 1) Q 114 [.ref 43, .int l1, .int l2, .int l3, .null, .null] (.int v :: []) h57) (a := 0) (b := 1) (by
        refine q_istore_n (i := 2) dX12_scans_114 rfl (by decide) rfl ?_
        refine q_aload_n (i := 0) dX12_scans_115 rfl rfl ?_
        refine q_iload_n (i := 2) dX12_scans_116 rfl rfl ?_
        refine q_if_eq (tgt := 131) dX12_scans_117 (by decide) (fun hb => ?_) (fun hb => ?_)
        · have hF := hF.1 hb
          refine q_iconst (v := 1) dX12_scans_131 (by decide) ?_
          refine q_iload_n (i := 3) dX12_scans_132 rfl rfl ?_
          refine q_iload_n (i := 1) dX12_scans_133 rfl rfl ?_
          refine q_iload_n (i := 3) dX12_scans_134 rfl rfl ?_
          refine q_isub dX12_scans_135 ?_
          refine q_callVv (ci := 13) (o := 43) (As := [.int 1, .int l3, .int (l1 - l3)]) (st := []) cv_X12_132 ⟨_, _, rfl⟩ (by decide) rfl rfl (Nat.le_refl _) (Nat.le_of_ble_eq_true rfl) (by decide) dX12_scans_136 rfl hF (fun h60 hF => ?_)
          refine q_goto (tgt := 294) dX12_scans_139 (by decide) ?_
          refine q_goto (tgt := 9) dX12_scans_294 (by decide) ?_
          show q_N0 G m_X12_scans (d + 1) Q 9 [.ref 43, .int l1, .int (if 8 < (l1 - l3) then (0 : Int32) else 1), .int l3, .null, .null] [] h60
          exact q_fgt (l' := [.ref 43, .int l1, .int (if 8 < (l1 - l3) then (0 : Int32) else 1), .null, .null, .null]) (And.intro (Or.inr rfl) ( And.intro (Or.inr rfl) ( And.intro (Or.inr rfl) ( And.intro (Or.inl rfl) ( And.intro (Or.inl rfl) ( And.intro (Or.inl rfl) (trivial))))))) hF
        · have hF := hF.2 hb
          refine q_aload_n (i := 0) dX12_scans_120 rfl rfl ?_
          refine q_iload_n (i := 3) dX12_scans_121 rfl rfl ?_
          refine q_iload_n (i := 1) dX12_scans_122 rfl rfl ?_
          refine q_iload_n (i := 3) dX12_scans_123 rfl rfl ?_
          refine q_isub dX12_scans_124 ?_
          refine q_callVi (ci := 13) (o := 43) (As := [.int l3, .int (l1 - l3)]) (st := [.ref 43]) cv_X12_128 ⟨_, _, rfl⟩ (by decide) rfl rfl (Nat.le_refl _) (Nat.le_of_ble_eq_true rfl) (by decide) dX12_scans_125 rfl hF (fun r62 h61 hF => ?_)
          refine q_goto (tgt := 132) dX12_scans_128 (by decide) ?_
          refine q_iload_n (i := 3) dX12_scans_132 rfl rfl ?_
          refine q_iload_n (i := 1) dX12_scans_133 rfl rfl ?_
          refine q_iload_n (i := 3) dX12_scans_134 rfl rfl ?_
          refine q_isub dX12_scans_135 ?_
          refine q_callVv (ci := 13) (o := 43) (As := [.int r62, .int l3, .int (l1 - l3)]) (st := []) cv_X12_132 ⟨_, _, rfl⟩ (by decide) rfl rfl (Nat.le_refl _) (Nat.le_of_ble_eq_true rfl) (by decide) dX12_scans_136 rfl hF (fun h63 hF => ?_)
          refine q_goto (tgt := 294) dX12_scans_139 (by decide) ?_
          refine q_goto (tgt := 9) dX12_scans_294 (by decide) ?_
          show q_N0 G m_X12_scans (d + 1) Q 9 [.ref 43, .int l1, .int (if 8 < (l1 - l3) then (0 : Int32) else 1), .int l3, .null, .null] [] h63
          exact q_fgt (l' := [.ref 43, .int l1, .int (if 8 < (l1 - l3) then (0 : Int32) else 1), .null, .null, .null]) (And.intro (Or.inr rfl) ( And.intro (Or.inr rfl) ( And.intro (Or.inr rfl) ( And.intro (Or.inl rfl) ( And.intro (Or.inl rfl) ( And.intro (Or.inl rfl) (trivial))))))) hF)
      refine q_icmp_gt (tgt := 113) dX12_scans_106 (by decide) (fun hb => ?_) (fun hb => ?_)
      · refine q_iconst (v := 0) dX12_scans_113 (by decide) ?_
        exact K59.1 hb
      · refine q_iconst (v := 1) dX12_scans_109 (by decide) ?_
        refine q_goto (tgt := 114) dX12_scans_110 (by decide) ?_
        exact K59.2 hb
    · have hF := hF.2 hb
      refine q_iinc (v := l1 + 1) dX12_scans_95 rfl rfl (by decide) rfl ?_
      refine q_goto (tgt := 73) dX12_scans_98 (by decide) ?_
      exact hF
def m_X12_refuse : qm := (RX12, cX12_refuse, 2, none, [], false)
set_option maxRecDepth 100000 in
set_option maxHeartbeats 4000000 in
theorem x_X12_refuse (G : qG) (d : Nat) (x1 : Int32) (h : qh) (Q : qr → qh → Prop)  (hF : vp_in (h.I 43 14) 2001 ∧ (Q (.inr "java/lang/IllegalStateException") ((h.sI 43 17 x1).sI 43 18 (h.I 48 ((h.I 43 14).toNatClampNeg))))) : q_M0 G (d + 1) yX12_refuse [.ref 43, .int x1] h Q := by
  refine q_of (M := m_X12_refuse) (by decide +kernel) rfl rfl cd_X12_refuse (by decide) (Nat.le_of_ble_eq_true rfl) ?_
  show q_N0 G m_X12_refuse (d + 1) Q 0 [.ref 43, .int x1] [] h
  refine q_aload_n (i := 0) dX12_refuse_0 rfl rfl ?_
  refine q_iload_n (i := 1) dX12_refuse_1 rfl rfl ?_
  refine q_putI 13 17 fp_X12_153 (Or.inr ⟨_, _, _, rfl, rfl⟩) (by decide) rfl rfl dX12_refuse_2 ?_
  refine q_aload_n (i := 0) dX12_refuse_5 rfl rfl ?_
  refine q_aload_n (i := 0) dX12_refuse_6 rfl rfl ?_
  refine q_getP 13 11 48 fl_X12_27 (by decide) rfl rfl rfl dX12_refuse_7 ?_
  refine q_aload_n (i := 0) dX12_refuse_10 rfl rfl ?_
  refine q_getIv (v := h.I 43 14) 13 14 fl_X12_156 (by decide) rfl rfl ((q_I_nek (by decide)).trans (rfl)) dX12_refuse_11 ?_
  obtain ⟨hi1, hF⟩ := hF
  refine q_ialoadv (v := h.I 48 ((h.I 43 14).toNatClampNeg)) (n := 2001) (by decide) rfl hi1 ((q_I_neo (by decide)).trans (rfl)) dX12_refuse_14 ?_
  refine q_putI 13 18 fp_X12_159 (Or.inr ⟨_, _, _, rfl, rfl⟩) (by decide) rfl rfl dX12_refuse_15 ?_
  refine q_aload_n (i := 0) dX12_refuse_18 rfl rfl ?_
  refine q_getP 13 16 50 fl_X12_40 (by decide) rfl rfl rfl dX12_refuse_19 ?_
  exact q_thrown 0 rfl (by decide) rfl (by decide) (by decide) (by decide) dX12_refuse_22 hF
def m_X12_wrong : qm := (RX12, cX12_wrong, 3, none, [], false)
set_option maxRecDepth 100000 in
set_option maxHeartbeats 4000000 in
theorem x_X12_wrong (G : qG) (d : Nat) (x1 : Int32) (x2 : Int32) (h : qh) (Q : qr → qh → Prop)  (hF : ((h.I 43 19) ≤ 0 → (vp_in x2 2001 ∧ (Q (.inl none) ((h.sI 43 19 x1).sI 43 20 (h.I 48 x2.toNatClampNeg))))) ∧ (¬ (h.I 43 19) ≤ 0 → (vp_in x2 2001 ∧ (((h.I 43 20) < (h.I 48 x2.toNatClampNeg) → (Q (.inl none) h)) ∧ (¬ (h.I 43 20) < (h.I 48 x2.toNatClampNeg) → (vp_in x2 2001 ∧ ((¬ (h.I 43 20) = (h.I 48 x2.toNatClampNeg) → (vp_in x2 2001 ∧ (Q (.inl none) ((h.sI 43 19 x1).sI 43 20 (h.I 48 x2.toNatClampNeg))))) ∧ ((h.I 43 20) = (h.I 48 x2.toNatClampNeg) → ((x1 < (h.I 43 19) → (vp_in x2 2001 ∧ (Q (.inl none) ((h.sI 43 19 x1).sI 43 20 (h.I 48 x2.toNatClampNeg))))) ∧ (¬ x1 < (h.I 43 19) → (Q (.inl none) h))))))))))) : q_M0 G (d + 1) yX12_wrong [.ref 43, .int x1, .int x2] h Q := by
  refine q_of (M := m_X12_wrong) (by decide +kernel) rfl rfl cd_X12_wrong (by decide) (Nat.le_of_ble_eq_true rfl) ?_
  show q_N0 G m_X12_wrong (d + 1) Q 0 [.ref 43, .int x1, .int x2] [] h
  refine q_aload_n (i := 0) dX12_wrong_0 rfl rfl ?_
  refine q_getIv (v := h.I 43 19) 13 19 fl_X12_162 (by decide) rfl rfl (rfl) dX12_wrong_1 ?_
  refine q_if_le (tgt := 42) dX12_wrong_4 (by decide) (fun hb => ?_) (fun hb => ?_)
  · have hF := hF.1 hb
    refine q_aload_n (i := 0) dX12_wrong_42 rfl rfl ?_
    refine q_iload_n (i := 1) dX12_wrong_43 rfl rfl ?_
    refine q_putI 13 19 fp_X12_162 (Or.inr ⟨_, _, _, rfl, rfl⟩) (by decide) rfl rfl dX12_wrong_44 ?_
    refine q_aload_n (i := 0) dX12_wrong_47 rfl rfl ?_
    refine q_aload_n (i := 0) dX12_wrong_48 rfl rfl ?_
    refine q_getP 13 11 48 fl_X12_27 (by decide) rfl rfl rfl dX12_wrong_49 ?_
    refine q_iload_n (i := 2) dX12_wrong_52 rfl rfl ?_
    obtain ⟨hi1, hF⟩ := hF
    refine q_ialoadv (v := h.I 48 x2.toNatClampNeg) (n := 2001) (by decide) rfl hi1 ((q_I_neo (by decide)).trans (rfl)) dX12_wrong_53 ?_
    refine q_putI 13 20 fp_X12_165 (Or.inr ⟨_, _, _, rfl, rfl⟩) (by decide) rfl rfl dX12_wrong_54 ?_
    exact q_vret rfl (by decide) (by decide) dX12_wrong_57 hF
  · have hF := hF.2 hb
    refine q_aload_n (i := 0) dX12_wrong_7 rfl rfl ?_
    refine q_getIv (v := h.I 43 20) 13 20 fl_X12_165 (by decide) rfl rfl (rfl) dX12_wrong_8 ?_
    refine q_aload_n (i := 0) dX12_wrong_11 rfl rfl ?_
    refine q_getP 13 11 48 fl_X12_27 (by decide) rfl rfl rfl dX12_wrong_12 ?_
    refine q_iload_n (i := 2) dX12_wrong_15 rfl rfl ?_
    obtain ⟨hi2, hF⟩ := hF
    refine q_ialoadv (v := h.I 48 x2.toNatClampNeg) (n := 2001) (by decide) rfl hi2 (rfl) dX12_wrong_16 ?_
    refine q_icmp_lt (tgt := 41) dX12_wrong_17 (by decide) (fun hb => ?_) (fun hb => ?_)
    · have hF := hF.1 hb
      exact q_vret rfl (by decide) (by decide) dX12_wrong_41 hF
    · have hF := hF.2 hb
      refine q_aload_n (i := 0) dX12_wrong_20 rfl rfl ?_
      refine q_getIv (v := h.I 43 20) 13 20 fl_X12_165 (by decide) rfl rfl (rfl) dX12_wrong_21 ?_
      refine q_aload_n (i := 0) dX12_wrong_24 rfl rfl ?_
      refine q_getP 13 11 48 fl_X12_27 (by decide) rfl rfl rfl dX12_wrong_25 ?_
      refine q_iload_n (i := 2) dX12_wrong_28 rfl rfl ?_
      obtain ⟨hi3, hF⟩ := hF
      refine q_ialoadv (v := h.I 48 x2.toNatClampNeg) (n := 2001) (by decide) rfl hi3 (rfl) dX12_wrong_29 ?_
      refine q_icmp_ne (tgt := 42) dX12_wrong_30 (by decide) (fun hb => ?_) (fun hb => ?_)
      · have hF := hF.1 hb
        refine q_aload_n (i := 0) dX12_wrong_42 rfl rfl ?_
        refine q_iload_n (i := 1) dX12_wrong_43 rfl rfl ?_
        refine q_putI 13 19 fp_X12_162 (Or.inr ⟨_, _, _, rfl, rfl⟩) (by decide) rfl rfl dX12_wrong_44 ?_
        refine q_aload_n (i := 0) dX12_wrong_47 rfl rfl ?_
        refine q_aload_n (i := 0) dX12_wrong_48 rfl rfl ?_
        refine q_getP 13 11 48 fl_X12_27 (by decide) rfl rfl rfl dX12_wrong_49 ?_
        refine q_iload_n (i := 2) dX12_wrong_52 rfl rfl ?_
        obtain ⟨hi4, hF⟩ := hF
        refine q_ialoadv (v := h.I 48 x2.toNatClampNeg) (n := 2001) (by decide) rfl hi4 ((q_I_neo (by decide)).trans (rfl)) dX12_wrong_53 ?_
        refine q_putI 13 20 fp_X12_165 (Or.inr ⟨_, _, _, rfl, rfl⟩) (by decide) rfl rfl dX12_wrong_54 ?_
        exact q_vret rfl (by decide) (by decide) dX12_wrong_57 hF
      · have hF := hF.2 hb
        refine q_aload_n (i := 0) dX12_wrong_33 rfl rfl ?_
        refine q_getIv (v := h.I 43 19) 13 19 fl_X12_162 (by decide) rfl rfl (rfl) dX12_wrong_34 ?_
        refine q_iload_n (i := 1) dX12_wrong_37 rfl rfl ?_
        refine q_icmp_gt (tgt := 42) dX12_wrong_38 (by decide) (fun hb => ?_) (fun hb => ?_)
        · have hF := hF.1 hb
          refine q_aload_n (i := 0) dX12_wrong_42 rfl rfl ?_
          refine q_iload_n (i := 1) dX12_wrong_43 rfl rfl ?_
          refine q_putI 13 19 fp_X12_162 (Or.inr ⟨_, _, _, rfl, rfl⟩) (by decide) rfl rfl dX12_wrong_44 ?_
          refine q_aload_n (i := 0) dX12_wrong_47 rfl rfl ?_
          refine q_aload_n (i := 0) dX12_wrong_48 rfl rfl ?_
          refine q_getP 13 11 48 fl_X12_27 (by decide) rfl rfl rfl dX12_wrong_49 ?_
          refine q_iload_n (i := 2) dX12_wrong_52 rfl rfl ?_
          obtain ⟨hi5, hF⟩ := hF
          refine q_ialoadv (v := h.I 48 x2.toNatClampNeg) (n := 2001) (by decide) rfl hi5 ((q_I_neo (by decide)).trans (rfl)) dX12_wrong_53 ?_
          refine q_putI 13 20 fp_X12_165 (Or.inr ⟨_, _, _, rfl, rfl⟩) (by decide) rfl rfl dX12_wrong_54 ?_
          exact q_vret rfl (by decide) (by decide) dX12_wrong_57 hF
        · have hF := hF.2 hb
          exact q_vret rfl (by decide) (by decide) dX12_wrong_41 hF
def m_X12_is : qm := (RX12, cX12_is, 2, (some .boolean), [], false)
set_option maxRecDepth 100000 in
set_option maxHeartbeats 4000000 in
theorem x_X12_is (G : qG) (d : Nat) (x1 : Int32) (h : qh) (Q : qr → qh → Prop)  (hF : vp_in (h.I 43 14) 2001 ∧ ((¬ (h.I 47 ((h.I 43 14).toNatClampNeg)) = 4 → (Q (.inl (some (.int 0))) h)) ∧ ((h.I 47 ((h.I 43 14).toNatClampNeg)) = 4 → (vp_in (h.I 43 14) 2001 ∧ (((if (h.I 49 ((h.I 43 14).toNatClampNeg)) = x1 then (1 : Int32) else 0) = 0 ∨ (if (h.I 49 ((h.I 43 14).toNatClampNeg)) = x1 then (1 : Int32) else 0) = 1) ∧ Q (.inl (some (.int (if (h.I 49 ((h.I 43 14).toNatClampNeg)) = x1 then (1 : Int32) else 0)))) h))))) : q_M0 G (d + 1) yX12_is [.ref 43, .int x1] h Q := by
  refine q_of (M := m_X12_is) (by decide +kernel) rfl rfl cd_X12_is (by decide) (Nat.le_of_ble_eq_true rfl) ?_
  show q_N0 G m_X12_is (d + 1) Q 0 [.ref 43, .int x1] [] h
  refine q_aload_n (i := 0) dX12_is_0 rfl rfl ?_
  refine q_getP 13 10 47 fl_X12_24 (by decide) rfl rfl rfl dX12_is_1 ?_
  refine q_aload_n (i := 0) dX12_is_4 rfl rfl ?_
  refine q_getIv (v := h.I 43 14) 13 14 fl_X12_156 (by decide) rfl rfl (rfl) dX12_is_5 ?_
  obtain ⟨hi1, hF⟩ := hF
  refine q_ialoadv (v := h.I 47 ((h.I 43 14).toNatClampNeg)) (n := 2001) (by decide) rfl hi1 (rfl) dX12_is_8 ?_
  refine q_iconst (v := 4) dX12_is_9 (by decide) ?_
  refine q_icmp_ne (tgt := 30) dX12_is_10 (by decide) (fun hb => ?_) (fun hb => ?_)
  · have hF := hF.1 hb
    refine q_iconst (v := 0) dX12_is_30 (by decide) ?_
    exact q_zret rfl (by decide) (by decide) (by decide) dX12_is_31 hF
  · have hF := hF.2 hb
    refine q_aload_n (i := 0) dX12_is_13 rfl rfl ?_
    refine q_getP 13 12 49 fl_X12_30 (by decide) rfl rfl rfl dX12_is_14 ?_
    refine q_aload_n (i := 0) dX12_is_17 rfl rfl ?_
    refine q_getIv (v := h.I 43 14) 13 14 fl_X12_156 (by decide) rfl rfl (rfl) dX12_is_18 ?_
    obtain ⟨hi2, hF⟩ := hF
    refine q_ialoadv (v := h.I 49 ((h.I 43 14).toNatClampNeg)) (n := 2001) (by decide) rfl hi2 (rfl) dX12_is_21 ?_
    refine q_iload_n (i := 1) dX12_is_22 rfl rfl ?_
    have K3 := q_ite (c := (h.I 49 ((h.I 43 14).toNatClampNeg)) = x1) (X := fun v => q_N0 G m_X12_is (d + 1) Q 31 [.ref 43, .int x1] (.int v :: []) h) (a := 1) (b := 0) (by
      exact q_zret rfl hF.1 (by decide) (by decide) dX12_is_31 hF.2)
    refine q_icmp_ne (tgt := 30) dX12_is_23 (by decide) (fun hb => ?_) (fun hb => ?_)
    · refine q_iconst (v := 0) dX12_is_30 (by decide) ?_
      exact K3.2 hb
    · refine q_iconst (v := 1) dX12_is_26 (by decide) ?_
      refine q_goto (tgt := 31) dX12_is_27 (by decide) ?_
      exact K3.1 hb
def m_X12_wants : qm := (RX12, cX12_wants, 2, none, [], false)
set_option maxRecDepth 100000 in
set_option maxHeartbeats 4000000 in
theorem x_X12_wants (G : qG) (d : Nat) (x1 : Int32) (h : qh) (Q : qr → qh → Prop)  (hF : q_M0 G d yX12_is [.ref 43, .int x1] h (q_ri (fun r2 h1 => (¬ r2 = 0 → (Q (.inl none) (h1.sI 43 14 ((h1.I 43 14) + 1)))) ∧ (r2 = 0 → (q_M0 G d yX12_refuse [.ref 43, .int 1] h1 (q_rv (fun h3 => Q (.inl none) (h3.sI 43 14 ((h3.I 43 14) + 1))) (fun E h => Q (.inr E) h))))) (fun E h => Q (.inr E) h))) : q_M0 G (d + 1) yX12_wants [.ref 43, .int x1] h Q := by
  refine q_of (M := m_X12_wants) (by decide +kernel) rfl rfl cd_X12_wants (by decide) (Nat.le_of_ble_eq_true rfl) ?_
  show q_N0 G m_X12_wants (d + 1) Q 0 [.ref 43, .int x1] [] h
  refine q_aload_n (i := 0) dX12_wants_0 rfl rfl ?_
  refine q_iload_n (i := 1) dX12_wants_1 rfl rfl ?_
  refine q_callVi (ci := 13) (o := 43) (As := [.int x1]) (st := []) cv_X12_168 ⟨_, _, rfl⟩ (by decide) rfl rfl (Nat.le_refl _) (Nat.le_of_ble_eq_true rfl) (by decide) dX12_wants_2 rfl hF (fun r2 h1 hF => ?_)
  refine q_if_ne (tgt := 13) dX12_wants_5 (by decide) (fun hb => ?_) (fun hb => ?_)
  · have hF := hF.1 hb
    refine q_aload_n (i := 0) dX12_wants_13 rfl rfl ?_
    refine q_dup dX12_wants_14 rfl ?_
    refine q_getIv (v := h1.I 43 14) 13 14 fl_X12_156 (by decide) rfl rfl (rfl) dX12_wants_15 ?_
    refine q_iconst (v := 1) dX12_wants_18 (by decide) ?_
    refine q_iadd dX12_wants_19 ?_
    refine q_putI 13 14 fp_X12_156 (Or.inr ⟨_, _, _, rfl, rfl⟩) (by decide) rfl rfl dX12_wants_20 ?_
    exact q_vret rfl (by decide) (by decide) dX12_wants_23 hF
  · have hF := hF.2 hb
    refine q_aload_n (i := 0) dX12_wants_8 rfl rfl ?_
    refine q_iconst (v := 1) dX12_wants_9 (by decide) ?_
    refine q_callVv (ci := 13) (o := 43) (As := [.int 1]) (st := []) cv_X12_171 ⟨_, _, rfl⟩ (by decide) rfl rfl (Nat.le_refl _) (Nat.le_of_ble_eq_true rfl) (by decide) dX12_wants_10 rfl hF (fun h3 hF => ?_)
    refine q_aload_n (i := 0) dX12_wants_13 rfl rfl ?_
    refine q_dup dX12_wants_14 rfl ?_
    refine q_getIv (v := h3.I 43 14) 13 14 fl_X12_156 (by decide) rfl rfl (rfl) dX12_wants_15 ?_
    refine q_iconst (v := 1) dX12_wants_18 (by decide) ?_
    refine q_iadd dX12_wants_19 ?_
    refine q_putI 13 14 fp_X12_156 (Or.inr ⟨_, _, _, rfl, rfl⟩) (by decide) rfl rfl dX12_wants_20 ?_
    exact q_vret rfl (by decide) (by decide) dX12_wants_23 hF
def m_X12_wantsKind : qm := (RX12, cX12_wantsKind, 2, (some .int), [], false)
set_option maxRecDepth 100000 in
set_option maxHeartbeats 4000000 in
theorem x_X12_wantsKind (G : qG) (d : Nat) (x1 : Int32) (h : qh) (Q : qr → qh → Prop)  (hF : vp_in (h.I 43 14) 2001 ∧ (((h.I 47 ((h.I 43 14).toNatClampNeg)) = x1 → (Q (.inl (some (.int (((h.I 43 14) + 1) - 1)))) (h.sI 43 14 ((h.I 43 14) + 1)))) ∧ (¬ (h.I 47 ((h.I 43 14).toNatClampNeg)) = x1 → (q_M0 G d yX12_refuse [.ref 43, .int 1] h (q_rv (fun h2 => Q (.inl (some (.int (((h2.I 43 14) + 1) - 1)))) (h2.sI 43 14 ((h2.I 43 14) + 1))) (fun E h => Q (.inr E) h)))))) : q_M0 G (d + 1) yX12_wantsKind [.ref 43, .int x1] h Q := by
  refine q_of (M := m_X12_wantsKind) (by decide +kernel) rfl rfl cd_X12_wantsKind (by decide) (Nat.le_of_ble_eq_true rfl) ?_
  show q_N0 G m_X12_wantsKind (d + 1) Q 0 [.ref 43, .int x1] [] h
  refine q_aload_n (i := 0) dX12_wantsKind_0 rfl rfl ?_
  refine q_getP 13 10 47 fl_X12_24 (by decide) rfl rfl rfl dX12_wantsKind_1 ?_
  refine q_aload_n (i := 0) dX12_wantsKind_4 rfl rfl ?_
  refine q_getIv (v := h.I 43 14) 13 14 fl_X12_156 (by decide) rfl rfl (rfl) dX12_wantsKind_5 ?_
  obtain ⟨hi1, hF⟩ := hF
  refine q_ialoadv (v := h.I 47 ((h.I 43 14).toNatClampNeg)) (n := 2001) (by decide) rfl hi1 (rfl) dX12_wantsKind_8 ?_
  refine q_iload_n (i := 1) dX12_wantsKind_9 rfl rfl ?_
  refine q_icmp_eq (tgt := 18) dX12_wantsKind_10 (by decide) (fun hb => ?_) (fun hb => ?_)
  · have hF := hF.1 hb
    refine q_aload_n (i := 0) dX12_wantsKind_18 rfl rfl ?_
    refine q_dup dX12_wantsKind_19 rfl ?_
    refine q_getIv (v := h.I 43 14) 13 14 fl_X12_156 (by decide) rfl rfl (rfl) dX12_wantsKind_20 ?_
    refine q_iconst (v := 1) dX12_wantsKind_23 (by decide) ?_
    refine q_iadd dX12_wantsKind_24 ?_
    refine q_putI 13 14 fp_X12_156 (Or.inr ⟨_, _, _, rfl, rfl⟩) (by decide) rfl rfl dX12_wantsKind_25 ?_
    refine q_aload_n (i := 0) dX12_wantsKind_28 rfl rfl ?_
    refine q_getIv (v := (h.I 43 14) + 1) 13 14 fl_X12_156 (by decide) rfl rfl (q_I_same _ _ _ _) dX12_wantsKind_29 ?_
    refine q_iconst (v := 1) dX12_wantsKind_32 (by decide) ?_
    refine q_isub dX12_wantsKind_33 ?_
    exact q_iret rfl (by decide) (by decide) dX12_wantsKind_34 hF
  · have hF := hF.2 hb
    refine q_aload_n (i := 0) dX12_wantsKind_13 rfl rfl ?_
    refine q_iconst (v := 1) dX12_wantsKind_14 (by decide) ?_
    refine q_callVv (ci := 13) (o := 43) (As := [.int 1]) (st := []) cv_X12_171 ⟨_, _, rfl⟩ (by decide) rfl rfl (Nat.le_refl _) (Nat.le_of_ble_eq_true rfl) (by decide) dX12_wantsKind_15 rfl hF (fun h2 hF => ?_)
    refine q_aload_n (i := 0) dX12_wantsKind_18 rfl rfl ?_
    refine q_dup dX12_wantsKind_19 rfl ?_
    refine q_getIv (v := h2.I 43 14) 13 14 fl_X12_156 (by decide) rfl rfl (rfl) dX12_wantsKind_20 ?_
    refine q_iconst (v := 1) dX12_wantsKind_23 (by decide) ?_
    refine q_iadd dX12_wantsKind_24 ?_
    refine q_putI 13 14 fp_X12_156 (Or.inr ⟨_, _, _, rfl, rfl⟩) (by decide) rfl rfl dX12_wantsKind_25 ?_
    refine q_aload_n (i := 0) dX12_wantsKind_28 rfl rfl ?_
    refine q_getIv (v := (h2.I 43 14) + 1) 13 14 fl_X12_156 (by decide) rfl rfl (q_I_same _ _ _ _) dX12_wantsKind_29 ?_
    refine q_iconst (v := 1) dX12_wantsKind_32 (by decide) ?_
    refine q_isub dX12_wantsKind_33 ?_
    exact q_iret rfl (by decide) (by decide) dX12_wantsKind_34 hF
def m_X12_enters : qm := (RX12, cX12_enters, 1, none, [], false)
set_option maxRecDepth 100000 in
set_option maxHeartbeats 4000000 in
theorem x_X12_enters (G : qG) (d : Nat)  (h : qh) (Q : qr → qh → Prop)  (hF : (¬ (h.I 43 15) = 16 → (Q (.inl none) ((h.sI 43 15 ((h.I 43 15) + 1)).sI 43 14 ((h.I 43 14) + 1)))) ∧ ((h.I 43 15) = 16 → (q_M0 G d yX12_refuse [.ref 43, .int 7] h (q_rv (fun h1 => Q (.inl none) ((h1.sI 43 15 ((h1.I 43 15) + 1)).sI 43 14 ((h1.I 43 14) + 1))) (fun E h => Q (.inr E) h))))) : q_M0 G (d + 1) yX12_enters [.ref 43] h Q := by
  refine q_of (M := m_X12_enters) (by decide +kernel) rfl rfl cd_X12_enters (by decide) (Nat.le_of_ble_eq_true rfl) ?_
  show q_N0 G m_X12_enters (d + 1) Q 0 [.ref 43] [] h
  refine q_aload_n (i := 0) dX12_enters_0 rfl rfl ?_
  refine q_getIv (v := h.I 43 15) 13 15 fl_X12_174 (by decide) rfl rfl (rfl) dX12_enters_1 ?_
  refine q_bipush (v := 16) dX12_enters_4 (by decide) ?_
  refine q_icmp_ne (tgt := 15) dX12_enters_6 (by decide) (fun hb => ?_) (fun hb => ?_)
  · have hF := hF.1 hb
    refine q_aload_n (i := 0) dX12_enters_15 rfl rfl ?_
    refine q_dup dX12_enters_16 rfl ?_
    refine q_getIv (v := h.I 43 15) 13 15 fl_X12_174 (by decide) rfl rfl (rfl) dX12_enters_17 ?_
    refine q_iconst (v := 1) dX12_enters_20 (by decide) ?_
    refine q_iadd dX12_enters_21 ?_
    refine q_putI 13 15 fp_X12_174 (Or.inr ⟨_, _, _, rfl, rfl⟩) (by decide) rfl rfl dX12_enters_22 ?_
    refine q_aload_n (i := 0) dX12_enters_25 rfl rfl ?_
    refine q_dup dX12_enters_26 rfl ?_
    refine q_getIv (v := h.I 43 14) 13 14 fl_X12_156 (by decide) rfl rfl ((q_I_nek (by decide)).trans (rfl)) dX12_enters_27 ?_
    refine q_iconst (v := 1) dX12_enters_30 (by decide) ?_
    refine q_iadd dX12_enters_31 ?_
    refine q_putI 13 14 fp_X12_156 (Or.inr ⟨_, _, _, rfl, rfl⟩) (by decide) rfl rfl dX12_enters_32 ?_
    exact q_vret rfl (by decide) (by decide) dX12_enters_35 hF
  · have hF := hF.2 hb
    refine q_aload_n (i := 0) dX12_enters_9 rfl rfl ?_
    refine q_bipush (v := 7) dX12_enters_10 (by decide) ?_
    refine q_callVv (ci := 13) (o := 43) (As := [.int 7]) (st := []) cv_X12_171 ⟨_, _, rfl⟩ (by decide) rfl rfl (Nat.le_refl _) (Nat.le_of_ble_eq_true rfl) (by decide) dX12_enters_12 rfl hF (fun h1 hF => ?_)
    refine q_aload_n (i := 0) dX12_enters_15 rfl rfl ?_
    refine q_dup dX12_enters_16 rfl ?_
    refine q_getIv (v := h1.I 43 15) 13 15 fl_X12_174 (by decide) rfl rfl (rfl) dX12_enters_17 ?_
    refine q_iconst (v := 1) dX12_enters_20 (by decide) ?_
    refine q_iadd dX12_enters_21 ?_
    refine q_putI 13 15 fp_X12_174 (Or.inr ⟨_, _, _, rfl, rfl⟩) (by decide) rfl rfl dX12_enters_22 ?_
    refine q_aload_n (i := 0) dX12_enters_25 rfl rfl ?_
    refine q_dup dX12_enters_26 rfl ?_
    refine q_getIv (v := h1.I 43 14) 13 14 fl_X12_156 (by decide) rfl rfl ((q_I_nek (by decide)).trans (rfl)) dX12_enters_27 ?_
    refine q_iconst (v := 1) dX12_enters_30 (by decide) ?_
    refine q_iadd dX12_enters_31 ?_
    refine q_putI 13 14 fp_X12_156 (Or.inr ⟨_, _, _, rfl, rfl⟩) (by decide) rfl rfl dX12_enters_32 ?_
    exact q_vret rfl (by decide) (by decide) dX12_enters_35 hF
def m_X12_opens : qm := (RX12, cX12_opens, 2, none, [], false)
set_option maxRecDepth 100000 in
set_option maxHeartbeats 4000000 in
theorem x_X12_opens (G : qG) (d : Nat) (x1 : Int32) (h : qh) (Q : qr → qh → Prop)  (hF : q_M0 G d yX12_is [.ref 43, .int x1] h (q_ri (fun r2 h1 => (¬ r2 = 0 → (q_M0 G d yX12_enters [.ref 43] h1 (q_rv (fun h3 => Q (.inl none) h3) (fun E h => Q (.inr E) h)))) ∧ (r2 = 0 → (q_M0 G d yX12_refuse [.ref 43, .int 1] h1 (q_rv (fun h4 => q_M0 G d yX12_enters [.ref 43] h4 (q_rv (fun h5 => Q (.inl none) h5) (fun E h => Q (.inr E) h))) (fun E h => Q (.inr E) h))))) (fun E h => Q (.inr E) h))) : q_M0 G (d + 1) yX12_opens [.ref 43, .int x1] h Q := by
  refine q_of (M := m_X12_opens) (by decide +kernel) rfl rfl cd_X12_opens (by decide) (Nat.le_of_ble_eq_true rfl) ?_
  show q_N0 G m_X12_opens (d + 1) Q 0 [.ref 43, .int x1] [] h
  refine q_aload_n (i := 0) dX12_opens_0 rfl rfl ?_
  refine q_iload_n (i := 1) dX12_opens_1 rfl rfl ?_
  refine q_callVi (ci := 13) (o := 43) (As := [.int x1]) (st := []) cv_X12_168 ⟨_, _, rfl⟩ (by decide) rfl rfl (Nat.le_refl _) (Nat.le_of_ble_eq_true rfl) (by decide) dX12_opens_2 rfl hF (fun r2 h1 hF => ?_)
  refine q_if_ne (tgt := 13) dX12_opens_5 (by decide) (fun hb => ?_) (fun hb => ?_)
  · have hF := hF.1 hb
    refine q_aload_n (i := 0) dX12_opens_13 rfl rfl ?_
    refine q_callVv (ci := 13) (o := 43) (As := []) (st := []) cv_X12_177 ⟨_, _, rfl⟩ (by decide) rfl rfl (Nat.le_refl _) (Nat.le_of_ble_eq_true rfl) (by decide) dX12_opens_14 rfl hF (fun h3 hF => ?_)
    exact q_vret rfl (by decide) (by decide) dX12_opens_17 hF
  · have hF := hF.2 hb
    refine q_aload_n (i := 0) dX12_opens_8 rfl rfl ?_
    refine q_iconst (v := 1) dX12_opens_9 (by decide) ?_
    refine q_callVv (ci := 13) (o := 43) (As := [.int 1]) (st := []) cv_X12_171 ⟨_, _, rfl⟩ (by decide) rfl rfl (Nat.le_refl _) (Nat.le_of_ble_eq_true rfl) (by decide) dX12_opens_10 rfl hF (fun h4 hF => ?_)
    refine q_aload_n (i := 0) dX12_opens_13 rfl rfl ?_
    refine q_callVv (ci := 13) (o := 43) (As := []) (st := []) cv_X12_177 ⟨_, _, rfl⟩ (by decide) rfl rfl (Nat.le_refl _) (Nat.le_of_ble_eq_true rfl) (by decide) dX12_opens_14 rfl hF (fun h5 hF => ?_)
    exact q_vret rfl (by decide) (by decide) dX12_opens_17 hF
def m_X12_closes : qm := (RX12, cX12_closes, 2, none, [], false)
set_option maxRecDepth 100000 in
set_option maxHeartbeats 4000000 in
theorem x_X12_closes (G : qG) (d : Nat) (x1 : Int32) (h : qh) (Q : qr → qh → Prop)  (hF : q_M0 G d yX12_wants [.ref 43, .int x1] h (q_rv (fun h1 => Q (.inl none) (h1.sI 43 15 ((h1.I 43 15) - 1))) (fun E h => Q (.inr E) h))) : q_M0 G (d + 1) yX12_closes [.ref 43, .int x1] h Q := by
  refine q_of (M := m_X12_closes) (by decide +kernel) rfl rfl cd_X12_closes (by decide) (Nat.le_of_ble_eq_true rfl) ?_
  show q_N0 G m_X12_closes (d + 1) Q 0 [.ref 43, .int x1] [] h
  refine q_aload_n (i := 0) dX12_closes_0 rfl rfl ?_
  refine q_iload_n (i := 1) dX12_closes_1 rfl rfl ?_
  refine q_callVv (ci := 13) (o := 43) (As := [.int x1]) (st := []) cv_X12_180 ⟨_, _, rfl⟩ (by decide) rfl rfl (Nat.le_refl _) (Nat.le_of_ble_eq_true rfl) (by decide) dX12_closes_2 rfl hF (fun h1 hF => ?_)
  refine q_aload_n (i := 0) dX12_closes_5 rfl rfl ?_
  refine q_dup dX12_closes_6 rfl ?_
  refine q_getIv (v := h1.I 43 15) 13 15 fl_X12_174 (by decide) rfl rfl (rfl) dX12_closes_7 ?_
  refine q_iconst (v := 1) dX12_closes_10 (by decide) ?_
  refine q_isub dX12_closes_11 ?_
  refine q_putI 13 15 fp_X12_174 (Or.inr ⟨_, _, _, rfl, rfl⟩) (by decide) rfl rfl dX12_closes_12 ?_
  exact q_vret rfl (by decide) (by decide) dX12_closes_15 hF
def m_X12_areAlike : qm := (RX12, cX12_areAlike, 4, (some .boolean), [], false)
set_option maxRecDepth 100000 in
set_option maxHeartbeats 4000000 in
theorem x_X12_areAlike (G : qG) (d : Nat) (x1 : Int32) (x2 : Int32) (h : qh) (Q : qr → qh → Prop)  (hF : vp_in x1 2001 ∧ (vp_in x2 2001 ∧ (((h.I 49 x1.toNatClampNeg) = (h.I 49 x2.toNatClampNeg) → (q_N0 G m_X12_areAlike (d + 1) Q 19 [.ref 43, .int x1, .int x2, .int 0] [] h)) ∧ (¬ (h.I 49 x1.toNatClampNeg) = (h.I 49 x2.toNatClampNeg) → (Q (.inl (some (.int 0))) h))))) : q_M0 G (d + 1) yX12_areAlike [.ref 43, .int x1, .int x2] h Q := by
  refine q_of (M := m_X12_areAlike) (by decide +kernel) rfl rfl cd_X12_areAlike (by decide) (Nat.le_of_ble_eq_true rfl) ?_
  show q_N0 G m_X12_areAlike (d + 1) Q 0 [.ref 43, .int x1, .int x2, .null] [] h
  refine q_aload_n (i := 0) dX12_areAlike_0 rfl rfl ?_
  refine q_getP 13 12 49 fl_X12_30 (by decide) rfl rfl rfl dX12_areAlike_1 ?_
  refine q_iload_n (i := 1) dX12_areAlike_4 rfl rfl ?_
  obtain ⟨hi1, hF⟩ := hF
  refine q_ialoadv (v := h.I 49 x1.toNatClampNeg) (n := 2001) (by decide) rfl hi1 (rfl) dX12_areAlike_5 ?_
  refine q_aload_n (i := 0) dX12_areAlike_6 rfl rfl ?_
  refine q_getP 13 12 49 fl_X12_30 (by decide) rfl rfl rfl dX12_areAlike_7 ?_
  refine q_iload_n (i := 2) dX12_areAlike_10 rfl rfl ?_
  obtain ⟨hi2, hF⟩ := hF
  refine q_ialoadv (v := h.I 49 x2.toNatClampNeg) (n := 2001) (by decide) rfl hi2 (rfl) dX12_areAlike_11 ?_
  refine q_icmp_eq (tgt := 17) dX12_areAlike_12 (by decide) (fun hb => ?_) (fun hb => ?_)
  · have hF := hF.1 hb
    refine q_iconst (v := 0) dX12_areAlike_17 (by decide) ?_
    refine q_istore_n (i := 3) dX12_areAlike_18 rfl (by decide) rfl ?_
    exact hF
  · have hF := hF.2 hb
    refine q_iconst (v := 0) dX12_areAlike_15 (by decide) ?_
    exact q_zret rfl (by decide) (by decide) (by decide) dX12_areAlike_16 hF
set_option maxRecDepth 100000 in
set_option maxHeartbeats 4000000 in
theorem x_X12_areAlike_19 (G : qG) (d : Nat) (l1 : Int32) (l2 : Int32) (l3 : Int32) (h : qh) (Q : qr → qh → Prop)  (hF : vp_in l1 2001 ∧ (((h.I 49 l1.toNatClampNeg) ≤ l3 → (Q (.inl (some (.int 1))) h)) ∧ (¬ (h.I 49 l1.toNatClampNeg) ≤ l3 → (vp_in l1 2001 ∧ (vp_in ((h.I 48 l1.toNatClampNeg) + l3) 2000 ∧ (vp_in l2 2001 ∧ (vp_in ((h.I 48 l2.toNatClampNeg) + l3) 2000 ∧ (((h.I 46 (((h.I 48 l1.toNatClampNeg) + l3).toNatClampNeg)) = (h.I 46 (((h.I 48 l2.toNatClampNeg) + l3).toNatClampNeg)) → (q_N0 G m_X12_areAlike (d + 1) Q 19 [.ref 43, .int l1, .int l2, .int (l3 + 1)] [] h)) ∧ (¬ (h.I 46 (((h.I 48 l1.toNatClampNeg) + l3).toNatClampNeg)) = (h.I 46 (((h.I 48 l2.toNatClampNeg) + l3).toNatClampNeg)) → (Q (.inl (some (.int 0))) h)))))))))) : q_N0 G m_X12_areAlike (d + 1) Q 19 [.ref 43, .int l1, .int l2, .int l3] [] h := by
  refine q_iload_n (i := 3) dX12_areAlike_19 rfl rfl ?_
  refine q_aload_n (i := 0) dX12_areAlike_20 rfl rfl ?_
  refine q_getP 13 12 49 fl_X12_30 (by decide) rfl rfl rfl dX12_areAlike_21 ?_
  refine q_iload_n (i := 1) dX12_areAlike_24 rfl rfl ?_
  obtain ⟨hi3, hF⟩ := hF
  refine q_ialoadv (v := h.I 49 l1.toNatClampNeg) (n := 2001) (by decide) rfl hi3 (rfl) dX12_areAlike_25 ?_
  refine q_icmp_ge (tgt := 66) dX12_areAlike_26 (by decide) (fun hb => ?_) (fun hb => ?_)
  · have hF := hF.1 hb
    refine q_iconst (v := 1) dX12_areAlike_66 (by decide) ?_
    exact q_zret rfl (by decide) (by decide) (by decide) dX12_areAlike_67 hF
  · have hF := hF.2 hb
    refine q_aload_n (i := 0) dX12_areAlike_29 rfl rfl ?_
    refine q_getP 13 8 46 fl_X12_21 (by decide) rfl rfl rfl dX12_areAlike_30 ?_
    refine q_aload_n (i := 0) dX12_areAlike_33 rfl rfl ?_
    refine q_getP 13 11 48 fl_X12_27 (by decide) rfl rfl rfl dX12_areAlike_34 ?_
    refine q_iload_n (i := 1) dX12_areAlike_37 rfl rfl ?_
    obtain ⟨hi4, hF⟩ := hF
    refine q_ialoadv (v := h.I 48 l1.toNatClampNeg) (n := 2001) (by decide) rfl hi4 (rfl) dX12_areAlike_38 ?_
    refine q_iload_n (i := 3) dX12_areAlike_39 rfl rfl ?_
    refine q_iadd dX12_areAlike_40 ?_
    obtain ⟨hi5, hF⟩ := hF
    refine q_baloadv (v := h.I 46 (((h.I 48 l1.toNatClampNeg) + l3).toNatClampNeg)) (n := 2000) (by decide) rfl hi5 (rfl) dX12_areAlike_41 ?_
    refine q_aload_n (i := 0) dX12_areAlike_42 rfl rfl ?_
    refine q_getP 13 8 46 fl_X12_21 (by decide) rfl rfl rfl dX12_areAlike_43 ?_
    refine q_aload_n (i := 0) dX12_areAlike_46 rfl rfl ?_
    refine q_getP 13 11 48 fl_X12_27 (by decide) rfl rfl rfl dX12_areAlike_47 ?_
    refine q_iload_n (i := 2) dX12_areAlike_50 rfl rfl ?_
    obtain ⟨hi6, hF⟩ := hF
    refine q_ialoadv (v := h.I 48 l2.toNatClampNeg) (n := 2001) (by decide) rfl hi6 (rfl) dX12_areAlike_51 ?_
    refine q_iload_n (i := 3) dX12_areAlike_52 rfl rfl ?_
    refine q_iadd dX12_areAlike_53 ?_
    obtain ⟨hi7, hF⟩ := hF
    refine q_baloadv (v := h.I 46 (((h.I 48 l2.toNatClampNeg) + l3).toNatClampNeg)) (n := 2000) (by decide) rfl hi7 (rfl) dX12_areAlike_54 ?_
    refine q_icmp_eq (tgt := 60) dX12_areAlike_55 (by decide) (fun hb => ?_) (fun hb => ?_)
    · have hF := hF.1 hb
      refine q_iinc (v := l3 + 1) dX12_areAlike_60 rfl rfl (by decide) rfl ?_
      refine q_goto (tgt := 19) dX12_areAlike_63 (by decide) ?_
      exact hF
    · have hF := hF.2 hb
      refine q_iconst (v := 0) dX12_areAlike_58 (by decide) ?_
      exact q_zret rfl (by decide) (by decide) (by decide) dX12_areAlike_59 hF
def m_X12_meaning : qm := (RX12, cX12_meaning, 3, (some .int), [], false)
set_option maxRecDepth 100000 in
set_option maxHeartbeats 4000000 in
theorem x_X12_meaning (G : qG) (d : Nat) (x1 : Int32) (h : qh) (Q : qr → qh → Prop)  (hF : q_N0 G m_X12_meaning (d + 1) Q 7 [.ref 43, .int x1, .int ((h.I 43 27) - 1)] [] h) : q_M0 G (d + 1) yX12_meaning [.ref 43, .int x1] h Q := by
  refine q_of (M := m_X12_meaning) (by decide +kernel) rfl rfl cd_X12_meaning (by decide) (Nat.le_of_ble_eq_true rfl) ?_
  show q_N0 G m_X12_meaning (d + 1) Q 0 [.ref 43, .int x1, .null] [] h
  refine q_aload_n (i := 0) dX12_meaning_0 rfl rfl ?_
  refine q_getIv (v := h.I 43 27) 13 27 fl_X12_183 (by decide) rfl rfl (rfl) dX12_meaning_1 ?_
  refine q_iconst (v := 1) dX12_meaning_4 (by decide) ?_
  refine q_isub dX12_meaning_5 ?_
  refine q_istore_n (i := 2) dX12_meaning_6 rfl (by decide) rfl ?_
  exact hF
set_option maxRecDepth 100000 in
set_option maxHeartbeats 4000000 in
theorem x_X12_meaning_7 (G : qG) (d : Nat) (l1 : Int32) (l2 : Int32) (h : qh) (Q : qr → qh → Prop)  (hF : (l2 < 0 → (Q (.inl (some (.int (-1)))) h)) ∧ (¬ l2 < 0 → (vp_in l2 2000 ∧ (q_M0 G d yX12_areAlike [.ref 43, .int (h.I 73 l2.toNatClampNeg), .int l1] h (q_ri (fun r3 h2 => (r3 = 0 → (q_N0 G m_X12_meaning (d + 1) Q 7 [.ref 43, .int l1, .int (l2 + (-1))] [] h2)) ∧ (¬ r3 = 0 → (Q (.inl (some (.int l2))) h2))) (fun E h => Q (.inr E) h)))))) : q_N0 G m_X12_meaning (d + 1) Q 7 [.ref 43, .int l1, .int l2] [] h := by
  refine q_iload_n (i := 2) dX12_meaning_7 rfl rfl ?_
  refine q_if_lt (tgt := 33) dX12_meaning_8 (by decide) (fun hb => ?_) (fun hb => ?_)
  · have hF := hF.1 hb
    refine q_iconst (v := (-1)) dX12_meaning_33 (by decide) ?_
    exact q_iret rfl (by decide) (by decide) dX12_meaning_34 hF
  · have hF := hF.2 hb
    refine q_aload_n (i := 0) dX12_meaning_11 rfl rfl ?_
    refine q_aload_n (i := 0) dX12_meaning_12 rfl rfl ?_
    refine q_getP 13 24 73 fl_X12_53 (by decide) rfl rfl rfl dX12_meaning_13 ?_
    refine q_iload_n (i := 2) dX12_meaning_16 rfl rfl ?_
    obtain ⟨hi1, hF⟩ := hF
    refine q_ialoadv (v := h.I 73 l2.toNatClampNeg) (n := 2000) (by decide) rfl hi1 (rfl) dX12_meaning_17 ?_
    refine q_iload_n (i := 1) dX12_meaning_18 rfl rfl ?_
    refine q_callVi (ci := 13) (o := 43) (As := [.int (h.I 73 l2.toNatClampNeg), .int l1]) (st := []) cv_X12_186 ⟨_, _, rfl⟩ (by decide) rfl rfl (Nat.le_refl _) (Nat.le_of_ble_eq_true rfl) (by decide) dX12_meaning_19 rfl hF (fun r3 h2 hF => ?_)
    refine q_if_eq (tgt := 27) dX12_meaning_22 (by decide) (fun hb => ?_) (fun hb => ?_)
    · have hF := hF.1 hb
      refine q_iinc (v := l2 + (-1)) dX12_meaning_27 rfl rfl (by decide) rfl ?_
      refine q_goto (tgt := 7) dX12_meaning_30 (by decide) ?_
      exact hF
    · have hF := hF.2 hb
      refine q_iload_n (i := 2) dX12_meaning_25 rfl rfl ?_
      exact q_iret rfl (by decide) (by decide) dX12_meaning_26 hF
def m_X12_told : qm := (RX12, cX12_told, 4, none, [], false)
set_option maxRecDepth 100000 in
set_option maxHeartbeats 4000000 in
theorem x_X12_told (G : qG) (d : Nat) (x1 : Int32) (x2 : Int32) (x3 : Int32) (h : qh) (Q : qr → qh → Prop)  (hF : vp_in (h.I 43 27) 2000 ∧ (vp_in (h.I 43 27) 2000 ∧ (vp_in (h.I 43 27) 2000 ∧ (Q (.inl none) ((((h.sI 73 ((h.I 43 27).toNatClampNeg) x1).sI 74 ((h.I 43 27).toNatClampNeg) x2).sI 75 ((h.I 43 27).toNatClampNeg) x3).sI 43 27 ((h.I 43 27) + 1)))))) : q_M0 G (d + 1) yX12_told [.ref 43, .int x1, .int x2, .int x3] h Q := by
  refine q_of (M := m_X12_told) (by decide +kernel) rfl rfl cd_X12_told (by decide) (Nat.le_of_ble_eq_true rfl) ?_
  show q_N0 G m_X12_told (d + 1) Q 0 [.ref 43, .int x1, .int x2, .int x3] [] h
  refine q_aload_n (i := 0) dX12_told_0 rfl rfl ?_
  refine q_getP 13 24 73 fl_X12_53 (by decide) rfl rfl rfl dX12_told_1 ?_
  refine q_aload_n (i := 0) dX12_told_4 rfl rfl ?_
  refine q_getIv (v := h.I 43 27) 13 27 fl_X12_183 (by decide) rfl rfl (rfl) dX12_told_5 ?_
  refine q_iload_n (i := 1) dX12_told_8 rfl rfl ?_
  obtain ⟨hi1, hF⟩ := hF
  refine q_iastore (n := 2000) (by decide) rfl hi1 dX12_told_9 ?_
  refine q_aload_n (i := 0) dX12_told_10 rfl rfl ?_
  refine q_getP 13 25 74 fl_X12_56 (by decide) rfl rfl rfl dX12_told_11 ?_
  refine q_aload_n (i := 0) dX12_told_14 rfl rfl ?_
  refine q_getIv (v := h.I 43 27) 13 27 fl_X12_183 (by decide) rfl rfl ((q_I_neo (by decide)).trans (rfl)) dX12_told_15 ?_
  refine q_iload_n (i := 2) dX12_told_18 rfl rfl ?_
  obtain ⟨hi2, hF⟩ := hF
  refine q_iastore (n := 2000) (by decide) rfl hi2 dX12_told_19 ?_
  refine q_aload_n (i := 0) dX12_told_20 rfl rfl ?_
  refine q_getP 13 26 75 fl_X12_59 (by decide) rfl rfl rfl dX12_told_21 ?_
  refine q_aload_n (i := 0) dX12_told_24 rfl rfl ?_
  refine q_getIv (v := h.I 43 27) 13 27 fl_X12_183 (by decide) rfl rfl ((q_I_neo (by decide)).trans ( (q_I_neo (by decide)).trans (rfl))) dX12_told_25 ?_
  refine q_iload_n (i := 3) dX12_told_28 rfl rfl ?_
  obtain ⟨hi3, hF⟩ := hF
  refine q_iastore (n := 2000) (by decide) rfl hi3 dX12_told_29 ?_
  refine q_aload_n (i := 0) dX12_told_30 rfl rfl ?_
  refine q_dup dX12_told_31 rfl ?_
  refine q_getIv (v := h.I 43 27) 13 27 fl_X12_183 (by decide) rfl rfl ((q_I_neo (by decide)).trans ( (q_I_neo (by decide)).trans ( (q_I_neo (by decide)).trans (rfl)))) dX12_told_32 ?_
  refine q_iconst (v := 1) dX12_told_35 (by decide) ?_
  refine q_iadd dX12_told_36 ?_
  refine q_putI 13 27 fp_X12_183 (Or.inr ⟨_, _, _, rfl, rfl⟩) (by decide) rfl rfl dX12_told_37 ?_
  exact q_vret rfl (by decide) (by decide) dX12_told_40 hF
def m_X12_asksNew : qm := (RX12, cX12_asksNew, 2, none, [], false)
set_option maxRecDepth 100000 in
set_option maxHeartbeats 4000000 in
theorem x_X12_asksNew (G : qG) (d : Nat) (x1 : Int32) (h : qh) (Q : qr → qh → Prop)  (hF : q_M0 G d yX12_meaning [.ref 43, .int x1] h (q_ri (fun r2 h1 => (r2 = (-1) → (Q (.inl none) h1)) ∧ (¬ r2 = (-1) → (q_M0 G d yX12_wrong [.ref 43, .int 2, .int x1] h1 (q_rv (fun h3 => Q (.inl none) h3) (fun E h => Q (.inr E) h))))) (fun E h => Q (.inr E) h))) : q_M0 G (d + 1) yX12_asksNew [.ref 43, .int x1] h Q := by
  refine q_of (M := m_X12_asksNew) (by decide +kernel) rfl rfl cd_X12_asksNew (by decide) (Nat.le_of_ble_eq_true rfl) ?_
  show q_N0 G m_X12_asksNew (d + 1) Q 0 [.ref 43, .int x1] [] h
  refine q_aload_n (i := 0) dX12_asksNew_0 rfl rfl ?_
  refine q_iload_n (i := 1) dX12_asksNew_1 rfl rfl ?_
  refine q_callVi (ci := 13) (o := 43) (As := [.int x1]) (st := []) cv_X12_190 ⟨_, _, rfl⟩ (by decide) rfl rfl (Nat.le_refl _) (Nat.le_of_ble_eq_true rfl) (by decide) dX12_asksNew_2 rfl hF (fun r2 h1 hF => ?_)
  refine q_iconst (v := (-1)) dX12_asksNew_5 (by decide) ?_
  refine q_icmp_eq (tgt := 15) dX12_asksNew_6 (by decide) (fun hb => ?_) (fun hb => ?_)
  · have hF := hF.1 hb
    exact q_vret rfl (by decide) (by decide) dX12_asksNew_15 hF
  · have hF := hF.2 hb
    refine q_aload_n (i := 0) dX12_asksNew_9 rfl rfl ?_
    refine q_iconst (v := 2) dX12_asksNew_10 (by decide) ?_
    refine q_iload_n (i := 1) dX12_asksNew_11 rfl rfl ?_
    refine q_callVv (ci := 13) (o := 43) (As := [.int 2, .int x1]) (st := []) cv_X12_193 ⟨_, _, rfl⟩ (by decide) rfl rfl (Nat.le_refl _) (Nat.le_of_ble_eq_true rfl) (by decide) dX12_asksNew_12 rfl hF (fun h3 hF => ?_)
    exact q_vret rfl (by decide) (by decide) dX12_asksNew_15 hF
def m_X12_program : qm := (RX12, cX12_program, 4, none, [], false)
set_option maxRecDepth 100000 in
set_option maxHeartbeats 4000000 in
theorem x_X12_program (G : qG) (d : Nat)  (h : qh) (Q : qr → qh → Prop)  (hF : ∃ c1, h.R 43 22 = some c1 ∧ q_prg c1 ∧ (q_N0 G m_X12_program (d + 1) Q 7 [.ref 43, .ref c1, .int 1, .null] [] h)) : q_M0 G (d + 1) yX12_program [.ref 43] h Q := by
  refine q_of (M := m_X12_program) (by decide +kernel) rfl rfl cd_X12_program (by decide) (Nat.le_of_ble_eq_true rfl) ?_
  show q_N0 G m_X12_program (d + 1) Q 0 [.ref 43, .null, .null, .null] [] h
  refine q_aload_n (i := 0) dX12_program_0 rfl rfl ?_
  obtain ⟨c1, hrc1, hc1, hF⟩ := hF
  refine q_getR (k := c1) 13 22 fl_X12_50 (by decide) rfl rfl hrc1 dX12_program_1 ?_
  refine q_astore_n (i := 1) dX12_program_4 rfl (by decide) rfl ?_
  refine q_iconst (v := 1) dX12_program_5 (by decide) ?_
  refine q_istore_n (i := 2) dX12_program_6 rfl (by decide) rfl ?_
  exact hF
set_option maxRecDepth 100000 in
set_option maxHeartbeats 4000000 in
theorem x_X12_program_7 (G : qG) (d : Nat) (c1 : Nat) (l2 : Int32) (h : qh) (Q : qr → qh → Prop) (hc1 : q_prg c1) (hF : (l2 = 0 → (q_M0 G d yX12_opens [.ref 43, .int 40] h (q_rv (fun h2 => vp_in (h2.I 43 14) 2001 ∧ ((¬ (h2.I 47 ((h2.I 43 14).toNatClampNeg)) = 5 → (q_M0 G d yX12_closes [.ref 43, .int 41] h2 (q_rv (fun h4 => q_M0 G d yX12_block [.ref 43] h4 (q_ri (fun r6 h5 => vp_in (h5.I 43 14) 2001 ∧ (((h5.I 47 ((h5.I 43 14).toNatClampNeg)) = 0 → (Q (.inl none) (h5.sI c1 7 r6))) ∧ (¬ (h5.I 47 ((h5.I 43 14).toNatClampNeg)) = 0 → (q_M0 G d yX12_refuse [.ref 43, .int 1] (h5.sI c1 7 r6) (q_rv (fun h8 => Q (.inl none) h8) (fun E h => Q (.inr E) h)))))) (fun E h => Q (.inr E) h))) (fun E h => Q (.inr E) h)))) ∧ ((h2.I 47 ((h2.I 43 14).toNatClampNeg)) = 5 → (q_M0 G d yX12_parameter [.ref 43] h2 (q_rv (fun h9 => q_N0 G m_X12_program (d + 1) Q 80 [.ref 43, .ref c1, .int l2, .null] [] h9) (fun E h => Q (.inr E) h)))))) (fun E h => Q (.inr E) h)))) ∧ (¬ l2 = 0 → (q_M0 G d yX12_wantsKind [.ref 43, .int 5] h (q_ri (fun r11 h10 => q_M0 G d yX12_wantsKind [.ref 43, .int 2] h10 (q_ri (fun r13 h12 => q_M0 G d yX12_asksNew [.ref 43, .int r13] h12 (q_rv (fun h14 => q_M0 G d yX12_is [.ref 43, .int 40] h14 (q_ri (fun r16 h15 => (r16 = 0 → (q_M0 G d yX12_array [.ref 43, .int r13] h15 (q_rv (fun h17 => q_N0 G m_X12_program (d + 1) Q 7 [.ref 43, .ref c1, .int l2, .null] [] h17) (fun E h => Q (.inr E) h)))) ∧ (¬ r16 = 0 → (q_M0 G d yX12_told [.ref 43, .int r13, .int 1, .int 0] h15 (q_rv (fun h18 => q_N0 G m_X12_program (d + 1) Q 7 [.ref 43, .ref c1, .int 0, .null] [] h18) (fun E h => Q (.inr E) h))))) (fun E h => Q (.inr E) h))) (fun E h => Q (.inr E) h))) (fun E h => Q (.inr E) h))) (fun E h => Q (.inr E) h))))) : q_N0 G m_X12_program (d + 1) Q 7 [.ref 43, .ref c1, .int l2, .null] [] h := by
  refine q_iload_n (i := 2) dX12_program_7 rfl rfl ?_
  refine q_if_eq (tgt := 57) dX12_program_8 (by decide) (fun hb => ?_) (fun hb => ?_)
  · have hF := hF.1 hb
    refine q_aload_n (i := 0) dX12_program_57 rfl rfl ?_
    refine q_bipush (v := 40) dX12_program_58 (by decide) ?_
    refine q_callVv (ci := 13) (o := 43) (As := [.int 40]) (st := []) cv_X12_209 ⟨_, _, rfl⟩ (by decide) rfl rfl (Nat.le_refl _) (Nat.le_of_ble_eq_true rfl) (by decide) dX12_program_60 rfl hF (fun h2 hF => ?_)
    refine q_aload_n (i := 0) dX12_program_63 rfl rfl ?_
    refine q_getP 13 10 47 fl_X12_24 (by decide) rfl rfl rfl dX12_program_64 ?_
    refine q_aload_n (i := 0) dX12_program_67 rfl rfl ?_
    refine q_getIv (v := h2.I 43 14) 13 14 fl_X12_156 (by decide) rfl rfl (rfl) dX12_program_68 ?_
    obtain ⟨hi3, hF⟩ := hF
    refine q_ialoadv (v := h2.I 47 ((h2.I 43 14).toNatClampNeg)) (n := 2001) (by decide) rfl hi3 (rfl) dX12_program_71 ?_
    refine q_iconst (v := 5) dX12_program_72 (by decide) ?_
    refine q_icmp_ne (tgt := 124) dX12_program_73 (by decide) (fun hb => ?_) (fun hb => ?_)
    · have hF := hF.1 hb
      refine q_aload_n (i := 0) dX12_program_124 rfl rfl ?_
      refine q_bipush (v := 41) dX12_program_125 (by decide) ?_
      refine q_callVv (ci := 13) (o := 43) (As := [.int 41]) (st := []) cv_X12_215 ⟨_, _, rfl⟩ (by decide) rfl rfl (Nat.le_refl _) (Nat.le_of_ble_eq_true rfl) (by decide) dX12_program_127 rfl hF (fun h4 hF => ?_)
      refine q_aload_n (i := 1) dX12_program_130 rfl rfl ?_
      refine q_aload_n (i := 0) dX12_program_131 rfl rfl ?_
      refine q_callVi (ci := 13) (o := 43) (As := []) (st := [.ref c1]) cv_X12_218 ⟨_, _, rfl⟩ (by decide) rfl rfl (Nat.le_refl _) (Nat.le_of_ble_eq_true rfl) (by decide) dX12_program_132 rfl hF (fun r6 h5 hF => ?_)
      refine q_putI 12 7 fp_X12_222 (Or.inr ⟨_, _, _, rfl, rfl⟩) (q_prg_n hc1 0) (q_prg_K hc1) rfl dX12_program_135 ?_
      refine q_aload_n (i := 0) dX12_program_138 rfl rfl ?_
      refine q_getP 13 10 47 fl_X12_24 (by decide) rfl rfl rfl dX12_program_139 ?_
      refine q_aload_n (i := 0) dX12_program_142 rfl rfl ?_
      refine q_getIv (v := h5.I 43 14) 13 14 fl_X12_156 (by decide) rfl rfl ((q_I_neo (by rcases hc1 with rfl | rfl <;> decide)).trans (rfl)) dX12_program_143 ?_
      obtain ⟨hi7, hF⟩ := hF
      refine q_ialoadv (v := h5.I 47 ((h5.I 43 14).toNatClampNeg)) (n := 2001) (by decide) rfl hi7 ((q_I_neo (by rcases hc1 with rfl | rfl <;> decide)).trans (rfl)) dX12_program_146 ?_
      refine q_if_eq (tgt := 155) dX12_program_147 (by decide) (fun hb => ?_) (fun hb => ?_)
      · have hF := hF.1 hb
        exact q_vret rfl (by decide) (by decide) dX12_program_155 hF
      · have hF := hF.2 hb
        refine q_aload_n (i := 0) dX12_program_150 rfl rfl ?_
        refine q_iconst (v := 1) dX12_program_151 (by decide) ?_
        refine q_callVv (ci := 13) (o := 43) (As := [.int 1]) (st := []) cv_X12_171 ⟨_, _, rfl⟩ (by decide) rfl rfl (Nat.le_refl _) (Nat.le_of_ble_eq_true rfl) (by decide) dX12_program_152 rfl hF (fun h8 hF => ?_)
        exact q_vret rfl (by decide) (by decide) dX12_program_155 hF
    · have hF := hF.2 hb
      refine q_aload_n (i := 0) dX12_program_76 rfl rfl ?_
      refine q_callVv (ci := 13) (o := 43) (As := []) (st := []) cv_X12_212 ⟨_, _, rfl⟩ (by decide) rfl rfl (Nat.le_refl _) (Nat.le_of_ble_eq_true rfl) (by decide) dX12_program_77 rfl hF (fun h9 hF => ?_)
      exact hF
  · have hF := hF.2 hb
    refine q_aload_n (i := 0) dX12_program_11 rfl rfl ?_
    refine q_iconst (v := 5) dX12_program_12 (by decide) ?_
    refine q_callVi (ci := 13) (o := 43) (As := [.int 5]) (st := []) cv_X12_197 ⟨_, _, rfl⟩ (by decide) rfl rfl (Nat.le_refl _) (Nat.le_of_ble_eq_true rfl) (by decide) dX12_program_13 rfl hF (fun r11 h10 hF => ?_)
    refine q_pop dX12_program_16 rfl ?_
    refine q_aload_n (i := 0) dX12_program_17 rfl rfl ?_
    refine q_iconst (v := 2) dX12_program_18 (by decide) ?_
    refine q_callVi (ci := 13) (o := 43) (As := [.int 2]) (st := []) cv_X12_197 ⟨_, _, rfl⟩ (by decide) rfl rfl (Nat.le_refl _) (Nat.le_of_ble_eq_true rfl) (by decide) dX12_program_19 rfl hF (fun r13 h12 hF => ?_)
    refine q_istore_n (i := 3) dX12_program_22 rfl (by decide) rfl ?_
    refine q_aload_n (i := 0) dX12_program_23 rfl rfl ?_
    refine q_iload_n (i := 3) dX12_program_24 rfl rfl ?_
    refine q_callVv (ci := 13) (o := 43) (As := [.int r13]) (st := []) cv_X12_200 ⟨_, _, rfl⟩ (by decide) rfl rfl (Nat.le_refl _) (Nat.le_of_ble_eq_true rfl) (by decide) dX12_program_25 rfl hF (fun h14 hF => ?_)
    refine q_aload_n (i := 0) dX12_program_28 rfl rfl ?_
    refine q_bipush (v := 40) dX12_program_29 (by decide) ?_
    refine q_callVi (ci := 13) (o := 43) (As := [.int 40]) (st := []) cv_X12_168 ⟨_, _, rfl⟩ (by decide) rfl rfl (Nat.le_refl _) (Nat.le_of_ble_eq_true rfl) (by decide) dX12_program_31 rfl hF (fun r16 h15 hF => ?_)
    refine q_if_eq (tgt := 49) dX12_program_34 (by decide) (fun hb => ?_) (fun hb => ?_)
    · have hF := hF.1 hb
      refine q_aload_n (i := 0) dX12_program_49 rfl rfl ?_
      refine q_iload_n (i := 3) dX12_program_50 rfl rfl ?_
      refine q_callVv (ci := 13) (o := 43) (As := [.int r13]) (st := []) cv_X12_206 ⟨_, _, rfl⟩ (by decide) rfl rfl (Nat.le_refl _) (Nat.le_of_ble_eq_true rfl) (by decide) dX12_program_51 rfl hF (fun h17 hF => ?_)
      refine q_goto (tgt := 7) dX12_program_54 (by decide) ?_
      show q_N0 G m_X12_program (d + 1) Q 7 [.ref 43, .ref c1, .int l2, .int r13] [] h17
      exact q_fgt (l' := [.ref 43, .ref c1, .int l2, .null]) (And.intro (Or.inr rfl) ( And.intro (Or.inr rfl) ( And.intro (Or.inr rfl) ( And.intro (Or.inl rfl) (trivial))))) hF
    · have hF := hF.2 hb
      refine q_aload_n (i := 0) dX12_program_37 rfl rfl ?_
      refine q_iload_n (i := 3) dX12_program_38 rfl rfl ?_
      refine q_iconst (v := 1) dX12_program_39 (by decide) ?_
      refine q_iconst (v := 0) dX12_program_40 (by decide) ?_
      refine q_callVv (ci := 13) (o := 43) (As := [.int r13, .int 1, .int 0]) (st := []) cv_X12_203 ⟨_, _, rfl⟩ (by decide) rfl rfl (Nat.le_refl _) (Nat.le_of_ble_eq_true rfl) (by decide) dX12_program_41 rfl hF (fun h18 hF => ?_)
      refine q_iconst (v := 0) dX12_program_44 (by decide) ?_
      refine q_istore_n (i := 2) dX12_program_45 rfl (by decide) rfl ?_
      refine q_goto (tgt := 54) dX12_program_46 (by decide) ?_
      refine q_goto (tgt := 7) dX12_program_54 (by decide) ?_
      show q_N0 G m_X12_program (d + 1) Q 7 [.ref 43, .ref c1, .int 0, .int r13] [] h18
      exact q_fgt (l' := [.ref 43, .ref c1, .int 0, .null]) (And.intro (Or.inr rfl) ( And.intro (Or.inr rfl) ( And.intro (Or.inr rfl) ( And.intro (Or.inl rfl) (trivial))))) hF
set_option maxRecDepth 100000 in
set_option maxHeartbeats 4000000 in
theorem x_X12_program_80 (G : qG) (d : Nat) (c1 : Nat) (l2 : Int32) (h : qh) (Q : qr → qh → Prop) (hc1 : q_prg c1) (hF : q_M0 G d yX12_is [.ref 43, .int 44] h (q_ri (fun r20 h19 => (r20 = 0 → (q_M0 G d yX12_closes [.ref 43, .int 41] h19 (q_rv (fun h21 => q_M0 G d yX12_block [.ref 43] h21 (q_ri (fun r23 h22 => vp_in (h22.I 43 14) 2001 ∧ (((h22.I 47 ((h22.I 43 14).toNatClampNeg)) = 0 → (Q (.inl none) (h22.sI c1 7 r23))) ∧ (¬ (h22.I 47 ((h22.I 43 14).toNatClampNeg)) = 0 → (q_M0 G d yX12_refuse [.ref 43, .int 1] (h22.sI c1 7 r23) (q_rv (fun h25 => Q (.inl none) h25) (fun E h => Q (.inr E) h)))))) (fun E h => Q (.inr E) h))) (fun E h => Q (.inr E) h)))) ∧ (¬ r20 = 0 → (vp_in ((h19.I 43 14) + 1) 2001 ∧ (((h19.I 47 (((h19.I 43 14) + 1).toNatClampNeg)) = 5 → (q_M0 G d yX12_parameter [.ref 43] (h19.sI 43 14 ((h19.I 43 14) + 1)) (q_rv (fun h27 => q_N0 G m_X12_program (d + 1) Q 80 [.ref 43, .ref c1, .int l2, .null] [] h27) (fun E h => Q (.inr E) h)))) ∧ (¬ (h19.I 47 (((h19.I 43 14) + 1).toNatClampNeg)) = 5 → (q_M0 G d yX12_refuse [.ref 43, .int 1] (h19.sI 43 14 ((h19.I 43 14) + 1)) (q_rv (fun h28 => q_M0 G d yX12_parameter [.ref 43] h28 (q_rv (fun h29 => q_N0 G m_X12_program (d + 1) Q 80 [.ref 43, .ref c1, .int l2, .null] [] h29) (fun E h => Q (.inr E) h))) (fun E h => Q (.inr E) h)))))))) (fun E h => Q (.inr E) h))) : q_N0 G m_X12_program (d + 1) Q 80 [.ref 43, .ref c1, .int l2, .null] [] h := by
  refine q_aload_n (i := 0) dX12_program_80 rfl rfl ?_
  refine q_bipush (v := 44) dX12_program_81 (by decide) ?_
  refine q_callVi (ci := 13) (o := 43) (As := [.int 44]) (st := []) cv_X12_168 ⟨_, _, rfl⟩ (by decide) rfl rfl (Nat.le_refl _) (Nat.le_of_ble_eq_true rfl) (by decide) dX12_program_83 rfl hF (fun r20 h19 hF => ?_)
  refine q_if_eq (tgt := 124) dX12_program_86 (by decide) (fun hb => ?_) (fun hb => ?_)
  · have hF := hF.1 hb
    refine q_aload_n (i := 0) dX12_program_124 rfl rfl ?_
    refine q_bipush (v := 41) dX12_program_125 (by decide) ?_
    refine q_callVv (ci := 13) (o := 43) (As := [.int 41]) (st := []) cv_X12_215 ⟨_, _, rfl⟩ (by decide) rfl rfl (Nat.le_refl _) (Nat.le_of_ble_eq_true rfl) (by decide) dX12_program_127 rfl hF (fun h21 hF => ?_)
    refine q_aload_n (i := 1) dX12_program_130 rfl rfl ?_
    refine q_aload_n (i := 0) dX12_program_131 rfl rfl ?_
    refine q_callVi (ci := 13) (o := 43) (As := []) (st := [.ref c1]) cv_X12_218 ⟨_, _, rfl⟩ (by decide) rfl rfl (Nat.le_refl _) (Nat.le_of_ble_eq_true rfl) (by decide) dX12_program_132 rfl hF (fun r23 h22 hF => ?_)
    refine q_putI 12 7 fp_X12_222 (Or.inr ⟨_, _, _, rfl, rfl⟩) (q_prg_n hc1 0) (q_prg_K hc1) rfl dX12_program_135 ?_
    refine q_aload_n (i := 0) dX12_program_138 rfl rfl ?_
    refine q_getP 13 10 47 fl_X12_24 (by decide) rfl rfl rfl dX12_program_139 ?_
    refine q_aload_n (i := 0) dX12_program_142 rfl rfl ?_
    refine q_getIv (v := h22.I 43 14) 13 14 fl_X12_156 (by decide) rfl rfl ((q_I_neo (by rcases hc1 with rfl | rfl <;> decide)).trans (rfl)) dX12_program_143 ?_
    obtain ⟨hi24, hF⟩ := hF
    refine q_ialoadv (v := h22.I 47 ((h22.I 43 14).toNatClampNeg)) (n := 2001) (by decide) rfl hi24 ((q_I_neo (by rcases hc1 with rfl | rfl <;> decide)).trans (rfl)) dX12_program_146 ?_
    refine q_if_eq (tgt := 155) dX12_program_147 (by decide) (fun hb => ?_) (fun hb => ?_)
    · have hF := hF.1 hb
      exact q_vret rfl (by decide) (by decide) dX12_program_155 hF
    · have hF := hF.2 hb
      refine q_aload_n (i := 0) dX12_program_150 rfl rfl ?_
      refine q_iconst (v := 1) dX12_program_151 (by decide) ?_
      refine q_callVv (ci := 13) (o := 43) (As := [.int 1]) (st := []) cv_X12_171 ⟨_, _, rfl⟩ (by decide) rfl rfl (Nat.le_refl _) (Nat.le_of_ble_eq_true rfl) (by decide) dX12_program_152 rfl hF (fun h25 hF => ?_)
      exact q_vret rfl (by decide) (by decide) dX12_program_155 hF
  · have hF := hF.2 hb
    refine q_aload_n (i := 0) dX12_program_89 rfl rfl ?_
    refine q_dup dX12_program_90 rfl ?_
    refine q_getIv (v := h19.I 43 14) 13 14 fl_X12_156 (by decide) rfl rfl (rfl) dX12_program_91 ?_
    refine q_iconst (v := 1) dX12_program_94 (by decide) ?_
    refine q_iadd dX12_program_95 ?_
    refine q_putI 13 14 fp_X12_156 (Or.inr ⟨_, _, _, rfl, rfl⟩) (by decide) rfl rfl dX12_program_96 ?_
    refine q_aload_n (i := 0) dX12_program_99 rfl rfl ?_
    refine q_getP 13 10 47 fl_X12_24 (by decide) rfl rfl rfl dX12_program_100 ?_
    refine q_aload_n (i := 0) dX12_program_103 rfl rfl ?_
    refine q_getIv (v := (h19.I 43 14) + 1) 13 14 fl_X12_156 (by decide) rfl rfl (q_I_same _ _ _ _) dX12_program_104 ?_
    obtain ⟨hi26, hF⟩ := hF
    refine q_ialoadv (v := h19.I 47 (((h19.I 43 14) + 1).toNatClampNeg)) (n := 2001) (by decide) rfl hi26 ((q_I_neo (by decide)).trans (rfl)) dX12_program_107 ?_
    refine q_iconst (v := 5) dX12_program_108 (by decide) ?_
    refine q_icmp_eq (tgt := 117) dX12_program_109 (by decide) (fun hb => ?_) (fun hb => ?_)
    · have hF := hF.1 hb
      refine q_aload_n (i := 0) dX12_program_117 rfl rfl ?_
      refine q_callVv (ci := 13) (o := 43) (As := []) (st := []) cv_X12_212 ⟨_, _, rfl⟩ (by decide) rfl rfl (Nat.le_refl _) (Nat.le_of_ble_eq_true rfl) (by decide) dX12_program_118 rfl hF (fun h27 hF => ?_)
      refine q_goto (tgt := 80) dX12_program_121 (by decide) ?_
      exact hF
    · have hF := hF.2 hb
      refine q_aload_n (i := 0) dX12_program_112 rfl rfl ?_
      refine q_iconst (v := 1) dX12_program_113 (by decide) ?_
      refine q_callVv (ci := 13) (o := 43) (As := [.int 1]) (st := []) cv_X12_171 ⟨_, _, rfl⟩ (by decide) rfl rfl (Nat.le_refl _) (Nat.le_of_ble_eq_true rfl) (by decide) dX12_program_114 rfl hF (fun h28 hF => ?_)
      refine q_aload_n (i := 0) dX12_program_117 rfl rfl ?_
      refine q_callVv (ci := 13) (o := 43) (As := []) (st := []) cv_X12_212 ⟨_, _, rfl⟩ (by decide) rfl rfl (Nat.le_refl _) (Nat.le_of_ble_eq_true rfl) (by decide) dX12_program_118 rfl hF (fun h29 hF => ?_)
      refine q_goto (tgt := 80) dX12_program_121 (by decide) ?_
      exact hF
def m_X12_array : qm := (RX12, cX12_array, 4, none, [], false)
set_option maxRecDepth 100000 in
set_option maxHeartbeats 4000000 in
theorem x_X12_array (G : qG) (d : Nat) (x1 : Int32) (h : qh) (Q : qr → qh → Prop)  (hF : ∃ c1, h.R 43 22 = some c1 ∧ q_prg c1 ∧ (q_M0 G d yX12_opens [.ref 43, .int 91] h (q_rv (fun h2 => q_M0 G d yX12_wantsKind [.ref 43, .int 3] h2 (q_ri (fun r4 h3 => q_M0 G d yX12_closes [.ref 43, .int 93] h3 (q_rv (fun h5 => q_M0 G d yX12_wants [.ref 43, .int 59] h5 (q_rv (fun h6 => ((h6.I c1 0) < 8 → (vp_in r4 2001 ∧ (((h6.I 49 r4.toNatClampNeg) < 1 → (q_M0 G d yX12_wrong [.ref 43, .int 6, .int r4] h6 (q_rv (fun h8 => (8 ≤ (h8.I c1 0) → (q_M0 G d yX12_told [.ref 43, .int x1, .int 0, .int (h8.I c1 0)] h8 (q_rv (fun h9 => Q (.inl none) (h9.sI c1 0 ((h9.I c1 0) + 1))) (fun E h => Q (.inr E) h)))) ∧ (¬ 8 ≤ (h8.I c1 0) → (vp_in r4 2001 ∧ (vp_in (h8.I c1 0) 8 ∧ (q_M0 G d yX12_told [.ref 43, .int x1, .int 0, .int (h8.I c1 0)] (h8.sI (c1 + 1) ((h8.I c1 0).toNatClampNeg) (h8.I 49 r4.toNatClampNeg)) (q_rv (fun h12 => Q (.inl none) (h12.sI c1 0 ((h12.I c1 0) + 1))) (fun E h => Q (.inr E) h))))))) (fun E h => Q (.inr E) h)))) ∧ (¬ (h6.I 49 r4.toNatClampNeg) < 1 → (vp_in r4 2001 ∧ (((h6.I 49 r4.toNatClampNeg) ≤ 256 → ((8 ≤ (h6.I c1 0) → (q_M0 G d yX12_told [.ref 43, .int x1, .int 0, .int (h6.I c1 0)] h6 (q_rv (fun h14 => Q (.inl none) (h14.sI c1 0 ((h14.I c1 0) + 1))) (fun E h => Q (.inr E) h)))) ∧ (¬ 8 ≤ (h6.I c1 0) → (vp_in r4 2001 ∧ (vp_in (h6.I c1 0) 8 ∧ (q_M0 G d yX12_told [.ref 43, .int x1, .int 0, .int (h6.I c1 0)] (h6.sI (c1 + 1) ((h6.I c1 0).toNatClampNeg) (h6.I 49 r4.toNatClampNeg)) (q_rv (fun h17 => Q (.inl none) (h17.sI c1 0 ((h17.I c1 0) + 1))) (fun E h => Q (.inr E) h)))))))) ∧ (¬ (h6.I 49 r4.toNatClampNeg) ≤ 256 → (q_M0 G d yX12_wrong [.ref 43, .int 6, .int r4] h6 (q_rv (fun h18 => (8 ≤ (h18.I c1 0) → (q_M0 G d yX12_told [.ref 43, .int x1, .int 0, .int (h18.I c1 0)] h18 (q_rv (fun h19 => Q (.inl none) (h19.sI c1 0 ((h19.I c1 0) + 1))) (fun E h => Q (.inr E) h)))) ∧ (¬ 8 ≤ (h18.I c1 0) → (vp_in r4 2001 ∧ (vp_in (h18.I c1 0) 8 ∧ (q_M0 G d yX12_told [.ref 43, .int x1, .int 0, .int (h18.I c1 0)] (h18.sI (c1 + 1) ((h18.I c1 0).toNatClampNeg) (h18.I 49 r4.toNatClampNeg)) (q_rv (fun h22 => Q (.inl none) (h22.sI c1 0 ((h22.I c1 0) + 1))) (fun E h => Q (.inr E) h))))))) (fun E h => Q (.inr E) h)))))))))) ∧ (¬ (h6.I c1 0) < 8 → (q_M0 G d yX12_wrong [.ref 43, .int 6, .int x1] h6 (q_rv (fun h23 => vp_in r4 2001 ∧ (((h23.I 49 r4.toNatClampNeg) < 1 → (q_M0 G d yX12_wrong [.ref 43, .int 6, .int r4] h23 (q_rv (fun h25 => (8 ≤ (h25.I c1 0) → (q_M0 G d yX12_told [.ref 43, .int x1, .int 0, .int (h25.I c1 0)] h25 (q_rv (fun h26 => Q (.inl none) (h26.sI c1 0 ((h26.I c1 0) + 1))) (fun E h => Q (.inr E) h)))) ∧ (¬ 8 ≤ (h25.I c1 0) → (vp_in r4 2001 ∧ (vp_in (h25.I c1 0) 8 ∧ (q_M0 G d yX12_told [.ref 43, .int x1, .int 0, .int (h25.I c1 0)] (h25.sI (c1 + 1) ((h25.I c1 0).toNatClampNeg) (h25.I 49 r4.toNatClampNeg)) (q_rv (fun h29 => Q (.inl none) (h29.sI c1 0 ((h29.I c1 0) + 1))) (fun E h => Q (.inr E) h))))))) (fun E h => Q (.inr E) h)))) ∧ (¬ (h23.I 49 r4.toNatClampNeg) < 1 → (vp_in r4 2001 ∧ (((h23.I 49 r4.toNatClampNeg) ≤ 256 → ((8 ≤ (h23.I c1 0) → (q_M0 G d yX12_told [.ref 43, .int x1, .int 0, .int (h23.I c1 0)] h23 (q_rv (fun h31 => Q (.inl none) (h31.sI c1 0 ((h31.I c1 0) + 1))) (fun E h => Q (.inr E) h)))) ∧ (¬ 8 ≤ (h23.I c1 0) → (vp_in r4 2001 ∧ (vp_in (h23.I c1 0) 8 ∧ (q_M0 G d yX12_told [.ref 43, .int x1, .int 0, .int (h23.I c1 0)] (h23.sI (c1 + 1) ((h23.I c1 0).toNatClampNeg) (h23.I 49 r4.toNatClampNeg)) (q_rv (fun h34 => Q (.inl none) (h34.sI c1 0 ((h34.I c1 0) + 1))) (fun E h => Q (.inr E) h)))))))) ∧ (¬ (h23.I 49 r4.toNatClampNeg) ≤ 256 → (q_M0 G d yX12_wrong [.ref 43, .int 6, .int r4] h23 (q_rv (fun h35 => (8 ≤ (h35.I c1 0) → (q_M0 G d yX12_told [.ref 43, .int x1, .int 0, .int (h35.I c1 0)] h35 (q_rv (fun h36 => Q (.inl none) (h36.sI c1 0 ((h36.I c1 0) + 1))) (fun E h => Q (.inr E) h)))) ∧ (¬ 8 ≤ (h35.I c1 0) → (vp_in r4 2001 ∧ (vp_in (h35.I c1 0) 8 ∧ (q_M0 G d yX12_told [.ref 43, .int x1, .int 0, .int (h35.I c1 0)] (h35.sI (c1 + 1) ((h35.I c1 0).toNatClampNeg) (h35.I 49 r4.toNatClampNeg)) (q_rv (fun h39 => Q (.inl none) (h39.sI c1 0 ((h39.I c1 0) + 1))) (fun E h => Q (.inr E) h))))))) (fun E h => Q (.inr E) h))))))))) (fun E h => Q (.inr E) h))))) (fun E h => Q (.inr E) h))) (fun E h => Q (.inr E) h))) (fun E h => Q (.inr E) h))) (fun E h => Q (.inr E) h)))) : q_M0 G (d + 1) yX12_array [.ref 43, .int x1] h Q := by
  refine q_of (M := m_X12_array) (by decide +kernel) rfl rfl cd_X12_array (by decide) (Nat.le_of_ble_eq_true rfl) ?_
  show q_N0 G m_X12_array (d + 1) Q 0 [.ref 43, .int x1, .null, .null] [] h
  refine q_aload_n (i := 0) dX12_array_0 rfl rfl ?_
  obtain ⟨c1, hrc1, hc1, hF⟩ := hF
  refine q_getR (k := c1) 13 22 fl_X12_50 (by decide) rfl rfl hrc1 dX12_array_1 ?_
  refine q_astore_n (i := 2) dX12_array_4 rfl (by decide) rfl ?_
  refine q_aload_n (i := 0) dX12_array_5 rfl rfl ?_
  refine q_bipush (v := 91) dX12_array_6 (by decide) ?_
  refine q_callVv (ci := 13) (o := 43) (As := [.int 91]) (st := []) cv_X12_209 ⟨_, _, rfl⟩ (by decide) rfl rfl (Nat.le_refl _) (Nat.le_of_ble_eq_true rfl) (by decide) dX12_array_8 rfl hF (fun h2 hF => ?_)
  refine q_aload_n (i := 0) dX12_array_11 rfl rfl ?_
  refine q_iconst (v := 3) dX12_array_12 (by decide) ?_
  refine q_callVi (ci := 13) (o := 43) (As := [.int 3]) (st := []) cv_X12_197 ⟨_, _, rfl⟩ (by decide) rfl rfl (Nat.le_refl _) (Nat.le_of_ble_eq_true rfl) (by decide) dX12_array_13 rfl hF (fun r4 h3 hF => ?_)
  refine q_istore_n (i := 3) dX12_array_16 rfl (by decide) rfl ?_
  refine q_aload_n (i := 0) dX12_array_17 rfl rfl ?_
  refine q_bipush (v := 93) dX12_array_18 (by decide) ?_
  refine q_callVv (ci := 13) (o := 43) (As := [.int 93]) (st := []) cv_X12_215 ⟨_, _, rfl⟩ (by decide) rfl rfl (Nat.le_refl _) (Nat.le_of_ble_eq_true rfl) (by decide) dX12_array_20 rfl hF (fun h5 hF => ?_)
  refine q_aload_n (i := 0) dX12_array_23 rfl rfl ?_
  refine q_bipush (v := 59) dX12_array_24 (by decide) ?_
  refine q_callVv (ci := 13) (o := 43) (As := [.int 59]) (st := []) cv_X12_180 ⟨_, _, rfl⟩ (by decide) rfl rfl (Nat.le_refl _) (Nat.le_of_ble_eq_true rfl) (by decide) dX12_array_26 rfl hF (fun h6 hF => ?_)
  refine q_aload_n (i := 2) dX12_array_29 rfl rfl ?_
  refine q_getIv (v := h6.I c1 0) 12 0 fl_X12_225 (q_prg_n hc1 0) (q_prg_K hc1) rfl (rfl) dX12_array_30 ?_
  refine q_bipush (v := 8) dX12_array_33 (by decide) ?_
  refine q_icmp_lt (tgt := 45) dX12_array_35 (by decide) (fun hb => ?_) (fun hb => ?_)
  · have hF := hF.1 hb
    refine q_aload_n (i := 0) dX12_array_45 rfl rfl ?_
    refine q_getP 13 12 49 fl_X12_30 (by decide) rfl rfl rfl dX12_array_46 ?_
    refine q_iload_n (i := 3) dX12_array_49 rfl rfl ?_
    obtain ⟨hi7, hF⟩ := hF
    refine q_ialoadv (v := h6.I 49 r4.toNatClampNeg) (n := 2001) (by decide) rfl hi7 (rfl) dX12_array_50 ?_
    refine q_iconst (v := 1) dX12_array_51 (by decide) ?_
    refine q_icmp_lt (tgt := 67) dX12_array_52 (by decide) (fun hb => ?_) (fun hb => ?_)
    · have hF := hF.1 hb
      refine q_aload_n (i := 0) dX12_array_67 rfl rfl ?_
      refine q_bipush (v := 6) dX12_array_68 (by decide) ?_
      refine q_iload_n (i := 3) dX12_array_70 rfl rfl ?_
      refine q_callVv (ci := 13) (o := 43) (As := [.int 6, .int r4]) (st := []) cv_X12_193 ⟨_, _, rfl⟩ (by decide) rfl rfl (Nat.le_refl _) (Nat.le_of_ble_eq_true rfl) (by decide) dX12_array_71 rfl hF (fun h8 hF => ?_)
      refine q_aload_n (i := 2) dX12_array_74 rfl rfl ?_
      refine q_getIv (v := h8.I c1 0) 12 0 fl_X12_225 (q_prg_n hc1 0) (q_prg_K hc1) rfl (rfl) dX12_array_75 ?_
      refine q_bipush (v := 8) dX12_array_78 (by decide) ?_
      refine q_icmp_ge (tgt := 98) dX12_array_80 (by decide) (fun hb => ?_) (fun hb => ?_)
      · have hF := hF.1 hb
        refine q_aload_n (i := 0) dX12_array_98 rfl rfl ?_
        refine q_iload_n (i := 1) dX12_array_99 rfl rfl ?_
        refine q_iconst (v := 0) dX12_array_100 (by decide) ?_
        refine q_aload_n (i := 2) dX12_array_101 rfl rfl ?_
        refine q_getIv (v := h8.I c1 0) 12 0 fl_X12_225 (q_prg_n hc1 0) (q_prg_K hc1) rfl (rfl) dX12_array_102 ?_
        refine q_callVv (ci := 13) (o := 43) (As := [.int x1, .int 0, .int (h8.I c1 0)]) (st := []) cv_X12_203 ⟨_, _, rfl⟩ (by decide) rfl rfl (Nat.le_refl _) (Nat.le_of_ble_eq_true rfl) (by decide) dX12_array_105 rfl hF (fun h9 hF => ?_)
        refine q_aload_n (i := 2) dX12_array_108 rfl rfl ?_
        refine q_dup dX12_array_109 rfl ?_
        refine q_getIv (v := h9.I c1 0) 12 0 fl_X12_225 (q_prg_n hc1 0) (q_prg_K hc1) rfl (rfl) dX12_array_110 ?_
        refine q_iconst (v := 1) dX12_array_113 (by decide) ?_
        refine q_iadd dX12_array_114 ?_
        refine q_putI 12 0 fp_X12_225 (Or.inr ⟨_, _, _, rfl, rfl⟩) (q_prg_n hc1 0) (q_prg_K hc1) rfl dX12_array_115 ?_
        exact q_vret rfl (by decide) (by decide) dX12_array_118 hF
      · have hF := hF.2 hb
        refine q_aload_n (i := 2) dX12_array_83 rfl rfl ?_
        refine q_getP 12 8 (c1 + 1) fl_X12_228 (q_prg_n hc1 0) (q_prg_K hc1) rfl (q_prg_P hc1 8) dX12_array_84 ?_
        refine q_aload_n (i := 2) dX12_array_87 rfl rfl ?_
        refine q_getIv (v := h8.I c1 0) 12 0 fl_X12_225 (q_prg_n hc1 0) (q_prg_K hc1) rfl (rfl) dX12_array_88 ?_
        refine q_aload_n (i := 0) dX12_array_91 rfl rfl ?_
        refine q_getP 13 12 49 fl_X12_30 (by decide) rfl rfl rfl dX12_array_92 ?_
        refine q_iload_n (i := 3) dX12_array_95 rfl rfl ?_
        obtain ⟨hi10, hF⟩ := hF
        refine q_ialoadv (v := h8.I 49 r4.toNatClampNeg) (n := 2001) (by decide) rfl hi10 (rfl) dX12_array_96 ?_
        obtain ⟨hi11, hF⟩ := hF
        refine q_iastore (n := 8) (q_prg_n hc1 1) (q_prg_A hc1 8) hi11 dX12_array_97 ?_
        refine q_aload_n (i := 0) dX12_array_98 rfl rfl ?_
        refine q_iload_n (i := 1) dX12_array_99 rfl rfl ?_
        refine q_iconst (v := 0) dX12_array_100 (by decide) ?_
        refine q_aload_n (i := 2) dX12_array_101 rfl rfl ?_
        refine q_getIv (v := h8.I c1 0) 12 0 fl_X12_225 (q_prg_n hc1 0) (q_prg_K hc1) rfl ((q_I_neo (by omega)).trans (rfl)) dX12_array_102 ?_
        refine q_callVv (ci := 13) (o := 43) (As := [.int x1, .int 0, .int (h8.I c1 0)]) (st := []) cv_X12_203 ⟨_, _, rfl⟩ (by decide) rfl rfl (Nat.le_refl _) (Nat.le_of_ble_eq_true rfl) (by decide) dX12_array_105 rfl hF (fun h12 hF => ?_)
        refine q_aload_n (i := 2) dX12_array_108 rfl rfl ?_
        refine q_dup dX12_array_109 rfl ?_
        refine q_getIv (v := h12.I c1 0) 12 0 fl_X12_225 (q_prg_n hc1 0) (q_prg_K hc1) rfl (rfl) dX12_array_110 ?_
        refine q_iconst (v := 1) dX12_array_113 (by decide) ?_
        refine q_iadd dX12_array_114 ?_
        refine q_putI 12 0 fp_X12_225 (Or.inr ⟨_, _, _, rfl, rfl⟩) (q_prg_n hc1 0) (q_prg_K hc1) rfl dX12_array_115 ?_
        exact q_vret rfl (by decide) (by decide) dX12_array_118 hF
    · have hF := hF.2 hb
      refine q_aload_n (i := 0) dX12_array_55 rfl rfl ?_
      refine q_getP 13 12 49 fl_X12_30 (by decide) rfl rfl rfl dX12_array_56 ?_
      refine q_iload_n (i := 3) dX12_array_59 rfl rfl ?_
      obtain ⟨hi13, hF⟩ := hF
      refine q_ialoadv (v := h6.I 49 r4.toNatClampNeg) (n := 2001) (by decide) rfl hi13 (rfl) dX12_array_60 ?_
      refine q_sipush (v := 256) dX12_array_61 (by decide) ?_
      refine q_icmp_le (tgt := 74) dX12_array_64 (by decide) (fun hb => ?_) (fun hb => ?_)
      · have hF := hF.1 hb
        refine q_aload_n (i := 2) dX12_array_74 rfl rfl ?_
        refine q_getIv (v := h6.I c1 0) 12 0 fl_X12_225 (q_prg_n hc1 0) (q_prg_K hc1) rfl (rfl) dX12_array_75 ?_
        refine q_bipush (v := 8) dX12_array_78 (by decide) ?_
        refine q_icmp_ge (tgt := 98) dX12_array_80 (by decide) (fun hb => ?_) (fun hb => ?_)
        · have hF := hF.1 hb
          refine q_aload_n (i := 0) dX12_array_98 rfl rfl ?_
          refine q_iload_n (i := 1) dX12_array_99 rfl rfl ?_
          refine q_iconst (v := 0) dX12_array_100 (by decide) ?_
          refine q_aload_n (i := 2) dX12_array_101 rfl rfl ?_
          refine q_getIv (v := h6.I c1 0) 12 0 fl_X12_225 (q_prg_n hc1 0) (q_prg_K hc1) rfl (rfl) dX12_array_102 ?_
          refine q_callVv (ci := 13) (o := 43) (As := [.int x1, .int 0, .int (h6.I c1 0)]) (st := []) cv_X12_203 ⟨_, _, rfl⟩ (by decide) rfl rfl (Nat.le_refl _) (Nat.le_of_ble_eq_true rfl) (by decide) dX12_array_105 rfl hF (fun h14 hF => ?_)
          refine q_aload_n (i := 2) dX12_array_108 rfl rfl ?_
          refine q_dup dX12_array_109 rfl ?_
          refine q_getIv (v := h14.I c1 0) 12 0 fl_X12_225 (q_prg_n hc1 0) (q_prg_K hc1) rfl (rfl) dX12_array_110 ?_
          refine q_iconst (v := 1) dX12_array_113 (by decide) ?_
          refine q_iadd dX12_array_114 ?_
          refine q_putI 12 0 fp_X12_225 (Or.inr ⟨_, _, _, rfl, rfl⟩) (q_prg_n hc1 0) (q_prg_K hc1) rfl dX12_array_115 ?_
          exact q_vret rfl (by decide) (by decide) dX12_array_118 hF
        · have hF := hF.2 hb
          refine q_aload_n (i := 2) dX12_array_83 rfl rfl ?_
          refine q_getP 12 8 (c1 + 1) fl_X12_228 (q_prg_n hc1 0) (q_prg_K hc1) rfl (q_prg_P hc1 8) dX12_array_84 ?_
          refine q_aload_n (i := 2) dX12_array_87 rfl rfl ?_
          refine q_getIv (v := h6.I c1 0) 12 0 fl_X12_225 (q_prg_n hc1 0) (q_prg_K hc1) rfl (rfl) dX12_array_88 ?_
          refine q_aload_n (i := 0) dX12_array_91 rfl rfl ?_
          refine q_getP 13 12 49 fl_X12_30 (by decide) rfl rfl rfl dX12_array_92 ?_
          refine q_iload_n (i := 3) dX12_array_95 rfl rfl ?_
          obtain ⟨hi15, hF⟩ := hF
          refine q_ialoadv (v := h6.I 49 r4.toNatClampNeg) (n := 2001) (by decide) rfl hi15 (rfl) dX12_array_96 ?_
          obtain ⟨hi16, hF⟩ := hF
          refine q_iastore (n := 8) (q_prg_n hc1 1) (q_prg_A hc1 8) hi16 dX12_array_97 ?_
          refine q_aload_n (i := 0) dX12_array_98 rfl rfl ?_
          refine q_iload_n (i := 1) dX12_array_99 rfl rfl ?_
          refine q_iconst (v := 0) dX12_array_100 (by decide) ?_
          refine q_aload_n (i := 2) dX12_array_101 rfl rfl ?_
          refine q_getIv (v := h6.I c1 0) 12 0 fl_X12_225 (q_prg_n hc1 0) (q_prg_K hc1) rfl ((q_I_neo (by omega)).trans (rfl)) dX12_array_102 ?_
          refine q_callVv (ci := 13) (o := 43) (As := [.int x1, .int 0, .int (h6.I c1 0)]) (st := []) cv_X12_203 ⟨_, _, rfl⟩ (by decide) rfl rfl (Nat.le_refl _) (Nat.le_of_ble_eq_true rfl) (by decide) dX12_array_105 rfl hF (fun h17 hF => ?_)
          refine q_aload_n (i := 2) dX12_array_108 rfl rfl ?_
          refine q_dup dX12_array_109 rfl ?_
          refine q_getIv (v := h17.I c1 0) 12 0 fl_X12_225 (q_prg_n hc1 0) (q_prg_K hc1) rfl (rfl) dX12_array_110 ?_
          refine q_iconst (v := 1) dX12_array_113 (by decide) ?_
          refine q_iadd dX12_array_114 ?_
          refine q_putI 12 0 fp_X12_225 (Or.inr ⟨_, _, _, rfl, rfl⟩) (q_prg_n hc1 0) (q_prg_K hc1) rfl dX12_array_115 ?_
          exact q_vret rfl (by decide) (by decide) dX12_array_118 hF
      · have hF := hF.2 hb
        refine q_aload_n (i := 0) dX12_array_67 rfl rfl ?_
        refine q_bipush (v := 6) dX12_array_68 (by decide) ?_
        refine q_iload_n (i := 3) dX12_array_70 rfl rfl ?_
        refine q_callVv (ci := 13) (o := 43) (As := [.int 6, .int r4]) (st := []) cv_X12_193 ⟨_, _, rfl⟩ (by decide) rfl rfl (Nat.le_refl _) (Nat.le_of_ble_eq_true rfl) (by decide) dX12_array_71 rfl hF (fun h18 hF => ?_)
        refine q_aload_n (i := 2) dX12_array_74 rfl rfl ?_
        refine q_getIv (v := h18.I c1 0) 12 0 fl_X12_225 (q_prg_n hc1 0) (q_prg_K hc1) rfl (rfl) dX12_array_75 ?_
        refine q_bipush (v := 8) dX12_array_78 (by decide) ?_
        refine q_icmp_ge (tgt := 98) dX12_array_80 (by decide) (fun hb => ?_) (fun hb => ?_)
        · have hF := hF.1 hb
          refine q_aload_n (i := 0) dX12_array_98 rfl rfl ?_
          refine q_iload_n (i := 1) dX12_array_99 rfl rfl ?_
          refine q_iconst (v := 0) dX12_array_100 (by decide) ?_
          refine q_aload_n (i := 2) dX12_array_101 rfl rfl ?_
          refine q_getIv (v := h18.I c1 0) 12 0 fl_X12_225 (q_prg_n hc1 0) (q_prg_K hc1) rfl (rfl) dX12_array_102 ?_
          refine q_callVv (ci := 13) (o := 43) (As := [.int x1, .int 0, .int (h18.I c1 0)]) (st := []) cv_X12_203 ⟨_, _, rfl⟩ (by decide) rfl rfl (Nat.le_refl _) (Nat.le_of_ble_eq_true rfl) (by decide) dX12_array_105 rfl hF (fun h19 hF => ?_)
          refine q_aload_n (i := 2) dX12_array_108 rfl rfl ?_
          refine q_dup dX12_array_109 rfl ?_
          refine q_getIv (v := h19.I c1 0) 12 0 fl_X12_225 (q_prg_n hc1 0) (q_prg_K hc1) rfl (rfl) dX12_array_110 ?_
          refine q_iconst (v := 1) dX12_array_113 (by decide) ?_
          refine q_iadd dX12_array_114 ?_
          refine q_putI 12 0 fp_X12_225 (Or.inr ⟨_, _, _, rfl, rfl⟩) (q_prg_n hc1 0) (q_prg_K hc1) rfl dX12_array_115 ?_
          exact q_vret rfl (by decide) (by decide) dX12_array_118 hF
        · have hF := hF.2 hb
          refine q_aload_n (i := 2) dX12_array_83 rfl rfl ?_
          refine q_getP 12 8 (c1 + 1) fl_X12_228 (q_prg_n hc1 0) (q_prg_K hc1) rfl (q_prg_P hc1 8) dX12_array_84 ?_
          refine q_aload_n (i := 2) dX12_array_87 rfl rfl ?_
          refine q_getIv (v := h18.I c1 0) 12 0 fl_X12_225 (q_prg_n hc1 0) (q_prg_K hc1) rfl (rfl) dX12_array_88 ?_
          refine q_aload_n (i := 0) dX12_array_91 rfl rfl ?_
          refine q_getP 13 12 49 fl_X12_30 (by decide) rfl rfl rfl dX12_array_92 ?_
          refine q_iload_n (i := 3) dX12_array_95 rfl rfl ?_
          obtain ⟨hi20, hF⟩ := hF
          refine q_ialoadv (v := h18.I 49 r4.toNatClampNeg) (n := 2001) (by decide) rfl hi20 (rfl) dX12_array_96 ?_
          obtain ⟨hi21, hF⟩ := hF
          refine q_iastore (n := 8) (q_prg_n hc1 1) (q_prg_A hc1 8) hi21 dX12_array_97 ?_
          refine q_aload_n (i := 0) dX12_array_98 rfl rfl ?_
          refine q_iload_n (i := 1) dX12_array_99 rfl rfl ?_
          refine q_iconst (v := 0) dX12_array_100 (by decide) ?_
          refine q_aload_n (i := 2) dX12_array_101 rfl rfl ?_
          refine q_getIv (v := h18.I c1 0) 12 0 fl_X12_225 (q_prg_n hc1 0) (q_prg_K hc1) rfl ((q_I_neo (by omega)).trans (rfl)) dX12_array_102 ?_
          refine q_callVv (ci := 13) (o := 43) (As := [.int x1, .int 0, .int (h18.I c1 0)]) (st := []) cv_X12_203 ⟨_, _, rfl⟩ (by decide) rfl rfl (Nat.le_refl _) (Nat.le_of_ble_eq_true rfl) (by decide) dX12_array_105 rfl hF (fun h22 hF => ?_)
          refine q_aload_n (i := 2) dX12_array_108 rfl rfl ?_
          refine q_dup dX12_array_109 rfl ?_
          refine q_getIv (v := h22.I c1 0) 12 0 fl_X12_225 (q_prg_n hc1 0) (q_prg_K hc1) rfl (rfl) dX12_array_110 ?_
          refine q_iconst (v := 1) dX12_array_113 (by decide) ?_
          refine q_iadd dX12_array_114 ?_
          refine q_putI 12 0 fp_X12_225 (Or.inr ⟨_, _, _, rfl, rfl⟩) (q_prg_n hc1 0) (q_prg_K hc1) rfl dX12_array_115 ?_
          exact q_vret rfl (by decide) (by decide) dX12_array_118 hF
  · have hF := hF.2 hb
    refine q_aload_n (i := 0) dX12_array_38 rfl rfl ?_
    refine q_bipush (v := 6) dX12_array_39 (by decide) ?_
    refine q_iload_n (i := 1) dX12_array_41 rfl rfl ?_
    refine q_callVv (ci := 13) (o := 43) (As := [.int 6, .int x1]) (st := []) cv_X12_193 ⟨_, _, rfl⟩ (by decide) rfl rfl (Nat.le_refl _) (Nat.le_of_ble_eq_true rfl) (by decide) dX12_array_42 rfl hF (fun h23 hF => ?_)
    refine q_aload_n (i := 0) dX12_array_45 rfl rfl ?_
    refine q_getP 13 12 49 fl_X12_30 (by decide) rfl rfl rfl dX12_array_46 ?_
    refine q_iload_n (i := 3) dX12_array_49 rfl rfl ?_
    obtain ⟨hi24, hF⟩ := hF
    refine q_ialoadv (v := h23.I 49 r4.toNatClampNeg) (n := 2001) (by decide) rfl hi24 (rfl) dX12_array_50 ?_
    refine q_iconst (v := 1) dX12_array_51 (by decide) ?_
    refine q_icmp_lt (tgt := 67) dX12_array_52 (by decide) (fun hb => ?_) (fun hb => ?_)
    · have hF := hF.1 hb
      refine q_aload_n (i := 0) dX12_array_67 rfl rfl ?_
      refine q_bipush (v := 6) dX12_array_68 (by decide) ?_
      refine q_iload_n (i := 3) dX12_array_70 rfl rfl ?_
      refine q_callVv (ci := 13) (o := 43) (As := [.int 6, .int r4]) (st := []) cv_X12_193 ⟨_, _, rfl⟩ (by decide) rfl rfl (Nat.le_refl _) (Nat.le_of_ble_eq_true rfl) (by decide) dX12_array_71 rfl hF (fun h25 hF => ?_)
      refine q_aload_n (i := 2) dX12_array_74 rfl rfl ?_
      refine q_getIv (v := h25.I c1 0) 12 0 fl_X12_225 (q_prg_n hc1 0) (q_prg_K hc1) rfl (rfl) dX12_array_75 ?_
      refine q_bipush (v := 8) dX12_array_78 (by decide) ?_
      refine q_icmp_ge (tgt := 98) dX12_array_80 (by decide) (fun hb => ?_) (fun hb => ?_)
      · have hF := hF.1 hb
        refine q_aload_n (i := 0) dX12_array_98 rfl rfl ?_
        refine q_iload_n (i := 1) dX12_array_99 rfl rfl ?_
        refine q_iconst (v := 0) dX12_array_100 (by decide) ?_
        refine q_aload_n (i := 2) dX12_array_101 rfl rfl ?_
        refine q_getIv (v := h25.I c1 0) 12 0 fl_X12_225 (q_prg_n hc1 0) (q_prg_K hc1) rfl (rfl) dX12_array_102 ?_
        refine q_callVv (ci := 13) (o := 43) (As := [.int x1, .int 0, .int (h25.I c1 0)]) (st := []) cv_X12_203 ⟨_, _, rfl⟩ (by decide) rfl rfl (Nat.le_refl _) (Nat.le_of_ble_eq_true rfl) (by decide) dX12_array_105 rfl hF (fun h26 hF => ?_)
        refine q_aload_n (i := 2) dX12_array_108 rfl rfl ?_
        refine q_dup dX12_array_109 rfl ?_
        refine q_getIv (v := h26.I c1 0) 12 0 fl_X12_225 (q_prg_n hc1 0) (q_prg_K hc1) rfl (rfl) dX12_array_110 ?_
        refine q_iconst (v := 1) dX12_array_113 (by decide) ?_
        refine q_iadd dX12_array_114 ?_
        refine q_putI 12 0 fp_X12_225 (Or.inr ⟨_, _, _, rfl, rfl⟩) (q_prg_n hc1 0) (q_prg_K hc1) rfl dX12_array_115 ?_
        exact q_vret rfl (by decide) (by decide) dX12_array_118 hF
      · have hF := hF.2 hb
        refine q_aload_n (i := 2) dX12_array_83 rfl rfl ?_
        refine q_getP 12 8 (c1 + 1) fl_X12_228 (q_prg_n hc1 0) (q_prg_K hc1) rfl (q_prg_P hc1 8) dX12_array_84 ?_
        refine q_aload_n (i := 2) dX12_array_87 rfl rfl ?_
        refine q_getIv (v := h25.I c1 0) 12 0 fl_X12_225 (q_prg_n hc1 0) (q_prg_K hc1) rfl (rfl) dX12_array_88 ?_
        refine q_aload_n (i := 0) dX12_array_91 rfl rfl ?_
        refine q_getP 13 12 49 fl_X12_30 (by decide) rfl rfl rfl dX12_array_92 ?_
        refine q_iload_n (i := 3) dX12_array_95 rfl rfl ?_
        obtain ⟨hi27, hF⟩ := hF
        refine q_ialoadv (v := h25.I 49 r4.toNatClampNeg) (n := 2001) (by decide) rfl hi27 (rfl) dX12_array_96 ?_
        obtain ⟨hi28, hF⟩ := hF
        refine q_iastore (n := 8) (q_prg_n hc1 1) (q_prg_A hc1 8) hi28 dX12_array_97 ?_
        refine q_aload_n (i := 0) dX12_array_98 rfl rfl ?_
        refine q_iload_n (i := 1) dX12_array_99 rfl rfl ?_
        refine q_iconst (v := 0) dX12_array_100 (by decide) ?_
        refine q_aload_n (i := 2) dX12_array_101 rfl rfl ?_
        refine q_getIv (v := h25.I c1 0) 12 0 fl_X12_225 (q_prg_n hc1 0) (q_prg_K hc1) rfl ((q_I_neo (by omega)).trans (rfl)) dX12_array_102 ?_
        refine q_callVv (ci := 13) (o := 43) (As := [.int x1, .int 0, .int (h25.I c1 0)]) (st := []) cv_X12_203 ⟨_, _, rfl⟩ (by decide) rfl rfl (Nat.le_refl _) (Nat.le_of_ble_eq_true rfl) (by decide) dX12_array_105 rfl hF (fun h29 hF => ?_)
        refine q_aload_n (i := 2) dX12_array_108 rfl rfl ?_
        refine q_dup dX12_array_109 rfl ?_
        refine q_getIv (v := h29.I c1 0) 12 0 fl_X12_225 (q_prg_n hc1 0) (q_prg_K hc1) rfl (rfl) dX12_array_110 ?_
        refine q_iconst (v := 1) dX12_array_113 (by decide) ?_
        refine q_iadd dX12_array_114 ?_
        refine q_putI 12 0 fp_X12_225 (Or.inr ⟨_, _, _, rfl, rfl⟩) (q_prg_n hc1 0) (q_prg_K hc1) rfl dX12_array_115 ?_
        exact q_vret rfl (by decide) (by decide) dX12_array_118 hF
    · have hF := hF.2 hb
      refine q_aload_n (i := 0) dX12_array_55 rfl rfl ?_
      refine q_getP 13 12 49 fl_X12_30 (by decide) rfl rfl rfl dX12_array_56 ?_
      refine q_iload_n (i := 3) dX12_array_59 rfl rfl ?_
      obtain ⟨hi30, hF⟩ := hF
      refine q_ialoadv (v := h23.I 49 r4.toNatClampNeg) (n := 2001) (by decide) rfl hi30 (rfl) dX12_array_60 ?_
      refine q_sipush (v := 256) dX12_array_61 (by decide) ?_
      refine q_icmp_le (tgt := 74) dX12_array_64 (by decide) (fun hb => ?_) (fun hb => ?_)
      · have hF := hF.1 hb
        refine q_aload_n (i := 2) dX12_array_74 rfl rfl ?_
        refine q_getIv (v := h23.I c1 0) 12 0 fl_X12_225 (q_prg_n hc1 0) (q_prg_K hc1) rfl (rfl) dX12_array_75 ?_
        refine q_bipush (v := 8) dX12_array_78 (by decide) ?_
        refine q_icmp_ge (tgt := 98) dX12_array_80 (by decide) (fun hb => ?_) (fun hb => ?_)
        · have hF := hF.1 hb
          refine q_aload_n (i := 0) dX12_array_98 rfl rfl ?_
          refine q_iload_n (i := 1) dX12_array_99 rfl rfl ?_
          refine q_iconst (v := 0) dX12_array_100 (by decide) ?_
          refine q_aload_n (i := 2) dX12_array_101 rfl rfl ?_
          refine q_getIv (v := h23.I c1 0) 12 0 fl_X12_225 (q_prg_n hc1 0) (q_prg_K hc1) rfl (rfl) dX12_array_102 ?_
          refine q_callVv (ci := 13) (o := 43) (As := [.int x1, .int 0, .int (h23.I c1 0)]) (st := []) cv_X12_203 ⟨_, _, rfl⟩ (by decide) rfl rfl (Nat.le_refl _) (Nat.le_of_ble_eq_true rfl) (by decide) dX12_array_105 rfl hF (fun h31 hF => ?_)
          refine q_aload_n (i := 2) dX12_array_108 rfl rfl ?_
          refine q_dup dX12_array_109 rfl ?_
          refine q_getIv (v := h31.I c1 0) 12 0 fl_X12_225 (q_prg_n hc1 0) (q_prg_K hc1) rfl (rfl) dX12_array_110 ?_
          refine q_iconst (v := 1) dX12_array_113 (by decide) ?_
          refine q_iadd dX12_array_114 ?_
          refine q_putI 12 0 fp_X12_225 (Or.inr ⟨_, _, _, rfl, rfl⟩) (q_prg_n hc1 0) (q_prg_K hc1) rfl dX12_array_115 ?_
          exact q_vret rfl (by decide) (by decide) dX12_array_118 hF
        · have hF := hF.2 hb
          refine q_aload_n (i := 2) dX12_array_83 rfl rfl ?_
          refine q_getP 12 8 (c1 + 1) fl_X12_228 (q_prg_n hc1 0) (q_prg_K hc1) rfl (q_prg_P hc1 8) dX12_array_84 ?_
          refine q_aload_n (i := 2) dX12_array_87 rfl rfl ?_
          refine q_getIv (v := h23.I c1 0) 12 0 fl_X12_225 (q_prg_n hc1 0) (q_prg_K hc1) rfl (rfl) dX12_array_88 ?_
          refine q_aload_n (i := 0) dX12_array_91 rfl rfl ?_
          refine q_getP 13 12 49 fl_X12_30 (by decide) rfl rfl rfl dX12_array_92 ?_
          refine q_iload_n (i := 3) dX12_array_95 rfl rfl ?_
          obtain ⟨hi32, hF⟩ := hF
          refine q_ialoadv (v := h23.I 49 r4.toNatClampNeg) (n := 2001) (by decide) rfl hi32 (rfl) dX12_array_96 ?_
          obtain ⟨hi33, hF⟩ := hF
          refine q_iastore (n := 8) (q_prg_n hc1 1) (q_prg_A hc1 8) hi33 dX12_array_97 ?_
          refine q_aload_n (i := 0) dX12_array_98 rfl rfl ?_
          refine q_iload_n (i := 1) dX12_array_99 rfl rfl ?_
          refine q_iconst (v := 0) dX12_array_100 (by decide) ?_
          refine q_aload_n (i := 2) dX12_array_101 rfl rfl ?_
          refine q_getIv (v := h23.I c1 0) 12 0 fl_X12_225 (q_prg_n hc1 0) (q_prg_K hc1) rfl ((q_I_neo (by omega)).trans (rfl)) dX12_array_102 ?_
          refine q_callVv (ci := 13) (o := 43) (As := [.int x1, .int 0, .int (h23.I c1 0)]) (st := []) cv_X12_203 ⟨_, _, rfl⟩ (by decide) rfl rfl (Nat.le_refl _) (Nat.le_of_ble_eq_true rfl) (by decide) dX12_array_105 rfl hF (fun h34 hF => ?_)
          refine q_aload_n (i := 2) dX12_array_108 rfl rfl ?_
          refine q_dup dX12_array_109 rfl ?_
          refine q_getIv (v := h34.I c1 0) 12 0 fl_X12_225 (q_prg_n hc1 0) (q_prg_K hc1) rfl (rfl) dX12_array_110 ?_
          refine q_iconst (v := 1) dX12_array_113 (by decide) ?_
          refine q_iadd dX12_array_114 ?_
          refine q_putI 12 0 fp_X12_225 (Or.inr ⟨_, _, _, rfl, rfl⟩) (q_prg_n hc1 0) (q_prg_K hc1) rfl dX12_array_115 ?_
          exact q_vret rfl (by decide) (by decide) dX12_array_118 hF
      · have hF := hF.2 hb
        refine q_aload_n (i := 0) dX12_array_67 rfl rfl ?_
        refine q_bipush (v := 6) dX12_array_68 (by decide) ?_
        refine q_iload_n (i := 3) dX12_array_70 rfl rfl ?_
        refine q_callVv (ci := 13) (o := 43) (As := [.int 6, .int r4]) (st := []) cv_X12_193 ⟨_, _, rfl⟩ (by decide) rfl rfl (Nat.le_refl _) (Nat.le_of_ble_eq_true rfl) (by decide) dX12_array_71 rfl hF (fun h35 hF => ?_)
        refine q_aload_n (i := 2) dX12_array_74 rfl rfl ?_
        refine q_getIv (v := h35.I c1 0) 12 0 fl_X12_225 (q_prg_n hc1 0) (q_prg_K hc1) rfl (rfl) dX12_array_75 ?_
        refine q_bipush (v := 8) dX12_array_78 (by decide) ?_
        refine q_icmp_ge (tgt := 98) dX12_array_80 (by decide) (fun hb => ?_) (fun hb => ?_)
        · have hF := hF.1 hb
          refine q_aload_n (i := 0) dX12_array_98 rfl rfl ?_
          refine q_iload_n (i := 1) dX12_array_99 rfl rfl ?_
          refine q_iconst (v := 0) dX12_array_100 (by decide) ?_
          refine q_aload_n (i := 2) dX12_array_101 rfl rfl ?_
          refine q_getIv (v := h35.I c1 0) 12 0 fl_X12_225 (q_prg_n hc1 0) (q_prg_K hc1) rfl (rfl) dX12_array_102 ?_
          refine q_callVv (ci := 13) (o := 43) (As := [.int x1, .int 0, .int (h35.I c1 0)]) (st := []) cv_X12_203 ⟨_, _, rfl⟩ (by decide) rfl rfl (Nat.le_refl _) (Nat.le_of_ble_eq_true rfl) (by decide) dX12_array_105 rfl hF (fun h36 hF => ?_)
          refine q_aload_n (i := 2) dX12_array_108 rfl rfl ?_
          refine q_dup dX12_array_109 rfl ?_
          refine q_getIv (v := h36.I c1 0) 12 0 fl_X12_225 (q_prg_n hc1 0) (q_prg_K hc1) rfl (rfl) dX12_array_110 ?_
          refine q_iconst (v := 1) dX12_array_113 (by decide) ?_
          refine q_iadd dX12_array_114 ?_
          refine q_putI 12 0 fp_X12_225 (Or.inr ⟨_, _, _, rfl, rfl⟩) (q_prg_n hc1 0) (q_prg_K hc1) rfl dX12_array_115 ?_
          exact q_vret rfl (by decide) (by decide) dX12_array_118 hF
        · have hF := hF.2 hb
          refine q_aload_n (i := 2) dX12_array_83 rfl rfl ?_
          refine q_getP 12 8 (c1 + 1) fl_X12_228 (q_prg_n hc1 0) (q_prg_K hc1) rfl (q_prg_P hc1 8) dX12_array_84 ?_
          refine q_aload_n (i := 2) dX12_array_87 rfl rfl ?_
          refine q_getIv (v := h35.I c1 0) 12 0 fl_X12_225 (q_prg_n hc1 0) (q_prg_K hc1) rfl (rfl) dX12_array_88 ?_
          refine q_aload_n (i := 0) dX12_array_91 rfl rfl ?_
          refine q_getP 13 12 49 fl_X12_30 (by decide) rfl rfl rfl dX12_array_92 ?_
          refine q_iload_n (i := 3) dX12_array_95 rfl rfl ?_
          obtain ⟨hi37, hF⟩ := hF
          refine q_ialoadv (v := h35.I 49 r4.toNatClampNeg) (n := 2001) (by decide) rfl hi37 (rfl) dX12_array_96 ?_
          obtain ⟨hi38, hF⟩ := hF
          refine q_iastore (n := 8) (q_prg_n hc1 1) (q_prg_A hc1 8) hi38 dX12_array_97 ?_
          refine q_aload_n (i := 0) dX12_array_98 rfl rfl ?_
          refine q_iload_n (i := 1) dX12_array_99 rfl rfl ?_
          refine q_iconst (v := 0) dX12_array_100 (by decide) ?_
          refine q_aload_n (i := 2) dX12_array_101 rfl rfl ?_
          refine q_getIv (v := h35.I c1 0) 12 0 fl_X12_225 (q_prg_n hc1 0) (q_prg_K hc1) rfl ((q_I_neo (by omega)).trans (rfl)) dX12_array_102 ?_
          refine q_callVv (ci := 13) (o := 43) (As := [.int x1, .int 0, .int (h35.I c1 0)]) (st := []) cv_X12_203 ⟨_, _, rfl⟩ (by decide) rfl rfl (Nat.le_refl _) (Nat.le_of_ble_eq_true rfl) (by decide) dX12_array_105 rfl hF (fun h39 hF => ?_)
          refine q_aload_n (i := 2) dX12_array_108 rfl rfl ?_
          refine q_dup dX12_array_109 rfl ?_
          refine q_getIv (v := h39.I c1 0) 12 0 fl_X12_225 (q_prg_n hc1 0) (q_prg_K hc1) rfl (rfl) dX12_array_110 ?_
          refine q_iconst (v := 1) dX12_array_113 (by decide) ?_
          refine q_iadd dX12_array_114 ?_
          refine q_putI 12 0 fp_X12_225 (Or.inr ⟨_, _, _, rfl, rfl⟩) (q_prg_n hc1 0) (q_prg_K hc1) rfl dX12_array_115 ?_
          exact q_vret rfl (by decide) (by decide) dX12_array_118 hF
def m_X12_parameter : qm := (RX12, cX12_parameter, 3, none, [], false)
set_option maxRecDepth 100000 in
set_option maxHeartbeats 4000000 in
theorem x_X12_parameter (G : qG) (d : Nat)  (h : qh) (Q : qr → qh → Prop)  (hF : ∃ c1, h.R 43 22 = some c1 ∧ q_prg c1 ∧ (q_M0 G d yX12_wantsKind [.ref 43, .int 2] (h.sI 43 14 ((h.I 43 14) + 1)) (q_ri (fun r3 h2 => q_M0 G d yX12_asksNew [.ref 43, .int r3] h2 (q_rv (fun h4 => ((h4.I c1 1) < 4 → (q_M0 G d yX12_variableTold [.ref 43, .int r3] (h4.sI c1 1 ((h4.I c1 1) + 1)) (q_rv (fun h5 => Q (.inl none) h5) (fun E h => Q (.inr E) h)))) ∧ (¬ (h4.I c1 1) < 4 → (q_M0 G d yX12_wrong [.ref 43, .int 6, .int r3] h4 (q_rv (fun h6 => q_M0 G d yX12_variableTold [.ref 43, .int r3] (h6.sI c1 1 ((h6.I c1 1) + 1)) (q_rv (fun h7 => Q (.inl none) h7) (fun E h => Q (.inr E) h))) (fun E h => Q (.inr E) h))))) (fun E h => Q (.inr E) h))) (fun E h => Q (.inr E) h)))) : q_M0 G (d + 1) yX12_parameter [.ref 43] h Q := by
  refine q_of (M := m_X12_parameter) (by decide +kernel) rfl rfl cd_X12_parameter (by decide) (Nat.le_of_ble_eq_true rfl) ?_
  show q_N0 G m_X12_parameter (d + 1) Q 0 [.ref 43, .null, .null] [] h
  refine q_aload_n (i := 0) dX12_parameter_0 rfl rfl ?_
  obtain ⟨c1, hrc1, hc1, hF⟩ := hF
  refine q_getR (k := c1) 13 22 fl_X12_50 (by decide) rfl rfl hrc1 dX12_parameter_1 ?_
  refine q_astore_n (i := 1) dX12_parameter_4 rfl (by decide) rfl ?_
  refine q_aload_n (i := 0) dX12_parameter_5 rfl rfl ?_
  refine q_dup dX12_parameter_6 rfl ?_
  refine q_getIv (v := h.I 43 14) 13 14 fl_X12_156 (by decide) rfl rfl (rfl) dX12_parameter_7 ?_
  refine q_iconst (v := 1) dX12_parameter_10 (by decide) ?_
  refine q_iadd dX12_parameter_11 ?_
  refine q_putI 13 14 fp_X12_156 (Or.inr ⟨_, _, _, rfl, rfl⟩) (by decide) rfl rfl dX12_parameter_12 ?_
  refine q_aload_n (i := 0) dX12_parameter_15 rfl rfl ?_
  refine q_iconst (v := 2) dX12_parameter_16 (by decide) ?_
  refine q_callVi (ci := 13) (o := 43) (As := [.int 2]) (st := []) cv_X12_197 ⟨_, _, rfl⟩ (by decide) rfl rfl (Nat.le_refl _) (Nat.le_of_ble_eq_true rfl) (by decide) dX12_parameter_17 rfl hF (fun r3 h2 hF => ?_)
  refine q_istore_n (i := 2) dX12_parameter_20 rfl (by decide) rfl ?_
  refine q_aload_n (i := 0) dX12_parameter_21 rfl rfl ?_
  refine q_iload_n (i := 2) dX12_parameter_22 rfl rfl ?_
  refine q_callVv (ci := 13) (o := 43) (As := [.int r3]) (st := []) cv_X12_200 ⟨_, _, rfl⟩ (by decide) rfl rfl (Nat.le_refl _) (Nat.le_of_ble_eq_true rfl) (by decide) dX12_parameter_23 rfl hF (fun h4 hF => ?_)
  refine q_aload_n (i := 1) dX12_parameter_26 rfl rfl ?_
  refine q_getIv (v := h4.I c1 1) 12 1 fl_X12_231 (q_prg_n hc1 0) (q_prg_K hc1) rfl (rfl) dX12_parameter_27 ?_
  refine q_iconst (v := 4) dX12_parameter_30 (by decide) ?_
  refine q_icmp_lt (tgt := 41) dX12_parameter_31 (by decide) (fun hb => ?_) (fun hb => ?_)
  · have hF := hF.1 hb
    refine q_aload_n (i := 1) dX12_parameter_41 rfl rfl ?_
    refine q_dup dX12_parameter_42 rfl ?_
    refine q_getIv (v := h4.I c1 1) 12 1 fl_X12_231 (q_prg_n hc1 0) (q_prg_K hc1) rfl (rfl) dX12_parameter_43 ?_
    refine q_iconst (v := 1) dX12_parameter_46 (by decide) ?_
    refine q_iadd dX12_parameter_47 ?_
    refine q_putI 12 1 fp_X12_231 (Or.inr ⟨_, _, _, rfl, rfl⟩) (q_prg_n hc1 0) (q_prg_K hc1) rfl dX12_parameter_48 ?_
    refine q_aload_n (i := 0) dX12_parameter_51 rfl rfl ?_
    refine q_iload_n (i := 2) dX12_parameter_52 rfl rfl ?_
    refine q_callVv (ci := 13) (o := 43) (As := [.int r3]) (st := []) cv_X12_234 ⟨_, _, rfl⟩ (by decide) rfl rfl (Nat.le_refl _) (Nat.le_of_ble_eq_true rfl) (by decide) dX12_parameter_53 rfl hF (fun h5 hF => ?_)
    exact q_vret rfl (by decide) (by decide) dX12_parameter_56 hF
  · have hF := hF.2 hb
    refine q_aload_n (i := 0) dX12_parameter_34 rfl rfl ?_
    refine q_bipush (v := 6) dX12_parameter_35 (by decide) ?_
    refine q_iload_n (i := 2) dX12_parameter_37 rfl rfl ?_
    refine q_callVv (ci := 13) (o := 43) (As := [.int 6, .int r3]) (st := []) cv_X12_193 ⟨_, _, rfl⟩ (by decide) rfl rfl (Nat.le_refl _) (Nat.le_of_ble_eq_true rfl) (by decide) dX12_parameter_38 rfl hF (fun h6 hF => ?_)
    refine q_aload_n (i := 1) dX12_parameter_41 rfl rfl ?_
    refine q_dup dX12_parameter_42 rfl ?_
    refine q_getIv (v := h6.I c1 1) 12 1 fl_X12_231 (q_prg_n hc1 0) (q_prg_K hc1) rfl (rfl) dX12_parameter_43 ?_
    refine q_iconst (v := 1) dX12_parameter_46 (by decide) ?_
    refine q_iadd dX12_parameter_47 ?_
    refine q_putI 12 1 fp_X12_231 (Or.inr ⟨_, _, _, rfl, rfl⟩) (q_prg_n hc1 0) (q_prg_K hc1) rfl dX12_parameter_48 ?_
    refine q_aload_n (i := 0) dX12_parameter_51 rfl rfl ?_
    refine q_iload_n (i := 2) dX12_parameter_52 rfl rfl ?_
    refine q_callVv (ci := 13) (o := 43) (As := [.int r3]) (st := []) cv_X12_234 ⟨_, _, rfl⟩ (by decide) rfl rfl (Nat.le_refl _) (Nat.le_of_ble_eq_true rfl) (by decide) dX12_parameter_53 rfl hF (fun h7 hF => ?_)
    exact q_vret rfl (by decide) (by decide) dX12_parameter_56 hF
def m_X12_variableTold : qm := (RX12, cX12_variableTold, 3, none, [], false)
set_option maxRecDepth 100000 in
set_option maxHeartbeats 4000000 in
theorem x_X12_variableTold (G : qG) (d : Nat) (x1 : Int32) (h : qh) (Q : qr → qh → Prop)  (hF : ∃ c1, h.R 43 22 = some c1 ∧ q_prg c1 ∧ (((h.I c1 2) < 16 → (q_M0 G d yX12_told [.ref 43, .int x1, .int 2, .int (h.I c1 2)] h (q_rv (fun h2 => Q (.inl none) (h2.sI c1 2 ((h2.I c1 2) + 1))) (fun E h => Q (.inr E) h)))) ∧ (¬ (h.I c1 2) < 16 → (q_M0 G d yX12_wrong [.ref 43, .int 6, .int x1] h (q_rv (fun h3 => q_M0 G d yX12_told [.ref 43, .int x1, .int 2, .int (h3.I c1 2)] h3 (q_rv (fun h4 => Q (.inl none) (h4.sI c1 2 ((h4.I c1 2) + 1))) (fun E h => Q (.inr E) h))) (fun E h => Q (.inr E) h)))))) : q_M0 G (d + 1) yX12_variableTold [.ref 43, .int x1] h Q := by
  refine q_of (M := m_X12_variableTold) (by decide +kernel) rfl rfl cd_X12_variableTold (by decide) (Nat.le_of_ble_eq_true rfl) ?_
  show q_N0 G m_X12_variableTold (d + 1) Q 0 [.ref 43, .int x1, .null] [] h
  refine q_aload_n (i := 0) dX12_variableTold_0 rfl rfl ?_
  obtain ⟨c1, hrc1, hc1, hF⟩ := hF
  refine q_getR (k := c1) 13 22 fl_X12_50 (by decide) rfl rfl hrc1 dX12_variableTold_1 ?_
  refine q_astore_n (i := 2) dX12_variableTold_4 rfl (by decide) rfl ?_
  refine q_aload_n (i := 2) dX12_variableTold_5 rfl rfl ?_
  refine q_getIv (v := h.I c1 2) 12 2 fl_X12_237 (q_prg_n hc1 0) (q_prg_K hc1) rfl (rfl) dX12_variableTold_6 ?_
  refine q_bipush (v := 16) dX12_variableTold_9 (by decide) ?_
  refine q_icmp_lt (tgt := 21) dX12_variableTold_11 (by decide) (fun hb => ?_) (fun hb => ?_)
  · have hF := hF.1 hb
    refine q_aload_n (i := 0) dX12_variableTold_21 rfl rfl ?_
    refine q_iload_n (i := 1) dX12_variableTold_22 rfl rfl ?_
    refine q_iconst (v := 2) dX12_variableTold_23 (by decide) ?_
    refine q_aload_n (i := 2) dX12_variableTold_24 rfl rfl ?_
    refine q_getIv (v := h.I c1 2) 12 2 fl_X12_237 (q_prg_n hc1 0) (q_prg_K hc1) rfl (rfl) dX12_variableTold_25 ?_
    refine q_callVv (ci := 13) (o := 43) (As := [.int x1, .int 2, .int (h.I c1 2)]) (st := []) cv_X12_203 ⟨_, _, rfl⟩ (by decide) rfl rfl (Nat.le_refl _) (Nat.le_of_ble_eq_true rfl) (by decide) dX12_variableTold_28 rfl hF (fun h2 hF => ?_)
    refine q_aload_n (i := 2) dX12_variableTold_31 rfl rfl ?_
    refine q_dup dX12_variableTold_32 rfl ?_
    refine q_getIv (v := h2.I c1 2) 12 2 fl_X12_237 (q_prg_n hc1 0) (q_prg_K hc1) rfl (rfl) dX12_variableTold_33 ?_
    refine q_iconst (v := 1) dX12_variableTold_36 (by decide) ?_
    refine q_iadd dX12_variableTold_37 ?_
    refine q_putI 12 2 fp_X12_237 (Or.inr ⟨_, _, _, rfl, rfl⟩) (q_prg_n hc1 0) (q_prg_K hc1) rfl dX12_variableTold_38 ?_
    exact q_vret rfl (by decide) (by decide) dX12_variableTold_41 hF
  · have hF := hF.2 hb
    refine q_aload_n (i := 0) dX12_variableTold_14 rfl rfl ?_
    refine q_bipush (v := 6) dX12_variableTold_15 (by decide) ?_
    refine q_iload_n (i := 1) dX12_variableTold_17 rfl rfl ?_
    refine q_callVv (ci := 13) (o := 43) (As := [.int 6, .int x1]) (st := []) cv_X12_193 ⟨_, _, rfl⟩ (by decide) rfl rfl (Nat.le_refl _) (Nat.le_of_ble_eq_true rfl) (by decide) dX12_variableTold_18 rfl hF (fun h3 hF => ?_)
    refine q_aload_n (i := 0) dX12_variableTold_21 rfl rfl ?_
    refine q_iload_n (i := 1) dX12_variableTold_22 rfl rfl ?_
    refine q_iconst (v := 2) dX12_variableTold_23 (by decide) ?_
    refine q_aload_n (i := 2) dX12_variableTold_24 rfl rfl ?_
    refine q_getIv (v := h3.I c1 2) 12 2 fl_X12_237 (q_prg_n hc1 0) (q_prg_K hc1) rfl (rfl) dX12_variableTold_25 ?_
    refine q_callVv (ci := 13) (o := 43) (As := [.int x1, .int 2, .int (h3.I c1 2)]) (st := []) cv_X12_203 ⟨_, _, rfl⟩ (by decide) rfl rfl (Nat.le_refl _) (Nat.le_of_ble_eq_true rfl) (by decide) dX12_variableTold_28 rfl hF (fun h4 hF => ?_)
    refine q_aload_n (i := 2) dX12_variableTold_31 rfl rfl ?_
    refine q_dup dX12_variableTold_32 rfl ?_
    refine q_getIv (v := h4.I c1 2) 12 2 fl_X12_237 (q_prg_n hc1 0) (q_prg_K hc1) rfl (rfl) dX12_variableTold_33 ?_
    refine q_iconst (v := 1) dX12_variableTold_36 (by decide) ?_
    refine q_iadd dX12_variableTold_37 ?_
    refine q_putI 12 2 fp_X12_237 (Or.inr ⟨_, _, _, rfl, rfl⟩) (q_prg_n hc1 0) (q_prg_K hc1) rfl dX12_variableTold_38 ?_
    exact q_vret rfl (by decide) (by decide) dX12_variableTold_41 hF
def m_X12_block : qm := (RX12, cX12_block, 5, (some .int), [], false)
set_option maxRecDepth 100000 in
set_option maxHeartbeats 4000000 in
theorem x_X12_block (G : qG) (d : Nat)  (h : qh) (Q : qr → qh → Prop)  (hF : q_M0 G d yX12_opens [.ref 43, .int 123] h (q_rv (fun h1 => q_N0 G m_X12_block (d + 1) Q 15 [.ref 43, .int (h.I 43 27), .int (-1), .int (-1), .null] [] h1) (fun E h => Q (.inr E) h))) : q_M0 G (d + 1) yX12_block [.ref 43] h Q := by
  refine q_of (M := m_X12_block) (by decide +kernel) rfl rfl cd_X12_block (by decide) (Nat.le_of_ble_eq_true rfl) ?_
  show q_N0 G m_X12_block (d + 1) Q 0 [.ref 43, .null, .null, .null, .null] [] h
  refine q_aload_n (i := 0) dX12_block_0 rfl rfl ?_
  refine q_getIv (v := h.I 43 27) 13 27 fl_X12_183 (by decide) rfl rfl (rfl) dX12_block_1 ?_
  refine q_istore_n (i := 1) dX12_block_4 rfl (by decide) rfl ?_
  refine q_aload_n (i := 0) dX12_block_5 rfl rfl ?_
  refine q_bipush (v := 123) dX12_block_6 (by decide) ?_
  refine q_callVv (ci := 13) (o := 43) (As := [.int 123]) (st := []) cv_X12_209 ⟨_, _, rfl⟩ (by decide) rfl rfl (Nat.le_refl _) (Nat.le_of_ble_eq_true rfl) (by decide) dX12_block_8 rfl hF (fun h1 hF => ?_)
  refine q_iconst (v := (-1)) dX12_block_11 (by decide) ?_
  refine q_istore_n (i := 2) dX12_block_12 rfl (by decide) rfl ?_
  refine q_iconst (v := (-1)) dX12_block_13 (by decide) ?_
  refine q_istore_n (i := 3) dX12_block_14 rfl (by decide) rfl ?_
  exact hF
set_option maxRecDepth 100000 in
set_option maxHeartbeats 4000000 in
theorem x_X12_block_15 (G : qG) (d : Nat) (l1 : Int32) (l2 : Int32) (l3 : Int32) (h : qh) (Q : qr → qh → Prop)  (hF : q_M0 G d yX12_is [.ref 43, .int 125] h (q_ri (fun r3 h2 => (¬ r3 = 0 → (q_M0 G d yX12_closes [.ref 43, .int 125] h2 (q_rv (fun h4 => Q (.inl (some (.int l2))) (h4.sI 43 27 l1)) (fun E h => Q (.inr E) h)))) ∧ (r3 = 0 → (q_M0 G d yX12_statement [.ref 43] h2 (q_ri (fun r6 h5 => (¬ l2 = (-1) → (∃ c7, h5.R 43 22 = some c7 ∧ q_prg c7 ∧ (vp_in l3 2000 ∧ (q_N0 G m_X12_block (d + 1) Q 15 [.ref 43, .int l1, .int l2, .int r6, .null] [] (h5.sI (c7 + 8) l3.toNatClampNeg r6))))) ∧ (l2 = (-1) → (q_N0 G m_X12_block (d + 1) Q 15 [.ref 43, .int l1, .int r6, .int r6, .null] [] h5))) (fun E h => Q (.inr E) h))))) (fun E h => Q (.inr E) h))) : q_N0 G m_X12_block (d + 1) Q 15 [.ref 43, .int l1, .int l2, .int l3, .null] [] h := by
  refine q_aload_n (i := 0) dX12_block_15 rfl rfl ?_
  refine q_bipush (v := 125) dX12_block_16 (by decide) ?_
  refine q_callVi (ci := 13) (o := 43) (As := [.int 125]) (st := []) cv_X12_168 ⟨_, _, rfl⟩ (by decide) rfl rfl (Nat.le_refl _) (Nat.le_of_ble_eq_true rfl) (by decide) dX12_block_18 rfl hF (fun r3 h2 hF => ?_)
  refine q_if_ne (tgt := 58) dX12_block_21 (by decide) (fun hb => ?_) (fun hb => ?_)
  · have hF := hF.1 hb
    refine q_aload_n (i := 0) dX12_block_58 rfl rfl ?_
    refine q_bipush (v := 125) dX12_block_59 (by decide) ?_
    refine q_callVv (ci := 13) (o := 43) (As := [.int 125]) (st := []) cv_X12_215 ⟨_, _, rfl⟩ (by decide) rfl rfl (Nat.le_refl _) (Nat.le_of_ble_eq_true rfl) (by decide) dX12_block_61 rfl hF (fun h4 hF => ?_)
    refine q_aload_n (i := 0) dX12_block_64 rfl rfl ?_
    refine q_iload_n (i := 1) dX12_block_65 rfl rfl ?_
    refine q_putI 13 27 fp_X12_183 (Or.inr ⟨_, _, _, rfl, rfl⟩) (by decide) rfl rfl dX12_block_66 ?_
    refine q_iload_n (i := 2) dX12_block_69 rfl rfl ?_
    exact q_iret rfl (by decide) (by decide) dX12_block_70 hF
  · have hF := hF.2 hb
    refine q_aload_n (i := 0) dX12_block_24 rfl rfl ?_
    refine q_callVi (ci := 13) (o := 43) (As := []) (st := []) cv_X12_240 ⟨_, _, rfl⟩ (by decide) rfl rfl (Nat.le_refl _) (Nat.le_of_ble_eq_true rfl) (by decide) dX12_block_25 rfl hF (fun r6 h5 hF => ?_)
    refine q_istore dX12_block_28 (by decide) rfl ?_
    refine q_iload_n (i := 2) dX12_block_30 rfl rfl ?_
    refine q_iconst (v := (-1)) dX12_block_31 (by decide) ?_
    refine q_icmp_ne (tgt := 41) dX12_block_32 (by decide) (fun hb => ?_) (fun hb => ?_)
    · have hF := hF.1 hb
      refine q_aload_n (i := 0) dX12_block_41 rfl rfl ?_
      obtain ⟨c7, hrc7, hc7, hF⟩ := hF
      refine q_getR (k := c7) 13 22 fl_X12_50 (by decide) rfl rfl hrc7 dX12_block_42 ?_
      refine q_getP 12 15 (c7 + 8) fl_X12_243 (q_prg_n hc7 0) (q_prg_K hc7) rfl (q_prg_P hc7 15) dX12_block_45 ?_
      refine q_iload_n (i := 3) dX12_block_48 rfl rfl ?_
      refine q_iload dX12_block_49 rfl ?_
      obtain ⟨hi8, hF⟩ := hF
      refine q_iastore (n := 2000) (q_prg_n hc7 8) (q_prg_A hc7 15) hi8 dX12_block_51 ?_
      refine q_iload dX12_block_52 rfl ?_
      refine q_istore_n (i := 3) dX12_block_54 rfl (by decide) rfl ?_
      refine q_goto (tgt := 15) dX12_block_55 (by decide) ?_
      show q_N0 G m_X12_block (d + 1) Q 15 [.ref 43, .int l1, .int l2, .int r6, .int r6] [] (h5.sI (c7 + 8) l3.toNatClampNeg r6)
      exact q_fgt (l' := [.ref 43, .int l1, .int l2, .int r6, .null]) (And.intro (Or.inr rfl) ( And.intro (Or.inr rfl) ( And.intro (Or.inr rfl) ( And.intro (Or.inr rfl) ( And.intro (Or.inl rfl) (trivial)))))) hF
    · have hF := hF.2 hb
      refine q_iload dX12_block_35 rfl ?_
      refine q_istore_n (i := 2) dX12_block_37 rfl (by decide) rfl ?_
      refine q_goto (tgt := 52) dX12_block_38 (by decide) ?_
      refine q_iload dX12_block_52 rfl ?_
      refine q_istore_n (i := 3) dX12_block_54 rfl (by decide) rfl ?_
      refine q_goto (tgt := 15) dX12_block_55 (by decide) ?_
      show q_N0 G m_X12_block (d + 1) Q 15 [.ref 43, .int l1, .int r6, .int r6, .int r6] [] h5
      exact q_fgt (l' := [.ref 43, .int l1, .int r6, .int r6, .null]) (And.intro (Or.inr rfl) ( And.intro (Or.inr rfl) ( And.intro (Or.inr rfl) ( And.intro (Or.inr rfl) ( And.intro (Or.inl rfl) (trivial)))))) hF
def m_X12_newStatement : qm := (RX12, cX12_newStatement, 4, (some .int), [], false)
set_option maxRecDepth 100000 in
set_option maxHeartbeats 4000000 in
theorem x_X12_newStatement (G : qG) (d : Nat) (x1 : Int32) (h : qh) (Q : qr → qh → Prop)  (hF : ∃ c1, h.R 43 22 = some c1 ∧ q_prg c1 ∧ (vp_in (h.I c1 5) 2000 ∧ (vp_in (h.I c1 5) 2000 ∧ (vp_in (h.I c1 5) 2000 ∧ (vp_in (h.I c1 5) 2000 ∧ (vp_in (h.I c1 5) 2000 ∧ (Q (.inl (some (.int (h.I c1 5)))) ((((((h.sI c1 5 ((h.I c1 5) + 1)).sI (c1 + 2) ((h.I c1 5).toNatClampNeg) x1).sI (c1 + 3) ((h.I c1 5).toNatClampNeg) 0).sI (c1 + 6) ((h.I c1 5).toNatClampNeg) (-1)).sI (c1 + 7) ((h.I c1 5).toNatClampNeg) (-1)).sI (c1 + 8) ((h.I c1 5).toNatClampNeg) (-1))))))))) : q_M0 G (d + 1) yX12_newStatement [.ref 43, .int x1] h Q := by
  refine q_of (M := m_X12_newStatement) (by decide +kernel) rfl rfl cd_X12_newStatement (by decide) (Nat.le_of_ble_eq_true rfl) ?_
  show q_N0 G m_X12_newStatement (d + 1) Q 0 [.ref 43, .int x1, .null, .null] [] h
  refine q_aload_n (i := 0) dX12_newStatement_0 rfl rfl ?_
  obtain ⟨c1, hrc1, hc1, hF⟩ := hF
  refine q_getR (k := c1) 13 22 fl_X12_50 (by decide) rfl rfl hrc1 dX12_newStatement_1 ?_
  refine q_astore_n (i := 2) dX12_newStatement_4 rfl (by decide) rfl ?_
  refine q_aload_n (i := 2) dX12_newStatement_5 rfl rfl ?_
  refine q_getIv (v := h.I c1 5) 12 5 fl_X12_246 (q_prg_n hc1 0) (q_prg_K hc1) rfl (rfl) dX12_newStatement_6 ?_
  refine q_istore_n (i := 3) dX12_newStatement_9 rfl (by decide) rfl ?_
  refine q_aload_n (i := 2) dX12_newStatement_10 rfl rfl ?_
  refine q_dup dX12_newStatement_11 rfl ?_
  refine q_getIv (v := h.I c1 5) 12 5 fl_X12_246 (q_prg_n hc1 0) (q_prg_K hc1) rfl (rfl) dX12_newStatement_12 ?_
  refine q_iconst (v := 1) dX12_newStatement_15 (by decide) ?_
  refine q_iadd dX12_newStatement_16 ?_
  refine q_putI 12 5 fp_X12_246 (Or.inr ⟨_, _, _, rfl, rfl⟩) (q_prg_n hc1 0) (q_prg_K hc1) rfl dX12_newStatement_17 ?_
  refine q_aload_n (i := 2) dX12_newStatement_20 rfl rfl ?_
  refine q_getP 12 9 (c1 + 2) fl_X12_249 (q_prg_n hc1 0) (q_prg_K hc1) rfl (q_prg_P hc1 9) dX12_newStatement_21 ?_
  refine q_iload_n (i := 3) dX12_newStatement_24 rfl rfl ?_
  refine q_iload_n (i := 1) dX12_newStatement_25 rfl rfl ?_
  obtain ⟨hi2, hF⟩ := hF
  refine q_iastore (n := 2000) (q_prg_n hc1 2) (q_prg_A hc1 9) hi2 dX12_newStatement_26 ?_
  refine q_aload_n (i := 2) dX12_newStatement_27 rfl rfl ?_
  refine q_getP 12 10 (c1 + 3) fl_X12_252 (q_prg_n hc1 0) (q_prg_K hc1) rfl (q_prg_P hc1 10) dX12_newStatement_28 ?_
  refine q_iload_n (i := 3) dX12_newStatement_31 rfl rfl ?_
  refine q_iconst (v := 0) dX12_newStatement_32 (by decide) ?_
  obtain ⟨hi3, hF⟩ := hF
  refine q_iastore (n := 2000) (q_prg_n hc1 3) (q_prg_A hc1 10) hi3 dX12_newStatement_33 ?_
  refine q_aload_n (i := 2) dX12_newStatement_34 rfl rfl ?_
  refine q_getP 12 13 (c1 + 6) fl_X12_255 (q_prg_n hc1 0) (q_prg_K hc1) rfl (q_prg_P hc1 13) dX12_newStatement_35 ?_
  refine q_iload_n (i := 3) dX12_newStatement_38 rfl rfl ?_
  refine q_iconst (v := (-1)) dX12_newStatement_39 (by decide) ?_
  obtain ⟨hi4, hF⟩ := hF
  refine q_iastore (n := 2000) (q_prg_n hc1 6) (q_prg_A hc1 13) hi4 dX12_newStatement_40 ?_
  refine q_aload_n (i := 2) dX12_newStatement_41 rfl rfl ?_
  refine q_getP 12 14 (c1 + 7) fl_X12_258 (q_prg_n hc1 0) (q_prg_K hc1) rfl (q_prg_P hc1 14) dX12_newStatement_42 ?_
  refine q_iload_n (i := 3) dX12_newStatement_45 rfl rfl ?_
  refine q_iconst (v := (-1)) dX12_newStatement_46 (by decide) ?_
  obtain ⟨hi5, hF⟩ := hF
  refine q_iastore (n := 2000) (q_prg_n hc1 7) (q_prg_A hc1 14) hi5 dX12_newStatement_47 ?_
  refine q_aload_n (i := 2) dX12_newStatement_48 rfl rfl ?_
  refine q_getP 12 15 (c1 + 8) fl_X12_243 (q_prg_n hc1 0) (q_prg_K hc1) rfl (q_prg_P hc1 15) dX12_newStatement_49 ?_
  refine q_iload_n (i := 3) dX12_newStatement_52 rfl rfl ?_
  refine q_iconst (v := (-1)) dX12_newStatement_53 (by decide) ?_
  obtain ⟨hi6, hF⟩ := hF
  refine q_iastore (n := 2000) (q_prg_n hc1 8) (q_prg_A hc1 15) hi6 dX12_newStatement_54 ?_
  refine q_iload_n (i := 3) dX12_newStatement_55 rfl rfl ?_
  exact q_iret rfl (by decide) (by decide) dX12_newStatement_56 hF
def m_X12_within : qm := (RX12, cX12_within, 3, (some .int), [], false)
set_option maxRecDepth 100000 in
set_option maxHeartbeats 4000000 in
theorem x_X12_within (G : qG) (d : Nat)  (h : qh) (Q : qr → qh → Prop)  (hF : q_M0 G d yX12_statement [.ref 43] h (q_ri (fun r2 h1 => Q (.inl (some (.int r2))) (h1.sI 43 27 (h.I 43 27))) (fun E h => Q (.inr E) h))) : q_M0 G (d + 1) yX12_within [.ref 43] h Q := by
  refine q_of (M := m_X12_within) (by decide +kernel) rfl rfl cd_X12_within (by decide) (Nat.le_of_ble_eq_true rfl) ?_
  show q_N0 G m_X12_within (d + 1) Q 0 [.ref 43, .null, .null] [] h
  refine q_aload_n (i := 0) dX12_within_0 rfl rfl ?_
  refine q_getIv (v := h.I 43 27) 13 27 fl_X12_183 (by decide) rfl rfl (rfl) dX12_within_1 ?_
  refine q_istore_n (i := 1) dX12_within_4 rfl (by decide) rfl ?_
  refine q_aload_n (i := 0) dX12_within_5 rfl rfl ?_
  refine q_callVi (ci := 13) (o := 43) (As := []) (st := []) cv_X12_240 ⟨_, _, rfl⟩ (by decide) rfl rfl (Nat.le_refl _) (Nat.le_of_ble_eq_true rfl) (by decide) dX12_within_6 rfl hF (fun r2 h1 hF => ?_)
  refine q_istore_n (i := 2) dX12_within_9 rfl (by decide) rfl ?_
  refine q_aload_n (i := 0) dX12_within_10 rfl rfl ?_
  refine q_iload_n (i := 1) dX12_within_11 rfl rfl ?_
  refine q_putI 13 27 fp_X12_183 (Or.inr ⟨_, _, _, rfl, rfl⟩) (by decide) rfl rfl dX12_within_12 ?_
  refine q_iload_n (i := 2) dX12_within_15 rfl rfl ?_
  exact q_iret rfl (by decide) (by decide) dX12_within_16 hF
def m_X12_statement : qm := (RX12, cX12_statement, 5, (some .int), [], false)
set_option maxRecDepth 100000 in
set_option maxHeartbeats 4000000 in
theorem x_X12_statement (G : qG) (d : Nat)  (h : qh) (Q : qr → qh → Prop)  (hF : ∃ c1, h.R 43 22 = some c1 ∧ q_prg c1 ∧ (vp_in (h.I 43 14) 2001 ∧ (((h.I 47 ((h.I 43 14).toNatClampNeg)) = 2 → (q_M0 G d yX12_assigns [.ref 43] h (q_ri (fun r6 h5 => Q (.inl (some (.int r6))) h5) (fun E h => Q (.inr E) h)))) ∧ ((h.I 47 ((h.I 43 14).toNatClampNeg)) = 3 → (q_M0 G d yX12_is [.ref 43, .int 123] h (q_ri (fun r8 h7 => (¬ r8 = 0 → (q_M0 G d yX12_newStatement [.ref 43, .int 7] h7 (q_ri (fun r10 h9 => q_M0 G d yX12_block [.ref 43] h9 (q_ri (fun r12 h11 => vp_in r10 2000 ∧ (Q (.inl (some (.int r10))) (h11.sI (c1 + 6) r10.toNatClampNeg r12))) (fun E h => Q (.inr E) h))) (fun E h => Q (.inr E) h)))) ∧ (r8 = 0 → (q_M0 G d yX12_refuse [.ref 43, .int 1] h7 (q_rv (fun h14 => q_M0 G d yX12_newStatement [.ref 43, .int 7] h14 (q_ri (fun r16 h15 => q_M0 G d yX12_block [.ref 43] h15 (q_ri (fun r18 h17 => vp_in r16 2000 ∧ (Q (.inl (some (.int r16))) (h17.sI (c1 + 6) r16.toNatClampNeg r18))) (fun E h => Q (.inr E) h))) (fun E h => Q (.inr E) h))) (fun E h => Q (.inr E) h))))) (fun E h => Q (.inr E) h)))) ∧ ((h.I 47 ((h.I 43 14).toNatClampNeg)) = 4 → (q_M0 G d yX12_is [.ref 43, .int 123] h (q_ri (fun r21 h20 => (¬ r21 = 0 → (q_M0 G d yX12_newStatement [.ref 43, .int 7] h20 (q_ri (fun r23 h22 => q_M0 G d yX12_block [.ref 43] h22 (q_ri (fun r25 h24 => vp_in r23 2000 ∧ (Q (.inl (some (.int r23))) (h24.sI (c1 + 6) r23.toNatClampNeg r25))) (fun E h => Q (.inr E) h))) (fun E h => Q (.inr E) h)))) ∧ (r21 = 0 → (q_M0 G d yX12_refuse [.ref 43, .int 1] h20 (q_rv (fun h27 => q_M0 G d yX12_newStatement [.ref 43, .int 7] h27 (q_ri (fun r29 h28 => q_M0 G d yX12_block [.ref 43] h28 (q_ri (fun r31 h30 => vp_in r29 2000 ∧ (Q (.inl (some (.int r29))) (h30.sI (c1 + 6) r29.toNatClampNeg r31))) (fun E h => Q (.inr E) h))) (fun E h => Q (.inr E) h))) (fun E h => Q (.inr E) h))))) (fun E h => Q (.inr E) h)))) ∧ ((h.I 47 ((h.I 43 14).toNatClampNeg)) = 5 → (q_M0 G d yX12_wantsKind [.ref 43, .int 2] (h.sI 43 14 ((h.I 43 14) + 1)) (q_ri (fun r34 h33 => q_M0 G d yX12_asksNew [.ref 43, .int r34] h33 (q_rv (fun h35 => ((h35.I c1 2) < 16 → (q_M0 G d yX12_wants [.ref 43, .int 61] h35 (q_rv (fun h36 => q_M0 G d yX12_newStatement [.ref 43, .int 0] h36 (q_ri (fun r38 h37 => q_M0 G d yX12_expression [.ref 43] h37 (q_ri (fun r40 h39 => vp_in r38 2000 ∧ (q_M0 G d yX12_wants [.ref 43, .int 59] (h39.sI (c1 + 4) r38.toNatClampNeg r40) (q_rv (fun h42 => vp_in r38 2000 ∧ (q_M0 G d yX12_variableTold [.ref 43, .int r34] (h42.sI (c1 + 3) r38.toNatClampNeg (h42.I c1 2)) (q_rv (fun h44 => Q (.inl (some (.int r38))) h44) (fun E h => Q (.inr E) h)))) (fun E h => Q (.inr E) h)))) (fun E h => Q (.inr E) h))) (fun E h => Q (.inr E) h))) (fun E h => Q (.inr E) h)))) ∧ (¬ (h35.I c1 2) < 16 → (q_M0 G d yX12_wrong [.ref 43, .int 6, .int r34] h35 (q_rv (fun h45 => q_M0 G d yX12_wants [.ref 43, .int 61] h45 (q_rv (fun h46 => q_M0 G d yX12_newStatement [.ref 43, .int 0] h46 (q_ri (fun r48 h47 => q_M0 G d yX12_expression [.ref 43] h47 (q_ri (fun r50 h49 => vp_in r48 2000 ∧ (q_M0 G d yX12_wants [.ref 43, .int 59] (h49.sI (c1 + 4) r48.toNatClampNeg r50) (q_rv (fun h52 => vp_in r48 2000 ∧ (q_M0 G d yX12_variableTold [.ref 43, .int r34] (h52.sI (c1 + 3) r48.toNatClampNeg (h52.I c1 2)) (q_rv (fun h54 => Q (.inl (some (.int r48))) h54) (fun E h => Q (.inr E) h)))) (fun E h => Q (.inr E) h)))) (fun E h => Q (.inr E) h))) (fun E h => Q (.inr E) h))) (fun E h => Q (.inr E) h))) (fun E h => Q (.inr E) h))))) (fun E h => Q (.inr E) h))) (fun E h => Q (.inr E) h)))) ∧ ((h.I 47 ((h.I 43 14).toNatClampNeg)) = 6 → (q_M0 G d yX12_chooses [.ref 43] h (q_ri (fun r56 h55 => Q (.inl (some (.int r56))) h55) (fun E h => Q (.inr E) h)))) ∧ ((h.I 47 ((h.I 43 14).toNatClampNeg)) = 7 → (q_M0 G d yX12_is [.ref 43, .int 123] h (q_ri (fun r58 h57 => (¬ r58 = 0 → (q_M0 G d yX12_newStatement [.ref 43, .int 7] h57 (q_ri (fun r60 h59 => q_M0 G d yX12_block [.ref 43] h59 (q_ri (fun r62 h61 => vp_in r60 2000 ∧ (Q (.inl (some (.int r60))) (h61.sI (c1 + 6) r60.toNatClampNeg r62))) (fun E h => Q (.inr E) h))) (fun E h => Q (.inr E) h)))) ∧ (r58 = 0 → (q_M0 G d yX12_refuse [.ref 43, .int 1] h57 (q_rv (fun h64 => q_M0 G d yX12_newStatement [.ref 43, .int 7] h64 (q_ri (fun r66 h65 => q_M0 G d yX12_block [.ref 43] h65 (q_ri (fun r68 h67 => vp_in r66 2000 ∧ (Q (.inl (some (.int r66))) (h67.sI (c1 + 6) r66.toNatClampNeg r68))) (fun E h => Q (.inr E) h))) (fun E h => Q (.inr E) h))) (fun E h => Q (.inr E) h))))) (fun E h => Q (.inr E) h)))) ∧ ((h.I 47 ((h.I 43 14).toNatClampNeg)) = 8 → (q_M0 G d yX12_repeats [.ref 43] h (q_ri (fun r71 h70 => Q (.inl (some (.int r71))) h70) (fun E h => Q (.inr E) h)))) ∧ ((h.I 47 ((h.I 43 14).toNatClampNeg)) = 9 → (q_M0 G d yX12_wants [.ref 43, .int 59] (h.sI 43 14 ((h.I 43 14) + 1)) (q_rv (fun h72 => (¬ (h72.I 43 40) = 0 → (vp_in (h.I 43 14) 2001 ∧ (q_M0 G d yX12_newStatement [.ref 43, .int (if (h72.I 47 ((h.I 43 14).toNatClampNeg)) = 9 then (4 : Int32) else 5)] h72 (q_ri (fun r76 h75 => Q (.inl (some (.int r76))) h75) (fun E h => Q (.inr E) h))))) ∧ ((h72.I 43 40) = 0 → (q_M0 G d yX12_wrong [.ref 43, .int 5, .int (h.I 43 14)] h72 (q_rv (fun h77 => vp_in (h.I 43 14) 2001 ∧ (q_M0 G d yX12_newStatement [.ref 43, .int (if (h77.I 47 ((h.I 43 14).toNatClampNeg)) = 9 then (4 : Int32) else 5)] h77 (q_ri (fun r81 h80 => Q (.inl (some (.int r81))) h80) (fun E h => Q (.inr E) h)))) (fun E h => Q (.inr E) h))))) (fun E h => Q (.inr E) h)))) ∧ ((h.I 47 ((h.I 43 14).toNatClampNeg)) = 10 → (q_M0 G d yX12_wants [.ref 43, .int 59] (h.sI 43 14 ((h.I 43 14) + 1)) (q_rv (fun h82 => (¬ (h82.I 43 40) = 0 → (vp_in (h.I 43 14) 2001 ∧ (q_M0 G d yX12_newStatement [.ref 43, .int (if (h82.I 47 ((h.I 43 14).toNatClampNeg)) = 9 then (4 : Int32) else 5)] h82 (q_ri (fun r86 h85 => Q (.inl (some (.int r86))) h85) (fun E h => Q (.inr E) h))))) ∧ ((h82.I 43 40) = 0 → (q_M0 G d yX12_wrong [.ref 43, .int 5, .int (h.I 43 14)] h82 (q_rv (fun h87 => vp_in (h.I 43 14) 2001 ∧ (q_M0 G d yX12_newStatement [.ref 43, .int (if (h87.I 47 ((h.I 43 14).toNatClampNeg)) = 9 then (4 : Int32) else 5)] h87 (q_ri (fun r91 h90 => Q (.inl (some (.int r91))) h90) (fun E h => Q (.inr E) h)))) (fun E h => Q (.inr E) h))))) (fun E h => Q (.inr E) h)))) ∧ ((h.I 47 ((h.I 43 14).toNatClampNeg)) = 11 → (q_M0 G d yX12_newStatement [.ref 43, .int 6] (h.sI 43 14 ((h.I 43 14) + 1)) (q_ri (fun r93 h92 => q_M0 G d yX12_expression [.ref 43] h92 (q_ri (fun r95 h94 => vp_in r93 2000 ∧ (q_M0 G d yX12_wants [.ref 43, .int 59] (h94.sI (c1 + 4) r93.toNatClampNeg r95) (q_rv (fun h97 => Q (.inl (some (.int r93))) h97) (fun E h => Q (.inr E) h)))) (fun E h => Q (.inr E) h))) (fun E h => Q (.inr E) h)))) ∧ (¬ (h.I 47 ((h.I 43 14).toNatClampNeg)) = 2 ∧ ¬ (h.I 47 ((h.I 43 14).toNatClampNeg)) = 3 ∧ ¬ (h.I 47 ((h.I 43 14).toNatClampNeg)) = 4 ∧ ¬ (h.I 47 ((h.I 43 14).toNatClampNeg)) = 5 ∧ ¬ (h.I 47 ((h.I 43 14).toNatClampNeg)) = 6 ∧ ¬ (h.I 47 ((h.I 43 14).toNatClampNeg)) = 7 ∧ ¬ (h.I 47 ((h.I 43 14).toNatClampNeg)) = 8 ∧ ¬ (h.I 47 ((h.I 43 14).toNatClampNeg)) = 9 ∧ ¬ (h.I 47 ((h.I 43 14).toNatClampNeg)) = 10 ∧ ¬ (h.I 47 ((h.I 43 14).toNatClampNeg)) = 11 → (q_M0 G d yX12_is [.ref 43, .int 123] h (q_ri (fun r99 h98 => (¬ r99 = 0 → (q_M0 G d yX12_newStatement [.ref 43, .int 7] h98 (q_ri (fun r101 h100 => q_M0 G d yX12_block [.ref 43] h100 (q_ri (fun r103 h102 => vp_in r101 2000 ∧ (Q (.inl (some (.int r101))) (h102.sI (c1 + 6) r101.toNatClampNeg r103))) (fun E h => Q (.inr E) h))) (fun E h => Q (.inr E) h)))) ∧ (r99 = 0 → (q_M0 G d yX12_refuse [.ref 43, .int 1] h98 (q_rv (fun h105 => q_M0 G d yX12_newStatement [.ref 43, .int 7] h105 (q_ri (fun r107 h106 => q_M0 G d yX12_block [.ref 43] h106 (q_ri (fun r109 h108 => vp_in r107 2000 ∧ (Q (.inl (some (.int r107))) (h108.sI (c1 + 6) r107.toNatClampNeg r109))) (fun E h => Q (.inr E) h))) (fun E h => Q (.inr E) h))) (fun E h => Q (.inr E) h))))) (fun E h => Q (.inr E) h))))))) : q_M0 G (d + 1) yX12_statement [.ref 43] h Q := by
  refine q_of (M := m_X12_statement) (by decide +kernel) rfl rfl cd_X12_statement (by decide) (Nat.le_of_ble_eq_true rfl) ?_
  show q_N0 G m_X12_statement (d + 1) Q 0 [.ref 43, .null, .null, .null, .null] [] h
  refine q_aload_n (i := 0) dX12_statement_0 rfl rfl ?_
  obtain ⟨c1, hrc1, hc1, hF⟩ := hF
  refine q_getR (k := c1) 13 22 fl_X12_50 (by decide) rfl rfl hrc1 dX12_statement_1 ?_
  refine q_astore_n (i := 1) dX12_statement_4 rfl (by decide) rfl ?_
  refine q_aload_n (i := 0) dX12_statement_5 rfl rfl ?_
  refine q_getIv (v := h.I 43 14) 13 14 fl_X12_156 (by decide) rfl rfl (rfl) dX12_statement_6 ?_
  refine q_istore_n (i := 2) dX12_statement_9 rfl (by decide) rfl ?_
  refine q_aload_n (i := 0) dX12_statement_10 rfl rfl ?_
  refine q_getP 13 10 47 fl_X12_24 (by decide) rfl rfl rfl dX12_statement_11 ?_
  refine q_aload_n (i := 0) dX12_statement_14 rfl rfl ?_
  refine q_getIv (v := h.I 43 14) 13 14 fl_X12_156 (by decide) rfl rfl (rfl) dX12_statement_15 ?_
  obtain ⟨hi2, hF⟩ := hF
  refine q_ialoadv (v := h.I 47 ((h.I 43 14).toNatClampNeg)) (n := 2001) (by decide) rfl hi2 (rfl) dX12_statement_18 ?_
  refine q_by ((h.I 47 ((h.I 43 14).toNatClampNeg)) = 2) (fun hs3_0 => ?_) (fun hs3_0 => ?_)
  · have hF := hF.1 hs3_0
    refine q_tableIn (tgt := 158) dX12_statement_19 (by rw [hs3_0]; decide) (by rw [hs3_0]; decide) (by first | (rw [hs3_0]; done) | (rw [hs3_0]; rfl)) (by decide) ?_
    refine q_aload_n (i := 0) dX12_statement_158 rfl rfl ?_
    refine q_callVi (ci := 13) (o := 43) (As := []) (st := []) cv_X12_270 ⟨_, _, rfl⟩ (by decide) rfl rfl (Nat.le_refl _) (Nat.le_of_ble_eq_true rfl) (by decide) dX12_statement_159 rfl hF (fun r6 h5 hF => ?_)
    exact q_iret rfl (by decide) (by decide) dX12_statement_162 hF
  have hF := hF.2
  refine q_by ((h.I 47 ((h.I 43 14).toNatClampNeg)) = 3) (fun hs3_1 => ?_) (fun hs3_1 => ?_)
  · have hF := hF.1 hs3_1
    refine q_tableIn (tgt := 258) dX12_statement_19 (by rw [hs3_1]; decide) (by rw [hs3_1]; decide) (by first | (rw [hs3_1]; done) | (rw [hs3_1]; rfl)) (by decide) ?_
    refine q_aload_n (i := 0) dX12_statement_258 rfl rfl ?_
    refine q_bipush (v := 123) dX12_statement_259 (by decide) ?_
    refine q_callVi (ci := 13) (o := 43) (As := [.int 123]) (st := []) cv_X12_168 ⟨_, _, rfl⟩ (by decide) rfl rfl (Nat.le_refl _) (Nat.le_of_ble_eq_true rfl) (by decide) dX12_statement_261 rfl hF (fun r8 h7 hF => ?_)
    refine q_if_ne (tgt := 272) dX12_statement_264 (by decide) (fun hb => ?_) (fun hb => ?_)
    · have hF := hF.1 hb
      refine q_aload_n (i := 0) dX12_statement_272 rfl rfl ?_
      refine q_bipush (v := 7) dX12_statement_273 (by decide) ?_
      refine q_callVi (ci := 13) (o := 43) (As := [.int 7]) (st := []) cv_X12_261 ⟨_, _, rfl⟩ (by decide) rfl rfl (Nat.le_refl _) (Nat.le_of_ble_eq_true rfl) (by decide) dX12_statement_275 rfl hF (fun r10 h9 hF => ?_)
      refine q_istore_n (i := 3) dX12_statement_278 rfl (by decide) rfl ?_
      refine q_aload_n (i := 1) dX12_statement_279 rfl rfl ?_
      refine q_getP 12 13 (c1 + 6) fl_X12_255 (q_prg_n hc1 0) (q_prg_K hc1) rfl (q_prg_P hc1 13) dX12_statement_280 ?_
      refine q_iload_n (i := 3) dX12_statement_283 rfl rfl ?_
      refine q_aload_n (i := 0) dX12_statement_284 rfl rfl ?_
      refine q_callVi (ci := 13) (o := 43) (As := []) (st := [.int r10, .ref (c1 + 6)]) cv_X12_218 ⟨_, _, rfl⟩ (by decide) rfl rfl (Nat.le_refl _) (Nat.le_of_ble_eq_true rfl) (by decide) dX12_statement_285 rfl hF (fun r12 h11 hF => ?_)
      obtain ⟨hi13, hF⟩ := hF
      refine q_iastore (n := 2000) (q_prg_n hc1 6) (q_prg_A hc1 13) hi13 dX12_statement_288 ?_
      refine q_iload_n (i := 3) dX12_statement_289 rfl rfl ?_
      exact q_iret rfl (by decide) (by decide) dX12_statement_290 hF
    · have hF := hF.2 hb
      refine q_aload_n (i := 0) dX12_statement_267 rfl rfl ?_
      refine q_iconst (v := 1) dX12_statement_268 (by decide) ?_
      refine q_callVv (ci := 13) (o := 43) (As := [.int 1]) (st := []) cv_X12_171 ⟨_, _, rfl⟩ (by decide) rfl rfl (Nat.le_refl _) (Nat.le_of_ble_eq_true rfl) (by decide) dX12_statement_269 rfl hF (fun h14 hF => ?_)
      refine q_aload_n (i := 0) dX12_statement_272 rfl rfl ?_
      refine q_bipush (v := 7) dX12_statement_273 (by decide) ?_
      refine q_callVi (ci := 13) (o := 43) (As := [.int 7]) (st := []) cv_X12_261 ⟨_, _, rfl⟩ (by decide) rfl rfl (Nat.le_refl _) (Nat.le_of_ble_eq_true rfl) (by decide) dX12_statement_275 rfl hF (fun r16 h15 hF => ?_)
      refine q_istore_n (i := 3) dX12_statement_278 rfl (by decide) rfl ?_
      refine q_aload_n (i := 1) dX12_statement_279 rfl rfl ?_
      refine q_getP 12 13 (c1 + 6) fl_X12_255 (q_prg_n hc1 0) (q_prg_K hc1) rfl (q_prg_P hc1 13) dX12_statement_280 ?_
      refine q_iload_n (i := 3) dX12_statement_283 rfl rfl ?_
      refine q_aload_n (i := 0) dX12_statement_284 rfl rfl ?_
      refine q_callVi (ci := 13) (o := 43) (As := []) (st := [.int r16, .ref (c1 + 6)]) cv_X12_218 ⟨_, _, rfl⟩ (by decide) rfl rfl (Nat.le_refl _) (Nat.le_of_ble_eq_true rfl) (by decide) dX12_statement_285 rfl hF (fun r18 h17 hF => ?_)
      obtain ⟨hi19, hF⟩ := hF
      refine q_iastore (n := 2000) (q_prg_n hc1 6) (q_prg_A hc1 13) hi19 dX12_statement_288 ?_
      refine q_iload_n (i := 3) dX12_statement_289 rfl rfl ?_
      exact q_iret rfl (by decide) (by decide) dX12_statement_290 hF
  have hF := hF.2
  refine q_by ((h.I 47 ((h.I 43 14).toNatClampNeg)) = 4) (fun hs3_2 => ?_) (fun hs3_2 => ?_)
  · have hF := hF.1 hs3_2
    refine q_tableIn (tgt := 258) dX12_statement_19 (by rw [hs3_2]; decide) (by rw [hs3_2]; decide) (by first | (rw [hs3_2]; done) | (rw [hs3_2]; rfl)) (by decide) ?_
    refine q_aload_n (i := 0) dX12_statement_258 rfl rfl ?_
    refine q_bipush (v := 123) dX12_statement_259 (by decide) ?_
    refine q_callVi (ci := 13) (o := 43) (As := [.int 123]) (st := []) cv_X12_168 ⟨_, _, rfl⟩ (by decide) rfl rfl (Nat.le_refl _) (Nat.le_of_ble_eq_true rfl) (by decide) dX12_statement_261 rfl hF (fun r21 h20 hF => ?_)
    refine q_if_ne (tgt := 272) dX12_statement_264 (by decide) (fun hb => ?_) (fun hb => ?_)
    · have hF := hF.1 hb
      refine q_aload_n (i := 0) dX12_statement_272 rfl rfl ?_
      refine q_bipush (v := 7) dX12_statement_273 (by decide) ?_
      refine q_callVi (ci := 13) (o := 43) (As := [.int 7]) (st := []) cv_X12_261 ⟨_, _, rfl⟩ (by decide) rfl rfl (Nat.le_refl _) (Nat.le_of_ble_eq_true rfl) (by decide) dX12_statement_275 rfl hF (fun r23 h22 hF => ?_)
      refine q_istore_n (i := 3) dX12_statement_278 rfl (by decide) rfl ?_
      refine q_aload_n (i := 1) dX12_statement_279 rfl rfl ?_
      refine q_getP 12 13 (c1 + 6) fl_X12_255 (q_prg_n hc1 0) (q_prg_K hc1) rfl (q_prg_P hc1 13) dX12_statement_280 ?_
      refine q_iload_n (i := 3) dX12_statement_283 rfl rfl ?_
      refine q_aload_n (i := 0) dX12_statement_284 rfl rfl ?_
      refine q_callVi (ci := 13) (o := 43) (As := []) (st := [.int r23, .ref (c1 + 6)]) cv_X12_218 ⟨_, _, rfl⟩ (by decide) rfl rfl (Nat.le_refl _) (Nat.le_of_ble_eq_true rfl) (by decide) dX12_statement_285 rfl hF (fun r25 h24 hF => ?_)
      obtain ⟨hi26, hF⟩ := hF
      refine q_iastore (n := 2000) (q_prg_n hc1 6) (q_prg_A hc1 13) hi26 dX12_statement_288 ?_
      refine q_iload_n (i := 3) dX12_statement_289 rfl rfl ?_
      exact q_iret rfl (by decide) (by decide) dX12_statement_290 hF
    · have hF := hF.2 hb
      refine q_aload_n (i := 0) dX12_statement_267 rfl rfl ?_
      refine q_iconst (v := 1) dX12_statement_268 (by decide) ?_
      refine q_callVv (ci := 13) (o := 43) (As := [.int 1]) (st := []) cv_X12_171 ⟨_, _, rfl⟩ (by decide) rfl rfl (Nat.le_refl _) (Nat.le_of_ble_eq_true rfl) (by decide) dX12_statement_269 rfl hF (fun h27 hF => ?_)
      refine q_aload_n (i := 0) dX12_statement_272 rfl rfl ?_
      refine q_bipush (v := 7) dX12_statement_273 (by decide) ?_
      refine q_callVi (ci := 13) (o := 43) (As := [.int 7]) (st := []) cv_X12_261 ⟨_, _, rfl⟩ (by decide) rfl rfl (Nat.le_refl _) (Nat.le_of_ble_eq_true rfl) (by decide) dX12_statement_275 rfl hF (fun r29 h28 hF => ?_)
      refine q_istore_n (i := 3) dX12_statement_278 rfl (by decide) rfl ?_
      refine q_aload_n (i := 1) dX12_statement_279 rfl rfl ?_
      refine q_getP 12 13 (c1 + 6) fl_X12_255 (q_prg_n hc1 0) (q_prg_K hc1) rfl (q_prg_P hc1 13) dX12_statement_280 ?_
      refine q_iload_n (i := 3) dX12_statement_283 rfl rfl ?_
      refine q_aload_n (i := 0) dX12_statement_284 rfl rfl ?_
      refine q_callVi (ci := 13) (o := 43) (As := []) (st := [.int r29, .ref (c1 + 6)]) cv_X12_218 ⟨_, _, rfl⟩ (by decide) rfl rfl (Nat.le_refl _) (Nat.le_of_ble_eq_true rfl) (by decide) dX12_statement_285 rfl hF (fun r31 h30 hF => ?_)
      obtain ⟨hi32, hF⟩ := hF
      refine q_iastore (n := 2000) (q_prg_n hc1 6) (q_prg_A hc1 13) hi32 dX12_statement_288 ?_
      refine q_iload_n (i := 3) dX12_statement_289 rfl rfl ?_
      exact q_iret rfl (by decide) (by decide) dX12_statement_290 hF
  have hF := hF.2
  refine q_by ((h.I 47 ((h.I 43 14).toNatClampNeg)) = 5) (fun hs3_3 => ?_) (fun hs3_3 => ?_)
  · have hF := hF.1 hs3_3
    refine q_tableIn (tgt := 72) dX12_statement_19 (by rw [hs3_3]; decide) (by rw [hs3_3]; decide) (by first | (rw [hs3_3]; done) | (rw [hs3_3]; rfl)) (by decide) ?_
    refine q_aload_n (i := 0) dX12_statement_72 rfl rfl ?_
    refine q_dup dX12_statement_73 rfl ?_
    refine q_getIv (v := h.I 43 14) 13 14 fl_X12_156 (by decide) rfl rfl (rfl) dX12_statement_74 ?_
    refine q_iconst (v := 1) dX12_statement_77 (by decide) ?_
    refine q_iadd dX12_statement_78 ?_
    refine q_putI 13 14 fp_X12_156 (Or.inr ⟨_, _, _, rfl, rfl⟩) (by decide) rfl rfl dX12_statement_79 ?_
    refine q_aload_n (i := 0) dX12_statement_82 rfl rfl ?_
    refine q_iconst (v := 2) dX12_statement_83 (by decide) ?_
    refine q_callVi (ci := 13) (o := 43) (As := [.int 2]) (st := []) cv_X12_197 ⟨_, _, rfl⟩ (by decide) rfl rfl (Nat.le_refl _) (Nat.le_of_ble_eq_true rfl) (by decide) dX12_statement_84 rfl hF (fun r34 h33 hF => ?_)
    refine q_istore dX12_statement_87 (by decide) rfl ?_
    refine q_aload_n (i := 0) dX12_statement_89 rfl rfl ?_
    refine q_iload dX12_statement_90 rfl ?_
    refine q_callVv (ci := 13) (o := 43) (As := [.int r34]) (st := []) cv_X12_200 ⟨_, _, rfl⟩ (by decide) rfl rfl (Nat.le_refl _) (Nat.le_of_ble_eq_true rfl) (by decide) dX12_statement_92 rfl hF (fun h35 hF => ?_)
    refine q_aload_n (i := 1) dX12_statement_95 rfl rfl ?_
    refine q_getIv (v := h35.I c1 2) 12 2 fl_X12_237 (q_prg_n hc1 0) (q_prg_K hc1) rfl (rfl) dX12_statement_96 ?_
    refine q_bipush (v := 16) dX12_statement_99 (by decide) ?_
    refine q_icmp_lt (tgt := 112) dX12_statement_101 (by decide) (fun hb => ?_) (fun hb => ?_)
    · have hF := hF.1 hb
      refine q_aload_n (i := 0) dX12_statement_112 rfl rfl ?_
      refine q_bipush (v := 61) dX12_statement_113 (by decide) ?_
      refine q_callVv (ci := 13) (o := 43) (As := [.int 61]) (st := []) cv_X12_180 ⟨_, _, rfl⟩ (by decide) rfl rfl (Nat.le_refl _) (Nat.le_of_ble_eq_true rfl) (by decide) dX12_statement_115 rfl hF (fun h36 hF => ?_)
      refine q_aload_n (i := 0) dX12_statement_118 rfl rfl ?_
      refine q_iconst (v := 0) dX12_statement_119 (by decide) ?_
      refine q_callVi (ci := 13) (o := 43) (As := [.int 0]) (st := []) cv_X12_261 ⟨_, _, rfl⟩ (by decide) rfl rfl (Nat.le_refl _) (Nat.le_of_ble_eq_true rfl) (by decide) dX12_statement_120 rfl hF (fun r38 h37 hF => ?_)
      refine q_istore_n (i := 3) dX12_statement_123 rfl (by decide) rfl ?_
      refine q_aload_n (i := 1) dX12_statement_124 rfl rfl ?_
      refine q_getP 12 11 (c1 + 4) fl_X12_264 (q_prg_n hc1 0) (q_prg_K hc1) rfl (q_prg_P hc1 11) dX12_statement_125 ?_
      refine q_iload_n (i := 3) dX12_statement_128 rfl rfl ?_
      refine q_aload_n (i := 0) dX12_statement_129 rfl rfl ?_
      refine q_callVi (ci := 13) (o := 43) (As := []) (st := [.int r38, .ref (c1 + 4)]) cv_X12_267 ⟨_, _, rfl⟩ (by decide) rfl rfl (Nat.le_refl _) (Nat.le_of_ble_eq_true rfl) (by decide) dX12_statement_130 rfl hF (fun r40 h39 hF => ?_)
      obtain ⟨hi41, hF⟩ := hF
      refine q_iastore (n := 2000) (q_prg_n hc1 4) (q_prg_A hc1 11) hi41 dX12_statement_133 ?_
      refine q_aload_n (i := 0) dX12_statement_134 rfl rfl ?_
      refine q_bipush (v := 59) dX12_statement_135 (by decide) ?_
      refine q_callVv (ci := 13) (o := 43) (As := [.int 59]) (st := []) cv_X12_180 ⟨_, _, rfl⟩ (by decide) rfl rfl (Nat.le_refl _) (Nat.le_of_ble_eq_true rfl) (by decide) dX12_statement_137 rfl hF (fun h42 hF => ?_)
      refine q_aload_n (i := 1) dX12_statement_140 rfl rfl ?_
      refine q_getP 12 10 (c1 + 3) fl_X12_252 (q_prg_n hc1 0) (q_prg_K hc1) rfl (q_prg_P hc1 10) dX12_statement_141 ?_
      refine q_iload_n (i := 3) dX12_statement_144 rfl rfl ?_
      refine q_aload_n (i := 1) dX12_statement_145 rfl rfl ?_
      refine q_getIv (v := h42.I c1 2) 12 2 fl_X12_237 (q_prg_n hc1 0) (q_prg_K hc1) rfl (rfl) dX12_statement_146 ?_
      obtain ⟨hi43, hF⟩ := hF
      refine q_iastore (n := 2000) (q_prg_n hc1 3) (q_prg_A hc1 10) hi43 dX12_statement_149 ?_
      refine q_aload_n (i := 0) dX12_statement_150 rfl rfl ?_
      refine q_iload dX12_statement_151 rfl ?_
      refine q_callVv (ci := 13) (o := 43) (As := [.int r34]) (st := []) cv_X12_234 ⟨_, _, rfl⟩ (by decide) rfl rfl (Nat.le_refl _) (Nat.le_of_ble_eq_true rfl) (by decide) dX12_statement_153 rfl hF (fun h44 hF => ?_)
      refine q_iload_n (i := 3) dX12_statement_156 rfl rfl ?_
      exact q_iret rfl (by decide) (by decide) dX12_statement_157 hF
    · have hF := hF.2 hb
      refine q_aload_n (i := 0) dX12_statement_104 rfl rfl ?_
      refine q_bipush (v := 6) dX12_statement_105 (by decide) ?_
      refine q_iload dX12_statement_107 rfl ?_
      refine q_callVv (ci := 13) (o := 43) (As := [.int 6, .int r34]) (st := []) cv_X12_193 ⟨_, _, rfl⟩ (by decide) rfl rfl (Nat.le_refl _) (Nat.le_of_ble_eq_true rfl) (by decide) dX12_statement_109 rfl hF (fun h45 hF => ?_)
      refine q_aload_n (i := 0) dX12_statement_112 rfl rfl ?_
      refine q_bipush (v := 61) dX12_statement_113 (by decide) ?_
      refine q_callVv (ci := 13) (o := 43) (As := [.int 61]) (st := []) cv_X12_180 ⟨_, _, rfl⟩ (by decide) rfl rfl (Nat.le_refl _) (Nat.le_of_ble_eq_true rfl) (by decide) dX12_statement_115 rfl hF (fun h46 hF => ?_)
      refine q_aload_n (i := 0) dX12_statement_118 rfl rfl ?_
      refine q_iconst (v := 0) dX12_statement_119 (by decide) ?_
      refine q_callVi (ci := 13) (o := 43) (As := [.int 0]) (st := []) cv_X12_261 ⟨_, _, rfl⟩ (by decide) rfl rfl (Nat.le_refl _) (Nat.le_of_ble_eq_true rfl) (by decide) dX12_statement_120 rfl hF (fun r48 h47 hF => ?_)
      refine q_istore_n (i := 3) dX12_statement_123 rfl (by decide) rfl ?_
      refine q_aload_n (i := 1) dX12_statement_124 rfl rfl ?_
      refine q_getP 12 11 (c1 + 4) fl_X12_264 (q_prg_n hc1 0) (q_prg_K hc1) rfl (q_prg_P hc1 11) dX12_statement_125 ?_
      refine q_iload_n (i := 3) dX12_statement_128 rfl rfl ?_
      refine q_aload_n (i := 0) dX12_statement_129 rfl rfl ?_
      refine q_callVi (ci := 13) (o := 43) (As := []) (st := [.int r48, .ref (c1 + 4)]) cv_X12_267 ⟨_, _, rfl⟩ (by decide) rfl rfl (Nat.le_refl _) (Nat.le_of_ble_eq_true rfl) (by decide) dX12_statement_130 rfl hF (fun r50 h49 hF => ?_)
      obtain ⟨hi51, hF⟩ := hF
      refine q_iastore (n := 2000) (q_prg_n hc1 4) (q_prg_A hc1 11) hi51 dX12_statement_133 ?_
      refine q_aload_n (i := 0) dX12_statement_134 rfl rfl ?_
      refine q_bipush (v := 59) dX12_statement_135 (by decide) ?_
      refine q_callVv (ci := 13) (o := 43) (As := [.int 59]) (st := []) cv_X12_180 ⟨_, _, rfl⟩ (by decide) rfl rfl (Nat.le_refl _) (Nat.le_of_ble_eq_true rfl) (by decide) dX12_statement_137 rfl hF (fun h52 hF => ?_)
      refine q_aload_n (i := 1) dX12_statement_140 rfl rfl ?_
      refine q_getP 12 10 (c1 + 3) fl_X12_252 (q_prg_n hc1 0) (q_prg_K hc1) rfl (q_prg_P hc1 10) dX12_statement_141 ?_
      refine q_iload_n (i := 3) dX12_statement_144 rfl rfl ?_
      refine q_aload_n (i := 1) dX12_statement_145 rfl rfl ?_
      refine q_getIv (v := h52.I c1 2) 12 2 fl_X12_237 (q_prg_n hc1 0) (q_prg_K hc1) rfl (rfl) dX12_statement_146 ?_
      obtain ⟨hi53, hF⟩ := hF
      refine q_iastore (n := 2000) (q_prg_n hc1 3) (q_prg_A hc1 10) hi53 dX12_statement_149 ?_
      refine q_aload_n (i := 0) dX12_statement_150 rfl rfl ?_
      refine q_iload dX12_statement_151 rfl ?_
      refine q_callVv (ci := 13) (o := 43) (As := [.int r34]) (st := []) cv_X12_234 ⟨_, _, rfl⟩ (by decide) rfl rfl (Nat.le_refl _) (Nat.le_of_ble_eq_true rfl) (by decide) dX12_statement_153 rfl hF (fun h54 hF => ?_)
      refine q_iload_n (i := 3) dX12_statement_156 rfl rfl ?_
      exact q_iret rfl (by decide) (by decide) dX12_statement_157 hF
  have hF := hF.2
  refine q_by ((h.I 47 ((h.I 43 14).toNatClampNeg)) = 6) (fun hs3_4 => ?_) (fun hs3_4 => ?_)
  · have hF := hF.1 hs3_4
    refine q_tableIn (tgt := 163) dX12_statement_19 (by rw [hs3_4]; decide) (by rw [hs3_4]; decide) (by first | (rw [hs3_4]; done) | (rw [hs3_4]; rfl)) (by decide) ?_
    refine q_aload_n (i := 0) dX12_statement_163 rfl rfl ?_
    refine q_callVi (ci := 13) (o := 43) (As := []) (st := []) cv_X12_273 ⟨_, _, rfl⟩ (by decide) rfl rfl (Nat.le_refl _) (Nat.le_of_ble_eq_true rfl) (by decide) dX12_statement_164 rfl hF (fun r56 h55 hF => ?_)
    exact q_iret rfl (by decide) (by decide) dX12_statement_167 hF
  have hF := hF.2
  refine q_by ((h.I 47 ((h.I 43 14).toNatClampNeg)) = 7) (fun hs3_5 => ?_) (fun hs3_5 => ?_)
  · have hF := hF.1 hs3_5
    refine q_tableIn (tgt := 258) dX12_statement_19 (by rw [hs3_5]; decide) (by rw [hs3_5]; decide) (by first | (rw [hs3_5]; done) | (rw [hs3_5]; rfl)) (by decide) ?_
    refine q_aload_n (i := 0) dX12_statement_258 rfl rfl ?_
    refine q_bipush (v := 123) dX12_statement_259 (by decide) ?_
    refine q_callVi (ci := 13) (o := 43) (As := [.int 123]) (st := []) cv_X12_168 ⟨_, _, rfl⟩ (by decide) rfl rfl (Nat.le_refl _) (Nat.le_of_ble_eq_true rfl) (by decide) dX12_statement_261 rfl hF (fun r58 h57 hF => ?_)
    refine q_if_ne (tgt := 272) dX12_statement_264 (by decide) (fun hb => ?_) (fun hb => ?_)
    · have hF := hF.1 hb
      refine q_aload_n (i := 0) dX12_statement_272 rfl rfl ?_
      refine q_bipush (v := 7) dX12_statement_273 (by decide) ?_
      refine q_callVi (ci := 13) (o := 43) (As := [.int 7]) (st := []) cv_X12_261 ⟨_, _, rfl⟩ (by decide) rfl rfl (Nat.le_refl _) (Nat.le_of_ble_eq_true rfl) (by decide) dX12_statement_275 rfl hF (fun r60 h59 hF => ?_)
      refine q_istore_n (i := 3) dX12_statement_278 rfl (by decide) rfl ?_
      refine q_aload_n (i := 1) dX12_statement_279 rfl rfl ?_
      refine q_getP 12 13 (c1 + 6) fl_X12_255 (q_prg_n hc1 0) (q_prg_K hc1) rfl (q_prg_P hc1 13) dX12_statement_280 ?_
      refine q_iload_n (i := 3) dX12_statement_283 rfl rfl ?_
      refine q_aload_n (i := 0) dX12_statement_284 rfl rfl ?_
      refine q_callVi (ci := 13) (o := 43) (As := []) (st := [.int r60, .ref (c1 + 6)]) cv_X12_218 ⟨_, _, rfl⟩ (by decide) rfl rfl (Nat.le_refl _) (Nat.le_of_ble_eq_true rfl) (by decide) dX12_statement_285 rfl hF (fun r62 h61 hF => ?_)
      obtain ⟨hi63, hF⟩ := hF
      refine q_iastore (n := 2000) (q_prg_n hc1 6) (q_prg_A hc1 13) hi63 dX12_statement_288 ?_
      refine q_iload_n (i := 3) dX12_statement_289 rfl rfl ?_
      exact q_iret rfl (by decide) (by decide) dX12_statement_290 hF
    · have hF := hF.2 hb
      refine q_aload_n (i := 0) dX12_statement_267 rfl rfl ?_
      refine q_iconst (v := 1) dX12_statement_268 (by decide) ?_
      refine q_callVv (ci := 13) (o := 43) (As := [.int 1]) (st := []) cv_X12_171 ⟨_, _, rfl⟩ (by decide) rfl rfl (Nat.le_refl _) (Nat.le_of_ble_eq_true rfl) (by decide) dX12_statement_269 rfl hF (fun h64 hF => ?_)
      refine q_aload_n (i := 0) dX12_statement_272 rfl rfl ?_
      refine q_bipush (v := 7) dX12_statement_273 (by decide) ?_
      refine q_callVi (ci := 13) (o := 43) (As := [.int 7]) (st := []) cv_X12_261 ⟨_, _, rfl⟩ (by decide) rfl rfl (Nat.le_refl _) (Nat.le_of_ble_eq_true rfl) (by decide) dX12_statement_275 rfl hF (fun r66 h65 hF => ?_)
      refine q_istore_n (i := 3) dX12_statement_278 rfl (by decide) rfl ?_
      refine q_aload_n (i := 1) dX12_statement_279 rfl rfl ?_
      refine q_getP 12 13 (c1 + 6) fl_X12_255 (q_prg_n hc1 0) (q_prg_K hc1) rfl (q_prg_P hc1 13) dX12_statement_280 ?_
      refine q_iload_n (i := 3) dX12_statement_283 rfl rfl ?_
      refine q_aload_n (i := 0) dX12_statement_284 rfl rfl ?_
      refine q_callVi (ci := 13) (o := 43) (As := []) (st := [.int r66, .ref (c1 + 6)]) cv_X12_218 ⟨_, _, rfl⟩ (by decide) rfl rfl (Nat.le_refl _) (Nat.le_of_ble_eq_true rfl) (by decide) dX12_statement_285 rfl hF (fun r68 h67 hF => ?_)
      obtain ⟨hi69, hF⟩ := hF
      refine q_iastore (n := 2000) (q_prg_n hc1 6) (q_prg_A hc1 13) hi69 dX12_statement_288 ?_
      refine q_iload_n (i := 3) dX12_statement_289 rfl rfl ?_
      exact q_iret rfl (by decide) (by decide) dX12_statement_290 hF
  have hF := hF.2
  refine q_by ((h.I 47 ((h.I 43 14).toNatClampNeg)) = 8) (fun hs3_6 => ?_) (fun hs3_6 => ?_)
  · have hF := hF.1 hs3_6
    refine q_tableIn (tgt := 168) dX12_statement_19 (by rw [hs3_6]; decide) (by rw [hs3_6]; decide) (by first | (rw [hs3_6]; done) | (rw [hs3_6]; rfl)) (by decide) ?_
    refine q_aload_n (i := 0) dX12_statement_168 rfl rfl ?_
    refine q_callVi (ci := 13) (o := 43) (As := []) (st := []) cv_X12_276 ⟨_, _, rfl⟩ (by decide) rfl rfl (Nat.le_refl _) (Nat.le_of_ble_eq_true rfl) (by decide) dX12_statement_169 rfl hF (fun r71 h70 hF => ?_)
    exact q_iret rfl (by decide) (by decide) dX12_statement_172 hF
  have hF := hF.2
  refine q_by ((h.I 47 ((h.I 43 14).toNatClampNeg)) = 9) (fun hs3_7 => ?_) (fun hs3_7 => ?_)
  · have hF := hF.1 hs3_7
    refine q_tableIn (tgt := 173) dX12_statement_19 (by rw [hs3_7]; decide) (by rw [hs3_7]; decide) (by first | (rw [hs3_7]; done) | (rw [hs3_7]; rfl)) (by decide) ?_
    refine q_aload_n (i := 0) dX12_statement_173 rfl rfl ?_
    refine q_dup dX12_statement_174 rfl ?_
    refine q_getIv (v := h.I 43 14) 13 14 fl_X12_156 (by decide) rfl rfl (rfl) dX12_statement_175 ?_
    refine q_iconst (v := 1) dX12_statement_178 (by decide) ?_
    refine q_iadd dX12_statement_179 ?_
    refine q_putI 13 14 fp_X12_156 (Or.inr ⟨_, _, _, rfl, rfl⟩) (by decide) rfl rfl dX12_statement_180 ?_
    refine q_aload_n (i := 0) dX12_statement_183 rfl rfl ?_
    refine q_bipush (v := 59) dX12_statement_184 (by decide) ?_
    refine q_callVv (ci := 13) (o := 43) (As := [.int 59]) (st := []) cv_X12_180 ⟨_, _, rfl⟩ (by decide) rfl rfl (Nat.le_refl _) (Nat.le_of_ble_eq_true rfl) (by decide) dX12_statement_186 rfl hF (fun h72 hF => ?_)
    refine q_aload_n (i := 0) dX12_statement_189 rfl rfl ?_
    refine q_getIv (v := h72.I 43 40) 13 40 fl_X12_279 (by decide) rfl rfl (rfl) dX12_statement_190 ?_
    refine q_if_ne (tgt := 202) dX12_statement_193 (by decide) (fun hb => ?_) (fun hb => ?_)
    · have hF := hF.1 hb
      refine q_aload_n (i := 0) dX12_statement_202 rfl rfl ?_
      refine q_aload_n (i := 0) dX12_statement_203 rfl rfl ?_
      refine q_getP 13 10 47 fl_X12_24 (by decide) rfl rfl rfl dX12_statement_204 ?_
      refine q_iload_n (i := 2) dX12_statement_207 rfl rfl ?_
      obtain ⟨hi73, hF⟩ := hF
      refine q_ialoadv (v := h72.I 47 ((h.I 43 14).toNatClampNeg)) (n := 2001) (by decide) rfl hi73 (rfl) dX12_statement_208 ?_
      refine q_bipush (v := 9) dX12_statement_209 (by decide) ?_
      have K74 := q_ite (c := (h72.I 47 ((h.I 43 14).toNatClampNeg)) = 9) (X := fun v => q_N0 G m_X12_statement (d + 1) Q 219 [.ref 43, .ref c1, .int (h.I 43 14), .null, .null] (.int v :: [.ref 43]) h72) (a := 4) (b := 5) (by
        refine q_callVi (ci := 13) (o := 43) (As := [.int (if (h72.I 47 ((h.I 43 14).toNatClampNeg)) = 9 then (4 : Int32) else 5)]) (st := []) cv_X12_261 ⟨_, _, rfl⟩ (by decide) rfl rfl (Nat.le_refl _) (Nat.le_of_ble_eq_true rfl) (by decide) dX12_statement_219 rfl hF (fun r76 h75 hF => ?_)
        exact q_iret rfl (by decide) (by decide) dX12_statement_222 hF)
      refine q_icmp_ne (tgt := 218) dX12_statement_211 (by decide) (fun hb => ?_) (fun hb => ?_)
      · refine q_iconst (v := 5) dX12_statement_218 (by decide) ?_
        exact K74.2 hb
      · refine q_iconst (v := 4) dX12_statement_214 (by decide) ?_
        refine q_goto (tgt := 219) dX12_statement_215 (by decide) ?_
        exact K74.1 hb
    · have hF := hF.2 hb
      refine q_aload_n (i := 0) dX12_statement_196 rfl rfl ?_
      refine q_iconst (v := 5) dX12_statement_197 (by decide) ?_
      refine q_iload_n (i := 2) dX12_statement_198 rfl rfl ?_
      refine q_callVv (ci := 13) (o := 43) (As := [.int 5, .int (h.I 43 14)]) (st := []) cv_X12_193 ⟨_, _, rfl⟩ (by decide) rfl rfl (Nat.le_refl _) (Nat.le_of_ble_eq_true rfl) (by decide) dX12_statement_199 rfl hF (fun h77 hF => ?_)
      refine q_aload_n (i := 0) dX12_statement_202 rfl rfl ?_
      refine q_aload_n (i := 0) dX12_statement_203 rfl rfl ?_
      refine q_getP 13 10 47 fl_X12_24 (by decide) rfl rfl rfl dX12_statement_204 ?_
      refine q_iload_n (i := 2) dX12_statement_207 rfl rfl ?_
      obtain ⟨hi78, hF⟩ := hF
      refine q_ialoadv (v := h77.I 47 ((h.I 43 14).toNatClampNeg)) (n := 2001) (by decide) rfl hi78 (rfl) dX12_statement_208 ?_
      refine q_bipush (v := 9) dX12_statement_209 (by decide) ?_
      have K79 := q_ite (c := (h77.I 47 ((h.I 43 14).toNatClampNeg)) = 9) (X := fun v => q_N0 G m_X12_statement (d + 1) Q 219 [.ref 43, .ref c1, .int (h.I 43 14), .null, .null] (.int v :: [.ref 43]) h77) (a := 4) (b := 5) (by
        refine q_callVi (ci := 13) (o := 43) (As := [.int (if (h77.I 47 ((h.I 43 14).toNatClampNeg)) = 9 then (4 : Int32) else 5)]) (st := []) cv_X12_261 ⟨_, _, rfl⟩ (by decide) rfl rfl (Nat.le_refl _) (Nat.le_of_ble_eq_true rfl) (by decide) dX12_statement_219 rfl hF (fun r81 h80 hF => ?_)
        exact q_iret rfl (by decide) (by decide) dX12_statement_222 hF)
      refine q_icmp_ne (tgt := 218) dX12_statement_211 (by decide) (fun hb => ?_) (fun hb => ?_)
      · refine q_iconst (v := 5) dX12_statement_218 (by decide) ?_
        exact K79.2 hb
      · refine q_iconst (v := 4) dX12_statement_214 (by decide) ?_
        refine q_goto (tgt := 219) dX12_statement_215 (by decide) ?_
        exact K79.1 hb
  have hF := hF.2
  refine q_by ((h.I 47 ((h.I 43 14).toNatClampNeg)) = 10) (fun hs3_8 => ?_) (fun hs3_8 => ?_)
  · have hF := hF.1 hs3_8
    refine q_tableIn (tgt := 173) dX12_statement_19 (by rw [hs3_8]; decide) (by rw [hs3_8]; decide) (by first | (rw [hs3_8]; done) | (rw [hs3_8]; rfl)) (by decide) ?_
    refine q_aload_n (i := 0) dX12_statement_173 rfl rfl ?_
    refine q_dup dX12_statement_174 rfl ?_
    refine q_getIv (v := h.I 43 14) 13 14 fl_X12_156 (by decide) rfl rfl (rfl) dX12_statement_175 ?_
    refine q_iconst (v := 1) dX12_statement_178 (by decide) ?_
    refine q_iadd dX12_statement_179 ?_
    refine q_putI 13 14 fp_X12_156 (Or.inr ⟨_, _, _, rfl, rfl⟩) (by decide) rfl rfl dX12_statement_180 ?_
    refine q_aload_n (i := 0) dX12_statement_183 rfl rfl ?_
    refine q_bipush (v := 59) dX12_statement_184 (by decide) ?_
    refine q_callVv (ci := 13) (o := 43) (As := [.int 59]) (st := []) cv_X12_180 ⟨_, _, rfl⟩ (by decide) rfl rfl (Nat.le_refl _) (Nat.le_of_ble_eq_true rfl) (by decide) dX12_statement_186 rfl hF (fun h82 hF => ?_)
    refine q_aload_n (i := 0) dX12_statement_189 rfl rfl ?_
    refine q_getIv (v := h82.I 43 40) 13 40 fl_X12_279 (by decide) rfl rfl (rfl) dX12_statement_190 ?_
    refine q_if_ne (tgt := 202) dX12_statement_193 (by decide) (fun hb => ?_) (fun hb => ?_)
    · have hF := hF.1 hb
      refine q_aload_n (i := 0) dX12_statement_202 rfl rfl ?_
      refine q_aload_n (i := 0) dX12_statement_203 rfl rfl ?_
      refine q_getP 13 10 47 fl_X12_24 (by decide) rfl rfl rfl dX12_statement_204 ?_
      refine q_iload_n (i := 2) dX12_statement_207 rfl rfl ?_
      obtain ⟨hi83, hF⟩ := hF
      refine q_ialoadv (v := h82.I 47 ((h.I 43 14).toNatClampNeg)) (n := 2001) (by decide) rfl hi83 (rfl) dX12_statement_208 ?_
      refine q_bipush (v := 9) dX12_statement_209 (by decide) ?_
      have K84 := q_ite (c := (h82.I 47 ((h.I 43 14).toNatClampNeg)) = 9) (X := fun v => q_N0 G m_X12_statement (d + 1) Q 219 [.ref 43, .ref c1, .int (h.I 43 14), .null, .null] (.int v :: [.ref 43]) h82) (a := 4) (b := 5) (by
        refine q_callVi (ci := 13) (o := 43) (As := [.int (if (h82.I 47 ((h.I 43 14).toNatClampNeg)) = 9 then (4 : Int32) else 5)]) (st := []) cv_X12_261 ⟨_, _, rfl⟩ (by decide) rfl rfl (Nat.le_refl _) (Nat.le_of_ble_eq_true rfl) (by decide) dX12_statement_219 rfl hF (fun r86 h85 hF => ?_)
        exact q_iret rfl (by decide) (by decide) dX12_statement_222 hF)
      refine q_icmp_ne (tgt := 218) dX12_statement_211 (by decide) (fun hb => ?_) (fun hb => ?_)
      · refine q_iconst (v := 5) dX12_statement_218 (by decide) ?_
        exact K84.2 hb
      · refine q_iconst (v := 4) dX12_statement_214 (by decide) ?_
        refine q_goto (tgt := 219) dX12_statement_215 (by decide) ?_
        exact K84.1 hb
    · have hF := hF.2 hb
      refine q_aload_n (i := 0) dX12_statement_196 rfl rfl ?_
      refine q_iconst (v := 5) dX12_statement_197 (by decide) ?_
      refine q_iload_n (i := 2) dX12_statement_198 rfl rfl ?_
      refine q_callVv (ci := 13) (o := 43) (As := [.int 5, .int (h.I 43 14)]) (st := []) cv_X12_193 ⟨_, _, rfl⟩ (by decide) rfl rfl (Nat.le_refl _) (Nat.le_of_ble_eq_true rfl) (by decide) dX12_statement_199 rfl hF (fun h87 hF => ?_)
      refine q_aload_n (i := 0) dX12_statement_202 rfl rfl ?_
      refine q_aload_n (i := 0) dX12_statement_203 rfl rfl ?_
      refine q_getP 13 10 47 fl_X12_24 (by decide) rfl rfl rfl dX12_statement_204 ?_
      refine q_iload_n (i := 2) dX12_statement_207 rfl rfl ?_
      obtain ⟨hi88, hF⟩ := hF
      refine q_ialoadv (v := h87.I 47 ((h.I 43 14).toNatClampNeg)) (n := 2001) (by decide) rfl hi88 (rfl) dX12_statement_208 ?_
      refine q_bipush (v := 9) dX12_statement_209 (by decide) ?_
      have K89 := q_ite (c := (h87.I 47 ((h.I 43 14).toNatClampNeg)) = 9) (X := fun v => q_N0 G m_X12_statement (d + 1) Q 219 [.ref 43, .ref c1, .int (h.I 43 14), .null, .null] (.int v :: [.ref 43]) h87) (a := 4) (b := 5) (by
        refine q_callVi (ci := 13) (o := 43) (As := [.int (if (h87.I 47 ((h.I 43 14).toNatClampNeg)) = 9 then (4 : Int32) else 5)]) (st := []) cv_X12_261 ⟨_, _, rfl⟩ (by decide) rfl rfl (Nat.le_refl _) (Nat.le_of_ble_eq_true rfl) (by decide) dX12_statement_219 rfl hF (fun r91 h90 hF => ?_)
        exact q_iret rfl (by decide) (by decide) dX12_statement_222 hF)
      refine q_icmp_ne (tgt := 218) dX12_statement_211 (by decide) (fun hb => ?_) (fun hb => ?_)
      · refine q_iconst (v := 5) dX12_statement_218 (by decide) ?_
        exact K89.2 hb
      · refine q_iconst (v := 4) dX12_statement_214 (by decide) ?_
        refine q_goto (tgt := 219) dX12_statement_215 (by decide) ?_
        exact K89.1 hb
  have hF := hF.2
  refine q_by ((h.I 47 ((h.I 43 14).toNatClampNeg)) = 11) (fun hs3_9 => ?_) (fun hs3_9 => ?_)
  · have hF := hF.1 hs3_9
    refine q_tableIn (tgt := 223) dX12_statement_19 (by rw [hs3_9]; decide) (by rw [hs3_9]; decide) (by first | (rw [hs3_9]; done) | (rw [hs3_9]; rfl)) (by decide) ?_
    refine q_aload_n (i := 0) dX12_statement_223 rfl rfl ?_
    refine q_dup dX12_statement_224 rfl ?_
    refine q_getIv (v := h.I 43 14) 13 14 fl_X12_156 (by decide) rfl rfl (rfl) dX12_statement_225 ?_
    refine q_iconst (v := 1) dX12_statement_228 (by decide) ?_
    refine q_iadd dX12_statement_229 ?_
    refine q_putI 13 14 fp_X12_156 (Or.inr ⟨_, _, _, rfl, rfl⟩) (by decide) rfl rfl dX12_statement_230 ?_
    refine q_aload_n (i := 0) dX12_statement_233 rfl rfl ?_
    refine q_bipush (v := 6) dX12_statement_234 (by decide) ?_
    refine q_callVi (ci := 13) (o := 43) (As := [.int 6]) (st := []) cv_X12_261 ⟨_, _, rfl⟩ (by decide) rfl rfl (Nat.le_refl _) (Nat.le_of_ble_eq_true rfl) (by decide) dX12_statement_236 rfl hF (fun r93 h92 hF => ?_)
    refine q_istore_n (i := 3) dX12_statement_239 rfl (by decide) rfl ?_
    refine q_aload_n (i := 1) dX12_statement_240 rfl rfl ?_
    refine q_getP 12 11 (c1 + 4) fl_X12_264 (q_prg_n hc1 0) (q_prg_K hc1) rfl (q_prg_P hc1 11) dX12_statement_241 ?_
    refine q_iload_n (i := 3) dX12_statement_244 rfl rfl ?_
    refine q_aload_n (i := 0) dX12_statement_245 rfl rfl ?_
    refine q_callVi (ci := 13) (o := 43) (As := []) (st := [.int r93, .ref (c1 + 4)]) cv_X12_267 ⟨_, _, rfl⟩ (by decide) rfl rfl (Nat.le_refl _) (Nat.le_of_ble_eq_true rfl) (by decide) dX12_statement_246 rfl hF (fun r95 h94 hF => ?_)
    obtain ⟨hi96, hF⟩ := hF
    refine q_iastore (n := 2000) (q_prg_n hc1 4) (q_prg_A hc1 11) hi96 dX12_statement_249 ?_
    refine q_aload_n (i := 0) dX12_statement_250 rfl rfl ?_
    refine q_bipush (v := 59) dX12_statement_251 (by decide) ?_
    refine q_callVv (ci := 13) (o := 43) (As := [.int 59]) (st := []) cv_X12_180 ⟨_, _, rfl⟩ (by decide) rfl rfl (Nat.le_refl _) (Nat.le_of_ble_eq_true rfl) (by decide) dX12_statement_253 rfl hF (fun h97 hF => ?_)
    refine q_iload_n (i := 3) dX12_statement_256 rfl rfl ?_
    exact q_iret rfl (by decide) (by decide) dX12_statement_257 hF
  have hF := hF.2
  refine q_tableOut (tgt := 258) dX12_statement_19 (by have n0 := lv_neT hs3_0 (a := 2) (by decide); have n1 := lv_neT hs3_1 (a := 3) (by decide); have n2 := lv_neT hs3_2 (a := 4) (by decide); have n3 := lv_neT hs3_3 (a := 5) (by decide); have n4 := lv_neT hs3_4 (a := 6) (by decide); have n5 := lv_neT hs3_5 (a := 7) (by decide); have n6 := lv_neT hs3_6 (a := 8) (by decide); have n7 := lv_neT hs3_7 (a := 9) (by decide); have n8 := lv_neT hs3_8 (a := 10) (by decide); have n9 := lv_neT hs3_9 (a := 11) (by decide); omega) (by decide) ?_
  have hF := hF ⟨hs3_0, hs3_1, hs3_2, hs3_3, hs3_4, hs3_5, hs3_6, hs3_7, hs3_8, hs3_9⟩
  refine q_aload_n (i := 0) dX12_statement_258 rfl rfl ?_
  refine q_bipush (v := 123) dX12_statement_259 (by decide) ?_
  refine q_callVi (ci := 13) (o := 43) (As := [.int 123]) (st := []) cv_X12_168 ⟨_, _, rfl⟩ (by decide) rfl rfl (Nat.le_refl _) (Nat.le_of_ble_eq_true rfl) (by decide) dX12_statement_261 rfl hF (fun r99 h98 hF => ?_)
  refine q_if_ne (tgt := 272) dX12_statement_264 (by decide) (fun hb => ?_) (fun hb => ?_)
  · have hF := hF.1 hb
    refine q_aload_n (i := 0) dX12_statement_272 rfl rfl ?_
    refine q_bipush (v := 7) dX12_statement_273 (by decide) ?_
    refine q_callVi (ci := 13) (o := 43) (As := [.int 7]) (st := []) cv_X12_261 ⟨_, _, rfl⟩ (by decide) rfl rfl (Nat.le_refl _) (Nat.le_of_ble_eq_true rfl) (by decide) dX12_statement_275 rfl hF (fun r101 h100 hF => ?_)
    refine q_istore_n (i := 3) dX12_statement_278 rfl (by decide) rfl ?_
    refine q_aload_n (i := 1) dX12_statement_279 rfl rfl ?_
    refine q_getP 12 13 (c1 + 6) fl_X12_255 (q_prg_n hc1 0) (q_prg_K hc1) rfl (q_prg_P hc1 13) dX12_statement_280 ?_
    refine q_iload_n (i := 3) dX12_statement_283 rfl rfl ?_
    refine q_aload_n (i := 0) dX12_statement_284 rfl rfl ?_
    refine q_callVi (ci := 13) (o := 43) (As := []) (st := [.int r101, .ref (c1 + 6)]) cv_X12_218 ⟨_, _, rfl⟩ (by decide) rfl rfl (Nat.le_refl _) (Nat.le_of_ble_eq_true rfl) (by decide) dX12_statement_285 rfl hF (fun r103 h102 hF => ?_)
    obtain ⟨hi104, hF⟩ := hF
    refine q_iastore (n := 2000) (q_prg_n hc1 6) (q_prg_A hc1 13) hi104 dX12_statement_288 ?_
    refine q_iload_n (i := 3) dX12_statement_289 rfl rfl ?_
    exact q_iret rfl (by decide) (by decide) dX12_statement_290 hF
  · have hF := hF.2 hb
    refine q_aload_n (i := 0) dX12_statement_267 rfl rfl ?_
    refine q_iconst (v := 1) dX12_statement_268 (by decide) ?_
    refine q_callVv (ci := 13) (o := 43) (As := [.int 1]) (st := []) cv_X12_171 ⟨_, _, rfl⟩ (by decide) rfl rfl (Nat.le_refl _) (Nat.le_of_ble_eq_true rfl) (by decide) dX12_statement_269 rfl hF (fun h105 hF => ?_)
    refine q_aload_n (i := 0) dX12_statement_272 rfl rfl ?_
    refine q_bipush (v := 7) dX12_statement_273 (by decide) ?_
    refine q_callVi (ci := 13) (o := 43) (As := [.int 7]) (st := []) cv_X12_261 ⟨_, _, rfl⟩ (by decide) rfl rfl (Nat.le_refl _) (Nat.le_of_ble_eq_true rfl) (by decide) dX12_statement_275 rfl hF (fun r107 h106 hF => ?_)
    refine q_istore_n (i := 3) dX12_statement_278 rfl (by decide) rfl ?_
    refine q_aload_n (i := 1) dX12_statement_279 rfl rfl ?_
    refine q_getP 12 13 (c1 + 6) fl_X12_255 (q_prg_n hc1 0) (q_prg_K hc1) rfl (q_prg_P hc1 13) dX12_statement_280 ?_
    refine q_iload_n (i := 3) dX12_statement_283 rfl rfl ?_
    refine q_aload_n (i := 0) dX12_statement_284 rfl rfl ?_
    refine q_callVi (ci := 13) (o := 43) (As := []) (st := [.int r107, .ref (c1 + 6)]) cv_X12_218 ⟨_, _, rfl⟩ (by decide) rfl rfl (Nat.le_refl _) (Nat.le_of_ble_eq_true rfl) (by decide) dX12_statement_285 rfl hF (fun r109 h108 hF => ?_)
    obtain ⟨hi110, hF⟩ := hF
    refine q_iastore (n := 2000) (q_prg_n hc1 6) (q_prg_A hc1 13) hi110 dX12_statement_288 ?_
    refine q_iload_n (i := 3) dX12_statement_289 rfl rfl ?_
    exact q_iret rfl (by decide) (by decide) dX12_statement_290 hF
def m_X12_uses : qm := (RX12, cX12_uses, 4, (some .int), [], false)
set_option maxRecDepth 100000 in
set_option maxHeartbeats 4000000 in
theorem x_X12_uses (G : qG) (d : Nat) (x1 : Int32) (x2 : Int32) (h : qh) (Q : qr → qh → Prop)  (hF : q_M0 G d yX12_meaning [.ref 43, .int x1] h (q_ri (fun r2 h1 => (¬ r2 = (-1) → (vp_in r2 2000 ∧ (((h1.I 74 r2.toNatClampNeg) = 1 → (q_M0 G d yX12_wrong [.ref 43, .int 4, .int x1] h1 (q_rv (fun h4 => vp_in r2 2000 ∧ (Q (.inl (some (.int (h4.I 75 r2.toNatClampNeg)))) h4)) (fun E h => Q (.inr E) h)))) ∧ (¬ (h1.I 74 r2.toNatClampNeg) = 1 → (vp_in r2 2000 ∧ (((if (h1.I 74 r2.toNatClampNeg) = 0 then (1 : Int32) else 0) = x2 → (vp_in r2 2000 ∧ (Q (.inl (some (.int (h1.I 75 r2.toNatClampNeg)))) h1))) ∧ (¬ (if (h1.I 74 r2.toNatClampNeg) = 0 then (1 : Int32) else 0) = x2 → (q_M0 G d yX12_wrong [.ref 43, .int 4, .int x1] h1 (q_rv (fun h9 => vp_in r2 2000 ∧ (Q (.inl (some (.int (h9.I 75 r2.toNatClampNeg)))) h9)) (fun E h => Q (.inr E) h)))))))))) ∧ (r2 = (-1) → (q_M0 G d yX12_wrong [.ref 43, .int 3, .int x1] h1 (q_rv (fun h11 => Q (.inl (some (.int 0))) h11) (fun E h => Q (.inr E) h))))) (fun E h => Q (.inr E) h))) : q_M0 G (d + 1) yX12_uses [.ref 43, .int x1, .int x2] h Q := by
  refine q_of (M := m_X12_uses) (by decide +kernel) rfl rfl cd_X12_uses (by decide) (Nat.le_of_ble_eq_true rfl) ?_
  show q_N0 G m_X12_uses (d + 1) Q 0 [.ref 43, .int x1, .int x2, .null] [] h
  refine q_aload_n (i := 0) dX12_uses_0 rfl rfl ?_
  refine q_iload_n (i := 1) dX12_uses_1 rfl rfl ?_
  refine q_callVi (ci := 13) (o := 43) (As := [.int x1]) (st := []) cv_X12_190 ⟨_, _, rfl⟩ (by decide) rfl rfl (Nat.le_refl _) (Nat.le_of_ble_eq_true rfl) (by decide) dX12_uses_2 rfl hF (fun r2 h1 hF => ?_)
  refine q_istore_n (i := 3) dX12_uses_5 rfl (by decide) rfl ?_
  refine q_iload_n (i := 3) dX12_uses_6 rfl rfl ?_
  refine q_iconst (v := (-1)) dX12_uses_7 (by decide) ?_
  refine q_icmp_ne (tgt := 19) dX12_uses_8 (by decide) (fun hb => ?_) (fun hb => ?_)
  · have hF := hF.1 hb
    refine q_aload_n (i := 0) dX12_uses_19 rfl rfl ?_
    refine q_getP 13 25 74 fl_X12_56 (by decide) rfl rfl rfl dX12_uses_20 ?_
    refine q_iload_n (i := 3) dX12_uses_23 rfl rfl ?_
    obtain ⟨hi3, hF⟩ := hF
    refine q_ialoadv (v := h1.I 74 r2.toNatClampNeg) (n := 2000) (by decide) rfl hi3 (rfl) dX12_uses_24 ?_
    refine q_iconst (v := 1) dX12_uses_25 (by decide) ?_
    refine q_icmp_eq (tgt := 47) dX12_uses_26 (by decide) (fun hb => ?_) (fun hb => ?_)
    · have hF := hF.1 hb
      refine q_aload_n (i := 0) dX12_uses_47 rfl rfl ?_
      refine q_iconst (v := 4) dX12_uses_48 (by decide) ?_
      refine q_iload_n (i := 1) dX12_uses_49 rfl rfl ?_
      refine q_callVv (ci := 13) (o := 43) (As := [.int 4, .int x1]) (st := []) cv_X12_193 ⟨_, _, rfl⟩ (by decide) rfl rfl (Nat.le_refl _) (Nat.le_of_ble_eq_true rfl) (by decide) dX12_uses_50 rfl hF (fun h4 hF => ?_)
      refine q_aload_n (i := 0) dX12_uses_53 rfl rfl ?_
      refine q_getP 13 26 75 fl_X12_59 (by decide) rfl rfl rfl dX12_uses_54 ?_
      refine q_iload_n (i := 3) dX12_uses_57 rfl rfl ?_
      obtain ⟨hi5, hF⟩ := hF
      refine q_ialoadv (v := h4.I 75 r2.toNatClampNeg) (n := 2000) (by decide) rfl hi5 (rfl) dX12_uses_58 ?_
      exact q_iret rfl (by decide) (by decide) dX12_uses_59 hF
    · have hF := hF.2 hb
      refine q_aload_n (i := 0) dX12_uses_29 rfl rfl ?_
      refine q_getP 13 25 74 fl_X12_56 (by decide) rfl rfl rfl dX12_uses_30 ?_
      refine q_iload_n (i := 3) dX12_uses_33 rfl rfl ?_
      obtain ⟨hi6, hF⟩ := hF
      refine q_ialoadv (v := h1.I 74 r2.toNatClampNeg) (n := 2000) (by decide) rfl hi6 (rfl) dX12_uses_34 ?_
      have K7 := q_ite (c := (h1.I 74 r2.toNatClampNeg) = 0) (X := fun v => q_N0 G m_X12_uses (d + 1) Q 43 [.ref 43, .int x1, .int x2, .int r2] (.int v :: []) h1) (a := 1) (b := 0) (by
        refine q_iload_n (i := 2) dX12_uses_43 rfl rfl ?_
        refine q_icmp_eq (tgt := 53) dX12_uses_44 (by decide) (fun hb => ?_) (fun hb => ?_)
        · have hF := hF.1 hb
          refine q_aload_n (i := 0) dX12_uses_53 rfl rfl ?_
          refine q_getP 13 26 75 fl_X12_59 (by decide) rfl rfl rfl dX12_uses_54 ?_
          refine q_iload_n (i := 3) dX12_uses_57 rfl rfl ?_
          obtain ⟨hi8, hF⟩ := hF
          refine q_ialoadv (v := h1.I 75 r2.toNatClampNeg) (n := 2000) (by decide) rfl hi8 (rfl) dX12_uses_58 ?_
          exact q_iret rfl (by decide) (by decide) dX12_uses_59 hF
        · have hF := hF.2 hb
          refine q_aload_n (i := 0) dX12_uses_47 rfl rfl ?_
          refine q_iconst (v := 4) dX12_uses_48 (by decide) ?_
          refine q_iload_n (i := 1) dX12_uses_49 rfl rfl ?_
          refine q_callVv (ci := 13) (o := 43) (As := [.int 4, .int x1]) (st := []) cv_X12_193 ⟨_, _, rfl⟩ (by decide) rfl rfl (Nat.le_refl _) (Nat.le_of_ble_eq_true rfl) (by decide) dX12_uses_50 rfl hF (fun h9 hF => ?_)
          refine q_aload_n (i := 0) dX12_uses_53 rfl rfl ?_
          refine q_getP 13 26 75 fl_X12_59 (by decide) rfl rfl rfl dX12_uses_54 ?_
          refine q_iload_n (i := 3) dX12_uses_57 rfl rfl ?_
          obtain ⟨hi10, hF⟩ := hF
          refine q_ialoadv (v := h9.I 75 r2.toNatClampNeg) (n := 2000) (by decide) rfl hi10 (rfl) dX12_uses_58 ?_
          exact q_iret rfl (by decide) (by decide) dX12_uses_59 hF)
      refine q_if_ne (tgt := 42) dX12_uses_35 (by decide) (fun hb => ?_) (fun hb => ?_)
      · refine q_iconst (v := 0) dX12_uses_42 (by decide) ?_
        exact K7.2 hb
      · refine q_iconst (v := 1) dX12_uses_38 (by decide) ?_
        refine q_goto (tgt := 43) dX12_uses_39 (by decide) ?_
        exact K7.1 hb
  · have hF := hF.2 hb
    refine q_aload_n (i := 0) dX12_uses_11 rfl rfl ?_
    refine q_iconst (v := 3) dX12_uses_12 (by decide) ?_
    refine q_iload_n (i := 1) dX12_uses_13 rfl rfl ?_
    refine q_callVv (ci := 13) (o := 43) (As := [.int 3, .int x1]) (st := []) cv_X12_193 ⟨_, _, rfl⟩ (by decide) rfl rfl (Nat.le_refl _) (Nat.le_of_ble_eq_true rfl) (by decide) dX12_uses_14 rfl hF (fun h11 hF => ?_)
    refine q_iconst (v := 0) dX12_uses_17 (by decide) ?_
    exact q_iret rfl (by decide) (by decide) dX12_uses_18 hF
def m_X12_assigns : qm := (RX12, cX12_assigns, 7, (some .int), [], false)
set_option maxRecDepth 100000 in
set_option maxHeartbeats 4000000 in
theorem x_X12_assigns (G : qG) (d : Nat)  (h : qh) (Q : qr → qh → Prop)  (hF : ∃ c1, h.R 43 22 = some c1 ∧ q_prg c1 ∧ (q_M0 G d yX12_is [.ref 43, .int 91] (h.sI 43 14 ((h.I 43 14) + 1)) (q_ri (fun r3 h2 => (¬ r3 = 0 → (q_M0 G d yX12_uses [.ref 43, .int (h.I 43 14), .int r3] h2 (q_ri (fun r5 h4 => q_M0 G d yX12_newStatement [.ref 43, .int (if r3 = 0 then (0 : Int32) else 1)] h4 (q_ri (fun r8 h7 => vp_in r8 2000 ∧ ((r3 = 0 → (q_M0 G d yX12_wants [.ref 43, .int 61] (h7.sI (c1 + 3) r8.toNatClampNeg r5) (q_rv (fun h10 => q_M0 G d yX12_expression [.ref 43] h10 (q_ri (fun r12 h11 => (r3 = 0 → (vp_in r8 2000 ∧ (q_M0 G d yX12_wants [.ref 43, .int 59] (h11.sI (c1 + 4) r8.toNatClampNeg r12) (q_rv (fun h14 => Q (.inl (some (.int r8))) h14) (fun E h => Q (.inr E) h))))) ∧ (¬ r3 = 0 → (vp_in r8 2000 ∧ (q_M0 G d yX12_wants [.ref 43, .int 59] (h11.sI (c1 + 5) r8.toNatClampNeg r12) (q_rv (fun h16 => Q (.inl (some (.int r8))) h16) (fun E h => Q (.inr E) h)))))) (fun E h => Q (.inr E) h))) (fun E h => Q (.inr E) h)))) ∧ (¬ r3 = 0 → (q_M0 G d yX12_opens [.ref 43, .int 91] (h7.sI (c1 + 3) r8.toNatClampNeg r5) (q_rv (fun h17 => q_M0 G d yX12_expression [.ref 43] h17 (q_ri (fun r19 h18 => vp_in r8 2000 ∧ (q_M0 G d yX12_closes [.ref 43, .int 93] (h18.sI (c1 + 4) r8.toNatClampNeg r19) (q_rv (fun h21 => q_M0 G d yX12_wants [.ref 43, .int 61] h21 (q_rv (fun h22 => q_M0 G d yX12_expression [.ref 43] h22 (q_ri (fun r24 h23 => (r3 = 0 → (vp_in r8 2000 ∧ (q_M0 G d yX12_wants [.ref 43, .int 59] (h23.sI (c1 + 4) r8.toNatClampNeg r24) (q_rv (fun h26 => Q (.inl (some (.int r8))) h26) (fun E h => Q (.inr E) h))))) ∧ (¬ r3 = 0 → (vp_in r8 2000 ∧ (q_M0 G d yX12_wants [.ref 43, .int 59] (h23.sI (c1 + 5) r8.toNatClampNeg r24) (q_rv (fun h28 => Q (.inl (some (.int r8))) h28) (fun E h => Q (.inr E) h)))))) (fun E h => Q (.inr E) h))) (fun E h => Q (.inr E) h))) (fun E h => Q (.inr E) h)))) (fun E h => Q (.inr E) h))) (fun E h => Q (.inr E) h)))))) (fun E h => Q (.inr E) h))) (fun E h => Q (.inr E) h)))) ∧ (r3 = 0 → (q_M0 G d yX12_is [.ref 43, .int 61] h2 (q_ri (fun r30 h29 => (¬ r30 = 0 → (q_M0 G d yX12_uses [.ref 43, .int (h.I 43 14), .int r3] h29 (q_ri (fun r32 h31 => q_M0 G d yX12_newStatement [.ref 43, .int (if r3 = 0 then (0 : Int32) else 1)] h31 (q_ri (fun r35 h34 => vp_in r35 2000 ∧ ((r3 = 0 → (q_M0 G d yX12_wants [.ref 43, .int 61] (h34.sI (c1 + 3) r35.toNatClampNeg r32) (q_rv (fun h37 => q_M0 G d yX12_expression [.ref 43] h37 (q_ri (fun r39 h38 => (r3 = 0 → (vp_in r35 2000 ∧ (q_M0 G d yX12_wants [.ref 43, .int 59] (h38.sI (c1 + 4) r35.toNatClampNeg r39) (q_rv (fun h41 => Q (.inl (some (.int r35))) h41) (fun E h => Q (.inr E) h))))) ∧ (¬ r3 = 0 → (vp_in r35 2000 ∧ (q_M0 G d yX12_wants [.ref 43, .int 59] (h38.sI (c1 + 5) r35.toNatClampNeg r39) (q_rv (fun h43 => Q (.inl (some (.int r35))) h43) (fun E h => Q (.inr E) h)))))) (fun E h => Q (.inr E) h))) (fun E h => Q (.inr E) h)))) ∧ (¬ r3 = 0 → (q_M0 G d yX12_opens [.ref 43, .int 91] (h34.sI (c1 + 3) r35.toNatClampNeg r32) (q_rv (fun h44 => q_M0 G d yX12_expression [.ref 43] h44 (q_ri (fun r46 h45 => vp_in r35 2000 ∧ (q_M0 G d yX12_closes [.ref 43, .int 93] (h45.sI (c1 + 4) r35.toNatClampNeg r46) (q_rv (fun h48 => q_M0 G d yX12_wants [.ref 43, .int 61] h48 (q_rv (fun h49 => q_M0 G d yX12_expression [.ref 43] h49 (q_ri (fun r51 h50 => (r3 = 0 → (vp_in r35 2000 ∧ (q_M0 G d yX12_wants [.ref 43, .int 59] (h50.sI (c1 + 4) r35.toNatClampNeg r51) (q_rv (fun h53 => Q (.inl (some (.int r35))) h53) (fun E h => Q (.inr E) h))))) ∧ (¬ r3 = 0 → (vp_in r35 2000 ∧ (q_M0 G d yX12_wants [.ref 43, .int 59] (h50.sI (c1 + 5) r35.toNatClampNeg r51) (q_rv (fun h55 => Q (.inl (some (.int r35))) h55) (fun E h => Q (.inr E) h)))))) (fun E h => Q (.inr E) h))) (fun E h => Q (.inr E) h))) (fun E h => Q (.inr E) h)))) (fun E h => Q (.inr E) h))) (fun E h => Q (.inr E) h)))))) (fun E h => Q (.inr E) h))) (fun E h => Q (.inr E) h)))) ∧ (r30 = 0 → (q_M0 G d yX12_refuse [.ref 43, .int 1] h29 (q_rv (fun h56 => q_M0 G d yX12_uses [.ref 43, .int (h.I 43 14), .int r3] h56 (q_ri (fun r58 h57 => q_M0 G d yX12_newStatement [.ref 43, .int (if r3 = 0 then (0 : Int32) else 1)] h57 (q_ri (fun r61 h60 => vp_in r61 2000 ∧ ((r3 = 0 → (q_M0 G d yX12_wants [.ref 43, .int 61] (h60.sI (c1 + 3) r61.toNatClampNeg r58) (q_rv (fun h63 => q_M0 G d yX12_expression [.ref 43] h63 (q_ri (fun r65 h64 => (r3 = 0 → (vp_in r61 2000 ∧ (q_M0 G d yX12_wants [.ref 43, .int 59] (h64.sI (c1 + 4) r61.toNatClampNeg r65) (q_rv (fun h67 => Q (.inl (some (.int r61))) h67) (fun E h => Q (.inr E) h))))) ∧ (¬ r3 = 0 → (vp_in r61 2000 ∧ (q_M0 G d yX12_wants [.ref 43, .int 59] (h64.sI (c1 + 5) r61.toNatClampNeg r65) (q_rv (fun h69 => Q (.inl (some (.int r61))) h69) (fun E h => Q (.inr E) h)))))) (fun E h => Q (.inr E) h))) (fun E h => Q (.inr E) h)))) ∧ (¬ r3 = 0 → (q_M0 G d yX12_opens [.ref 43, .int 91] (h60.sI (c1 + 3) r61.toNatClampNeg r58) (q_rv (fun h70 => q_M0 G d yX12_expression [.ref 43] h70 (q_ri (fun r72 h71 => vp_in r61 2000 ∧ (q_M0 G d yX12_closes [.ref 43, .int 93] (h71.sI (c1 + 4) r61.toNatClampNeg r72) (q_rv (fun h74 => q_M0 G d yX12_wants [.ref 43, .int 61] h74 (q_rv (fun h75 => q_M0 G d yX12_expression [.ref 43] h75 (q_ri (fun r77 h76 => (r3 = 0 → (vp_in r61 2000 ∧ (q_M0 G d yX12_wants [.ref 43, .int 59] (h76.sI (c1 + 4) r61.toNatClampNeg r77) (q_rv (fun h79 => Q (.inl (some (.int r61))) h79) (fun E h => Q (.inr E) h))))) ∧ (¬ r3 = 0 → (vp_in r61 2000 ∧ (q_M0 G d yX12_wants [.ref 43, .int 59] (h76.sI (c1 + 5) r61.toNatClampNeg r77) (q_rv (fun h81 => Q (.inl (some (.int r61))) h81) (fun E h => Q (.inr E) h)))))) (fun E h => Q (.inr E) h))) (fun E h => Q (.inr E) h))) (fun E h => Q (.inr E) h)))) (fun E h => Q (.inr E) h))) (fun E h => Q (.inr E) h)))))) (fun E h => Q (.inr E) h))) (fun E h => Q (.inr E) h))) (fun E h => Q (.inr E) h))))) (fun E h => Q (.inr E) h))))) (fun E h => Q (.inr E) h)))) : q_M0 G (d + 1) yX12_assigns [.ref 43] h Q := by
  refine q_of (M := m_X12_assigns) (by decide +kernel) rfl rfl cd_X12_assigns (by decide) (Nat.le_of_ble_eq_true rfl) ?_
  show q_N0 G m_X12_assigns (d + 1) Q 0 [.ref 43, .null, .null, .null, .null, .null, .null] [] h
  refine q_aload_n (i := 0) dX12_assigns_0 rfl rfl ?_
  obtain ⟨c1, hrc1, hc1, hF⟩ := hF
  refine q_getR (k := c1) 13 22 fl_X12_50 (by decide) rfl rfl hrc1 dX12_assigns_1 ?_
  refine q_astore_n (i := 1) dX12_assigns_4 rfl (by decide) rfl ?_
  refine q_aload_n (i := 0) dX12_assigns_5 rfl rfl ?_
  refine q_getIv (v := h.I 43 14) 13 14 fl_X12_156 (by decide) rfl rfl (rfl) dX12_assigns_6 ?_
  refine q_istore_n (i := 2) dX12_assigns_9 rfl (by decide) rfl ?_
  refine q_aload_n (i := 0) dX12_assigns_10 rfl rfl ?_
  refine q_dup dX12_assigns_11 rfl ?_
  refine q_getIv (v := h.I 43 14) 13 14 fl_X12_156 (by decide) rfl rfl (rfl) dX12_assigns_12 ?_
  refine q_iconst (v := 1) dX12_assigns_15 (by decide) ?_
  refine q_iadd dX12_assigns_16 ?_
  refine q_putI 13 14 fp_X12_156 (Or.inr ⟨_, _, _, rfl, rfl⟩) (by decide) rfl rfl dX12_assigns_17 ?_
  refine q_aload_n (i := 0) dX12_assigns_20 rfl rfl ?_
  refine q_bipush (v := 91) dX12_assigns_21 (by decide) ?_
  refine q_callVi (ci := 13) (o := 43) (As := [.int 91]) (st := []) cv_X12_168 ⟨_, _, rfl⟩ (by decide) rfl rfl (Nat.le_refl _) (Nat.le_of_ble_eq_true rfl) (by decide) dX12_assigns_23 rfl hF (fun r3 h2 hF => ?_)
  refine q_istore_n (i := 3) dX12_assigns_26 rfl (by decide) rfl ?_
  refine q_iload_n (i := 3) dX12_assigns_27 rfl rfl ?_
  refine q_if_ne (tgt := 45) dX12_assigns_28 (by decide) (fun hb => ?_) (fun hb => ?_)
  · have hF := hF.1 hb
    refine q_aload_n (i := 0) dX12_assigns_45 rfl rfl ?_
    refine q_iload_n (i := 2) dX12_assigns_46 rfl rfl ?_
    refine q_iload_n (i := 3) dX12_assigns_47 rfl rfl ?_
    refine q_callVi (ci := 13) (o := 43) (As := [.int (h.I 43 14), .int r3]) (st := []) cv_X12_282 ⟨_, _, rfl⟩ (by decide) rfl rfl (Nat.le_refl _) (Nat.le_of_ble_eq_true rfl) (by decide) dX12_assigns_48 rfl hF (fun r5 h4 hF => ?_)
    refine q_istore dX12_assigns_51 (by decide) rfl ?_
    refine q_aload_n (i := 0) dX12_assigns_53 rfl rfl ?_
    refine q_iload_n (i := 3) dX12_assigns_54 rfl rfl ?_
    have K6 := q_ite (c := r3 = 0) (X := fun v => q_N0 G m_X12_assigns (d + 1) Q 63 [.ref 43, .ref c1, .int (h.I 43 14), .int r3, .int r5, .null, .null] (.int v :: [.ref 43]) h4) (a := 0) (b := 1) (by
      refine q_callVi (ci := 13) (o := 43) (As := [.int (if r3 = 0 then (0 : Int32) else 1)]) (st := []) cv_X12_261 ⟨_, _, rfl⟩ (by decide) rfl rfl (Nat.le_refl _) (Nat.le_of_ble_eq_true rfl) (by decide) dX12_assigns_63 rfl hF (fun r8 h7 hF => ?_)
      refine q_istore dX12_assigns_66 (by decide) rfl ?_
      refine q_aload_n (i := 1) dX12_assigns_68 rfl rfl ?_
      refine q_getP 12 10 (c1 + 3) fl_X12_252 (q_prg_n hc1 0) (q_prg_K hc1) rfl (q_prg_P hc1 10) dX12_assigns_69 ?_
      refine q_iload dX12_assigns_72 rfl ?_
      refine q_iload dX12_assigns_74 rfl ?_
      obtain ⟨hi9, hF⟩ := hF
      refine q_iastore (n := 2000) (q_prg_n hc1 3) (q_prg_A hc1 10) hi9 dX12_assigns_76 ?_
      refine q_iload_n (i := 3) dX12_assigns_77 rfl rfl ?_
      refine q_if_eq (tgt := 104) dX12_assigns_78 (by decide) (fun hb => ?_) (fun hb => ?_)
      · have hF := hF.1 hb
        refine q_aload_n (i := 0) dX12_assigns_104 rfl rfl ?_
        refine q_bipush (v := 61) dX12_assigns_105 (by decide) ?_
        refine q_callVv (ci := 13) (o := 43) (As := [.int 61]) (st := []) cv_X12_180 ⟨_, _, rfl⟩ (by decide) rfl rfl (Nat.le_refl _) (Nat.le_of_ble_eq_true rfl) (by decide) dX12_assigns_107 rfl hF (fun h10 hF => ?_)
        refine q_aload_n (i := 0) dX12_assigns_110 rfl rfl ?_
        refine q_callVi (ci := 13) (o := 43) (As := []) (st := []) cv_X12_267 ⟨_, _, rfl⟩ (by decide) rfl rfl (Nat.le_refl _) (Nat.le_of_ble_eq_true rfl) (by decide) dX12_assigns_111 rfl hF (fun r12 h11 hF => ?_)
        refine q_istore dX12_assigns_114 (by decide) rfl ?_
        refine q_iload_n (i := 3) dX12_assigns_116 rfl rfl ?_
        refine q_if_eq (tgt := 132) dX12_assigns_117 (by decide) (fun hb => ?_) (fun hb => ?_)
        · have hF := hF.1 hb
          refine q_aload_n (i := 1) dX12_assigns_132 rfl rfl ?_
          refine q_getP 12 11 (c1 + 4) fl_X12_264 (q_prg_n hc1 0) (q_prg_K hc1) rfl (q_prg_P hc1 11) dX12_assigns_133 ?_
          refine q_iload dX12_assigns_136 rfl ?_
          refine q_iload dX12_assigns_138 rfl ?_
          obtain ⟨hi13, hF⟩ := hF
          refine q_iastore (n := 2000) (q_prg_n hc1 4) (q_prg_A hc1 11) hi13 dX12_assigns_140 ?_
          refine q_aload_n (i := 0) dX12_assigns_141 rfl rfl ?_
          refine q_bipush (v := 59) dX12_assigns_142 (by decide) ?_
          refine q_callVv (ci := 13) (o := 43) (As := [.int 59]) (st := []) cv_X12_180 ⟨_, _, rfl⟩ (by decide) rfl rfl (Nat.le_refl _) (Nat.le_of_ble_eq_true rfl) (by decide) dX12_assigns_144 rfl hF (fun h14 hF => ?_)
          refine q_iload dX12_assigns_147 rfl ?_
          exact q_iret rfl (by decide) (by decide) dX12_assigns_149 hF
        · have hF := hF.2 hb
          refine q_aload_n (i := 1) dX12_assigns_120 rfl rfl ?_
          refine q_getP 12 12 (c1 + 5) fl_X12_286 (q_prg_n hc1 0) (q_prg_K hc1) rfl (q_prg_P hc1 12) dX12_assigns_121 ?_
          refine q_iload dX12_assigns_124 rfl ?_
          refine q_iload dX12_assigns_126 rfl ?_
          obtain ⟨hi15, hF⟩ := hF
          refine q_iastore (n := 2000) (q_prg_n hc1 5) (q_prg_A hc1 12) hi15 dX12_assigns_128 ?_
          refine q_goto (tgt := 141) dX12_assigns_129 (by decide) ?_
          refine q_aload_n (i := 0) dX12_assigns_141 rfl rfl ?_
          refine q_bipush (v := 59) dX12_assigns_142 (by decide) ?_
          refine q_callVv (ci := 13) (o := 43) (As := [.int 59]) (st := []) cv_X12_180 ⟨_, _, rfl⟩ (by decide) rfl rfl (Nat.le_refl _) (Nat.le_of_ble_eq_true rfl) (by decide) dX12_assigns_144 rfl hF (fun h16 hF => ?_)
          refine q_iload dX12_assigns_147 rfl ?_
          exact q_iret rfl (by decide) (by decide) dX12_assigns_149 hF
      · have hF := hF.2 hb
        refine q_aload_n (i := 0) dX12_assigns_81 rfl rfl ?_
        refine q_bipush (v := 91) dX12_assigns_82 (by decide) ?_
        refine q_callVv (ci := 13) (o := 43) (As := [.int 91]) (st := []) cv_X12_209 ⟨_, _, rfl⟩ (by decide) rfl rfl (Nat.le_refl _) (Nat.le_of_ble_eq_true rfl) (by decide) dX12_assigns_84 rfl hF (fun h17 hF => ?_)
        refine q_aload_n (i := 1) dX12_assigns_87 rfl rfl ?_
        refine q_getP 12 11 (c1 + 4) fl_X12_264 (q_prg_n hc1 0) (q_prg_K hc1) rfl (q_prg_P hc1 11) dX12_assigns_88 ?_
        refine q_iload dX12_assigns_91 rfl ?_
        refine q_aload_n (i := 0) dX12_assigns_93 rfl rfl ?_
        refine q_callVi (ci := 13) (o := 43) (As := []) (st := [.int r8, .ref (c1 + 4)]) cv_X12_267 ⟨_, _, rfl⟩ (by decide) rfl rfl (Nat.le_refl _) (Nat.le_of_ble_eq_true rfl) (by decide) dX12_assigns_94 rfl hF (fun r19 h18 hF => ?_)
        obtain ⟨hi20, hF⟩ := hF
        refine q_iastore (n := 2000) (q_prg_n hc1 4) (q_prg_A hc1 11) hi20 dX12_assigns_97 ?_
        refine q_aload_n (i := 0) dX12_assigns_98 rfl rfl ?_
        refine q_bipush (v := 93) dX12_assigns_99 (by decide) ?_
        refine q_callVv (ci := 13) (o := 43) (As := [.int 93]) (st := []) cv_X12_215 ⟨_, _, rfl⟩ (by decide) rfl rfl (Nat.le_refl _) (Nat.le_of_ble_eq_true rfl) (by decide) dX12_assigns_101 rfl hF (fun h21 hF => ?_)
        refine q_aload_n (i := 0) dX12_assigns_104 rfl rfl ?_
        refine q_bipush (v := 61) dX12_assigns_105 (by decide) ?_
        refine q_callVv (ci := 13) (o := 43) (As := [.int 61]) (st := []) cv_X12_180 ⟨_, _, rfl⟩ (by decide) rfl rfl (Nat.le_refl _) (Nat.le_of_ble_eq_true rfl) (by decide) dX12_assigns_107 rfl hF (fun h22 hF => ?_)
        refine q_aload_n (i := 0) dX12_assigns_110 rfl rfl ?_
        refine q_callVi (ci := 13) (o := 43) (As := []) (st := []) cv_X12_267 ⟨_, _, rfl⟩ (by decide) rfl rfl (Nat.le_refl _) (Nat.le_of_ble_eq_true rfl) (by decide) dX12_assigns_111 rfl hF (fun r24 h23 hF => ?_)
        refine q_istore dX12_assigns_114 (by decide) rfl ?_
        refine q_iload_n (i := 3) dX12_assigns_116 rfl rfl ?_
        refine q_if_eq (tgt := 132) dX12_assigns_117 (by decide) (fun hb => ?_) (fun hb => ?_)
        · have hF := hF.1 hb
          refine q_aload_n (i := 1) dX12_assigns_132 rfl rfl ?_
          refine q_getP 12 11 (c1 + 4) fl_X12_264 (q_prg_n hc1 0) (q_prg_K hc1) rfl (q_prg_P hc1 11) dX12_assigns_133 ?_
          refine q_iload dX12_assigns_136 rfl ?_
          refine q_iload dX12_assigns_138 rfl ?_
          obtain ⟨hi25, hF⟩ := hF
          refine q_iastore (n := 2000) (q_prg_n hc1 4) (q_prg_A hc1 11) hi25 dX12_assigns_140 ?_
          refine q_aload_n (i := 0) dX12_assigns_141 rfl rfl ?_
          refine q_bipush (v := 59) dX12_assigns_142 (by decide) ?_
          refine q_callVv (ci := 13) (o := 43) (As := [.int 59]) (st := []) cv_X12_180 ⟨_, _, rfl⟩ (by decide) rfl rfl (Nat.le_refl _) (Nat.le_of_ble_eq_true rfl) (by decide) dX12_assigns_144 rfl hF (fun h26 hF => ?_)
          refine q_iload dX12_assigns_147 rfl ?_
          exact q_iret rfl (by decide) (by decide) dX12_assigns_149 hF
        · have hF := hF.2 hb
          refine q_aload_n (i := 1) dX12_assigns_120 rfl rfl ?_
          refine q_getP 12 12 (c1 + 5) fl_X12_286 (q_prg_n hc1 0) (q_prg_K hc1) rfl (q_prg_P hc1 12) dX12_assigns_121 ?_
          refine q_iload dX12_assigns_124 rfl ?_
          refine q_iload dX12_assigns_126 rfl ?_
          obtain ⟨hi27, hF⟩ := hF
          refine q_iastore (n := 2000) (q_prg_n hc1 5) (q_prg_A hc1 12) hi27 dX12_assigns_128 ?_
          refine q_goto (tgt := 141) dX12_assigns_129 (by decide) ?_
          refine q_aload_n (i := 0) dX12_assigns_141 rfl rfl ?_
          refine q_bipush (v := 59) dX12_assigns_142 (by decide) ?_
          refine q_callVv (ci := 13) (o := 43) (As := [.int 59]) (st := []) cv_X12_180 ⟨_, _, rfl⟩ (by decide) rfl rfl (Nat.le_refl _) (Nat.le_of_ble_eq_true rfl) (by decide) dX12_assigns_144 rfl hF (fun h28 hF => ?_)
          refine q_iload dX12_assigns_147 rfl ?_
          exact q_iret rfl (by decide) (by decide) dX12_assigns_149 hF)
    refine q_if_eq (tgt := 62) dX12_assigns_55 (by decide) (fun hb => ?_) (fun hb => ?_)
    · refine q_iconst (v := 0) dX12_assigns_62 (by decide) ?_
      exact K6.1 hb
    · refine q_iconst (v := 1) dX12_assigns_58 (by decide) ?_
      refine q_goto (tgt := 63) dX12_assigns_59 (by decide) ?_
      exact K6.2 hb
  · have hF := hF.2 hb
    refine q_aload_n (i := 0) dX12_assigns_31 rfl rfl ?_
    refine q_bipush (v := 61) dX12_assigns_32 (by decide) ?_
    refine q_callVi (ci := 13) (o := 43) (As := [.int 61]) (st := []) cv_X12_168 ⟨_, _, rfl⟩ (by decide) rfl rfl (Nat.le_refl _) (Nat.le_of_ble_eq_true rfl) (by decide) dX12_assigns_34 rfl hF (fun r30 h29 hF => ?_)
    refine q_if_ne (tgt := 45) dX12_assigns_37 (by decide) (fun hb => ?_) (fun hb => ?_)
    · have hF := hF.1 hb
      refine q_aload_n (i := 0) dX12_assigns_45 rfl rfl ?_
      refine q_iload_n (i := 2) dX12_assigns_46 rfl rfl ?_
      refine q_iload_n (i := 3) dX12_assigns_47 rfl rfl ?_
      refine q_callVi (ci := 13) (o := 43) (As := [.int (h.I 43 14), .int r3]) (st := []) cv_X12_282 ⟨_, _, rfl⟩ (by decide) rfl rfl (Nat.le_refl _) (Nat.le_of_ble_eq_true rfl) (by decide) dX12_assigns_48 rfl hF (fun r32 h31 hF => ?_)
      refine q_istore dX12_assigns_51 (by decide) rfl ?_
      refine q_aload_n (i := 0) dX12_assigns_53 rfl rfl ?_
      refine q_iload_n (i := 3) dX12_assigns_54 rfl rfl ?_
      have K33 := q_ite (c := r3 = 0) (X := fun v => q_N0 G m_X12_assigns (d + 1) Q 63 [.ref 43, .ref c1, .int (h.I 43 14), .int r3, .int r32, .null, .null] (.int v :: [.ref 43]) h31) (a := 0) (b := 1) (by
        refine q_callVi (ci := 13) (o := 43) (As := [.int (if r3 = 0 then (0 : Int32) else 1)]) (st := []) cv_X12_261 ⟨_, _, rfl⟩ (by decide) rfl rfl (Nat.le_refl _) (Nat.le_of_ble_eq_true rfl) (by decide) dX12_assigns_63 rfl hF (fun r35 h34 hF => ?_)
        refine q_istore dX12_assigns_66 (by decide) rfl ?_
        refine q_aload_n (i := 1) dX12_assigns_68 rfl rfl ?_
        refine q_getP 12 10 (c1 + 3) fl_X12_252 (q_prg_n hc1 0) (q_prg_K hc1) rfl (q_prg_P hc1 10) dX12_assigns_69 ?_
        refine q_iload dX12_assigns_72 rfl ?_
        refine q_iload dX12_assigns_74 rfl ?_
        obtain ⟨hi36, hF⟩ := hF
        refine q_iastore (n := 2000) (q_prg_n hc1 3) (q_prg_A hc1 10) hi36 dX12_assigns_76 ?_
        refine q_iload_n (i := 3) dX12_assigns_77 rfl rfl ?_
        refine q_if_eq (tgt := 104) dX12_assigns_78 (by decide) (fun hb => ?_) (fun hb => ?_)
        · have hF := hF.1 hb
          refine q_aload_n (i := 0) dX12_assigns_104 rfl rfl ?_
          refine q_bipush (v := 61) dX12_assigns_105 (by decide) ?_
          refine q_callVv (ci := 13) (o := 43) (As := [.int 61]) (st := []) cv_X12_180 ⟨_, _, rfl⟩ (by decide) rfl rfl (Nat.le_refl _) (Nat.le_of_ble_eq_true rfl) (by decide) dX12_assigns_107 rfl hF (fun h37 hF => ?_)
          refine q_aload_n (i := 0) dX12_assigns_110 rfl rfl ?_
          refine q_callVi (ci := 13) (o := 43) (As := []) (st := []) cv_X12_267 ⟨_, _, rfl⟩ (by decide) rfl rfl (Nat.le_refl _) (Nat.le_of_ble_eq_true rfl) (by decide) dX12_assigns_111 rfl hF (fun r39 h38 hF => ?_)
          refine q_istore dX12_assigns_114 (by decide) rfl ?_
          refine q_iload_n (i := 3) dX12_assigns_116 rfl rfl ?_
          refine q_if_eq (tgt := 132) dX12_assigns_117 (by decide) (fun hb => ?_) (fun hb => ?_)
          · have hF := hF.1 hb
            refine q_aload_n (i := 1) dX12_assigns_132 rfl rfl ?_
            refine q_getP 12 11 (c1 + 4) fl_X12_264 (q_prg_n hc1 0) (q_prg_K hc1) rfl (q_prg_P hc1 11) dX12_assigns_133 ?_
            refine q_iload dX12_assigns_136 rfl ?_
            refine q_iload dX12_assigns_138 rfl ?_
            obtain ⟨hi40, hF⟩ := hF
            refine q_iastore (n := 2000) (q_prg_n hc1 4) (q_prg_A hc1 11) hi40 dX12_assigns_140 ?_
            refine q_aload_n (i := 0) dX12_assigns_141 rfl rfl ?_
            refine q_bipush (v := 59) dX12_assigns_142 (by decide) ?_
            refine q_callVv (ci := 13) (o := 43) (As := [.int 59]) (st := []) cv_X12_180 ⟨_, _, rfl⟩ (by decide) rfl rfl (Nat.le_refl _) (Nat.le_of_ble_eq_true rfl) (by decide) dX12_assigns_144 rfl hF (fun h41 hF => ?_)
            refine q_iload dX12_assigns_147 rfl ?_
            exact q_iret rfl (by decide) (by decide) dX12_assigns_149 hF
          · have hF := hF.2 hb
            refine q_aload_n (i := 1) dX12_assigns_120 rfl rfl ?_
            refine q_getP 12 12 (c1 + 5) fl_X12_286 (q_prg_n hc1 0) (q_prg_K hc1) rfl (q_prg_P hc1 12) dX12_assigns_121 ?_
            refine q_iload dX12_assigns_124 rfl ?_
            refine q_iload dX12_assigns_126 rfl ?_
            obtain ⟨hi42, hF⟩ := hF
            refine q_iastore (n := 2000) (q_prg_n hc1 5) (q_prg_A hc1 12) hi42 dX12_assigns_128 ?_
            refine q_goto (tgt := 141) dX12_assigns_129 (by decide) ?_
            refine q_aload_n (i := 0) dX12_assigns_141 rfl rfl ?_
            refine q_bipush (v := 59) dX12_assigns_142 (by decide) ?_
            refine q_callVv (ci := 13) (o := 43) (As := [.int 59]) (st := []) cv_X12_180 ⟨_, _, rfl⟩ (by decide) rfl rfl (Nat.le_refl _) (Nat.le_of_ble_eq_true rfl) (by decide) dX12_assigns_144 rfl hF (fun h43 hF => ?_)
            refine q_iload dX12_assigns_147 rfl ?_
            exact q_iret rfl (by decide) (by decide) dX12_assigns_149 hF
        · have hF := hF.2 hb
          refine q_aload_n (i := 0) dX12_assigns_81 rfl rfl ?_
          refine q_bipush (v := 91) dX12_assigns_82 (by decide) ?_
          refine q_callVv (ci := 13) (o := 43) (As := [.int 91]) (st := []) cv_X12_209 ⟨_, _, rfl⟩ (by decide) rfl rfl (Nat.le_refl _) (Nat.le_of_ble_eq_true rfl) (by decide) dX12_assigns_84 rfl hF (fun h44 hF => ?_)
          refine q_aload_n (i := 1) dX12_assigns_87 rfl rfl ?_
          refine q_getP 12 11 (c1 + 4) fl_X12_264 (q_prg_n hc1 0) (q_prg_K hc1) rfl (q_prg_P hc1 11) dX12_assigns_88 ?_
          refine q_iload dX12_assigns_91 rfl ?_
          refine q_aload_n (i := 0) dX12_assigns_93 rfl rfl ?_
          refine q_callVi (ci := 13) (o := 43) (As := []) (st := [.int r35, .ref (c1 + 4)]) cv_X12_267 ⟨_, _, rfl⟩ (by decide) rfl rfl (Nat.le_refl _) (Nat.le_of_ble_eq_true rfl) (by decide) dX12_assigns_94 rfl hF (fun r46 h45 hF => ?_)
          obtain ⟨hi47, hF⟩ := hF
          refine q_iastore (n := 2000) (q_prg_n hc1 4) (q_prg_A hc1 11) hi47 dX12_assigns_97 ?_
          refine q_aload_n (i := 0) dX12_assigns_98 rfl rfl ?_
          refine q_bipush (v := 93) dX12_assigns_99 (by decide) ?_
          refine q_callVv (ci := 13) (o := 43) (As := [.int 93]) (st := []) cv_X12_215 ⟨_, _, rfl⟩ (by decide) rfl rfl (Nat.le_refl _) (Nat.le_of_ble_eq_true rfl) (by decide) dX12_assigns_101 rfl hF (fun h48 hF => ?_)
          refine q_aload_n (i := 0) dX12_assigns_104 rfl rfl ?_
          refine q_bipush (v := 61) dX12_assigns_105 (by decide) ?_
          refine q_callVv (ci := 13) (o := 43) (As := [.int 61]) (st := []) cv_X12_180 ⟨_, _, rfl⟩ (by decide) rfl rfl (Nat.le_refl _) (Nat.le_of_ble_eq_true rfl) (by decide) dX12_assigns_107 rfl hF (fun h49 hF => ?_)
          refine q_aload_n (i := 0) dX12_assigns_110 rfl rfl ?_
          refine q_callVi (ci := 13) (o := 43) (As := []) (st := []) cv_X12_267 ⟨_, _, rfl⟩ (by decide) rfl rfl (Nat.le_refl _) (Nat.le_of_ble_eq_true rfl) (by decide) dX12_assigns_111 rfl hF (fun r51 h50 hF => ?_)
          refine q_istore dX12_assigns_114 (by decide) rfl ?_
          refine q_iload_n (i := 3) dX12_assigns_116 rfl rfl ?_
          refine q_if_eq (tgt := 132) dX12_assigns_117 (by decide) (fun hb => ?_) (fun hb => ?_)
          · have hF := hF.1 hb
            refine q_aload_n (i := 1) dX12_assigns_132 rfl rfl ?_
            refine q_getP 12 11 (c1 + 4) fl_X12_264 (q_prg_n hc1 0) (q_prg_K hc1) rfl (q_prg_P hc1 11) dX12_assigns_133 ?_
            refine q_iload dX12_assigns_136 rfl ?_
            refine q_iload dX12_assigns_138 rfl ?_
            obtain ⟨hi52, hF⟩ := hF
            refine q_iastore (n := 2000) (q_prg_n hc1 4) (q_prg_A hc1 11) hi52 dX12_assigns_140 ?_
            refine q_aload_n (i := 0) dX12_assigns_141 rfl rfl ?_
            refine q_bipush (v := 59) dX12_assigns_142 (by decide) ?_
            refine q_callVv (ci := 13) (o := 43) (As := [.int 59]) (st := []) cv_X12_180 ⟨_, _, rfl⟩ (by decide) rfl rfl (Nat.le_refl _) (Nat.le_of_ble_eq_true rfl) (by decide) dX12_assigns_144 rfl hF (fun h53 hF => ?_)
            refine q_iload dX12_assigns_147 rfl ?_
            exact q_iret rfl (by decide) (by decide) dX12_assigns_149 hF
          · have hF := hF.2 hb
            refine q_aload_n (i := 1) dX12_assigns_120 rfl rfl ?_
            refine q_getP 12 12 (c1 + 5) fl_X12_286 (q_prg_n hc1 0) (q_prg_K hc1) rfl (q_prg_P hc1 12) dX12_assigns_121 ?_
            refine q_iload dX12_assigns_124 rfl ?_
            refine q_iload dX12_assigns_126 rfl ?_
            obtain ⟨hi54, hF⟩ := hF
            refine q_iastore (n := 2000) (q_prg_n hc1 5) (q_prg_A hc1 12) hi54 dX12_assigns_128 ?_
            refine q_goto (tgt := 141) dX12_assigns_129 (by decide) ?_
            refine q_aload_n (i := 0) dX12_assigns_141 rfl rfl ?_
            refine q_bipush (v := 59) dX12_assigns_142 (by decide) ?_
            refine q_callVv (ci := 13) (o := 43) (As := [.int 59]) (st := []) cv_X12_180 ⟨_, _, rfl⟩ (by decide) rfl rfl (Nat.le_refl _) (Nat.le_of_ble_eq_true rfl) (by decide) dX12_assigns_144 rfl hF (fun h55 hF => ?_)
            refine q_iload dX12_assigns_147 rfl ?_
            exact q_iret rfl (by decide) (by decide) dX12_assigns_149 hF)
      refine q_if_eq (tgt := 62) dX12_assigns_55 (by decide) (fun hb => ?_) (fun hb => ?_)
      · refine q_iconst (v := 0) dX12_assigns_62 (by decide) ?_
        exact K33.1 hb
      · refine q_iconst (v := 1) dX12_assigns_58 (by decide) ?_
        refine q_goto (tgt := 63) dX12_assigns_59 (by decide) ?_
        exact K33.2 hb
    · have hF := hF.2 hb
      refine q_aload_n (i := 0) dX12_assigns_40 rfl rfl ?_
      refine q_iconst (v := 1) dX12_assigns_41 (by decide) ?_
      refine q_callVv (ci := 13) (o := 43) (As := [.int 1]) (st := []) cv_X12_171 ⟨_, _, rfl⟩ (by decide) rfl rfl (Nat.le_refl _) (Nat.le_of_ble_eq_true rfl) (by decide) dX12_assigns_42 rfl hF (fun h56 hF => ?_)
      refine q_aload_n (i := 0) dX12_assigns_45 rfl rfl ?_
      refine q_iload_n (i := 2) dX12_assigns_46 rfl rfl ?_
      refine q_iload_n (i := 3) dX12_assigns_47 rfl rfl ?_
      refine q_callVi (ci := 13) (o := 43) (As := [.int (h.I 43 14), .int r3]) (st := []) cv_X12_282 ⟨_, _, rfl⟩ (by decide) rfl rfl (Nat.le_refl _) (Nat.le_of_ble_eq_true rfl) (by decide) dX12_assigns_48 rfl hF (fun r58 h57 hF => ?_)
      refine q_istore dX12_assigns_51 (by decide) rfl ?_
      refine q_aload_n (i := 0) dX12_assigns_53 rfl rfl ?_
      refine q_iload_n (i := 3) dX12_assigns_54 rfl rfl ?_
      have K59 := q_ite (c := r3 = 0) (X := fun v => q_N0 G m_X12_assigns (d + 1) Q 63 [.ref 43, .ref c1, .int (h.I 43 14), .int r3, .int r58, .null, .null] (.int v :: [.ref 43]) h57) (a := 0) (b := 1) (by
        refine q_callVi (ci := 13) (o := 43) (As := [.int (if r3 = 0 then (0 : Int32) else 1)]) (st := []) cv_X12_261 ⟨_, _, rfl⟩ (by decide) rfl rfl (Nat.le_refl _) (Nat.le_of_ble_eq_true rfl) (by decide) dX12_assigns_63 rfl hF (fun r61 h60 hF => ?_)
        refine q_istore dX12_assigns_66 (by decide) rfl ?_
        refine q_aload_n (i := 1) dX12_assigns_68 rfl rfl ?_
        refine q_getP 12 10 (c1 + 3) fl_X12_252 (q_prg_n hc1 0) (q_prg_K hc1) rfl (q_prg_P hc1 10) dX12_assigns_69 ?_
        refine q_iload dX12_assigns_72 rfl ?_
        refine q_iload dX12_assigns_74 rfl ?_
        obtain ⟨hi62, hF⟩ := hF
        refine q_iastore (n := 2000) (q_prg_n hc1 3) (q_prg_A hc1 10) hi62 dX12_assigns_76 ?_
        refine q_iload_n (i := 3) dX12_assigns_77 rfl rfl ?_
        refine q_if_eq (tgt := 104) dX12_assigns_78 (by decide) (fun hb => ?_) (fun hb => ?_)
        · have hF := hF.1 hb
          refine q_aload_n (i := 0) dX12_assigns_104 rfl rfl ?_
          refine q_bipush (v := 61) dX12_assigns_105 (by decide) ?_
          refine q_callVv (ci := 13) (o := 43) (As := [.int 61]) (st := []) cv_X12_180 ⟨_, _, rfl⟩ (by decide) rfl rfl (Nat.le_refl _) (Nat.le_of_ble_eq_true rfl) (by decide) dX12_assigns_107 rfl hF (fun h63 hF => ?_)
          refine q_aload_n (i := 0) dX12_assigns_110 rfl rfl ?_
          refine q_callVi (ci := 13) (o := 43) (As := []) (st := []) cv_X12_267 ⟨_, _, rfl⟩ (by decide) rfl rfl (Nat.le_refl _) (Nat.le_of_ble_eq_true rfl) (by decide) dX12_assigns_111 rfl hF (fun r65 h64 hF => ?_)
          refine q_istore dX12_assigns_114 (by decide) rfl ?_
          refine q_iload_n (i := 3) dX12_assigns_116 rfl rfl ?_
          refine q_if_eq (tgt := 132) dX12_assigns_117 (by decide) (fun hb => ?_) (fun hb => ?_)
          · have hF := hF.1 hb
            refine q_aload_n (i := 1) dX12_assigns_132 rfl rfl ?_
            refine q_getP 12 11 (c1 + 4) fl_X12_264 (q_prg_n hc1 0) (q_prg_K hc1) rfl (q_prg_P hc1 11) dX12_assigns_133 ?_
            refine q_iload dX12_assigns_136 rfl ?_
            refine q_iload dX12_assigns_138 rfl ?_
            obtain ⟨hi66, hF⟩ := hF
            refine q_iastore (n := 2000) (q_prg_n hc1 4) (q_prg_A hc1 11) hi66 dX12_assigns_140 ?_
            refine q_aload_n (i := 0) dX12_assigns_141 rfl rfl ?_
            refine q_bipush (v := 59) dX12_assigns_142 (by decide) ?_
            refine q_callVv (ci := 13) (o := 43) (As := [.int 59]) (st := []) cv_X12_180 ⟨_, _, rfl⟩ (by decide) rfl rfl (Nat.le_refl _) (Nat.le_of_ble_eq_true rfl) (by decide) dX12_assigns_144 rfl hF (fun h67 hF => ?_)
            refine q_iload dX12_assigns_147 rfl ?_
            exact q_iret rfl (by decide) (by decide) dX12_assigns_149 hF
          · have hF := hF.2 hb
            refine q_aload_n (i := 1) dX12_assigns_120 rfl rfl ?_
            refine q_getP 12 12 (c1 + 5) fl_X12_286 (q_prg_n hc1 0) (q_prg_K hc1) rfl (q_prg_P hc1 12) dX12_assigns_121 ?_
            refine q_iload dX12_assigns_124 rfl ?_
            refine q_iload dX12_assigns_126 rfl ?_
            obtain ⟨hi68, hF⟩ := hF
            refine q_iastore (n := 2000) (q_prg_n hc1 5) (q_prg_A hc1 12) hi68 dX12_assigns_128 ?_
            refine q_goto (tgt := 141) dX12_assigns_129 (by decide) ?_
            refine q_aload_n (i := 0) dX12_assigns_141 rfl rfl ?_
            refine q_bipush (v := 59) dX12_assigns_142 (by decide) ?_
            refine q_callVv (ci := 13) (o := 43) (As := [.int 59]) (st := []) cv_X12_180 ⟨_, _, rfl⟩ (by decide) rfl rfl (Nat.le_refl _) (Nat.le_of_ble_eq_true rfl) (by decide) dX12_assigns_144 rfl hF (fun h69 hF => ?_)
            refine q_iload dX12_assigns_147 rfl ?_
            exact q_iret rfl (by decide) (by decide) dX12_assigns_149 hF
        · have hF := hF.2 hb
          refine q_aload_n (i := 0) dX12_assigns_81 rfl rfl ?_
          refine q_bipush (v := 91) dX12_assigns_82 (by decide) ?_
          refine q_callVv (ci := 13) (o := 43) (As := [.int 91]) (st := []) cv_X12_209 ⟨_, _, rfl⟩ (by decide) rfl rfl (Nat.le_refl _) (Nat.le_of_ble_eq_true rfl) (by decide) dX12_assigns_84 rfl hF (fun h70 hF => ?_)
          refine q_aload_n (i := 1) dX12_assigns_87 rfl rfl ?_
          refine q_getP 12 11 (c1 + 4) fl_X12_264 (q_prg_n hc1 0) (q_prg_K hc1) rfl (q_prg_P hc1 11) dX12_assigns_88 ?_
          refine q_iload dX12_assigns_91 rfl ?_
          refine q_aload_n (i := 0) dX12_assigns_93 rfl rfl ?_
          refine q_callVi (ci := 13) (o := 43) (As := []) (st := [.int r61, .ref (c1 + 4)]) cv_X12_267 ⟨_, _, rfl⟩ (by decide) rfl rfl (Nat.le_refl _) (Nat.le_of_ble_eq_true rfl) (by decide) dX12_assigns_94 rfl hF (fun r72 h71 hF => ?_)
          obtain ⟨hi73, hF⟩ := hF
          refine q_iastore (n := 2000) (q_prg_n hc1 4) (q_prg_A hc1 11) hi73 dX12_assigns_97 ?_
          refine q_aload_n (i := 0) dX12_assigns_98 rfl rfl ?_
          refine q_bipush (v := 93) dX12_assigns_99 (by decide) ?_
          refine q_callVv (ci := 13) (o := 43) (As := [.int 93]) (st := []) cv_X12_215 ⟨_, _, rfl⟩ (by decide) rfl rfl (Nat.le_refl _) (Nat.le_of_ble_eq_true rfl) (by decide) dX12_assigns_101 rfl hF (fun h74 hF => ?_)
          refine q_aload_n (i := 0) dX12_assigns_104 rfl rfl ?_
          refine q_bipush (v := 61) dX12_assigns_105 (by decide) ?_
          refine q_callVv (ci := 13) (o := 43) (As := [.int 61]) (st := []) cv_X12_180 ⟨_, _, rfl⟩ (by decide) rfl rfl (Nat.le_refl _) (Nat.le_of_ble_eq_true rfl) (by decide) dX12_assigns_107 rfl hF (fun h75 hF => ?_)
          refine q_aload_n (i := 0) dX12_assigns_110 rfl rfl ?_
          refine q_callVi (ci := 13) (o := 43) (As := []) (st := []) cv_X12_267 ⟨_, _, rfl⟩ (by decide) rfl rfl (Nat.le_refl _) (Nat.le_of_ble_eq_true rfl) (by decide) dX12_assigns_111 rfl hF (fun r77 h76 hF => ?_)
          refine q_istore dX12_assigns_114 (by decide) rfl ?_
          refine q_iload_n (i := 3) dX12_assigns_116 rfl rfl ?_
          refine q_if_eq (tgt := 132) dX12_assigns_117 (by decide) (fun hb => ?_) (fun hb => ?_)
          · have hF := hF.1 hb
            refine q_aload_n (i := 1) dX12_assigns_132 rfl rfl ?_
            refine q_getP 12 11 (c1 + 4) fl_X12_264 (q_prg_n hc1 0) (q_prg_K hc1) rfl (q_prg_P hc1 11) dX12_assigns_133 ?_
            refine q_iload dX12_assigns_136 rfl ?_
            refine q_iload dX12_assigns_138 rfl ?_
            obtain ⟨hi78, hF⟩ := hF
            refine q_iastore (n := 2000) (q_prg_n hc1 4) (q_prg_A hc1 11) hi78 dX12_assigns_140 ?_
            refine q_aload_n (i := 0) dX12_assigns_141 rfl rfl ?_
            refine q_bipush (v := 59) dX12_assigns_142 (by decide) ?_
            refine q_callVv (ci := 13) (o := 43) (As := [.int 59]) (st := []) cv_X12_180 ⟨_, _, rfl⟩ (by decide) rfl rfl (Nat.le_refl _) (Nat.le_of_ble_eq_true rfl) (by decide) dX12_assigns_144 rfl hF (fun h79 hF => ?_)
            refine q_iload dX12_assigns_147 rfl ?_
            exact q_iret rfl (by decide) (by decide) dX12_assigns_149 hF
          · have hF := hF.2 hb
            refine q_aload_n (i := 1) dX12_assigns_120 rfl rfl ?_
            refine q_getP 12 12 (c1 + 5) fl_X12_286 (q_prg_n hc1 0) (q_prg_K hc1) rfl (q_prg_P hc1 12) dX12_assigns_121 ?_
            refine q_iload dX12_assigns_124 rfl ?_
            refine q_iload dX12_assigns_126 rfl ?_
            obtain ⟨hi80, hF⟩ := hF
            refine q_iastore (n := 2000) (q_prg_n hc1 5) (q_prg_A hc1 12) hi80 dX12_assigns_128 ?_
            refine q_goto (tgt := 141) dX12_assigns_129 (by decide) ?_
            refine q_aload_n (i := 0) dX12_assigns_141 rfl rfl ?_
            refine q_bipush (v := 59) dX12_assigns_142 (by decide) ?_
            refine q_callVv (ci := 13) (o := 43) (As := [.int 59]) (st := []) cv_X12_180 ⟨_, _, rfl⟩ (by decide) rfl rfl (Nat.le_refl _) (Nat.le_of_ble_eq_true rfl) (by decide) dX12_assigns_144 rfl hF (fun h81 hF => ?_)
            refine q_iload dX12_assigns_147 rfl ?_
            exact q_iret rfl (by decide) (by decide) dX12_assigns_149 hF)
      refine q_if_eq (tgt := 62) dX12_assigns_55 (by decide) (fun hb => ?_) (fun hb => ?_)
      · refine q_iconst (v := 0) dX12_assigns_62 (by decide) ?_
        exact K59.1 hb
      · refine q_iconst (v := 1) dX12_assigns_58 (by decide) ?_
        refine q_goto (tgt := 63) dX12_assigns_59 (by decide) ?_
        exact K59.2 hb
def m_X12_loop : qm := (RX12, cX12_loop, 2, none, [], false)
set_option maxRecDepth 100000 in
set_option maxHeartbeats 4000000 in
theorem x_X12_loop (G : qG) (d : Nat) (x1 : Int32) (h : qh) (Q : qr → qh → Prop)  (hF : ∃ c1, h.R 43 22 = some c1 ∧ q_prg c1 ∧ ((((h.I c1 3) + 1) ≤ 40 → (Q (.inl none) (h.sI c1 3 ((h.I c1 3) + 1)))) ∧ (¬ ((h.I c1 3) + 1) ≤ 40 → (q_M0 G d yX12_wrong [.ref 43, .int 6, .int x1] (h.sI c1 3 ((h.I c1 3) + 1)) (q_rv (fun h2 => Q (.inl none) h2) (fun E h => Q (.inr E) h)))))) : q_M0 G (d + 1) yX12_loop [.ref 43, .int x1] h Q := by
  refine q_of (M := m_X12_loop) (by decide +kernel) rfl rfl cd_X12_loop (by decide) (Nat.le_of_ble_eq_true rfl) ?_
  show q_N0 G m_X12_loop (d + 1) Q 0 [.ref 43, .int x1] [] h
  refine q_aload_n (i := 0) dX12_loop_0 rfl rfl ?_
  obtain ⟨c1, hrc1, hc1, hF⟩ := hF
  refine q_getR (k := c1) 13 22 fl_X12_50 (by decide) rfl rfl hrc1 dX12_loop_1 ?_
  refine q_dup dX12_loop_4 rfl ?_
  refine q_getIv (v := h.I c1 3) 12 3 fl_X12_289 (q_prg_n hc1 0) (q_prg_K hc1) rfl (rfl) dX12_loop_5 ?_
  refine q_iconst (v := 1) dX12_loop_8 (by decide) ?_
  refine q_iadd dX12_loop_9 ?_
  refine q_putI 12 3 fp_X12_289 (Or.inr ⟨_, _, _, rfl, rfl⟩) (q_prg_n hc1 0) (q_prg_K hc1) rfl dX12_loop_10 ?_
  refine q_aload_n (i := 0) dX12_loop_13 rfl rfl ?_
  refine q_getR (k := c1) 13 22 fl_X12_50 (by decide) rfl rfl hrc1 dX12_loop_14 ?_
  refine q_getIv (v := (h.I c1 3) + 1) 12 3 fl_X12_289 (q_prg_n hc1 0) (q_prg_K hc1) rfl (q_I_same _ _ _ _) dX12_loop_17 ?_
  refine q_bipush (v := 40) dX12_loop_20 (by decide) ?_
  refine q_icmp_le (tgt := 32) dX12_loop_22 (by decide) (fun hb => ?_) (fun hb => ?_)
  · have hF := hF.1 hb
    exact q_vret rfl (by decide) (by decide) dX12_loop_32 hF
  · have hF := hF.2 hb
    refine q_aload_n (i := 0) dX12_loop_25 rfl rfl ?_
    refine q_bipush (v := 6) dX12_loop_26 (by decide) ?_
    refine q_iload_n (i := 1) dX12_loop_28 rfl rfl ?_
    refine q_callVv (ci := 13) (o := 43) (As := [.int 6, .int x1]) (st := []) cv_X12_193 ⟨_, _, rfl⟩ (by decide) rfl rfl (Nat.le_refl _) (Nat.le_of_ble_eq_true rfl) (by decide) dX12_loop_29 rfl hF (fun h2 hF => ?_)
    exact q_vret rfl (by decide) (by decide) dX12_loop_32 hF
def m_X12_chooses : qm := (RX12, cX12_chooses, 4, (some .int), [], false)
set_option maxRecDepth 100000 in
set_option maxHeartbeats 4000000 in
theorem x_X12_chooses (G : qG) (d : Nat)  (h : qh) (Q : qr → qh → Prop)  (hF : ∃ c1, h.R 43 22 = some c1 ∧ q_prg c1 ∧ (q_M0 G d yX12_enters [.ref 43] h (q_rv (fun h2 => q_M0 G d yX12_loop [.ref 43, .int (h.I 43 14)] h2 (q_rv (fun h3 => q_M0 G d yX12_newStatement [.ref 43, .int 2] h3 (q_ri (fun r5 h4 => q_M0 G d yX12_opens [.ref 43, .int 40] h4 (q_rv (fun h6 => q_M0 G d yX12_expression [.ref 43] h6 (q_ri (fun r8 h7 => vp_in r5 2000 ∧ (q_M0 G d yX12_closes [.ref 43, .int 41] (h7.sI (c1 + 4) r5.toNatClampNeg r8) (q_rv (fun h10 => q_M0 G d yX12_within [.ref 43] h10 (q_ri (fun r12 h11 => vp_in r5 2000 ∧ (vp_in (h11.I 43 14) 2001 ∧ ((¬ (h11.I 47 ((h11.I 43 14).toNatClampNeg)) = 7 → (Q (.inl (some (.int r5))) ((h11.sI (c1 + 6) r5.toNatClampNeg r12).sI 43 15 ((h11.I 43 15) - 1)))) ∧ ((h11.I 47 ((h11.I 43 14).toNatClampNeg)) = 7 → (q_M0 G d yX12_within [.ref 43] ((h11.sI (c1 + 6) r5.toNatClampNeg r12).sI 43 14 ((h11.I 43 14) + 1)) (q_ri (fun r16 h15 => vp_in r5 2000 ∧ (Q (.inl (some (.int r5))) ((h15.sI (c1 + 7) r5.toNatClampNeg r16).sI 43 15 ((h15.I 43 15) - 1)))) (fun E h => Q (.inr E) h))))))) (fun E h => Q (.inr E) h))) (fun E h => Q (.inr E) h)))) (fun E h => Q (.inr E) h))) (fun E h => Q (.inr E) h))) (fun E h => Q (.inr E) h))) (fun E h => Q (.inr E) h))) (fun E h => Q (.inr E) h)))) : q_M0 G (d + 1) yX12_chooses [.ref 43] h Q := by
  refine q_of (M := m_X12_chooses) (by decide +kernel) rfl rfl cd_X12_chooses (by decide) (Nat.le_of_ble_eq_true rfl) ?_
  show q_N0 G m_X12_chooses (d + 1) Q 0 [.ref 43, .null, .null, .null] [] h
  refine q_aload_n (i := 0) dX12_chooses_0 rfl rfl ?_
  obtain ⟨c1, hrc1, hc1, hF⟩ := hF
  refine q_getR (k := c1) 13 22 fl_X12_50 (by decide) rfl rfl hrc1 dX12_chooses_1 ?_
  refine q_astore_n (i := 1) dX12_chooses_4 rfl (by decide) rfl ?_
  refine q_aload_n (i := 0) dX12_chooses_5 rfl rfl ?_
  refine q_getIv (v := h.I 43 14) 13 14 fl_X12_156 (by decide) rfl rfl (rfl) dX12_chooses_6 ?_
  refine q_istore_n (i := 2) dX12_chooses_9 rfl (by decide) rfl ?_
  refine q_aload_n (i := 0) dX12_chooses_10 rfl rfl ?_
  refine q_callVv (ci := 13) (o := 43) (As := []) (st := []) cv_X12_177 ⟨_, _, rfl⟩ (by decide) rfl rfl (Nat.le_refl _) (Nat.le_of_ble_eq_true rfl) (by decide) dX12_chooses_11 rfl hF (fun h2 hF => ?_)
  refine q_aload_n (i := 0) dX12_chooses_14 rfl rfl ?_
  refine q_iload_n (i := 2) dX12_chooses_15 rfl rfl ?_
  refine q_callVv (ci := 13) (o := 43) (As := [.int (h.I 43 14)]) (st := []) cv_X12_292 ⟨_, _, rfl⟩ (by decide) rfl rfl (Nat.le_refl _) (Nat.le_of_ble_eq_true rfl) (by decide) dX12_chooses_16 rfl hF (fun h3 hF => ?_)
  refine q_aload_n (i := 0) dX12_chooses_19 rfl rfl ?_
  refine q_iconst (v := 2) dX12_chooses_20 (by decide) ?_
  refine q_callVi (ci := 13) (o := 43) (As := [.int 2]) (st := []) cv_X12_261 ⟨_, _, rfl⟩ (by decide) rfl rfl (Nat.le_refl _) (Nat.le_of_ble_eq_true rfl) (by decide) dX12_chooses_21 rfl hF (fun r5 h4 hF => ?_)
  refine q_istore_n (i := 3) dX12_chooses_24 rfl (by decide) rfl ?_
  refine q_aload_n (i := 0) dX12_chooses_25 rfl rfl ?_
  refine q_bipush (v := 40) dX12_chooses_26 (by decide) ?_
  refine q_callVv (ci := 13) (o := 43) (As := [.int 40]) (st := []) cv_X12_209 ⟨_, _, rfl⟩ (by decide) rfl rfl (Nat.le_refl _) (Nat.le_of_ble_eq_true rfl) (by decide) dX12_chooses_28 rfl hF (fun h6 hF => ?_)
  refine q_aload_n (i := 1) dX12_chooses_31 rfl rfl ?_
  refine q_getP 12 11 (c1 + 4) fl_X12_264 (q_prg_n hc1 0) (q_prg_K hc1) rfl (q_prg_P hc1 11) dX12_chooses_32 ?_
  refine q_iload_n (i := 3) dX12_chooses_35 rfl rfl ?_
  refine q_aload_n (i := 0) dX12_chooses_36 rfl rfl ?_
  refine q_callVi (ci := 13) (o := 43) (As := []) (st := [.int r5, .ref (c1 + 4)]) cv_X12_267 ⟨_, _, rfl⟩ (by decide) rfl rfl (Nat.le_refl _) (Nat.le_of_ble_eq_true rfl) (by decide) dX12_chooses_37 rfl hF (fun r8 h7 hF => ?_)
  obtain ⟨hi9, hF⟩ := hF
  refine q_iastore (n := 2000) (q_prg_n hc1 4) (q_prg_A hc1 11) hi9 dX12_chooses_40 ?_
  refine q_aload_n (i := 0) dX12_chooses_41 rfl rfl ?_
  refine q_bipush (v := 41) dX12_chooses_42 (by decide) ?_
  refine q_callVv (ci := 13) (o := 43) (As := [.int 41]) (st := []) cv_X12_215 ⟨_, _, rfl⟩ (by decide) rfl rfl (Nat.le_refl _) (Nat.le_of_ble_eq_true rfl) (by decide) dX12_chooses_44 rfl hF (fun h10 hF => ?_)
  refine q_aload_n (i := 1) dX12_chooses_47 rfl rfl ?_
  refine q_getP 12 13 (c1 + 6) fl_X12_255 (q_prg_n hc1 0) (q_prg_K hc1) rfl (q_prg_P hc1 13) dX12_chooses_48 ?_
  refine q_iload_n (i := 3) dX12_chooses_51 rfl rfl ?_
  refine q_aload_n (i := 0) dX12_chooses_52 rfl rfl ?_
  refine q_callVi (ci := 13) (o := 43) (As := []) (st := [.int r5, .ref (c1 + 6)]) cv_X12_295 ⟨_, _, rfl⟩ (by decide) rfl rfl (Nat.le_refl _) (Nat.le_of_ble_eq_true rfl) (by decide) dX12_chooses_53 rfl hF (fun r12 h11 hF => ?_)
  obtain ⟨hi13, hF⟩ := hF
  refine q_iastore (n := 2000) (q_prg_n hc1 6) (q_prg_A hc1 13) hi13 dX12_chooses_56 ?_
  refine q_aload_n (i := 0) dX12_chooses_57 rfl rfl ?_
  refine q_getP 13 10 47 fl_X12_24 (by decide) rfl rfl rfl dX12_chooses_58 ?_
  refine q_aload_n (i := 0) dX12_chooses_61 rfl rfl ?_
  refine q_getIv (v := h11.I 43 14) 13 14 fl_X12_156 (by decide) rfl rfl ((q_I_neo (by rcases hc1 with rfl | rfl <;> decide)).trans (rfl)) dX12_chooses_62 ?_
  obtain ⟨hi14, hF⟩ := hF
  refine q_ialoadv (v := h11.I 47 ((h11.I 43 14).toNatClampNeg)) (n := 2001) (by decide) rfl hi14 ((q_I_neo (by rcases hc1 with rfl | rfl <;> decide)).trans (rfl)) dX12_chooses_65 ?_
  refine q_bipush (v := 7) dX12_chooses_66 (by decide) ?_
  refine q_icmp_ne (tgt := 91) dX12_chooses_68 (by decide) (fun hb => ?_) (fun hb => ?_)
  · have hF := hF.1 hb
    refine q_aload_n (i := 0) dX12_chooses_91 rfl rfl ?_
    refine q_dup dX12_chooses_92 rfl ?_
    refine q_getIv (v := h11.I 43 15) 13 15 fl_X12_174 (by decide) rfl rfl ((q_I_neo (by rcases hc1 with rfl | rfl <;> decide)).trans (rfl)) dX12_chooses_93 ?_
    refine q_iconst (v := 1) dX12_chooses_96 (by decide) ?_
    refine q_isub dX12_chooses_97 ?_
    refine q_putI 13 15 fp_X12_174 (Or.inr ⟨_, _, _, rfl, rfl⟩) (by decide) rfl rfl dX12_chooses_98 ?_
    refine q_iload_n (i := 3) dX12_chooses_101 rfl rfl ?_
    exact q_iret rfl (by decide) (by decide) dX12_chooses_102 hF
  · have hF := hF.2 hb
    refine q_aload_n (i := 0) dX12_chooses_71 rfl rfl ?_
    refine q_dup dX12_chooses_72 rfl ?_
    refine q_getIv (v := h11.I 43 14) 13 14 fl_X12_156 (by decide) rfl rfl ((q_I_neo (by rcases hc1 with rfl | rfl <;> decide)).trans (rfl)) dX12_chooses_73 ?_
    refine q_iconst (v := 1) dX12_chooses_76 (by decide) ?_
    refine q_iadd dX12_chooses_77 ?_
    refine q_putI 13 14 fp_X12_156 (Or.inr ⟨_, _, _, rfl, rfl⟩) (by decide) rfl rfl dX12_chooses_78 ?_
    refine q_aload_n (i := 1) dX12_chooses_81 rfl rfl ?_
    refine q_getP 12 14 (c1 + 7) fl_X12_258 (q_prg_n hc1 0) (q_prg_K hc1) rfl (q_prg_P hc1 14) dX12_chooses_82 ?_
    refine q_iload_n (i := 3) dX12_chooses_85 rfl rfl ?_
    refine q_aload_n (i := 0) dX12_chooses_86 rfl rfl ?_
    refine q_callVi (ci := 13) (o := 43) (As := []) (st := [.int r5, .ref (c1 + 7)]) cv_X12_295 ⟨_, _, rfl⟩ (by decide) rfl rfl (Nat.le_refl _) (Nat.le_of_ble_eq_true rfl) (by decide) dX12_chooses_87 rfl hF (fun r16 h15 hF => ?_)
    obtain ⟨hi17, hF⟩ := hF
    refine q_iastore (n := 2000) (q_prg_n hc1 7) (q_prg_A hc1 14) hi17 dX12_chooses_90 ?_
    refine q_aload_n (i := 0) dX12_chooses_91 rfl rfl ?_
    refine q_dup dX12_chooses_92 rfl ?_
    refine q_getIv (v := h15.I 43 15) 13 15 fl_X12_174 (by decide) rfl rfl ((q_I_neo (by rcases hc1 with rfl | rfl <;> decide)).trans (rfl)) dX12_chooses_93 ?_
    refine q_iconst (v := 1) dX12_chooses_96 (by decide) ?_
    refine q_isub dX12_chooses_97 ?_
    refine q_putI 13 15 fp_X12_174 (Or.inr ⟨_, _, _, rfl, rfl⟩) (by decide) rfl rfl dX12_chooses_98 ?_
    refine q_iload_n (i := 3) dX12_chooses_101 rfl rfl ?_
    exact q_iret rfl (by decide) (by decide) dX12_chooses_102 hF
def m_X12_repeats : qm := (RX12, cX12_repeats, 4, (some .int), [], false)
set_option maxRecDepth 100000 in
set_option maxHeartbeats 4000000 in
theorem x_X12_repeats (G : qG) (d : Nat)  (h : qh) (Q : qr → qh → Prop)  (hF : ∃ c1, h.R 43 22 = some c1 ∧ q_prg c1 ∧ (q_M0 G d yX12_enters [.ref 43] h (q_rv (fun h2 => q_M0 G d yX12_loop [.ref 43, .int (h.I 43 14)] h2 (q_rv (fun h3 => q_M0 G d yX12_newStatement [.ref 43, .int 3] h3 (q_ri (fun r5 h4 => q_M0 G d yX12_opens [.ref 43, .int 40] h4 (q_rv (fun h6 => q_M0 G d yX12_expression [.ref 43] h6 (q_ri (fun r8 h7 => vp_in r5 2000 ∧ (q_M0 G d yX12_closes [.ref 43, .int 41] (h7.sI (c1 + 4) r5.toNatClampNeg r8) (q_rv (fun h10 => q_M0 G d yX12_within [.ref 43] (h10.sI 43 40 ((h10.I 43 40) + 1)) (q_ri (fun r12 h11 => vp_in r5 2000 ∧ (Q (.inl (some (.int r5))) (((h11.sI (c1 + 6) r5.toNatClampNeg r12).sI 43 40 ((h11.I 43 40) - 1)).sI 43 15 ((h11.I 43 15) - 1)))) (fun E h => Q (.inr E) h))) (fun E h => Q (.inr E) h)))) (fun E h => Q (.inr E) h))) (fun E h => Q (.inr E) h))) (fun E h => Q (.inr E) h))) (fun E h => Q (.inr E) h))) (fun E h => Q (.inr E) h)))) : q_M0 G (d + 1) yX12_repeats [.ref 43] h Q := by
  refine q_of (M := m_X12_repeats) (by decide +kernel) rfl rfl cd_X12_repeats (by decide) (Nat.le_of_ble_eq_true rfl) ?_
  show q_N0 G m_X12_repeats (d + 1) Q 0 [.ref 43, .null, .null, .null] [] h
  refine q_aload_n (i := 0) dX12_repeats_0 rfl rfl ?_
  obtain ⟨c1, hrc1, hc1, hF⟩ := hF
  refine q_getR (k := c1) 13 22 fl_X12_50 (by decide) rfl rfl hrc1 dX12_repeats_1 ?_
  refine q_astore_n (i := 1) dX12_repeats_4 rfl (by decide) rfl ?_
  refine q_aload_n (i := 0) dX12_repeats_5 rfl rfl ?_
  refine q_getIv (v := h.I 43 14) 13 14 fl_X12_156 (by decide) rfl rfl (rfl) dX12_repeats_6 ?_
  refine q_istore_n (i := 2) dX12_repeats_9 rfl (by decide) rfl ?_
  refine q_aload_n (i := 0) dX12_repeats_10 rfl rfl ?_
  refine q_callVv (ci := 13) (o := 43) (As := []) (st := []) cv_X12_177 ⟨_, _, rfl⟩ (by decide) rfl rfl (Nat.le_refl _) (Nat.le_of_ble_eq_true rfl) (by decide) dX12_repeats_11 rfl hF (fun h2 hF => ?_)
  refine q_aload_n (i := 0) dX12_repeats_14 rfl rfl ?_
  refine q_iload_n (i := 2) dX12_repeats_15 rfl rfl ?_
  refine q_callVv (ci := 13) (o := 43) (As := [.int (h.I 43 14)]) (st := []) cv_X12_292 ⟨_, _, rfl⟩ (by decide) rfl rfl (Nat.le_refl _) (Nat.le_of_ble_eq_true rfl) (by decide) dX12_repeats_16 rfl hF (fun h3 hF => ?_)
  refine q_aload_n (i := 0) dX12_repeats_19 rfl rfl ?_
  refine q_iconst (v := 3) dX12_repeats_20 (by decide) ?_
  refine q_callVi (ci := 13) (o := 43) (As := [.int 3]) (st := []) cv_X12_261 ⟨_, _, rfl⟩ (by decide) rfl rfl (Nat.le_refl _) (Nat.le_of_ble_eq_true rfl) (by decide) dX12_repeats_21 rfl hF (fun r5 h4 hF => ?_)
  refine q_istore_n (i := 3) dX12_repeats_24 rfl (by decide) rfl ?_
  refine q_aload_n (i := 0) dX12_repeats_25 rfl rfl ?_
  refine q_bipush (v := 40) dX12_repeats_26 (by decide) ?_
  refine q_callVv (ci := 13) (o := 43) (As := [.int 40]) (st := []) cv_X12_209 ⟨_, _, rfl⟩ (by decide) rfl rfl (Nat.le_refl _) (Nat.le_of_ble_eq_true rfl) (by decide) dX12_repeats_28 rfl hF (fun h6 hF => ?_)
  refine q_aload_n (i := 1) dX12_repeats_31 rfl rfl ?_
  refine q_getP 12 11 (c1 + 4) fl_X12_264 (q_prg_n hc1 0) (q_prg_K hc1) rfl (q_prg_P hc1 11) dX12_repeats_32 ?_
  refine q_iload_n (i := 3) dX12_repeats_35 rfl rfl ?_
  refine q_aload_n (i := 0) dX12_repeats_36 rfl rfl ?_
  refine q_callVi (ci := 13) (o := 43) (As := []) (st := [.int r5, .ref (c1 + 4)]) cv_X12_267 ⟨_, _, rfl⟩ (by decide) rfl rfl (Nat.le_refl _) (Nat.le_of_ble_eq_true rfl) (by decide) dX12_repeats_37 rfl hF (fun r8 h7 hF => ?_)
  obtain ⟨hi9, hF⟩ := hF
  refine q_iastore (n := 2000) (q_prg_n hc1 4) (q_prg_A hc1 11) hi9 dX12_repeats_40 ?_
  refine q_aload_n (i := 0) dX12_repeats_41 rfl rfl ?_
  refine q_bipush (v := 41) dX12_repeats_42 (by decide) ?_
  refine q_callVv (ci := 13) (o := 43) (As := [.int 41]) (st := []) cv_X12_215 ⟨_, _, rfl⟩ (by decide) rfl rfl (Nat.le_refl _) (Nat.le_of_ble_eq_true rfl) (by decide) dX12_repeats_44 rfl hF (fun h10 hF => ?_)
  refine q_aload_n (i := 0) dX12_repeats_47 rfl rfl ?_
  refine q_dup dX12_repeats_48 rfl ?_
  refine q_getIv (v := h10.I 43 40) 13 40 fl_X12_279 (by decide) rfl rfl (rfl) dX12_repeats_49 ?_
  refine q_iconst (v := 1) dX12_repeats_52 (by decide) ?_
  refine q_iadd dX12_repeats_53 ?_
  refine q_putI 13 40 fp_X12_279 (Or.inr ⟨_, _, _, rfl, rfl⟩) (by decide) rfl rfl dX12_repeats_54 ?_
  refine q_aload_n (i := 1) dX12_repeats_57 rfl rfl ?_
  refine q_getP 12 13 (c1 + 6) fl_X12_255 (q_prg_n hc1 0) (q_prg_K hc1) rfl (q_prg_P hc1 13) dX12_repeats_58 ?_
  refine q_iload_n (i := 3) dX12_repeats_61 rfl rfl ?_
  refine q_aload_n (i := 0) dX12_repeats_62 rfl rfl ?_
  refine q_callVi (ci := 13) (o := 43) (As := []) (st := [.int r5, .ref (c1 + 6)]) cv_X12_295 ⟨_, _, rfl⟩ (by decide) rfl rfl (Nat.le_refl _) (Nat.le_of_ble_eq_true rfl) (by decide) dX12_repeats_63 rfl hF (fun r12 h11 hF => ?_)
  obtain ⟨hi13, hF⟩ := hF
  refine q_iastore (n := 2000) (q_prg_n hc1 6) (q_prg_A hc1 13) hi13 dX12_repeats_66 ?_
  refine q_aload_n (i := 0) dX12_repeats_67 rfl rfl ?_
  refine q_dup dX12_repeats_68 rfl ?_
  refine q_getIv (v := h11.I 43 40) 13 40 fl_X12_279 (by decide) rfl rfl ((q_I_neo (by rcases hc1 with rfl | rfl <;> decide)).trans (rfl)) dX12_repeats_69 ?_
  refine q_iconst (v := 1) dX12_repeats_72 (by decide) ?_
  refine q_isub dX12_repeats_73 ?_
  refine q_putI 13 40 fp_X12_279 (Or.inr ⟨_, _, _, rfl, rfl⟩) (by decide) rfl rfl dX12_repeats_74 ?_
  refine q_aload_n (i := 0) dX12_repeats_77 rfl rfl ?_
  refine q_dup dX12_repeats_78 rfl ?_
  refine q_getIv (v := h11.I 43 15) 13 15 fl_X12_174 (by decide) rfl rfl ((q_I_nek (by decide)).trans ( (q_I_neo (by rcases hc1 with rfl | rfl <;> decide)).trans (rfl))) dX12_repeats_79 ?_
  refine q_iconst (v := 1) dX12_repeats_82 (by decide) ?_
  refine q_isub dX12_repeats_83 ?_
  refine q_putI 13 15 fp_X12_174 (Or.inr ⟨_, _, _, rfl, rfl⟩) (by decide) rfl rfl dX12_repeats_84 ?_
  refine q_iload_n (i := 3) dX12_repeats_87 rfl rfl ?_
  exact q_iret rfl (by decide) (by decide) dX12_repeats_88 hF
def m_X12_expression : qm := (RX12, cX12_expression, 2, (some .int), [], false)
set_option maxRecDepth 100000 in
set_option maxHeartbeats 4000000 in
theorem x_X12_expression (G : qG) (d : Nat)  (h : qh) (Q : qr → qh → Prop)  (hF : ∃ c1, h.R 43 22 = some c1 ∧ q_prg c1 ∧ (q_M0 G d yX12_binary [.ref 43, .int 0] h (q_rv (fun h2 => ∃ c3, h2.R 43 42 = some c3 ∧ q_end c3 ∧ (∃ c4, h2.R 43 22 = some c4 ∧ q_prg c4 ∧ (vp_in (h.I c1 6) 2000 ∧ (Q (.inl (some (.int (h.I c1 6)))) (h2.sI c3 ((h.I c1 6).toNatClampNeg) (h2.I c4 6)))))) (fun E h => Q (.inr E) h)))) : q_M0 G (d + 1) yX12_expression [.ref 43] h Q := by
  refine q_of (M := m_X12_expression) (by decide +kernel) rfl rfl cd_X12_expression (by decide) (Nat.le_of_ble_eq_true rfl) ?_
  show q_N0 G m_X12_expression (d + 1) Q 0 [.ref 43, .null] [] h
  refine q_aload_n (i := 0) dX12_expression_0 rfl rfl ?_
  obtain ⟨c1, hrc1, hc1, hF⟩ := hF
  refine q_getR (k := c1) 13 22 fl_X12_50 (by decide) rfl rfl hrc1 dX12_expression_1 ?_
  refine q_getIv (v := h.I c1 6) 12 6 fl_X12_298 (q_prg_n hc1 0) (q_prg_K hc1) rfl (rfl) dX12_expression_4 ?_
  refine q_istore_n (i := 1) dX12_expression_7 rfl (by decide) rfl ?_
  refine q_aload_n (i := 0) dX12_expression_8 rfl rfl ?_
  refine q_iconst (v := 0) dX12_expression_9 (by decide) ?_
  refine q_callVv (ci := 13) (o := 43) (As := [.int 0]) (st := []) cv_X12_301 ⟨_, _, rfl⟩ (by decide) rfl rfl (Nat.le_refl _) (Nat.le_of_ble_eq_true rfl) (by decide) dX12_expression_10 rfl hF (fun h2 hF => ?_)
  refine q_aload_n (i := 0) dX12_expression_13 rfl rfl ?_
  obtain ⟨c3, hrc3, hc3, hF⟩ := hF
  refine q_getR (k := c3) 13 42 fl_X12_80 (by decide) rfl rfl hrc3 dX12_expression_14 ?_
  refine q_iload_n (i := 1) dX12_expression_17 rfl rfl ?_
  refine q_aload_n (i := 0) dX12_expression_18 rfl rfl ?_
  obtain ⟨c4, hrc4, hc4, hF⟩ := hF
  refine q_getR (k := c4) 13 22 fl_X12_50 (by decide) rfl rfl hrc4 dX12_expression_19 ?_
  refine q_getIv (v := h2.I c4 6) 12 6 fl_X12_298 (q_prg_n hc4 0) (q_prg_K hc4) rfl (rfl) dX12_expression_22 ?_
  obtain ⟨hi5, hF⟩ := hF
  refine q_iastore (n := 2000) (q_end_n hc3) (q_end_K hc3) hi5 dX12_expression_25 ?_
  refine q_iload_n (i := 1) dX12_expression_26 rfl rfl ?_
  exact q_iret rfl (by decide) (by decide) dX12_expression_27 hF
def m_X12_code : qm := (RX12, cX12_code, 3, none, [], false)
set_option maxRecDepth 100000 in
set_option maxHeartbeats 4000000 in
theorem x_X12_code (G : qG) (d : Nat) (x1 : Int32) (x2 : Int32) (h : qh) (Q : qr → qh → Prop)  (hF : ∃ c1, h.R 43 22 = some c1 ∧ q_prg c1 ∧ (vp_in (h.I c1 6) 2000 ∧ (vp_in (h.I c1 6) 2000 ∧ (Q (.inl none) (((h.sI (c1 + 9) ((h.I c1 6).toNatClampNeg) x1).sI (c1 + 10) ((h.I c1 6).toNatClampNeg) x2).sI c1 6 ((h.I c1 6) + 1)))))) : q_M0 G (d + 1) yX12_code [.ref 43, .int x1, .int x2] h Q := by
  refine q_of (M := m_X12_code) (by decide +kernel) rfl rfl cd_X12_code (by decide) (Nat.le_of_ble_eq_true rfl) ?_
  show q_N0 G m_X12_code (d + 1) Q 0 [.ref 43, .int x1, .int x2] [] h
  refine q_aload_n (i := 0) dX12_code_0 rfl rfl ?_
  obtain ⟨c1, hrc1, hc1, hF⟩ := hF
  refine q_getR (k := c1) 13 22 fl_X12_50 (by decide) rfl rfl hrc1 dX12_code_1 ?_
  refine q_getP 12 16 (c1 + 9) fl_X12_304 (q_prg_n hc1 0) (q_prg_K hc1) rfl (q_prg_P hc1 16) dX12_code_4 ?_
  refine q_aload_n (i := 0) dX12_code_7 rfl rfl ?_
  refine q_getR (k := c1) 13 22 fl_X12_50 (by decide) rfl rfl hrc1 dX12_code_8 ?_
  refine q_getIv (v := h.I c1 6) 12 6 fl_X12_298 (q_prg_n hc1 0) (q_prg_K hc1) rfl (rfl) dX12_code_11 ?_
  refine q_iload_n (i := 1) dX12_code_14 rfl rfl ?_
  obtain ⟨hi2, hF⟩ := hF
  refine q_iastore (n := 2000) (q_prg_n hc1 9) (q_prg_A hc1 16) hi2 dX12_code_15 ?_
  refine q_aload_n (i := 0) dX12_code_16 rfl rfl ?_
  refine q_getR (k := c1) 13 22 fl_X12_50 (by decide) rfl rfl hrc1 dX12_code_17 ?_
  refine q_getP 12 17 (c1 + 10) fl_X12_307 (q_prg_n hc1 0) (q_prg_K hc1) rfl (q_prg_P hc1 17) dX12_code_20 ?_
  refine q_aload_n (i := 0) dX12_code_23 rfl rfl ?_
  refine q_getR (k := c1) 13 22 fl_X12_50 (by decide) rfl rfl hrc1 dX12_code_24 ?_
  refine q_getIv (v := h.I c1 6) 12 6 fl_X12_298 (q_prg_n hc1 0) (q_prg_K hc1) rfl ((q_I_neo (by omega)).trans (rfl)) dX12_code_27 ?_
  refine q_iload_n (i := 2) dX12_code_30 rfl rfl ?_
  obtain ⟨hi3, hF⟩ := hF
  refine q_iastore (n := 2000) (q_prg_n hc1 10) (q_prg_A hc1 17) hi3 dX12_code_31 ?_
  refine q_aload_n (i := 0) dX12_code_32 rfl rfl ?_
  refine q_getR (k := c1) 13 22 fl_X12_50 (by decide) rfl rfl hrc1 dX12_code_33 ?_
  refine q_dup dX12_code_36 rfl ?_
  refine q_getIv (v := h.I c1 6) 12 6 fl_X12_298 (q_prg_n hc1 0) (q_prg_K hc1) rfl ((q_I_neo (by omega)).trans ( (q_I_neo (by omega)).trans (rfl))) dX12_code_37 ?_
  refine q_iconst (v := 1) dX12_code_40 (by decide) ?_
  refine q_iadd dX12_code_41 ?_
  refine q_putI 12 6 fp_X12_298 (Or.inr ⟨_, _, _, rfl, rfl⟩) (q_prg_n hc1 0) (q_prg_K hc1) rfl dX12_code_42 ?_
  exact q_vret rfl (by decide) (by decide) dX12_code_45 hF
def m_X12_part : qm := (RX12, cX12_part, 2, none, [], false)
set_option maxRecDepth 100000 in
set_option maxHeartbeats 4000000 in
theorem x_X12_part (G : qG) (d : Nat) (x1 : Int32) (h : qh) (Q : qr → qh → Prop)  (hF : ∃ c1, h.R 43 22 = some c1 ∧ q_prg c1 ∧ ((((h.I c1 4) + 1) ≤ 400 → (Q (.inl none) (h.sI c1 4 ((h.I c1 4) + 1)))) ∧ (¬ ((h.I c1 4) + 1) ≤ 400 → (q_M0 G d yX12_wrong [.ref 43, .int 6, .int x1] (h.sI c1 4 ((h.I c1 4) + 1)) (q_rv (fun h2 => Q (.inl none) h2) (fun E h => Q (.inr E) h)))))) : q_M0 G (d + 1) yX12_part [.ref 43, .int x1] h Q := by
  refine q_of (M := m_X12_part) (by decide +kernel) rfl rfl cd_X12_part (by decide) (Nat.le_of_ble_eq_true rfl) ?_
  show q_N0 G m_X12_part (d + 1) Q 0 [.ref 43, .int x1] [] h
  refine q_aload_n (i := 0) dX12_part_0 rfl rfl ?_
  obtain ⟨c1, hrc1, hc1, hF⟩ := hF
  refine q_getR (k := c1) 13 22 fl_X12_50 (by decide) rfl rfl hrc1 dX12_part_1 ?_
  refine q_dup dX12_part_4 rfl ?_
  refine q_getIv (v := h.I c1 4) 12 4 fl_X12_310 (q_prg_n hc1 0) (q_prg_K hc1) rfl (rfl) dX12_part_5 ?_
  refine q_iconst (v := 1) dX12_part_8 (by decide) ?_
  refine q_iadd dX12_part_9 ?_
  refine q_putI 12 4 fp_X12_310 (Or.inr ⟨_, _, _, rfl, rfl⟩) (q_prg_n hc1 0) (q_prg_K hc1) rfl dX12_part_10 ?_
  refine q_aload_n (i := 0) dX12_part_13 rfl rfl ?_
  refine q_getR (k := c1) 13 22 fl_X12_50 (by decide) rfl rfl hrc1 dX12_part_14 ?_
  refine q_getIv (v := (h.I c1 4) + 1) 12 4 fl_X12_310 (q_prg_n hc1 0) (q_prg_K hc1) rfl (q_I_same _ _ _ _) dX12_part_17 ?_
  refine q_sipush (v := 400) dX12_part_20 (by decide) ?_
  refine q_icmp_le (tgt := 33) dX12_part_23 (by decide) (fun hb => ?_) (fun hb => ?_)
  · have hF := hF.1 hb
    exact q_vret rfl (by decide) (by decide) dX12_part_33 hF
  · have hF := hF.2 hb
    refine q_aload_n (i := 0) dX12_part_26 rfl rfl ?_
    refine q_bipush (v := 6) dX12_part_27 (by decide) ?_
    refine q_iload_n (i := 1) dX12_part_29 rfl rfl ?_
    refine q_callVv (ci := 13) (o := 43) (As := [.int 6, .int x1]) (st := []) cv_X12_193 ⟨_, _, rfl⟩ (by decide) rfl rfl (Nat.le_refl _) (Nat.le_of_ble_eq_true rfl) (by decide) dX12_part_30 rfl hF (fun h2 hF => ?_)
    exact q_vret rfl (by decide) (by decide) dX12_part_33 hF
def m_X12_levelOf : qm := (RX12, cX12_levelOf, 1, (some .int), [], false)
set_option maxRecDepth 100000 in
set_option maxHeartbeats 4000000 in
theorem x_X12_levelOf (G : qG) (d : Nat)  (h : qh) (Q : qr → qh → Prop)  (hF : vp_in (h.I 43 14) 2001 ∧ (((h.I 47 ((h.I 43 14).toNatClampNeg)) = 4 → (vp_in (h.I 43 14) 2001 ∧ (((h.I 49 ((h.I 43 14).toNatClampNeg)) = 37 → (Q (.inl (some (.int 9))) h)) ∧ ((h.I 49 ((h.I 43 14).toNatClampNeg)) = 38 → (Q (.inl (some (.int 4))) h)) ∧ ((h.I 49 ((h.I 43 14).toNatClampNeg)) = 42 → (Q (.inl (some (.int 9))) h)) ∧ ((h.I 49 ((h.I 43 14).toNatClampNeg)) = 43 → (Q (.inl (some (.int 8))) h)) ∧ ((h.I 49 ((h.I 43 14).toNatClampNeg)) = 45 → (Q (.inl (some (.int 8))) h)) ∧ ((h.I 49 ((h.I 43 14).toNatClampNeg)) = 47 → (Q (.inl (some (.int 9))) h)) ∧ ((h.I 49 ((h.I 43 14).toNatClampNeg)) = 60 → (Q (.inl (some (.int 6))) h)) ∧ ((h.I 49 ((h.I 43 14).toNatClampNeg)) = 62 → (Q (.inl (some (.int 6))) h)) ∧ ((h.I 49 ((h.I 43 14).toNatClampNeg)) = 94 → (Q (.inl (some (.int 3))) h)) ∧ ((h.I 49 ((h.I 43 14).toNatClampNeg)) = 124 → (Q (.inl (some (.int 2))) h)) ∧ ((h.I 49 ((h.I 43 14).toNatClampNeg)) = 8509 → (Q (.inl (some (.int 5))) h)) ∧ ((h.I 49 ((h.I 43 14).toNatClampNeg)) = 9766 → (Q (.inl (some (.int 1))) h)) ∧ ((h.I 49 ((h.I 43 14).toNatClampNeg)) = 15420 → (Q (.inl (some (.int 7))) h)) ∧ ((h.I 49 ((h.I 43 14).toNatClampNeg)) = 15421 → (Q (.inl (some (.int 6))) h)) ∧ ((h.I 49 ((h.I 43 14).toNatClampNeg)) = 15677 → (Q (.inl (some (.int 5))) h)) ∧ ((h.I 49 ((h.I 43 14).toNatClampNeg)) = 15933 → (Q (.inl (some (.int 6))) h)) ∧ ((h.I 49 ((h.I 43 14).toNatClampNeg)) = 15934 → (Q (.inl (some (.int 7))) h)) ∧ ((h.I 49 ((h.I 43 14).toNatClampNeg)) = 31868 → (Q (.inl (some (.int 0))) h)) ∧ (¬ (h.I 49 ((h.I 43 14).toNatClampNeg)) = 37 ∧ ¬ (h.I 49 ((h.I 43 14).toNatClampNeg)) = 38 ∧ ¬ (h.I 49 ((h.I 43 14).toNatClampNeg)) = 42 ∧ ¬ (h.I 49 ((h.I 43 14).toNatClampNeg)) = 43 ∧ ¬ (h.I 49 ((h.I 43 14).toNatClampNeg)) = 45 ∧ ¬ (h.I 49 ((h.I 43 14).toNatClampNeg)) = 47 ∧ ¬ (h.I 49 ((h.I 43 14).toNatClampNeg)) = 60 ∧ ¬ (h.I 49 ((h.I 43 14).toNatClampNeg)) = 62 ∧ ¬ (h.I 49 ((h.I 43 14).toNatClampNeg)) = 94 ∧ ¬ (h.I 49 ((h.I 43 14).toNatClampNeg)) = 124 ∧ ¬ (h.I 49 ((h.I 43 14).toNatClampNeg)) = 8509 ∧ ¬ (h.I 49 ((h.I 43 14).toNatClampNeg)) = 9766 ∧ ¬ (h.I 49 ((h.I 43 14).toNatClampNeg)) = 15420 ∧ ¬ (h.I 49 ((h.I 43 14).toNatClampNeg)) = 15421 ∧ ¬ (h.I 49 ((h.I 43 14).toNatClampNeg)) = 15677 ∧ ¬ (h.I 49 ((h.I 43 14).toNatClampNeg)) = 15933 ∧ ¬ (h.I 49 ((h.I 43 14).toNatClampNeg)) = 15934 ∧ ¬ (h.I 49 ((h.I 43 14).toNatClampNeg)) = 31868 → (Q (.inl (some (.int (-1)))) h))))) ∧ (¬ (h.I 47 ((h.I 43 14).toNatClampNeg)) = 4 → (Q (.inl (some (.int (-1)))) h)))) : q_M0 G (d + 1) yX12_levelOf [.ref 43] h Q := by
  refine q_of (M := m_X12_levelOf) (by decide +kernel) rfl rfl cd_X12_levelOf (by decide) (Nat.le_of_ble_eq_true rfl) ?_
  show q_N0 G m_X12_levelOf (d + 1) Q 0 [.ref 43] [] h
  refine q_aload_n (i := 0) dX12_levelOf_0 rfl rfl ?_
  refine q_getP 13 10 47 fl_X12_24 (by decide) rfl rfl rfl dX12_levelOf_1 ?_
  refine q_aload_n (i := 0) dX12_levelOf_4 rfl rfl ?_
  refine q_getIv (v := h.I 43 14) 13 14 fl_X12_156 (by decide) rfl rfl (rfl) dX12_levelOf_5 ?_
  obtain ⟨hi1, hF⟩ := hF
  refine q_ialoadv (v := h.I 47 ((h.I 43 14).toNatClampNeg)) (n := 2001) (by decide) rfl hi1 (rfl) dX12_levelOf_8 ?_
  refine q_iconst (v := 4) dX12_levelOf_9 (by decide) ?_
  refine q_icmp_eq (tgt := 15) dX12_levelOf_10 (by decide) (fun hb => ?_) (fun hb => ?_)
  · have hF := hF.1 hb
    refine q_aload_n (i := 0) dX12_levelOf_15 rfl rfl ?_
    refine q_getP 13 12 49 fl_X12_30 (by decide) rfl rfl rfl dX12_levelOf_16 ?_
    refine q_aload_n (i := 0) dX12_levelOf_19 rfl rfl ?_
    refine q_getIv (v := h.I 43 14) 13 14 fl_X12_156 (by decide) rfl rfl (rfl) dX12_levelOf_20 ?_
    obtain ⟨hi2, hF⟩ := hF
    refine q_ialoadv (v := h.I 49 ((h.I 43 14).toNatClampNeg)) (n := 2001) (by decide) rfl hi2 (rfl) dX12_levelOf_23 ?_
    refine q_by ((h.I 49 ((h.I 43 14).toNatClampNeg)) = 37) (fun hs3_0 => ?_) (fun hs3_0 => ?_)
    · have hF := hF.1 hs3_0
      refine q_lookup (tgt := 201) dX12_levelOf_24 (by decide) (by first | (rw [hs3_0]; done) | (rw [hs3_0]; rfl)) (by decide) ?_
      refine q_bipush (v := 9) dX12_levelOf_201 (by decide) ?_
      exact q_iret rfl (by decide) (by decide) dX12_levelOf_203 hF
    have hF := hF.2
    refine q_by ((h.I 49 ((h.I 43 14).toNatClampNeg)) = 38) (fun hs3_1 => ?_) (fun hs3_1 => ?_)
    · have hF := hF.1 hs3_1
      refine q_lookup (tgt := 188) dX12_levelOf_24 (by decide) (by first | (rw [hs3_1]; done) | (rw [hs3_1]; rfl)) (by decide) ?_
      refine q_iconst (v := 4) dX12_levelOf_188 (by decide) ?_
      exact q_iret rfl (by decide) (by decide) dX12_levelOf_189 hF
    have hF := hF.2
    refine q_by ((h.I 49 ((h.I 43 14).toNatClampNeg)) = 42) (fun hs3_2 => ?_) (fun hs3_2 => ?_)
    · have hF := hF.1 hs3_2
      refine q_lookup (tgt := 201) dX12_levelOf_24 (by decide) (by first | (rw [hs3_2]; done) | (rw [hs3_2]; rfl)) (by decide) ?_
      refine q_bipush (v := 9) dX12_levelOf_201 (by decide) ?_
      exact q_iret rfl (by decide) (by decide) dX12_levelOf_203 hF
    have hF := hF.2
    refine q_by ((h.I 49 ((h.I 43 14).toNatClampNeg)) = 43) (fun hs3_3 => ?_) (fun hs3_3 => ?_)
    · have hF := hF.1 hs3_3
      refine q_lookup (tgt := 198) dX12_levelOf_24 (by decide) (by first | (rw [hs3_3]; done) | (rw [hs3_3]; rfl)) (by decide) ?_
      refine q_bipush (v := 8) dX12_levelOf_198 (by decide) ?_
      exact q_iret rfl (by decide) (by decide) dX12_levelOf_200 hF
    have hF := hF.2
    refine q_by ((h.I 49 ((h.I 43 14).toNatClampNeg)) = 45) (fun hs3_4 => ?_) (fun hs3_4 => ?_)
    · have hF := hF.1 hs3_4
      refine q_lookup (tgt := 198) dX12_levelOf_24 (by decide) (by first | (rw [hs3_4]; done) | (rw [hs3_4]; rfl)) (by decide) ?_
      refine q_bipush (v := 8) dX12_levelOf_198 (by decide) ?_
      exact q_iret rfl (by decide) (by decide) dX12_levelOf_200 hF
    have hF := hF.2
    refine q_by ((h.I 49 ((h.I 43 14).toNatClampNeg)) = 47) (fun hs3_5 => ?_) (fun hs3_5 => ?_)
    · have hF := hF.1 hs3_5
      refine q_lookup (tgt := 201) dX12_levelOf_24 (by decide) (by first | (rw [hs3_5]; done) | (rw [hs3_5]; rfl)) (by decide) ?_
      refine q_bipush (v := 9) dX12_levelOf_201 (by decide) ?_
      exact q_iret rfl (by decide) (by decide) dX12_levelOf_203 hF
    have hF := hF.2
    refine q_by ((h.I 49 ((h.I 43 14).toNatClampNeg)) = 60) (fun hs3_6 => ?_) (fun hs3_6 => ?_)
    · have hF := hF.1 hs3_6
      refine q_lookup (tgt := 192) dX12_levelOf_24 (by decide) (by first | (rw [hs3_6]; done) | (rw [hs3_6]; rfl)) (by decide) ?_
      refine q_bipush (v := 6) dX12_levelOf_192 (by decide) ?_
      exact q_iret rfl (by decide) (by decide) dX12_levelOf_194 hF
    have hF := hF.2
    refine q_by ((h.I 49 ((h.I 43 14).toNatClampNeg)) = 62) (fun hs3_7 => ?_) (fun hs3_7 => ?_)
    · have hF := hF.1 hs3_7
      refine q_lookup (tgt := 192) dX12_levelOf_24 (by decide) (by first | (rw [hs3_7]; done) | (rw [hs3_7]; rfl)) (by decide) ?_
      refine q_bipush (v := 6) dX12_levelOf_192 (by decide) ?_
      exact q_iret rfl (by decide) (by decide) dX12_levelOf_194 hF
    have hF := hF.2
    refine q_by ((h.I 49 ((h.I 43 14).toNatClampNeg)) = 94) (fun hs3_8 => ?_) (fun hs3_8 => ?_)
    · have hF := hF.1 hs3_8
      refine q_lookup (tgt := 186) dX12_levelOf_24 (by decide) (by first | (rw [hs3_8]; done) | (rw [hs3_8]; rfl)) (by decide) ?_
      refine q_iconst (v := 3) dX12_levelOf_186 (by decide) ?_
      exact q_iret rfl (by decide) (by decide) dX12_levelOf_187 hF
    have hF := hF.2
    refine q_by ((h.I 49 ((h.I 43 14).toNatClampNeg)) = 124) (fun hs3_9 => ?_) (fun hs3_9 => ?_)
    · have hF := hF.1 hs3_9
      refine q_lookup (tgt := 184) dX12_levelOf_24 (by decide) (by first | (rw [hs3_9]; done) | (rw [hs3_9]; rfl)) (by decide) ?_
      refine q_iconst (v := 2) dX12_levelOf_184 (by decide) ?_
      exact q_iret rfl (by decide) (by decide) dX12_levelOf_185 hF
    have hF := hF.2
    refine q_by ((h.I 49 ((h.I 43 14).toNatClampNeg)) = 8509) (fun hs3_10 => ?_) (fun hs3_10 => ?_)
    · have hF := hF.1 hs3_10
      refine q_lookup (tgt := 190) dX12_levelOf_24 (by decide) (by first | (rw [hs3_10]; done) | (rw [hs3_10]; rfl)) (by decide) ?_
      refine q_iconst (v := 5) dX12_levelOf_190 (by decide) ?_
      exact q_iret rfl (by decide) (by decide) dX12_levelOf_191 hF
    have hF := hF.2
    refine q_by ((h.I 49 ((h.I 43 14).toNatClampNeg)) = 9766) (fun hs3_11 => ?_) (fun hs3_11 => ?_)
    · have hF := hF.1 hs3_11
      refine q_lookup (tgt := 182) dX12_levelOf_24 (by decide) (by first | (rw [hs3_11]; done) | (rw [hs3_11]; rfl)) (by decide) ?_
      refine q_iconst (v := 1) dX12_levelOf_182 (by decide) ?_
      exact q_iret rfl (by decide) (by decide) dX12_levelOf_183 hF
    have hF := hF.2
    refine q_by ((h.I 49 ((h.I 43 14).toNatClampNeg)) = 15420) (fun hs3_12 => ?_) (fun hs3_12 => ?_)
    · have hF := hF.1 hs3_12
      refine q_lookup (tgt := 195) dX12_levelOf_24 (by decide) (by first | (rw [hs3_12]; done) | (rw [hs3_12]; rfl)) (by decide) ?_
      refine q_bipush (v := 7) dX12_levelOf_195 (by decide) ?_
      exact q_iret rfl (by decide) (by decide) dX12_levelOf_197 hF
    have hF := hF.2
    refine q_by ((h.I 49 ((h.I 43 14).toNatClampNeg)) = 15421) (fun hs3_13 => ?_) (fun hs3_13 => ?_)
    · have hF := hF.1 hs3_13
      refine q_lookup (tgt := 192) dX12_levelOf_24 (by decide) (by first | (rw [hs3_13]; done) | (rw [hs3_13]; rfl)) (by decide) ?_
      refine q_bipush (v := 6) dX12_levelOf_192 (by decide) ?_
      exact q_iret rfl (by decide) (by decide) dX12_levelOf_194 hF
    have hF := hF.2
    refine q_by ((h.I 49 ((h.I 43 14).toNatClampNeg)) = 15677) (fun hs3_14 => ?_) (fun hs3_14 => ?_)
    · have hF := hF.1 hs3_14
      refine q_lookup (tgt := 190) dX12_levelOf_24 (by decide) (by first | (rw [hs3_14]; done) | (rw [hs3_14]; rfl)) (by decide) ?_
      refine q_iconst (v := 5) dX12_levelOf_190 (by decide) ?_
      exact q_iret rfl (by decide) (by decide) dX12_levelOf_191 hF
    have hF := hF.2
    refine q_by ((h.I 49 ((h.I 43 14).toNatClampNeg)) = 15933) (fun hs3_15 => ?_) (fun hs3_15 => ?_)
    · have hF := hF.1 hs3_15
      refine q_lookup (tgt := 192) dX12_levelOf_24 (by decide) (by first | (rw [hs3_15]; done) | (rw [hs3_15]; rfl)) (by decide) ?_
      refine q_bipush (v := 6) dX12_levelOf_192 (by decide) ?_
      exact q_iret rfl (by decide) (by decide) dX12_levelOf_194 hF
    have hF := hF.2
    refine q_by ((h.I 49 ((h.I 43 14).toNatClampNeg)) = 15934) (fun hs3_16 => ?_) (fun hs3_16 => ?_)
    · have hF := hF.1 hs3_16
      refine q_lookup (tgt := 195) dX12_levelOf_24 (by decide) (by first | (rw [hs3_16]; done) | (rw [hs3_16]; rfl)) (by decide) ?_
      refine q_bipush (v := 7) dX12_levelOf_195 (by decide) ?_
      exact q_iret rfl (by decide) (by decide) dX12_levelOf_197 hF
    have hF := hF.2
    refine q_by ((h.I 49 ((h.I 43 14).toNatClampNeg)) = 31868) (fun hs3_17 => ?_) (fun hs3_17 => ?_)
    · have hF := hF.1 hs3_17
      refine q_lookup (tgt := 180) dX12_levelOf_24 (by decide) (by first | (rw [hs3_17]; done) | (rw [hs3_17]; rfl)) (by decide) ?_
      refine q_iconst (v := 0) dX12_levelOf_180 (by decide) ?_
      exact q_iret rfl (by decide) (by decide) dX12_levelOf_181 hF
    have hF := hF.2
    refine q_lookup (off := 180) (tgt := 204) dX12_levelOf_24 (by decide) (by first | (rw [lv_osw hs3_0 (a := 37) (by decide), lv_osw hs3_1 (a := 38) (by decide), lv_osw hs3_2 (a := 42) (by decide), lv_osw hs3_3 (a := 43) (by decide), lv_osw hs3_4 (a := 45) (by decide), lv_osw hs3_5 (a := 47) (by decide), lv_osw hs3_6 (a := 60) (by decide), lv_osw hs3_7 (a := 62) (by decide), lv_osw hs3_8 (a := 94) (by decide), lv_osw hs3_9 (a := 124) (by decide), lv_osw hs3_10 (a := 8509) (by decide), lv_osw hs3_11 (a := 9766) (by decide), lv_osw hs3_12 (a := 15420) (by decide), lv_osw hs3_13 (a := 15421) (by decide), lv_osw hs3_14 (a := 15677) (by decide), lv_osw hs3_15 (a := 15933) (by decide), lv_osw hs3_16 (a := 15934) (by decide), lv_osw hs3_17 (a := 31868) (by decide)]; done) | (rw [lv_osw hs3_0 (a := 37) (by decide), lv_osw hs3_1 (a := 38) (by decide), lv_osw hs3_2 (a := 42) (by decide), lv_osw hs3_3 (a := 43) (by decide), lv_osw hs3_4 (a := 45) (by decide), lv_osw hs3_5 (a := 47) (by decide), lv_osw hs3_6 (a := 60) (by decide), lv_osw hs3_7 (a := 62) (by decide), lv_osw hs3_8 (a := 94) (by decide), lv_osw hs3_9 (a := 124) (by decide), lv_osw hs3_10 (a := 8509) (by decide), lv_osw hs3_11 (a := 9766) (by decide), lv_osw hs3_12 (a := 15420) (by decide), lv_osw hs3_13 (a := 15421) (by decide), lv_osw hs3_14 (a := 15677) (by decide), lv_osw hs3_15 (a := 15933) (by decide), lv_osw hs3_16 (a := 15934) (by decide), lv_osw hs3_17 (a := 31868) (by decide)]; rfl)) (by decide) ?_
    have hF := hF ⟨hs3_0, hs3_1, hs3_2, hs3_3, hs3_4, hs3_5, hs3_6, hs3_7, hs3_8, hs3_9, hs3_10, hs3_11, hs3_12, hs3_13, hs3_14, hs3_15, hs3_16, hs3_17⟩
    refine q_iconst (v := (-1)) dX12_levelOf_204 (by decide) ?_
    exact q_iret rfl (by decide) (by decide) dX12_levelOf_205 hF
  · have hF := hF.2 hb
    refine q_iconst (v := (-1)) dX12_levelOf_13 (by decide) ?_
    exact q_iret rfl (by decide) (by decide) dX12_levelOf_14 hF
def m_X12_binary : qm := (RX12, cX12_binary, 3, none, [], false)
set_option maxRecDepth 100000 in
set_option maxHeartbeats 4000000 in
theorem x_X12_binary (G : qG) (d : Nat) (x1 : Int32) (h : qh) (Q : qr → qh → Prop)  (hF : (¬ x1 = 10 → (q_M0 G d yX12_binary [.ref 43, .int (x1 + 1)] h (q_rv (fun h1 => q_N0 G m_X12_binary (d + 1) Q 18 [.ref 43, .int x1, .null] [] h1) (fun E h => Q (.inr E) h)))) ∧ (x1 = 10 → (q_M0 G d yX12_unary [.ref 43] h (q_rv (fun h2 => Q (.inl none) h2) (fun E h => Q (.inr E) h))))) : q_M0 G (d + 1) yX12_binary [.ref 43, .int x1] h Q := by
  refine q_of (M := m_X12_binary) (by decide +kernel) rfl rfl cd_X12_binary (by decide) (Nat.le_of_ble_eq_true rfl) ?_
  show q_N0 G m_X12_binary (d + 1) Q 0 [.ref 43, .int x1, .null] [] h
  refine q_iload_n (i := 1) dX12_binary_0 rfl rfl ?_
  refine q_bipush (v := 10) dX12_binary_1 (by decide) ?_
  refine q_icmp_ne (tgt := 11) dX12_binary_3 (by decide) (fun hb => ?_) (fun hb => ?_)
  · have hF := hF.1 hb
    refine q_aload_n (i := 0) dX12_binary_11 rfl rfl ?_
    refine q_iload_n (i := 1) dX12_binary_12 rfl rfl ?_
    refine q_iconst (v := 1) dX12_binary_13 (by decide) ?_
    refine q_iadd dX12_binary_14 ?_
    refine q_callVv (ci := 13) (o := 43) (As := [.int (x1 + 1)]) (st := []) cv_X12_301 ⟨_, _, rfl⟩ (by decide) rfl rfl (Nat.le_refl _) (Nat.le_of_ble_eq_true rfl) (by decide) dX12_binary_15 rfl hF (fun h1 hF => ?_)
    exact hF
  · have hF := hF.2 hb
    refine q_aload_n (i := 0) dX12_binary_6 rfl rfl ?_
    refine q_callVv (ci := 13) (o := 43) (As := []) (st := []) cv_X12_313 ⟨_, _, rfl⟩ (by decide) rfl rfl (Nat.le_refl _) (Nat.le_of_ble_eq_true rfl) (by decide) dX12_binary_7 rfl hF (fun h2 hF => ?_)
    exact q_vret rfl (by decide) (by decide) dX12_binary_10 hF
set_option maxRecDepth 100000 in
set_option maxHeartbeats 4000000 in
theorem x_X12_binary_18 (G : qG) (d : Nat) (l1 : Int32) (h : qh) (Q : qr → qh → Prop)  (hF : q_M0 G d yX12_levelOf [.ref 43] h (q_ri (fun r4 h3 => (¬ r4 = l1 → (Q (.inl none) h3)) ∧ (r4 = l1 → (q_M0 G d yX12_part [.ref 43, .int (h3.I 43 14)] h3 (q_rv (fun h5 => q_M0 G d yX12_binary [.ref 43, .int (l1 + 1)] (h5.sI 43 14 ((h5.I 43 14) + 1)) (q_rv (fun h6 => vp_in (h3.I 43 14) 2001 ∧ (q_M0 G d yX12_code [.ref 43, .int 3, .int (h6.I 49 ((h3.I 43 14).toNatClampNeg))] h6 (q_rv (fun h8 => q_N0 G m_X12_binary (d + 1) Q 18 [.ref 43, .int l1, .null] [] h8) (fun E h => Q (.inr E) h)))) (fun E h => Q (.inr E) h))) (fun E h => Q (.inr E) h))))) (fun E h => Q (.inr E) h))) : q_N0 G m_X12_binary (d + 1) Q 18 [.ref 43, .int l1, .null] [] h := by
  refine q_aload_n (i := 0) dX12_binary_18 rfl rfl ?_
  refine q_callVi (ci := 13) (o := 43) (As := []) (st := []) cv_X12_316 ⟨_, _, rfl⟩ (by decide) rfl rfl (Nat.le_refl _) (Nat.le_of_ble_eq_true rfl) (by decide) dX12_binary_19 rfl hF (fun r4 h3 hF => ?_)
  refine q_iload_n (i := 1) dX12_binary_22 rfl rfl ?_
  refine q_icmp_ne (tgt := 67) dX12_binary_23 (by decide) (fun hb => ?_) (fun hb => ?_)
  · have hF := hF.1 hb
    exact q_vret rfl (by decide) (by decide) dX12_binary_67 hF
  · have hF := hF.2 hb
    refine q_aload_n (i := 0) dX12_binary_26 rfl rfl ?_
    refine q_getIv (v := h3.I 43 14) 13 14 fl_X12_156 (by decide) rfl rfl (rfl) dX12_binary_27 ?_
    refine q_istore_n (i := 2) dX12_binary_30 rfl (by decide) rfl ?_
    refine q_aload_n (i := 0) dX12_binary_31 rfl rfl ?_
    refine q_iload_n (i := 2) dX12_binary_32 rfl rfl ?_
    refine q_callVv (ci := 13) (o := 43) (As := [.int (h3.I 43 14)]) (st := []) cv_X12_319 ⟨_, _, rfl⟩ (by decide) rfl rfl (Nat.le_refl _) (Nat.le_of_ble_eq_true rfl) (by decide) dX12_binary_33 rfl hF (fun h5 hF => ?_)
    refine q_aload_n (i := 0) dX12_binary_36 rfl rfl ?_
    refine q_dup dX12_binary_37 rfl ?_
    refine q_getIv (v := h5.I 43 14) 13 14 fl_X12_156 (by decide) rfl rfl (rfl) dX12_binary_38 ?_
    refine q_iconst (v := 1) dX12_binary_41 (by decide) ?_
    refine q_iadd dX12_binary_42 ?_
    refine q_putI 13 14 fp_X12_156 (Or.inr ⟨_, _, _, rfl, rfl⟩) (by decide) rfl rfl dX12_binary_43 ?_
    refine q_aload_n (i := 0) dX12_binary_46 rfl rfl ?_
    refine q_iload_n (i := 1) dX12_binary_47 rfl rfl ?_
    refine q_iconst (v := 1) dX12_binary_48 (by decide) ?_
    refine q_iadd dX12_binary_49 ?_
    refine q_callVv (ci := 13) (o := 43) (As := [.int (l1 + 1)]) (st := []) cv_X12_301 ⟨_, _, rfl⟩ (by decide) rfl rfl (Nat.le_refl _) (Nat.le_of_ble_eq_true rfl) (by decide) dX12_binary_50 rfl hF (fun h6 hF => ?_)
    refine q_aload_n (i := 0) dX12_binary_53 rfl rfl ?_
    refine q_iconst (v := 3) dX12_binary_54 (by decide) ?_
    refine q_aload_n (i := 0) dX12_binary_55 rfl rfl ?_
    refine q_getP 13 12 49 fl_X12_30 (by decide) rfl rfl rfl dX12_binary_56 ?_
    refine q_iload_n (i := 2) dX12_binary_59 rfl rfl ?_
    obtain ⟨hi7, hF⟩ := hF
    refine q_ialoadv (v := h6.I 49 ((h3.I 43 14).toNatClampNeg)) (n := 2001) (by decide) rfl hi7 (rfl) dX12_binary_60 ?_
    refine q_callVv (ci := 13) (o := 43) (As := [.int 3, .int (h6.I 49 ((h3.I 43 14).toNatClampNeg))]) (st := []) cv_X12_322 ⟨_, _, rfl⟩ (by decide) rfl rfl (Nat.le_refl _) (Nat.le_of_ble_eq_true rfl) (by decide) dX12_binary_61 rfl hF (fun h8 hF => ?_)
    refine q_goto (tgt := 18) dX12_binary_64 (by decide) ?_
    show q_N0 G m_X12_binary (d + 1) Q 18 [.ref 43, .int l1, .int (h3.I 43 14)] [] h8
    exact q_fgt (l' := [.ref 43, .int l1, .null]) (And.intro (Or.inr rfl) ( And.intro (Or.inr rfl) ( And.intro (Or.inl rfl) (trivial)))) hF
def m_X12_unary : qm := (RX12, cX12_unary, 3, none, [], false)
set_option maxRecDepth 100000 in
set_option maxHeartbeats 4000000 in
theorem x_X12_unary (G : qG) (d : Nat)  (h : qh) (Q : qr → qh → Prop)  (hF : q_M0 G d yX12_is [.ref 43, .int 45] h (q_ri (fun r2 h1 => (¬ r2 = 0 → (q_M0 G d yX12_enters [.ref 43] h1 (q_rv (fun h3 => q_M0 G d yX12_part [.ref 43, .int (h.I 43 14)] h3 (q_rv (fun h4 => q_M0 G d yX12_unary [.ref 43] h4 (q_rv (fun h5 => vp_in (h.I 43 14) 2001 ∧ ((¬ (h5.I 49 ((h.I 43 14).toNatClampNeg)) = 45 → (vp_in (h.I 43 14) 2001 ∧ (q_M0 G d yX12_code [.ref 43, .int (if (h5.I 49 ((h.I 43 14).toNatClampNeg)) = 33 then (5 : Int32) else 6), .int 0] (h5.sI 43 15 ((h5.I 43 15) - 1)) (q_rv (fun h9 => Q (.inl none) h9) (fun E h => Q (.inr E) h))))) ∧ ((h5.I 49 ((h.I 43 14).toNatClampNeg)) = 45 → (q_M0 G d yX12_code [.ref 43, .int 4, .int 0] (h5.sI 43 15 ((h5.I 43 15) - 1)) (q_rv (fun h10 => Q (.inl none) h10) (fun E h => Q (.inr E) h)))))) (fun E h => Q (.inr E) h))) (fun E h => Q (.inr E) h))) (fun E h => Q (.inr E) h)))) ∧ (r2 = 0 → (q_M0 G d yX12_is [.ref 43, .int 33] h1 (q_ri (fun r12 h11 => (¬ r12 = 0 → (q_M0 G d yX12_enters [.ref 43] h11 (q_rv (fun h13 => q_M0 G d yX12_part [.ref 43, .int (h.I 43 14)] h13 (q_rv (fun h14 => q_M0 G d yX12_unary [.ref 43] h14 (q_rv (fun h15 => vp_in (h.I 43 14) 2001 ∧ ((¬ (h15.I 49 ((h.I 43 14).toNatClampNeg)) = 45 → (vp_in (h.I 43 14) 2001 ∧ (q_M0 G d yX12_code [.ref 43, .int (if (h15.I 49 ((h.I 43 14).toNatClampNeg)) = 33 then (5 : Int32) else 6), .int 0] (h15.sI 43 15 ((h15.I 43 15) - 1)) (q_rv (fun h19 => Q (.inl none) h19) (fun E h => Q (.inr E) h))))) ∧ ((h15.I 49 ((h.I 43 14).toNatClampNeg)) = 45 → (q_M0 G d yX12_code [.ref 43, .int 4, .int 0] (h15.sI 43 15 ((h15.I 43 15) - 1)) (q_rv (fun h20 => Q (.inl none) h20) (fun E h => Q (.inr E) h)))))) (fun E h => Q (.inr E) h))) (fun E h => Q (.inr E) h))) (fun E h => Q (.inr E) h)))) ∧ (r12 = 0 → (q_M0 G d yX12_is [.ref 43, .int 126] h11 (q_ri (fun r22 h21 => (r22 = 0 → (vp_in (h21.I 43 14) 2001 ∧ ((¬ (h21.I 47 ((h21.I 43 14).toNatClampNeg)) = 3 → (vp_in (h21.I 43 14) 2001 ∧ ((¬ (h21.I 47 ((h21.I 43 14).toNatClampNeg)) = 2 → (q_M0 G d yX12_opens [.ref 43, .int 40] h21 (q_rv (fun h25 => q_M0 G d yX12_binary [.ref 43, .int 0] h25 (q_rv (fun h26 => q_M0 G d yX12_closes [.ref 43, .int 41] h26 (q_rv (fun h27 => Q (.inl none) h27) (fun E h => Q (.inr E) h))) (fun E h => Q (.inr E) h))) (fun E h => Q (.inr E) h)))) ∧ ((h21.I 47 ((h21.I 43 14).toNatClampNeg)) = 2 → (q_M0 G d yX12_part [.ref 43, .int (h.I 43 14)] h21 (q_rv (fun h28 => q_M0 G d yX12_is [.ref 43, .int 91] (h28.sI 43 14 ((h28.I 43 14) + 1)) (q_ri (fun r30 h29 => q_M0 G d yX12_uses [.ref 43, .int (h.I 43 14), .int r30] h29 (q_ri (fun r32 h31 => q_M0 G d yX12_is [.ref 43, .int 91] h31 (q_ri (fun r34 h33 => (r34 = 0 → (q_M0 G d yX12_code [.ref 43, .int 1, .int r32] h33 (q_rv (fun h35 => Q (.inl none) h35) (fun E h => Q (.inr E) h)))) ∧ (¬ r34 = 0 → (q_M0 G d yX12_opens [.ref 43, .int 91] h33 (q_rv (fun h36 => q_M0 G d yX12_binary [.ref 43, .int 0] h36 (q_rv (fun h37 => q_M0 G d yX12_closes [.ref 43, .int 93] h37 (q_rv (fun h38 => q_M0 G d yX12_code [.ref 43, .int 2, .int r32] h38 (q_rv (fun h39 => Q (.inl none) h39) (fun E h => Q (.inr E) h))) (fun E h => Q (.inr E) h))) (fun E h => Q (.inr E) h))) (fun E h => Q (.inr E) h))))) (fun E h => Q (.inr E) h))) (fun E h => Q (.inr E) h))) (fun E h => Q (.inr E) h))) (fun E h => Q (.inr E) h))))))) ∧ ((h21.I 47 ((h21.I 43 14).toNatClampNeg)) = 3 → (q_M0 G d yX12_part [.ref 43, .int (h.I 43 14)] h21 (q_rv (fun h40 => vp_in (h.I 43 14) 2001 ∧ (q_M0 G d yX12_code [.ref 43, .int 0, .int (h40.I 49 ((h.I 43 14).toNatClampNeg))] (h40.sI 43 14 ((h40.I 43 14) + 1)) (q_rv (fun h42 => Q (.inl none) h42) (fun E h => Q (.inr E) h)))) (fun E h => Q (.inr E) h))))))) ∧ (¬ r22 = 0 → (q_M0 G d yX12_enters [.ref 43] h21 (q_rv (fun h43 => q_M0 G d yX12_part [.ref 43, .int (h.I 43 14)] h43 (q_rv (fun h44 => q_M0 G d yX12_unary [.ref 43] h44 (q_rv (fun h45 => vp_in (h.I 43 14) 2001 ∧ ((¬ (h45.I 49 ((h.I 43 14).toNatClampNeg)) = 45 → (vp_in (h.I 43 14) 2001 ∧ (q_M0 G d yX12_code [.ref 43, .int (if (h45.I 49 ((h.I 43 14).toNatClampNeg)) = 33 then (5 : Int32) else 6), .int 0] (h45.sI 43 15 ((h45.I 43 15) - 1)) (q_rv (fun h49 => Q (.inl none) h49) (fun E h => Q (.inr E) h))))) ∧ ((h45.I 49 ((h.I 43 14).toNatClampNeg)) = 45 → (q_M0 G d yX12_code [.ref 43, .int 4, .int 0] (h45.sI 43 15 ((h45.I 43 15) - 1)) (q_rv (fun h50 => Q (.inl none) h50) (fun E h => Q (.inr E) h)))))) (fun E h => Q (.inr E) h))) (fun E h => Q (.inr E) h))) (fun E h => Q (.inr E) h))))) (fun E h => Q (.inr E) h))))) (fun E h => Q (.inr E) h))))) (fun E h => Q (.inr E) h))) : q_M0 G (d + 1) yX12_unary [.ref 43] h Q := by
  refine q_of (M := m_X12_unary) (by decide +kernel) rfl rfl cd_X12_unary (by decide) (Nat.le_of_ble_eq_true rfl) ?_
  show q_N0 G m_X12_unary (d + 1) Q 0 [.ref 43, .null, .null] [] h
  refine q_aload_n (i := 0) dX12_unary_0 rfl rfl ?_
  refine q_getIv (v := h.I 43 14) 13 14 fl_X12_156 (by decide) rfl rfl (rfl) dX12_unary_1 ?_
  refine q_istore_n (i := 1) dX12_unary_4 rfl (by decide) rfl ?_
  refine q_aload_n (i := 0) dX12_unary_5 rfl rfl ?_
  refine q_bipush (v := 45) dX12_unary_6 (by decide) ?_
  refine q_callVi (ci := 13) (o := 43) (As := [.int 45]) (st := []) cv_X12_168 ⟨_, _, rfl⟩ (by decide) rfl rfl (Nat.le_refl _) (Nat.le_of_ble_eq_true rfl) (by decide) dX12_unary_8 rfl hF (fun r2 h1 hF => ?_)
  refine q_if_ne (tgt := 32) dX12_unary_11 (by decide) (fun hb => ?_) (fun hb => ?_)
  · have hF := hF.1 hb
    refine q_aload_n (i := 0) dX12_unary_32 rfl rfl ?_
    refine q_callVv (ci := 13) (o := 43) (As := []) (st := []) cv_X12_177 ⟨_, _, rfl⟩ (by decide) rfl rfl (Nat.le_refl _) (Nat.le_of_ble_eq_true rfl) (by decide) dX12_unary_33 rfl hF (fun h3 hF => ?_)
    refine q_aload_n (i := 0) dX12_unary_36 rfl rfl ?_
    refine q_iload_n (i := 1) dX12_unary_37 rfl rfl ?_
    refine q_callVv (ci := 13) (o := 43) (As := [.int (h.I 43 14)]) (st := []) cv_X12_319 ⟨_, _, rfl⟩ (by decide) rfl rfl (Nat.le_refl _) (Nat.le_of_ble_eq_true rfl) (by decide) dX12_unary_38 rfl hF (fun h4 hF => ?_)
    refine q_aload_n (i := 0) dX12_unary_41 rfl rfl ?_
    refine q_callVv (ci := 13) (o := 43) (As := []) (st := []) cv_X12_313 ⟨_, _, rfl⟩ (by decide) rfl rfl (Nat.le_refl _) (Nat.le_of_ble_eq_true rfl) (by decide) dX12_unary_42 rfl hF (fun h5 hF => ?_)
    refine q_aload_n (i := 0) dX12_unary_45 rfl rfl ?_
    refine q_dup dX12_unary_46 rfl ?_
    refine q_getIv (v := h5.I 43 15) 13 15 fl_X12_174 (by decide) rfl rfl (rfl) dX12_unary_47 ?_
    refine q_iconst (v := 1) dX12_unary_50 (by decide) ?_
    refine q_isub dX12_unary_51 ?_
    refine q_putI 13 15 fp_X12_174 (Or.inr ⟨_, _, _, rfl, rfl⟩) (by decide) rfl rfl dX12_unary_52 ?_
    refine q_aload_n (i := 0) dX12_unary_55 rfl rfl ?_
    refine q_aload_n (i := 0) dX12_unary_56 rfl rfl ?_
    refine q_getP 13 12 49 fl_X12_30 (by decide) rfl rfl rfl dX12_unary_57 ?_
    refine q_iload_n (i := 1) dX12_unary_60 rfl rfl ?_
    obtain ⟨hi6, hF⟩ := hF
    refine q_ialoadv (v := h5.I 49 ((h.I 43 14).toNatClampNeg)) (n := 2001) (by decide) rfl hi6 ((q_I_neo (by decide)).trans (rfl)) dX12_unary_61 ?_
    refine q_bipush (v := 45) dX12_unary_62 (by decide) ?_
    refine q_icmp_ne (tgt := 71) dX12_unary_64 (by decide) (fun hb => ?_) (fun hb => ?_)
    · have hF := hF.1 hb
      refine q_aload_n (i := 0) dX12_unary_71 rfl rfl ?_
      refine q_getP 13 12 49 fl_X12_30 (by decide) rfl rfl rfl dX12_unary_72 ?_
      refine q_iload_n (i := 1) dX12_unary_75 rfl rfl ?_
      obtain ⟨hi7, hF⟩ := hF
      refine q_ialoadv (v := h5.I 49 ((h.I 43 14).toNatClampNeg)) (n := 2001) (by decide) rfl hi7 ((q_I_neo (by decide)).trans (rfl)) dX12_unary_76 ?_
      refine q_bipush (v := 33) dX12_unary_77 (by decide) ?_
      have K8 := q_ite (c := (h5.I 49 ((h.I 43 14).toNatClampNeg)) = 33) (X := fun v => q_N0 G m_X12_unary (d + 1) Q 88 [.ref 43, .int (h.I 43 14), .null] (.int v :: [.ref 43]) (h5.sI 43 15 ((h5.I 43 15) - 1))) (a := 5) (b := 6) (by
        refine q_iconst (v := 0) dX12_unary_88 (by decide) ?_
        refine q_callVv (ci := 13) (o := 43) (As := [.int (if (h5.I 49 ((h.I 43 14).toNatClampNeg)) = 33 then (5 : Int32) else 6), .int 0]) (st := []) cv_X12_322 ⟨_, _, rfl⟩ (by decide) rfl rfl (Nat.le_refl _) (Nat.le_of_ble_eq_true rfl) (by decide) dX12_unary_89 rfl hF (fun h9 hF => ?_)
        refine q_goto (tgt := 238) dX12_unary_92 (by decide) ?_
        exact q_vret rfl (by decide) (by decide) dX12_unary_238 hF)
      refine q_icmp_ne (tgt := 86) dX12_unary_79 (by decide) (fun hb => ?_) (fun hb => ?_)
      · refine q_bipush (v := 6) dX12_unary_86 (by decide) ?_
        exact K8.2 hb
      · refine q_iconst (v := 5) dX12_unary_82 (by decide) ?_
        refine q_goto (tgt := 88) dX12_unary_83 (by decide) ?_
        exact K8.1 hb
    · have hF := hF.2 hb
      refine q_iconst (v := 4) dX12_unary_67 (by decide) ?_
      refine q_goto (tgt := 88) dX12_unary_68 (by decide) ?_
      refine q_iconst (v := 0) dX12_unary_88 (by decide) ?_
      refine q_callVv (ci := 13) (o := 43) (As := [.int 4, .int 0]) (st := []) cv_X12_322 ⟨_, _, rfl⟩ (by decide) rfl rfl (Nat.le_refl _) (Nat.le_of_ble_eq_true rfl) (by decide) dX12_unary_89 rfl hF (fun h10 hF => ?_)
      refine q_goto (tgt := 238) dX12_unary_92 (by decide) ?_
      exact q_vret rfl (by decide) (by decide) dX12_unary_238 hF
  · have hF := hF.2 hb
    refine q_aload_n (i := 0) dX12_unary_14 rfl rfl ?_
    refine q_bipush (v := 33) dX12_unary_15 (by decide) ?_
    refine q_callVi (ci := 13) (o := 43) (As := [.int 33]) (st := []) cv_X12_168 ⟨_, _, rfl⟩ (by decide) rfl rfl (Nat.le_refl _) (Nat.le_of_ble_eq_true rfl) (by decide) dX12_unary_17 rfl hF (fun r12 h11 hF => ?_)
    refine q_if_ne (tgt := 32) dX12_unary_20 (by decide) (fun hb => ?_) (fun hb => ?_)
    · have hF := hF.1 hb
      refine q_aload_n (i := 0) dX12_unary_32 rfl rfl ?_
      refine q_callVv (ci := 13) (o := 43) (As := []) (st := []) cv_X12_177 ⟨_, _, rfl⟩ (by decide) rfl rfl (Nat.le_refl _) (Nat.le_of_ble_eq_true rfl) (by decide) dX12_unary_33 rfl hF (fun h13 hF => ?_)
      refine q_aload_n (i := 0) dX12_unary_36 rfl rfl ?_
      refine q_iload_n (i := 1) dX12_unary_37 rfl rfl ?_
      refine q_callVv (ci := 13) (o := 43) (As := [.int (h.I 43 14)]) (st := []) cv_X12_319 ⟨_, _, rfl⟩ (by decide) rfl rfl (Nat.le_refl _) (Nat.le_of_ble_eq_true rfl) (by decide) dX12_unary_38 rfl hF (fun h14 hF => ?_)
      refine q_aload_n (i := 0) dX12_unary_41 rfl rfl ?_
      refine q_callVv (ci := 13) (o := 43) (As := []) (st := []) cv_X12_313 ⟨_, _, rfl⟩ (by decide) rfl rfl (Nat.le_refl _) (Nat.le_of_ble_eq_true rfl) (by decide) dX12_unary_42 rfl hF (fun h15 hF => ?_)
      refine q_aload_n (i := 0) dX12_unary_45 rfl rfl ?_
      refine q_dup dX12_unary_46 rfl ?_
      refine q_getIv (v := h15.I 43 15) 13 15 fl_X12_174 (by decide) rfl rfl (rfl) dX12_unary_47 ?_
      refine q_iconst (v := 1) dX12_unary_50 (by decide) ?_
      refine q_isub dX12_unary_51 ?_
      refine q_putI 13 15 fp_X12_174 (Or.inr ⟨_, _, _, rfl, rfl⟩) (by decide) rfl rfl dX12_unary_52 ?_
      refine q_aload_n (i := 0) dX12_unary_55 rfl rfl ?_
      refine q_aload_n (i := 0) dX12_unary_56 rfl rfl ?_
      refine q_getP 13 12 49 fl_X12_30 (by decide) rfl rfl rfl dX12_unary_57 ?_
      refine q_iload_n (i := 1) dX12_unary_60 rfl rfl ?_
      obtain ⟨hi16, hF⟩ := hF
      refine q_ialoadv (v := h15.I 49 ((h.I 43 14).toNatClampNeg)) (n := 2001) (by decide) rfl hi16 ((q_I_neo (by decide)).trans (rfl)) dX12_unary_61 ?_
      refine q_bipush (v := 45) dX12_unary_62 (by decide) ?_
      refine q_icmp_ne (tgt := 71) dX12_unary_64 (by decide) (fun hb => ?_) (fun hb => ?_)
      · have hF := hF.1 hb
        refine q_aload_n (i := 0) dX12_unary_71 rfl rfl ?_
        refine q_getP 13 12 49 fl_X12_30 (by decide) rfl rfl rfl dX12_unary_72 ?_
        refine q_iload_n (i := 1) dX12_unary_75 rfl rfl ?_
        obtain ⟨hi17, hF⟩ := hF
        refine q_ialoadv (v := h15.I 49 ((h.I 43 14).toNatClampNeg)) (n := 2001) (by decide) rfl hi17 ((q_I_neo (by decide)).trans (rfl)) dX12_unary_76 ?_
        refine q_bipush (v := 33) dX12_unary_77 (by decide) ?_
        have K18 := q_ite (c := (h15.I 49 ((h.I 43 14).toNatClampNeg)) = 33) (X := fun v => q_N0 G m_X12_unary (d + 1) Q 88 [.ref 43, .int (h.I 43 14), .null] (.int v :: [.ref 43]) (h15.sI 43 15 ((h15.I 43 15) - 1))) (a := 5) (b := 6) (by
          refine q_iconst (v := 0) dX12_unary_88 (by decide) ?_
          refine q_callVv (ci := 13) (o := 43) (As := [.int (if (h15.I 49 ((h.I 43 14).toNatClampNeg)) = 33 then (5 : Int32) else 6), .int 0]) (st := []) cv_X12_322 ⟨_, _, rfl⟩ (by decide) rfl rfl (Nat.le_refl _) (Nat.le_of_ble_eq_true rfl) (by decide) dX12_unary_89 rfl hF (fun h19 hF => ?_)
          refine q_goto (tgt := 238) dX12_unary_92 (by decide) ?_
          exact q_vret rfl (by decide) (by decide) dX12_unary_238 hF)
        refine q_icmp_ne (tgt := 86) dX12_unary_79 (by decide) (fun hb => ?_) (fun hb => ?_)
        · refine q_bipush (v := 6) dX12_unary_86 (by decide) ?_
          exact K18.2 hb
        · refine q_iconst (v := 5) dX12_unary_82 (by decide) ?_
          refine q_goto (tgt := 88) dX12_unary_83 (by decide) ?_
          exact K18.1 hb
      · have hF := hF.2 hb
        refine q_iconst (v := 4) dX12_unary_67 (by decide) ?_
        refine q_goto (tgt := 88) dX12_unary_68 (by decide) ?_
        refine q_iconst (v := 0) dX12_unary_88 (by decide) ?_
        refine q_callVv (ci := 13) (o := 43) (As := [.int 4, .int 0]) (st := []) cv_X12_322 ⟨_, _, rfl⟩ (by decide) rfl rfl (Nat.le_refl _) (Nat.le_of_ble_eq_true rfl) (by decide) dX12_unary_89 rfl hF (fun h20 hF => ?_)
        refine q_goto (tgt := 238) dX12_unary_92 (by decide) ?_
        exact q_vret rfl (by decide) (by decide) dX12_unary_238 hF
    · have hF := hF.2 hb
      refine q_aload_n (i := 0) dX12_unary_23 rfl rfl ?_
      refine q_bipush (v := 126) dX12_unary_24 (by decide) ?_
      refine q_callVi (ci := 13) (o := 43) (As := [.int 126]) (st := []) cv_X12_168 ⟨_, _, rfl⟩ (by decide) rfl rfl (Nat.le_refl _) (Nat.le_of_ble_eq_true rfl) (by decide) dX12_unary_26 rfl hF (fun r22 h21 hF => ?_)
      refine q_if_eq (tgt := 95) dX12_unary_29 (by decide) (fun hb => ?_) (fun hb => ?_)
      · have hF := hF.1 hb
        refine q_aload_n (i := 0) dX12_unary_95 rfl rfl ?_
        refine q_getP 13 10 47 fl_X12_24 (by decide) rfl rfl rfl dX12_unary_96 ?_
        refine q_aload_n (i := 0) dX12_unary_99 rfl rfl ?_
        refine q_getIv (v := h21.I 43 14) 13 14 fl_X12_156 (by decide) rfl rfl (rfl) dX12_unary_100 ?_
        obtain ⟨hi23, hF⟩ := hF
        refine q_ialoadv (v := h21.I 47 ((h21.I 43 14).toNatClampNeg)) (n := 2001) (by decide) rfl hi23 (rfl) dX12_unary_103 ?_
        refine q_iconst (v := 3) dX12_unary_104 (by decide) ?_
        refine q_icmp_ne (tgt := 137) dX12_unary_105 (by decide) (fun hb => ?_) (fun hb => ?_)
        · have hF := hF.1 hb
          refine q_aload_n (i := 0) dX12_unary_137 rfl rfl ?_
          refine q_getP 13 10 47 fl_X12_24 (by decide) rfl rfl rfl dX12_unary_138 ?_
          refine q_aload_n (i := 0) dX12_unary_141 rfl rfl ?_
          refine q_getIv (v := h21.I 43 14) 13 14 fl_X12_156 (by decide) rfl rfl (rfl) dX12_unary_142 ?_
          obtain ⟨hi24, hF⟩ := hF
          refine q_ialoadv (v := h21.I 47 ((h21.I 43 14).toNatClampNeg)) (n := 2001) (by decide) rfl hi24 (rfl) dX12_unary_145 ?_
          refine q_iconst (v := 2) dX12_unary_146 (by decide) ?_
          refine q_icmp_ne (tgt := 221) dX12_unary_147 (by decide) (fun hb => ?_) (fun hb => ?_)
          · have hF := hF.1 hb
            refine q_aload_n (i := 0) dX12_unary_221 rfl rfl ?_
            refine q_bipush (v := 40) dX12_unary_222 (by decide) ?_
            refine q_callVv (ci := 13) (o := 43) (As := [.int 40]) (st := []) cv_X12_209 ⟨_, _, rfl⟩ (by decide) rfl rfl (Nat.le_refl _) (Nat.le_of_ble_eq_true rfl) (by decide) dX12_unary_224 rfl hF (fun h25 hF => ?_)
            refine q_aload_n (i := 0) dX12_unary_227 rfl rfl ?_
            refine q_iconst (v := 0) dX12_unary_228 (by decide) ?_
            refine q_callVv (ci := 13) (o := 43) (As := [.int 0]) (st := []) cv_X12_301 ⟨_, _, rfl⟩ (by decide) rfl rfl (Nat.le_refl _) (Nat.le_of_ble_eq_true rfl) (by decide) dX12_unary_229 rfl hF (fun h26 hF => ?_)
            refine q_aload_n (i := 0) dX12_unary_232 rfl rfl ?_
            refine q_bipush (v := 41) dX12_unary_233 (by decide) ?_
            refine q_callVv (ci := 13) (o := 43) (As := [.int 41]) (st := []) cv_X12_215 ⟨_, _, rfl⟩ (by decide) rfl rfl (Nat.le_refl _) (Nat.le_of_ble_eq_true rfl) (by decide) dX12_unary_235 rfl hF (fun h27 hF => ?_)
            exact q_vret rfl (by decide) (by decide) dX12_unary_238 hF
          · have hF := hF.2 hb
            refine q_aload_n (i := 0) dX12_unary_150 rfl rfl ?_
            refine q_iload_n (i := 1) dX12_unary_151 rfl rfl ?_
            refine q_callVv (ci := 13) (o := 43) (As := [.int (h.I 43 14)]) (st := []) cv_X12_319 ⟨_, _, rfl⟩ (by decide) rfl rfl (Nat.le_refl _) (Nat.le_of_ble_eq_true rfl) (by decide) dX12_unary_152 rfl hF (fun h28 hF => ?_)
            refine q_aload_n (i := 0) dX12_unary_155 rfl rfl ?_
            refine q_dup dX12_unary_156 rfl ?_
            refine q_getIv (v := h28.I 43 14) 13 14 fl_X12_156 (by decide) rfl rfl (rfl) dX12_unary_157 ?_
            refine q_iconst (v := 1) dX12_unary_160 (by decide) ?_
            refine q_iadd dX12_unary_161 ?_
            refine q_putI 13 14 fp_X12_156 (Or.inr ⟨_, _, _, rfl, rfl⟩) (by decide) rfl rfl dX12_unary_162 ?_
            refine q_aload_n (i := 0) dX12_unary_165 rfl rfl ?_
            refine q_iload_n (i := 1) dX12_unary_166 rfl rfl ?_
            refine q_aload_n (i := 0) dX12_unary_167 rfl rfl ?_
            refine q_bipush (v := 91) dX12_unary_168 (by decide) ?_
            refine q_callVi (ci := 13) (o := 43) (As := [.int 91]) (st := [.int (h.I 43 14), .ref 43]) cv_X12_168 ⟨_, _, rfl⟩ (by decide) rfl rfl (Nat.le_refl _) (Nat.le_of_ble_eq_true rfl) (by decide) dX12_unary_170 rfl hF (fun r30 h29 hF => ?_)
            refine q_callVi (ci := 13) (o := 43) (As := [.int (h.I 43 14), .int r30]) (st := []) cv_X12_282 ⟨_, _, rfl⟩ (by decide) rfl rfl (Nat.le_refl _) (Nat.le_of_ble_eq_true rfl) (by decide) dX12_unary_173 rfl hF (fun r32 h31 hF => ?_)
            refine q_istore_n (i := 2) dX12_unary_176 rfl (by decide) rfl ?_
            refine q_aload_n (i := 0) dX12_unary_177 rfl rfl ?_
            refine q_bipush (v := 91) dX12_unary_178 (by decide) ?_
            refine q_callVi (ci := 13) (o := 43) (As := [.int 91]) (st := []) cv_X12_168 ⟨_, _, rfl⟩ (by decide) rfl rfl (Nat.le_refl _) (Nat.le_of_ble_eq_true rfl) (by decide) dX12_unary_180 rfl hF (fun r34 h33 hF => ?_)
            refine q_if_eq (tgt := 212) dX12_unary_183 (by decide) (fun hb => ?_) (fun hb => ?_)
            · have hF := hF.1 hb
              refine q_aload_n (i := 0) dX12_unary_212 rfl rfl ?_
              refine q_iconst (v := 1) dX12_unary_213 (by decide) ?_
              refine q_iload_n (i := 2) dX12_unary_214 rfl rfl ?_
              refine q_callVv (ci := 13) (o := 43) (As := [.int 1, .int r32]) (st := []) cv_X12_322 ⟨_, _, rfl⟩ (by decide) rfl rfl (Nat.le_refl _) (Nat.le_of_ble_eq_true rfl) (by decide) dX12_unary_215 rfl hF (fun h35 hF => ?_)
              refine q_goto (tgt := 238) dX12_unary_218 (by decide) ?_
              exact q_vret rfl (by decide) (by decide) dX12_unary_238 hF
            · have hF := hF.2 hb
              refine q_aload_n (i := 0) dX12_unary_186 rfl rfl ?_
              refine q_bipush (v := 91) dX12_unary_187 (by decide) ?_
              refine q_callVv (ci := 13) (o := 43) (As := [.int 91]) (st := []) cv_X12_209 ⟨_, _, rfl⟩ (by decide) rfl rfl (Nat.le_refl _) (Nat.le_of_ble_eq_true rfl) (by decide) dX12_unary_189 rfl hF (fun h36 hF => ?_)
              refine q_aload_n (i := 0) dX12_unary_192 rfl rfl ?_
              refine q_iconst (v := 0) dX12_unary_193 (by decide) ?_
              refine q_callVv (ci := 13) (o := 43) (As := [.int 0]) (st := []) cv_X12_301 ⟨_, _, rfl⟩ (by decide) rfl rfl (Nat.le_refl _) (Nat.le_of_ble_eq_true rfl) (by decide) dX12_unary_194 rfl hF (fun h37 hF => ?_)
              refine q_aload_n (i := 0) dX12_unary_197 rfl rfl ?_
              refine q_bipush (v := 93) dX12_unary_198 (by decide) ?_
              refine q_callVv (ci := 13) (o := 43) (As := [.int 93]) (st := []) cv_X12_215 ⟨_, _, rfl⟩ (by decide) rfl rfl (Nat.le_refl _) (Nat.le_of_ble_eq_true rfl) (by decide) dX12_unary_200 rfl hF (fun h38 hF => ?_)
              refine q_aload_n (i := 0) dX12_unary_203 rfl rfl ?_
              refine q_iconst (v := 2) dX12_unary_204 (by decide) ?_
              refine q_iload_n (i := 2) dX12_unary_205 rfl rfl ?_
              refine q_callVv (ci := 13) (o := 43) (As := [.int 2, .int r32]) (st := []) cv_X12_322 ⟨_, _, rfl⟩ (by decide) rfl rfl (Nat.le_refl _) (Nat.le_of_ble_eq_true rfl) (by decide) dX12_unary_206 rfl hF (fun h39 hF => ?_)
              refine q_goto (tgt := 218) dX12_unary_209 (by decide) ?_
              refine q_goto (tgt := 238) dX12_unary_218 (by decide) ?_
              exact q_vret rfl (by decide) (by decide) dX12_unary_238 hF
        · have hF := hF.2 hb
          refine q_aload_n (i := 0) dX12_unary_108 rfl rfl ?_
          refine q_iload_n (i := 1) dX12_unary_109 rfl rfl ?_
          refine q_callVv (ci := 13) (o := 43) (As := [.int (h.I 43 14)]) (st := []) cv_X12_319 ⟨_, _, rfl⟩ (by decide) rfl rfl (Nat.le_refl _) (Nat.le_of_ble_eq_true rfl) (by decide) dX12_unary_110 rfl hF (fun h40 hF => ?_)
          refine q_aload_n (i := 0) dX12_unary_113 rfl rfl ?_
          refine q_dup dX12_unary_114 rfl ?_
          refine q_getIv (v := h40.I 43 14) 13 14 fl_X12_156 (by decide) rfl rfl (rfl) dX12_unary_115 ?_
          refine q_iconst (v := 1) dX12_unary_118 (by decide) ?_
          refine q_iadd dX12_unary_119 ?_
          refine q_putI 13 14 fp_X12_156 (Or.inr ⟨_, _, _, rfl, rfl⟩) (by decide) rfl rfl dX12_unary_120 ?_
          refine q_aload_n (i := 0) dX12_unary_123 rfl rfl ?_
          refine q_iconst (v := 0) dX12_unary_124 (by decide) ?_
          refine q_aload_n (i := 0) dX12_unary_125 rfl rfl ?_
          refine q_getP 13 12 49 fl_X12_30 (by decide) rfl rfl rfl dX12_unary_126 ?_
          refine q_iload_n (i := 1) dX12_unary_129 rfl rfl ?_
          obtain ⟨hi41, hF⟩ := hF
          refine q_ialoadv (v := h40.I 49 ((h.I 43 14).toNatClampNeg)) (n := 2001) (by decide) rfl hi41 ((q_I_neo (by decide)).trans (rfl)) dX12_unary_130 ?_
          refine q_callVv (ci := 13) (o := 43) (As := [.int 0, .int (h40.I 49 ((h.I 43 14).toNatClampNeg))]) (st := []) cv_X12_322 ⟨_, _, rfl⟩ (by decide) rfl rfl (Nat.le_refl _) (Nat.le_of_ble_eq_true rfl) (by decide) dX12_unary_131 rfl hF (fun h42 hF => ?_)
          refine q_goto (tgt := 238) dX12_unary_134 (by decide) ?_
          exact q_vret rfl (by decide) (by decide) dX12_unary_238 hF
      · have hF := hF.2 hb
        refine q_aload_n (i := 0) dX12_unary_32 rfl rfl ?_
        refine q_callVv (ci := 13) (o := 43) (As := []) (st := []) cv_X12_177 ⟨_, _, rfl⟩ (by decide) rfl rfl (Nat.le_refl _) (Nat.le_of_ble_eq_true rfl) (by decide) dX12_unary_33 rfl hF (fun h43 hF => ?_)
        refine q_aload_n (i := 0) dX12_unary_36 rfl rfl ?_
        refine q_iload_n (i := 1) dX12_unary_37 rfl rfl ?_
        refine q_callVv (ci := 13) (o := 43) (As := [.int (h.I 43 14)]) (st := []) cv_X12_319 ⟨_, _, rfl⟩ (by decide) rfl rfl (Nat.le_refl _) (Nat.le_of_ble_eq_true rfl) (by decide) dX12_unary_38 rfl hF (fun h44 hF => ?_)
        refine q_aload_n (i := 0) dX12_unary_41 rfl rfl ?_
        refine q_callVv (ci := 13) (o := 43) (As := []) (st := []) cv_X12_313 ⟨_, _, rfl⟩ (by decide) rfl rfl (Nat.le_refl _) (Nat.le_of_ble_eq_true rfl) (by decide) dX12_unary_42 rfl hF (fun h45 hF => ?_)
        refine q_aload_n (i := 0) dX12_unary_45 rfl rfl ?_
        refine q_dup dX12_unary_46 rfl ?_
        refine q_getIv (v := h45.I 43 15) 13 15 fl_X12_174 (by decide) rfl rfl (rfl) dX12_unary_47 ?_
        refine q_iconst (v := 1) dX12_unary_50 (by decide) ?_
        refine q_isub dX12_unary_51 ?_
        refine q_putI 13 15 fp_X12_174 (Or.inr ⟨_, _, _, rfl, rfl⟩) (by decide) rfl rfl dX12_unary_52 ?_
        refine q_aload_n (i := 0) dX12_unary_55 rfl rfl ?_
        refine q_aload_n (i := 0) dX12_unary_56 rfl rfl ?_
        refine q_getP 13 12 49 fl_X12_30 (by decide) rfl rfl rfl dX12_unary_57 ?_
        refine q_iload_n (i := 1) dX12_unary_60 rfl rfl ?_
        obtain ⟨hi46, hF⟩ := hF
        refine q_ialoadv (v := h45.I 49 ((h.I 43 14).toNatClampNeg)) (n := 2001) (by decide) rfl hi46 ((q_I_neo (by decide)).trans (rfl)) dX12_unary_61 ?_
        refine q_bipush (v := 45) dX12_unary_62 (by decide) ?_
        refine q_icmp_ne (tgt := 71) dX12_unary_64 (by decide) (fun hb => ?_) (fun hb => ?_)
        · have hF := hF.1 hb
          refine q_aload_n (i := 0) dX12_unary_71 rfl rfl ?_
          refine q_getP 13 12 49 fl_X12_30 (by decide) rfl rfl rfl dX12_unary_72 ?_
          refine q_iload_n (i := 1) dX12_unary_75 rfl rfl ?_
          obtain ⟨hi47, hF⟩ := hF
          refine q_ialoadv (v := h45.I 49 ((h.I 43 14).toNatClampNeg)) (n := 2001) (by decide) rfl hi47 ((q_I_neo (by decide)).trans (rfl)) dX12_unary_76 ?_
          refine q_bipush (v := 33) dX12_unary_77 (by decide) ?_
          have K48 := q_ite (c := (h45.I 49 ((h.I 43 14).toNatClampNeg)) = 33) (X := fun v => q_N0 G m_X12_unary (d + 1) Q 88 [.ref 43, .int (h.I 43 14), .null] (.int v :: [.ref 43]) (h45.sI 43 15 ((h45.I 43 15) - 1))) (a := 5) (b := 6) (by
            refine q_iconst (v := 0) dX12_unary_88 (by decide) ?_
            refine q_callVv (ci := 13) (o := 43) (As := [.int (if (h45.I 49 ((h.I 43 14).toNatClampNeg)) = 33 then (5 : Int32) else 6), .int 0]) (st := []) cv_X12_322 ⟨_, _, rfl⟩ (by decide) rfl rfl (Nat.le_refl _) (Nat.le_of_ble_eq_true rfl) (by decide) dX12_unary_89 rfl hF (fun h49 hF => ?_)
            refine q_goto (tgt := 238) dX12_unary_92 (by decide) ?_
            exact q_vret rfl (by decide) (by decide) dX12_unary_238 hF)
          refine q_icmp_ne (tgt := 86) dX12_unary_79 (by decide) (fun hb => ?_) (fun hb => ?_)
          · refine q_bipush (v := 6) dX12_unary_86 (by decide) ?_
            exact K48.2 hb
          · refine q_iconst (v := 5) dX12_unary_82 (by decide) ?_
            refine q_goto (tgt := 88) dX12_unary_83 (by decide) ?_
            exact K48.1 hb
        · have hF := hF.2 hb
          refine q_iconst (v := 4) dX12_unary_67 (by decide) ?_
          refine q_goto (tgt := 88) dX12_unary_68 (by decide) ?_
          refine q_iconst (v := 0) dX12_unary_88 (by decide) ?_
          refine q_callVv (ci := 13) (o := 43) (As := [.int 4, .int 0]) (st := []) cv_X12_322 ⟨_, _, rfl⟩ (by decide) rfl rfl (Nat.le_refl _) (Nat.le_of_ble_eq_true rfl) (by decide) dX12_unary_89 rfl hF (fun h50 hF => ?_)
          refine q_goto (tgt := 238) dX12_unary_92 (by decide) ?_
          exact q_vret rfl (by decide) (by decide) dX12_unary_238 hF
