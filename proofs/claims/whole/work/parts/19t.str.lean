def p_m9max : qm := (RJ9, cJ9_max_7cf53, 2, (some .int), [], false)
def p_m9min : qm := (RJ9, cJ9_min_7cf53, 2, (some .int), [], false)
set_option maxRecDepth 100000 in
set_option maxHeartbeats 4000000 in
theorem j_max (G : qG) (d : Nat) (x : Int32) (P : State → Prop) : p_M G d yJ9_max_7cf53 [.int x, .int x] P (fun r => r = x) := by
  refine p_of (M := p_m9max) (by decide +kernel) rfl rfl rfl cd_J9_max_7cf53 (Nat.le_of_ble_eq_true rfl) ?_
  show p_W G p_m9max d _ _ 0 [.int x, .int x] []
  refine p_iload_n dJ9_max_7cf53_0 rfl rfl ?_
  refine p_iload_n dJ9_max_7cf53_1 rfl rfl ?_
  refine p_icmp_lt (tgt := 9) dJ9_max_7cf53_2 (by decide) (fun _ => ?_) (fun _ => ?_)
  · refine p_iload_n dJ9_max_7cf53_9 rfl rfl ?_
    exact p_ret (ty := .int) rfl rfl dJ9_max_7cf53_10 rfl
  · refine p_iload_n dJ9_max_7cf53_5 rfl rfl ?_
    refine p_goto (tgt := 10) dJ9_max_7cf53_6 (by decide) ?_
    exact p_ret (ty := .int) rfl rfl dJ9_max_7cf53_10 rfl
set_option maxRecDepth 100000 in
set_option maxHeartbeats 4000000 in
theorem j_min (G : qG) (d : Nat) (x : Int32) (P : State → Prop) : p_M G d yJ9_min_7cf53 [.int x, .int x] P (fun r => r = x) := by
  refine p_of (M := p_m9min) (by decide +kernel) rfl rfl rfl cd_J9_min_7cf53 (Nat.le_of_ble_eq_true rfl) ?_
  show p_W G p_m9min d _ _ 0 [.int x, .int x] []
  refine p_iload_n dJ9_min_7cf53_0 rfl rfl ?_
  refine p_iload_n dJ9_min_7cf53_1 rfl rfl ?_
  refine p_icmp_gt (tgt := 9) dJ9_min_7cf53_2 (by decide) (fun _ => ?_) (fun _ => ?_)
  · refine p_iload_n dJ9_min_7cf53_9 rfl rfl ?_
    exact p_ret (ty := .int) rfl rfl dJ9_min_7cf53_10 rfl
  · refine p_iload_n dJ9_min_7cf53_5 rfl rfl ?_
    refine p_goto (tgt := 10) dJ9_min_7cf53_6 (by decide) ?_
    exact p_ret (ty := .int) rfl rfl dJ9_min_7cf53_10 rfl
set_option maxRecDepth 100000 in
set_option maxHeartbeats 4000000 in
theorem j_L1 (G : qG) (d v n : Nat) (f : Nat → Int32) (x : Int32) (hn : n < 2 ^ 31) (hn0 : 0 < n) (h0 : ¬ x < 0) (h1 : ¬ 255 < x) : p_M G (d + 1) yJ1_indexOf_4cfef [.ref v, .int x, .int 0, .int (Int32.ofNat n)] (p_B G v n f) (fun r => r = p_ix f x.toInt8.toInt32 n 0) := by
  refine p_of (M := m_J1_indexOf_4cfef) (by decide +kernel) rfl rfl rfl cd_J1_indexOf_4cfef (Nat.le_of_ble_eq_true rfl) ?_
  show p_W G m_J1_indexOf_4cfef (d + 1) _ _ 0 [.ref v, .int x, .int 0, .int (Int32.ofNat n)] []
  refine p_iload_n dJ1_indexOf_4cfef_0 rfl rfl ?_
  refine p_callS (As := [.int x]) (st := []) (P1 := fun _ => True) cs_J1_88 (fun _ _ _ _ _ => trivial) (fun _ _ _ _ _ => trivial) rfl (Nat.le_refl _) (by decide) dJ1_indexOf_4cfef_1 rfl (j_canEncode G d x _ h0 h1) (fun r hr => ?_)
  subst hr
  refine p_if_ne (tgt := 9) dJ1_indexOf_4cfef_4 (by decide) (fun _ => ?_) (fun h => absurd h (by decide))
  refine p_iload_n dJ1_indexOf_4cfef_9 rfl rfl ?_
  refine p_iconst (v := 0) dJ1_indexOf_4cfef_10 (by decide) ?_
  refine p_callS (As := [.int 0, .int 0]) (st := []) (P1 := fun _ => True) cs_J1_92 (fun _ _ _ _ _ => trivial) (fun _ _ _ _ _ => trivial) rfl (Nat.le_refl _) (by decide) dJ1_indexOf_4cfef_11 rfl (j_max G d 0 _) (fun r hr => ?_)
  subst hr
  refine p_istore_n dJ1_indexOf_4cfef_14 rfl (by decide) rfl ?_
  refine p_iload_n dJ1_indexOf_4cfef_15 rfl rfl ?_
  refine p_aload_n dJ1_indexOf_4cfef_16 rfl rfl ?_
  refine p_alen (N := n) (f := f) (fun s h => h) dJ1_indexOf_4cfef_17 ?_
  refine p_callS (As := [.int (Int32.ofNat n), .int (Int32.ofNat n)]) (st := []) (P1 := fun _ => True) cs_J1_38 (fun _ _ _ _ _ => trivial) (fun _ _ _ _ _ => trivial) rfl (Nat.le_refl _) (by decide) dJ1_indexOf_4cfef_18 rfl (j_min G d (Int32.ofNat n) _) (fun r hr => ?_)
  subst hr
  refine p_istore_n dJ1_indexOf_4cfef_21 rfl (by decide) rfl ?_
  refine p_iload_n dJ1_indexOf_4cfef_22 rfl rfl ?_
  refine p_iload_n dJ1_indexOf_4cfef_23 rfl rfl ?_
  refine p_icmp_lt (tgt := 29) dJ1_indexOf_4cfef_24 (by decide) (fun _ => ?_) (fun h => absurd (nI_lt (a := 0) (b := n) hn0 hn) h)
  refine p_aload_n dJ1_indexOf_4cfef_29 rfl rfl ?_
  refine p_iload_n dJ1_indexOf_4cfef_30 rfl rfl ?_
  refine p_iload_n dJ1_indexOf_4cfef_31 rfl rfl ?_
  refine p_iload_n dJ1_indexOf_4cfef_32 rfl rfl ?_
  refine p_callS (As := [.ref v, .int x, .int 0, .int (Int32.ofNat n)]) (st := []) cs_J1_95 (fun s U hU hv h => by unfold p_B; rw [hU]; exact va_T.moved hv h) p_B.to2 rfl (Nat.le_refl _) (by decide) dJ1_indexOf_4cfef_33 rfl (j_indexOfChar G d v n f x hn) (fun r hr => ?_)
  exact p_ret (ty := .int) rfl rfl dJ1_indexOf_4cfef_36 hr
set_option maxRecDepth 100000 in
set_option maxHeartbeats 4000000 in
theorem j_ix2 (G : qG) (d a v n : Nat) (f : Nat → Int32) (x : Int32) (hn : n < 2 ^ 31) (hn0 : 0 < n) (h0 : ¬ x < 0) (h1 : ¬ 255 < x) : p_M G (d + 2) yJ0_indexOf_7cf53 [.ref a, .int x, .int 0] (p_S G a v n f) (fun r => r = p_ix f x.toInt8.toInt32 n 0) := by
  refine p_of (M := m_J0_indexOf_7cf53) (by decide +kernel) rfl rfl rfl cd_J0_indexOf_7cf53 (Nat.le_of_ble_eq_true rfl) ?_
  show p_W G m_J0_indexOf_7cf53 (d + 2) _ _ 0 [.ref a, .int x, .int 0] []
  refine p_aload_n dJ0_indexOf_7cf53_0 rfl rfl ?_
  refine p_callV (a := a) (As := []) (st := []) cv_J0_492 p_S.to p_S.to2 (fun s h => h.1) rfl (Nat.le_refl _) (by decide) dJ0_indexOf_7cf53_1 rfl (j_isLatin1 G (d + 1) a v n f) (fun r hr => ?_)
  subst hr
  refine p_if_eq (tgt := 23) dJ0_indexOf_7cf53_4 (by decide) (fun h => absurd h (by decide)) (fun _ => ?_)
  refine p_aload_n dJ0_indexOf_7cf53_7 rfl rfl ?_
  refine p_getf (v := .ref v) (fun s h => h.2.2.1) fj_9 dJ0_indexOf_7cf53_8 ?_
  refine p_iload_n dJ0_indexOf_7cf53_11 rfl rfl ?_
  refine p_iload_n dJ0_indexOf_7cf53_12 rfl rfl ?_
  refine p_aload_n dJ0_indexOf_7cf53_13 rfl rfl ?_
  refine p_callV (a := a) (As := []) (st := [.int 0, .int x, .ref v]) cv_J0_505 p_S.to p_S.to2 (fun s h => h.1) rfl (Nat.le_refl _) (Nat.le_of_ble_eq_true rfl) dJ0_indexOf_7cf53_14 rfl (j_length G d a v n f) (fun r hr => ?_)
  subst hr
  refine p_callS (As := [.ref v, .int x, .int 0, .int (Int32.ofNat n)]) (st := []) cs_J0_637 (fun s U hU hv h => by unfold p_B; rw [hU]; exact va_T.moved hv h.2.2.2.1) p_B.to2 rfl (Nat.le_refl _) (by decide) dJ0_indexOf_7cf53_17 rfl (j_L1 G d v n f x hn hn0 h0 h1) (fun r hr => ?_)
  refine p_goto (tgt := 36) dJ0_indexOf_7cf53_20 (by decide) ?_
  exact p_ret (ty := .int) rfl rfl dJ0_indexOf_7cf53_36 hr
set_option maxRecDepth 100000 in
set_option maxHeartbeats 4000000 in
theorem j_ix1 (G : qG) (d a v n : Nat) (f : Nat → Int32) (x : Int32) (hn : n < 2 ^ 31) (hn0 : 0 < n) (h0 : ¬ x < 0) (h1 : ¬ 255 < x) : p_M G (d + 3) yJ0_indexOf_0f7a4 [.ref a, .int x] (p_S G a v n f) (fun r => r = p_ix f x.toInt8.toInt32 n 0) := by
  refine p_of (M := m_J0_indexOf_0f7a4) (by decide +kernel) rfl rfl rfl cd_J0_indexOf_0f7a4 (Nat.le_of_ble_eq_true rfl) ?_
  show p_W G m_J0_indexOf_0f7a4 (d + 3) _ _ 0 [.ref a, .int x] []
  refine p_aload_n dJ0_indexOf_0f7a4_0 rfl rfl ?_
  refine p_iload_n dJ0_indexOf_0f7a4_1 rfl rfl ?_
  refine p_iconst (v := 0) dJ0_indexOf_0f7a4_2 (by decide) ?_
  refine p_callV (a := a) (As := [.int x, .int 0]) (st := []) cv_J0_633 p_S.to p_S.to2 (fun s h => h.1) rfl (Nat.le_refl _) (by decide) dJ0_indexOf_0f7a4_3 rfl (j_ix2 G d a v n f x hn hn0 h0 h1) (fun r hr => ?_)
  exact p_ret (ty := .int) rfl rfl dJ0_indexOf_0f7a4_6 hr
