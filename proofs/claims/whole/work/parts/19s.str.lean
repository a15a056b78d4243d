/-! ===== String.indexOf(int) of a constant, Latin-1 ===== -/
def p_S (G : qG) (a v n : Nat) (f : Nat → Int32) (U : State) : Prop := va_O "java/lang/String" a (q_A G) U U.heap ∧ va_OF "java/lang/String" "coder" "B" (.int 0) a (q_A G) U U.heap ∧ va_OF "java/lang/String" "value" "[B" (.ref v) a (q_A G) U U.heap ∧ va_T .byte v n (fun j => .int (f j)) (q_A G) U U.heap ∧ va_Z "java/lang/String" "COMPACT_STRINGS" "Z" (.int 1) (q_A G) U U.heap
theorem p_S.to {G : qG} {a v n : Nat} {f : Nat → Int32} (s U : State) (hU : U.heap = s.heap) (hv : s.vm.Alike U.vm) (h : p_S G a v n f s) : p_S G a v n f U := by
  obtain ⟨h1, h2, h3, h4, h5⟩ := h
  refine ⟨?_, ?_, ?_, ?_, ?_⟩
  · rw [hU]; exact va_O.moved hv h1
  · rw [hU]; exact va_OF.moved hv h2
  · rw [hU]; exact va_OF.moved hv h3
  · rw [hU]; exact va_T.moved hv h4
  · rw [hU]; exact va_Z.moved hv h5
theorem p_S.to2 {G : qG} {a v n : Nat} {f : Nat → Int32} (U U' : State) (hU : U'.heap = U.heap) (hv : U'.vm = U.vm) (h : p_S G a v n f U) : p_S G a v n f U' := h.to U U' hU (by rw [hv]; exact Vm.Alike.refl _)
def p_B (G : qG) (v n : Nat) (f : Nat → Int32) (U : State) : Prop := va_T .byte v n (fun j => .int (f j)) (q_A G) U U.heap
theorem p_B.to2 {G : qG} {v n : Nat} {f : Nat → Int32} (U U' : State) (hU : U'.heap = U.heap) (hv : U'.vm = U.vm) (h : p_B G v n f U) : p_B G v n f U' := by
  unfold p_B
  rw [hU]
  exact va_T.moved (by rw [hv]; exact Vm.Alike.refl _) h
/-- the first place from i on that holds c; none: -1 -/
def p_ix (f : Nat → Int32) (c : Int32) : Nat → Nat → Int32
  | 0, _ => -1
  | k + 1, i => if f i = c then nI i else p_ix f c k (i + 1)
theorem fj_38 : Cond.fieldLink RJ0 38 "java/lang/String" "COMPACT_STRINGS" "Z" ∈ q_tb := q_in 583 (by decide +kernel) rfl
theorem fj_15 : Cond.fieldLink RJ0 15 "java/lang/String" "coder" "B" ∈ q_tb := q_in 1654 (by decide +kernel) rfl
theorem fj_9 : Cond.fieldLink RJ0 9 "java/lang/String" "value" "[B" ∈ q_tb := q_in 1655 (by decide +kernel) rfl
set_option maxRecDepth 100000 in
theorem cd_coder : Cond.code yJ0_coder_7d493 cJ0_coder_7d493 1 (some .byte) ∈ q_tb := q_in 592 rfl rfl
theorem cv_coder : q_Cv RJ0 335 yJ0_coder_7d493 0 := ⟨⟨cJ0_coder_7d493, 1, (some .byte), by decide, cd_coder, q_in 589 (by decide +kernel) rfl, wi_J0, nq_J0, by decide +kernel⟩, q_in 590 (by decide +kernel) rfl, q_in 591 (by decide +kernel) rfl⟩
def m_J0_coder_7d493 : qm := (RJ0, cJ0_coder_7d493, 1, (some .byte), [], false)
def m_J0_length_8abf5 : qm := (RJ0, cJ0_length_8abf5, 1, (some .int), [], false)
def m_J0_isLatin1_aae02 : qm := (RJ0, cJ0_isLatin1_aae02, 1, (some .boolean), [], false)
def m_J0_indexOf_0f7a4 : qm := (RJ0, cJ0_indexOf_0f7a4, 2, (some .int), [], false)
def m_J0_indexOf_7cf53 : qm := (RJ0, cJ0_indexOf_7cf53, 3, (some .int), [], false)
def m_J1_indexOf_4cfef : qm := (RJ1, cJ1_indexOf_4cfef, 4, (some .int), [], false)
def m_J1_canEncode_9a6ad : qm := (RJ1, cJ1_canEncode_9a6ad, 1, (some .boolean), [], false)
def m_J1_indexOfChar_4cfef : qm := (RJ1, cJ1_indexOfChar_4cfef, 6, (some .int), [], false)
set_option maxRecDepth 100000 in
set_option maxHeartbeats 4000000 in
theorem j_coder (G : qG) (d a v n : Nat) (f : Nat → Int32) : p_M G d yJ0_coder_7d493 [.ref a] (p_S G a v n f) (fun r => r = 0) := by
  refine p_of (M := m_J0_coder_7d493) (by decide +kernel) rfl rfl rfl cd_coder (Nat.le_of_ble_eq_true rfl) ?_
  show p_W G m_J0_coder_7d493 d _ _ 0 [.ref a] []
  refine p_gets (v := .int 1) (fun s h => h.2.2.2.2) fj_38 dJ0_coder_7d493_0 ?_
  refine p_if_eq (tgt := 13) dJ0_coder_7d493_3 (by decide) (fun h => absurd h (by decide)) (fun _ => ?_)
  refine p_aload_n dJ0_coder_7d493_6 rfl rfl ?_
  refine p_getf (v := .int 0) (fun s h => h.2.1) fj_15 dJ0_coder_7d493_7 ?_
  refine p_goto (tgt := 14) dJ0_coder_7d493_10 (by decide) ?_
  exact p_ret (ty := .byte) rfl rfl dJ0_coder_7d493_14 rfl
set_option maxRecDepth 100000 in
set_option maxHeartbeats 4000000 in
theorem j_length (G : qG) (d a v n : Nat) (f : Nat → Int32) : p_M G (d + 1) yJ0_length_8abf5 [.ref a] (p_S G a v n f) (fun r => r = Int32.ofNat n) := by
  refine p_of (M := m_J0_length_8abf5) (by decide +kernel) rfl rfl rfl cd_J0_length_8abf5 (Nat.le_of_ble_eq_true rfl) ?_
  show p_W G m_J0_length_8abf5 (d + 1) _ _ 0 [.ref a] []
  refine p_aload_n dJ0_length_8abf5_0 rfl rfl ?_
  refine p_getf (v := .ref v) (fun s h => h.2.2.1) fj_9 dJ0_length_8abf5_1 ?_
  refine p_alen (N := n) (f := f) (fun s h => h.2.2.2.1) dJ0_length_8abf5_4 ?_
  refine p_aload_n dJ0_length_8abf5_5 rfl rfl ?_
  refine p_callV (a := a) (As := []) (st := [.int (Int32.ofNat n)]) cv_coder p_S.to p_S.to2 (fun s h => h.1) rfl (Nat.le_refl _) (Nat.le_of_ble_eq_true rfl) dJ0_length_8abf5_6 rfl (j_coder G d a v n f) (fun r hr => ?_)
  subst hr
  refine p_ishr dJ0_length_8abf5_9 ?_
  exact p_ret (ty := .int) rfl rfl dJ0_length_8abf5_10 (by simp)
set_option maxRecDepth 100000 in
set_option maxHeartbeats 4000000 in
theorem j_isLatin1 (G : qG) (d a v n : Nat) (f : Nat → Int32) : p_M G d yJ0_isLatin1_aae02 [.ref a] (p_S G a v n f) (fun r => r = 1) := by
  refine p_of (M := m_J0_isLatin1_aae02) (by decide +kernel) rfl rfl rfl cd_J0_isLatin1_aae02 (Nat.le_of_ble_eq_true rfl) ?_
  show p_W G m_J0_isLatin1_aae02 d _ _ 0 [.ref a] []
  refine p_gets (v := .int 1) (fun s h => h.2.2.2.2) fj_38 dJ0_isLatin1_aae02_0 ?_
  refine p_if_eq (tgt := 17) dJ0_isLatin1_aae02_3 (by decide) (fun h => absurd h (by decide)) (fun _ => ?_)
  refine p_aload_n dJ0_isLatin1_aae02_6 rfl rfl ?_
  refine p_getf (v := .int 0) (fun s h => h.2.1) fj_15 dJ0_isLatin1_aae02_7 ?_
  refine p_if_ne (tgt := 17) dJ0_isLatin1_aae02_10 (by decide) (fun h => absurd rfl h) (fun _ => ?_)
  refine p_iconst (v := 1) dJ0_isLatin1_aae02_13 (by decide) ?_
  refine p_goto (tgt := 18) dJ0_isLatin1_aae02_14 (by decide) ?_
  exact p_ret (ty := .boolean) rfl rfl dJ0_isLatin1_aae02_18 rfl
set_option maxRecDepth 100000 in
set_option maxHeartbeats 4000000 in
theorem j_canEncode (G : qG) (d : Nat) (x : Int32) (P : State → Prop) (h0 : ¬ x < 0) (h1 : ¬ 255 < x) : p_M G d yJ1_canEncode_9a6ad [.int x] P (fun r => r = 1) := by
  refine p_of (M := m_J1_canEncode_9a6ad) (by decide +kernel) rfl rfl rfl cd_J1_canEncode_9a6ad (Nat.le_of_ble_eq_true rfl) ?_
  show p_W G m_J1_canEncode_9a6ad d _ _ 0 [.int x] []
  refine p_iload_n dJ1_canEncode_9a6ad_0 rfl rfl ?_
  refine p_if_lt (tgt := 15) dJ1_canEncode_9a6ad_1 (by decide) (fun h => absurd h h0) (fun _ => ?_)
  refine p_iload_n dJ1_canEncode_9a6ad_4 rfl rfl ?_
  refine p_sipush (v := 255) dJ1_canEncode_9a6ad_5 (by decide) ?_
  refine p_icmp_gt (tgt := 15) dJ1_canEncode_9a6ad_8 (by decide) (fun h => absurd h h1) (fun _ => ?_)
  refine p_iconst (v := 1) dJ1_canEncode_9a6ad_11 (by decide) ?_
  refine p_goto (tgt := 16) dJ1_canEncode_9a6ad_12 (by decide) ?_
  exact p_ret (ty := .boolean) rfl rfl dJ1_canEncode_9a6ad_16 rfl
set_option maxRecDepth 100000 in
set_option maxHeartbeats 4000000 in
theorem j_ixLoop (G : qG) (d v n : Nat) (f : Nat → Int32) (x : Int32) (hn : n < 2 ^ 31) : ∀ (k i : Nat), i + k = n → p_W G m_J1_indexOfChar_4cfef d (p_B G v n f) (fun r => r = p_ix f x.toInt8.toInt32 k i) 7 [.ref v, .int x, .int 0, .int (Int32.ofNat n), .int x.toInt8.toInt32, .int (nI i)] []
  | 0, i, hi => by
    refine p_iload dJ1_indexOfChar_4cfef_7 rfl ?_
    refine p_iload_n dJ1_indexOfChar_4cfef_9 rfl rfl ?_
    refine p_icmp_ge (tgt := 31) dJ1_indexOfChar_4cfef_10 (by decide) (fun _ => ?_) (fun h => absurd (nI_le (a := n) (b := i) (by omega) (by omega)) h)
    refine p_iconst (v := -1) dJ1_indexOfChar_4cfef_31 (by decide) ?_
    exact p_ret (ty := .int) rfl rfl dJ1_indexOfChar_4cfef_32 rfl
  | k + 1, i, hi => by
    refine p_iload dJ1_indexOfChar_4cfef_7 rfl ?_
    refine p_iload_n dJ1_indexOfChar_4cfef_9 rfl rfl ?_
    refine p_icmp_ge (tgt := 31) dJ1_indexOfChar_4cfef_10 (by decide) (fun h => absurd h (nI_ge (by omega) hn)) (fun _ => ?_)
    refine p_aload_n dJ1_indexOfChar_4cfef_13 rfl rfl ?_
    refine p_iload dJ1_indexOfChar_4cfef_14 rfl ?_
    refine p_bald (N := n) (f := f) (fun s h => h) (nI_in (by omega) hn) dJ1_indexOfChar_4cfef_16 ?_
    rw [nI_clamp (by omega)]
    refine p_iload dJ1_indexOfChar_4cfef_17 rfl ?_
    refine p_icmp_ne (tgt := 25) dJ1_indexOfChar_4cfef_19 (by decide) (fun hne => ?_) (fun he => ?_)
    · refine p_iinc (v := nI (i + 1)) dJ1_indexOfChar_4cfef_25 rfl (by rw [nI_succ]; rfl) (by decide) rfl ?_
      refine p_goto (tgt := 7) dJ1_indexOfChar_4cfef_28 (by decide) ?_
      have hk := j_ixLoop G d v n f x hn k (i + 1) (by omega)
      have hpx : p_ix f x.toInt8.toInt32 (k + 1) i = p_ix f x.toInt8.toInt32 k (i + 1) := if_neg hne
      rw [hpx]
      exact hk
    · refine p_iload dJ1_indexOfChar_4cfef_22 rfl ?_
      have hpx : p_ix f x.toInt8.toInt32 (k + 1) i = nI i := if_pos he
      exact p_ret (ty := .int) rfl rfl dJ1_indexOfChar_4cfef_24 hpx.symm
set_option maxRecDepth 100000 in
set_option maxHeartbeats 4000000 in
theorem j_indexOfChar (G : qG) (d v n : Nat) (f : Nat → Int32) (x : Int32) (hn : n < 2 ^ 31) : p_M G d yJ1_indexOfChar_4cfef [.ref v, .int x, .int 0, .int (Int32.ofNat n)] (p_B G v n f) (fun r => r = p_ix f x.toInt8.toInt32 n 0) := by
  refine p_of (M := m_J1_indexOfChar_4cfef) (by decide +kernel) rfl rfl rfl cd_J1_indexOfChar_4cfef (Nat.le_of_ble_eq_true rfl) ?_
  show p_W G m_J1_indexOfChar_4cfef d _ _ 0 [.ref v, .int x, .int 0, .int (Int32.ofNat n), .null, .null] []
  refine p_iload_n dJ1_indexOfChar_4cfef_0 rfl rfl ?_
  refine p_i2b (v := x.toInt8.toInt32) dJ1_indexOfChar_4cfef_1 rfl ?_
  refine p_istore dJ1_indexOfChar_4cfef_2 (by decide) rfl ?_
  refine p_iload_n dJ1_indexOfChar_4cfef_4 rfl rfl ?_
  refine p_istore dJ1_indexOfChar_4cfef_5 (by decide) rfl ?_
  exact j_ixLoop G d v n f x hn n 0 (by omega)
