
-- 60: Arrays.fill for the memory's cells

set_option maxRecDepth 100000 in
theorem f_fill (G : qG) (d : Nat) (x2 : Int32) (h : qh) (Q : qr → qh → Prop)  (hF : q_N0 G m_J7_fill_53178 (d + 1) Q 5 [.ref 32, .int x2, .int 0, .int 2048] [] h) : q_M0 G (d + 1) yJ7_fill_53178 [.ref 32, .int x2] h Q := by
  refine q_of (M := m_J7_fill_53178) (by decide +kernel) rfl rfl cd_J7_fill_53178 (by decide) (Nat.le_of_ble_eq_true rfl) ?_
  show q_N0 G m_J7_fill_53178 (d + 1) Q 0 [.ref 32, .int x2, .null, .null] [] h
  refine q_iconst (v := 0) dJ7_fill_53178_0 (by decide) ?_
  refine q_istore_n (i := 2) dJ7_fill_53178_1 rfl (by decide) rfl ?_
  refine q_aload_n (i := 0) dJ7_fill_53178_2 rfl rfl ?_
  refine q_alen (t := 0) (n := 2048) (v := 2048) (by decide) rfl (by decide) (by decide) dJ7_fill_53178_3 ?_
  refine q_istore_n (i := 3) dJ7_fill_53178_4 rfl (by decide) rfl ?_
  exact hF

set_option maxRecDepth 100000 in
set_option maxHeartbeats 4000000 in
theorem f_fill_5 (G : qG) (d : Nat) (l1 : Int32) (l2 : Int32) (l3 : Int32) (h : qh) (Q : qr → qh → Prop)  (hF : (l3 ≤ l2 → (Q (.inl none) h)) ∧ (¬ l3 ≤ l2 → (vp_in l2 2048 ∧ (q_N0 G m_J7_fill_53178 (d + 1) Q 5 [.ref 32, .int l1, .int (l2 + 1), .int l3] [] (h.sI 32 l2.toNatClampNeg l1))))) : q_N0 G m_J7_fill_53178 (d + 1) Q 5 [.ref 32, .int l1, .int l2, .int l3] [] h := by
  refine q_iload_n (i := 2) dJ7_fill_53178_5 rfl rfl ?_
  refine q_iload_n (i := 3) dJ7_fill_53178_6 rfl rfl ?_
  refine q_icmp_ge (tgt := 20) dJ7_fill_53178_7 (by decide) (fun hb => ?_) (fun hb => ?_)
  · have hF := hF.1 hb
    exact q_vret rfl (by decide) (by decide) dJ7_fill_53178_20 hF
  · have hF := hF.2 hb
    refine q_aload_n (i := 0) dJ7_fill_53178_10 rfl rfl ?_
    refine q_iload_n (i := 2) dJ7_fill_53178_11 rfl rfl ?_
    refine q_iload_n (i := 1) dJ7_fill_53178_12 rfl rfl ?_
    obtain ⟨hi1, hF⟩ := hF
    refine q_iastore (n := 2048) (by decide) rfl hi1 dJ7_fill_53178_13 ?_
    refine q_iinc (v := l2 + 1) dJ7_fill_53178_14 rfl rfl (by decide) rfl ?_
    refine q_goto (tgt := 5) dJ7_fill_53178_17 (by decide) ?_
    exact hF
