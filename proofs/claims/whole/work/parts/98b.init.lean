def zk1_9 (P : Nat → Nat → Option Nat) : Nat → Nat → Option Nat := (zk5_7 (zk1_8 P))
def hk1_10 (h : qh) : qh := (hk5_3 (hk1_9 h))
def zk1_10 (P : Nat → Nat → Option Nat) : Nat → Nat → Option Nat := q_up (zk1_9 P) 0 1 (some 17)
def zk1_11 (P : Nat → Nat → Option Nat) : Nat → Nat → Option Nat := q_oP (zk1_10 P) 21
def hk1_11 (h : qh) : qh := (hk1_10 h).clr 21
def zk6_1 (P : Nat → Nat → Option Nat) : Nat → Nat → Option Nat := q_oP P 22
def hk6_1 (h : qh) : qh := h.clr 22
def zk7_1 (P : Nat → Nat → Option Nat) : Nat → Nat → Option Nat := q_up P 22 0 (some 17)
set_option maxRecDepth 100000 in
set_option maxHeartbeats 4000000 in
theorem k_5 (G : qG) (d : Nat) (P : Nat → Nat → Option Nat) (h : qh) : q_M G (true, 23, P) (true, 23, (zk7_1 P)) (d + 4) 0 0 yX4_init [.ref 22, .ref 17] h (q_rv (fun h1 => h1 = h) (fun _ _ => False)) := by
  refine q_of (M := mi_X4_init) (by decide +kernel) rfl rfl kd_X4_init (fun _ => rfl) (Nat.le_of_ble_eq_true rfl) ?_
  show q_W G mi_X4_init _ (d + 4) 0 0 _ 0 0 _ 0 [.ref 22, .ref 17] [] h
  refine q_aload_n (i := 0) dX4_init_0 rfl rfl ?_
  refine q_objInit ol_X4_3 oi_i oi_c (Nat.le_of_ble_eq_true rfl) dX4_init_1 ?_
  refine q_aload_n (i := 0) dX4_init_4 rfl rfl ?_
  refine q_aload_n (i := 1) dX4_init_5 rfl rfl ?_
  refine q_putP (v := 17) 5 0 fp_X4_9 (Or.inl rfl) (Nat.le_of_ble_eq_true rfl) rfl rfl (by rfl) (Or.inl ⟨_, rfl⟩) dX4_init_6 ?_
  show q_W G mi_X4_init _ (d + 4) _ _ _ 0 0 (true, 23, (zk7_1 P)) 9 [.ref 22, .ref 17] [] h
  exact q_vret rfl (by decide) (by decide) dX4_init_9 rfl
def zk6_2 (P : Nat → Nat → Option Nat) : Nat → Nat → Option Nat := (zk7_1 (zk6_1 P))
def hk6_2 (h : qh) : qh := (hk6_1 h)
def zk6_3 (P : Nat → Nat → Option Nat) : Nat → Nat → Option Nat := q_up (zk6_2 P) 21 0 (some 22)
def zk6_4 (P : Nat → Nat → Option Nat) : Nat → Nat → Option Nat := q_oP (zk6_3 P) 23
def hk6_3 (h : qh) : qh := (hk6_2 h).clr 23
def zk8_1 (P : Nat → Nat → Option Nat) : Nat → Nat → Option Nat := q_oP P 24
def hk8_1 (h : qh) : qh := h.clr 24
def zk8_2 (P : Nat → Nat → Option Nat) : Nat → Nat → Option Nat := q_up (zk8_1 P) 23 0 (some 24)
def zk8_3 (P : Nat → Nat → Option Nat) : Nat → Nat → Option Nat := q_oP (zk8_2 P) 25
def hk8_2 (h : qh) : qh := (hk8_1 h).clr 25
def zk8_4 (P : Nat → Nat → Option Nat) : Nat → Nat → Option Nat := q_up (zk8_3 P) 23 1 (some 25)
def zk8_5 (P : Nat → Nat → Option Nat) : Nat → Nat → Option Nat := q_oP (zk8_4 P) 26
def hk8_3 (h : qh) : qh := (hk8_2 h).clr 26
def zk8_6 (P : Nat → Nat → Option Nat) : Nat → Nat → Option Nat := q_up (zk8_5 P) 23 2 (some 26)
set_option maxRecDepth 100000 in
set_option maxHeartbeats 4000000 in
theorem k_6 (G : qG) (d : Nat) (P : Nat → Nat → Option Nat) (h : qh) : q_M G (true, 24, P) (true, 27, (zk8_6 P)) (d + 4) 3 75 yX5_init [.ref 23] h (q_rv (fun h1 => h1 = (hk8_3 h)) (fun _ _ => False)) := by
  refine q_of (M := mi_X5_init) (by decide +kernel) rfl rfl kd_X5_init (fun _ => rfl) (Nat.le_of_ble_eq_true rfl) ?_
  show q_W G mi_X5_init _ (d + 4) 3 75 _ 0 0 _ 0 [.ref 23] [] h
  refine q_aload_n (i := 0) dX5_init_0 rfl rfl ?_
  refine q_objInit ol_X5_3 oi_i oi_c (Nat.le_of_ble_eq_true rfl) dX5_init_1 ?_
  refine q_aload_n (i := 0) dX5_init_4 rfl rfl ?_
  refine q_bipush (v := 25) dX5_init_5 (by decide) ?_
  refine q_newl (at_ := .long) (N := 25) rfl rfl rfl ac_long (by decide) (by decide) (by decide) (by decide) (by decide) dX5_init_7 ?_
  show q_W G mi_X5_init _ (d + 4) _ _ _ 1 25 (true, 25, (zk8_1 P)) 9 [.ref 23] [.ref 24, .ref 23] (hk8_1 h)
  refine q_putP (v := 24) 6 0 fp_X5_9 (Or.inl rfl) (Nat.le_of_ble_eq_true rfl) rfl rfl (by rfl) (Or.inr ⟨_, rfl⟩) dX5_init_9 ?_
  show q_W G mi_X5_init _ (d + 4) _ _ _ 1 25 (true, 25, (zk8_2 P)) 12 [.ref 23] [] (hk8_1 h)
  refine q_aload_n (i := 0) dX5_init_12 rfl rfl ?_
  refine q_bipush (v := 25) dX5_init_13 (by decide) ?_
  refine q_newa (at_ := .int) (t := 0) (N := 25) rfl rfl (by decide) (Or.inl ⟨rfl, rfl⟩) ac_int (by decide) (by decide) (by decide) (by decide) (by decide) dX5_init_15 ?_
  show q_W G mi_X5_init _ (d + 4) _ _ _ 2 50 (true, 26, (zk8_3 P)) 17 [.ref 23] [.ref 25, .ref 23] (hk8_2 h)
  refine q_putP (v := 25) 6 1 fp_X5_15 (Or.inl rfl) (Nat.le_of_ble_eq_true rfl) rfl rfl (by rfl) (Or.inr ⟨_, rfl⟩) dX5_init_17 ?_
  show q_W G mi_X5_init _ (d + 4) _ _ _ 2 50 (true, 26, (zk8_4 P)) 20 [.ref 23] [] (hk8_2 h)
  refine q_aload_n (i := 0) dX5_init_20 rfl rfl ?_
  refine q_bipush (v := 25) dX5_init_21 (by decide) ?_
  refine q_newa (at_ := .int) (t := 0) (N := 25) rfl rfl (by decide) (Or.inl ⟨rfl, rfl⟩) ac_int (by decide) (by decide) (by decide) (by decide) (by decide) dX5_init_23 ?_
  show q_W G mi_X5_init _ (d + 4) _ _ _ 3 75 (true, 27, (zk8_5 P)) 25 [.ref 23] [.ref 26, .ref 23] (hk8_3 h)
  refine q_putP (v := 26) 6 2 fp_X5_19 (Or.inl rfl) (Nat.le_of_ble_eq_true rfl) rfl rfl (by rfl) (Or.inr ⟨_, rfl⟩) dX5_init_25 ?_
  show q_W G mi_X5_init _ (d + 4) _ _ _ 3 75 (true, 27, (zk8_6 P)) 28 [.ref 23] [] (hk8_3 h)
  exact q_vret rfl (by decide) (by decide) dX5_init_28 rfl
def zk6_5 (P : Nat → Nat → Option Nat) : Nat → Nat → Option Nat := (zk8_6 (zk6_4 P))
def hk6_4 (h : qh) : qh := (hk8_3 (hk6_3 h))
def zk6_6 (P : Nat → Nat → Option Nat) : Nat → Nat → Option Nat := q_up (zk6_5 P) 21 1 (some 23)
def zk6_7 (P : Nat → Nat → Option Nat) : Nat → Nat → Option Nat := q_oP (zk6_6 P) 27
def hk6_5 (h : qh) : qh := (hk6_4 h).clr 27
def zk9_1 (P : Nat → Nat → Option Nat) : Nat → Nat → Option Nat := q_oP P 28
def hk9_1 (h : qh) : qh := h.clr 28
def zk9_2 (P : Nat → Nat → Option Nat) : Nat → Nat → Option Nat := q_up (zk9_1 P) 27 2 (some 28)
def zk9_3 (P : Nat → Nat → Option Nat) : Nat → Nat → Option Nat := q_oP (zk9_2 P) 29
def hk9_2 (h : qh) : qh := (hk9_1 h).clr 29
def zk9_4 (P : Nat → Nat → Option Nat) : Nat → Nat → Option Nat := q_up (zk9_3 P) 27 3 (some 29)
def zk9_5 (P : Nat → Nat → Option Nat) : Nat → Nat → Option Nat := q_oP (zk9_4 P) 30
def hk9_3 (h : qh) : qh := (hk9_2 h).clr 30
def zk9_6 (P : Nat → Nat → Option Nat) : Nat → Nat → Option Nat := q_up (zk9_5 P) 27 4 (some 30)
def zk9_7 (P : Nat → Nat → Option Nat) : Nat → Nat → Option Nat := q_up (zk9_6 P) 27 0 (some 22)
def zk9_8 (P : Nat → Nat → Option Nat) : Nat → Nat → Option Nat := q_up (zk9_7 P) 27 1 (some 23)
def hk9_4 (h : qh) : qh := (hk9_3 h).sR 27 5 (some 8)
set_option maxRecDepth 100000 in
set_option maxHeartbeats 4000000 in
theorem k_7 (G : qG) (d : Nat) (P : Nat → Nat → Option Nat) (h : qh) : q_M G (true, 28, P) (true, 31, (zk9_8 P)) (d + 4) 3 559 yX1_init [.ref 27, .ref 22, .ref 23, .ref 8] h (q_rv (fun h1 => h1 = (hk9_4 h)) (fun _ _ => False)) := by
  refine q_of (M := mi_X1_init) (by decide +kernel) rfl rfl kd_X1_init (fun _ => rfl) (Nat.le_of_ble_eq_true rfl) ?_
  show q_W G mi_X1_init _ (d + 4) 3 559 _ 0 0 _ 0 [.ref 27, .ref 22, .ref 23, .ref 8] [] h
  refine q_aload_n (i := 0) dX1_init_0 rfl rfl ?_
  refine q_objInit ol_X1_3 oi_i oi_c (Nat.le_of_ble_eq_true rfl) dX1_init_1 ?_
  refine q_aload_n (i := 0) dX1_init_4 rfl rfl ?_
  refine q_sipush (v := 186) dX1_init_5 (by decide) ?_
  refine q_newa (at_ := .int) (t := 0) (N := 186) rfl rfl (by decide) (Or.inl ⟨rfl, rfl⟩) ac_int (by decide) (by decide) (by decide) (by decide) (by decide) dX1_init_8 ?_
  show q_W G mi_X1_init _ (d + 4) _ _ _ 1 186 (true, 29, (zk9_1 P)) 10 [.ref 27, .ref 22, .ref 23, .ref 8] [.ref 28, .ref 27] (hk9_1 h)
  refine q_putP (v := 28) 2 2 fp_X1_9 (Or.inl rfl) (Nat.le_of_ble_eq_true rfl) rfl rfl (by rfl) (Or.inr ⟨_, rfl⟩) dX1_init_10 ?_
  show q_W G mi_X1_init _ (d + 4) _ _ _ 1 186 (true, 29, (zk9_2 P)) 13 [.ref 27, .ref 22, .ref 23, .ref 8] [] (hk9_1 h)
  refine q_aload_n (i := 0) dX1_init_13 rfl rfl ?_
  refine q_sipush (v := 186) dX1_init_14 (by decide) ?_
  refine q_newa (at_ := .int) (t := 0) (N := 186) rfl rfl (by decide) (Or.inl ⟨rfl, rfl⟩) ac_int (by decide) (by decide) (by decide) (by decide) (by decide) dX1_init_17 ?_
  show q_W G mi_X1_init _ (d + 4) _ _ _ 2 372 (true, 30, (zk9_3 P)) 19 [.ref 27, .ref 22, .ref 23, .ref 8] [.ref 29, .ref 27] (hk9_2 h)
  refine q_putP (v := 29) 2 3 fp_X1_15 (Or.inl rfl) (Nat.le_of_ble_eq_true rfl) rfl rfl (by rfl) (Or.inr ⟨_, rfl⟩) dX1_init_19 ?_
  show q_W G mi_X1_init _ (d + 4) _ _ _ 2 372 (true, 30, (zk9_4 P)) 22 [.ref 27, .ref 22, .ref 23, .ref 8] [] (hk9_2 h)
  refine q_aload_n (i := 0) dX1_init_22 rfl rfl ?_
  refine q_sipush (v := 187) dX1_init_23 (by decide) ?_
  refine q_newa (at_ := .int) (t := 0) (N := 187) rfl rfl (by decide) (Or.inl ⟨rfl, rfl⟩) ac_int (by decide) (by decide) (by decide) (by decide) (by decide) dX1_init_26 ?_
  show q_W G mi_X1_init _ (d + 4) _ _ _ 3 559 (true, 31, (zk9_5 P)) 28 [.ref 27, .ref 22, .ref 23, .ref 8] [.ref 30, .ref 27] (hk9_3 h)
  refine q_putP (v := 30) 2 4 fp_X1_18 (Or.inl rfl) (Nat.le_of_ble_eq_true rfl) rfl rfl (by rfl) (Or.inr ⟨_, rfl⟩) dX1_init_28 ?_
  show q_W G mi_X1_init _ (d + 4) _ _ _ 3 559 (true, 31, (zk9_6 P)) 31 [.ref 27, .ref 22, .ref 23, .ref 8] [] (hk9_3 h)
  refine q_aload_n (i := 0) dX1_init_31 rfl rfl ?_
  refine q_aload_n (i := 1) dX1_init_32 rfl rfl ?_
  refine q_putP (v := 22) 2 0 fp_X1_21 (Or.inl rfl) (Nat.le_of_ble_eq_true rfl) rfl rfl (by rfl) (Or.inl ⟨_, rfl⟩) dX1_init_33 ?_
  show q_W G mi_X1_init _ (d + 4) _ _ _ 3 559 (true, 31, (zk9_7 P)) 36 [.ref 27, .ref 22, .ref 23, .ref 8] [] (hk9_3 h)
  refine q_aload_n (i := 0) dX1_init_36 rfl rfl ?_
  refine q_aload_n (i := 2) dX1_init_37 rfl rfl ?_
  refine q_putP (v := 23) 2 1 fp_X1_25 (Or.inl rfl) (Nat.le_of_ble_eq_true rfl) rfl rfl (by rfl) (Or.inl ⟨_, rfl⟩) dX1_init_38 ?_
  show q_W G mi_X1_init _ (d + 4) _ _ _ 3 559 (true, 31, (zk9_8 P)) 41 [.ref 27, .ref 22, .ref 23, .ref 8] [] (hk9_3 h)
  refine q_aload_n (i := 0) dX1_init_41 rfl rfl ?_
  refine q_aload_n (i := 3) dX1_init_42 rfl rfl ?_
  refine q_putR (v := 8) 2 5 fp_X1_29 (Or.inl rfl) (Nat.le_of_ble_eq_true rfl) rfl rfl (by rfl) (Or.inl ⟨_, rfl⟩) dX1_init_43 ?_
  show q_W G mi_X1_init _ (d + 4) _ _ _ 3 559 (true, 31, (zk9_8 P)) 46 [.ref 27, .ref 22, .ref 23, .ref 8] [] (hk9_4 h)
  exact q_vret rfl (by decide) (by decide) dX1_init_46 rfl
