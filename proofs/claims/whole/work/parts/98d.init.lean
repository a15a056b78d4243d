def zk1_12 (P : Nat → Nat → Option Nat) : Nat → Nat → Option Nat := (zk6_9 (zk1_11 P))
def hk1_12 (h : qh) : qh := (hk6_7 (hk1_11 h))
def zk1_13 (P : Nat → Nat → Option Nat) : Nat → Nat → Option Nat := q_up (zk1_12 P) 0 2 (some 21)
def zk1_14 (P : Nat → Nat → Option Nat) : Nat → Nat → Option Nat := q_oP (zk1_13 P) 31
def hk1_13 (h : qh) : qh := (hk1_12 h).clr 31
def zk10_1 (P : Nat → Nat → Option Nat) : Nat → Nat → Option Nat := q_oP P 32
def hk10_1 (h : qh) : qh := h.clr 32
def zk10_2 (P : Nat → Nat → Option Nat) : Nat → Nat → Option Nat := q_up (zk10_1 P) 31 0 (some 32)
def zk10_3 (P : Nat → Nat → Option Nat) : Nat → Nat → Option Nat := q_oP (zk10_2 P) 33
def hk10_2 (h : qh) : qh := (hk10_1 h).clr 33
def zk10_4 (P : Nat → Nat → Option Nat) : Nat → Nat → Option Nat := q_up (zk10_3 P) 31 1 (some 33)
def zk10_5 (P : Nat → Nat → Option Nat) : Nat → Nat → Option Nat := q_oP (zk10_4 P) 34
def hk10_3 (h : qh) : qh := (hk10_2 h).clr 34
def zk10_6 (P : Nat → Nat → Option Nat) : Nat → Nat → Option Nat := q_up (zk10_5 P) 31 2 (some 34)
def zk10_7 (P : Nat → Nat → Option Nat) : Nat → Nat → Option Nat := q_oP (zk10_6 P) 35
def hk10_4 (h : qh) : qh := (hk10_3 h).clr 35
def zk10_8 (P : Nat → Nat → Option Nat) : Nat → Nat → Option Nat := q_up (zk10_7 P) 31 3 (some 35)
def zk10_9 (P : Nat → Nat → Option Nat) : Nat → Nat → Option Nat := q_oP (zk10_8 P) 36
def hk10_5 (h : qh) : qh := (hk10_4 h).clr 36
def zk10_10 (P : Nat → Nat → Option Nat) : Nat → Nat → Option Nat := q_up (zk10_9 P) 31 4 (some 36)
set_option maxRecDepth 100000 in
set_option maxHeartbeats 4000000 in
theorem k_9 (G : qG) (d : Nat) (P : Nat → Nat → Option Nat) (h : qh) : q_M G (true, 32, P) (true, 37, (zk10_10 P)) (d + 4) 5 2680 yX3_init [.ref 31] h (q_rv (fun h1 => h1 = (hk10_5 h)) (fun _ _ => False)) := by
  refine q_of (M := mi_X3_init) (by decide +kernel) rfl rfl kd_X3_init (fun _ => rfl) (Nat.le_of_ble_eq_true rfl) ?_
  show q_W G mi_X3_init _ (d + 4) 5 2680 _ 0 0 _ 0 [.ref 31] [] h
  refine q_aload_n (i := 0) dX3_init_0 rfl rfl ?_
  refine q_objInit ol_X3_3 oi_i oi_c (Nat.le_of_ble_eq_true rfl) dX3_init_1 ?_
  refine q_aload_n (i := 0) dX3_init_4 rfl rfl ?_
  refine q_sipush (v := 2048) dX3_init_5 (by decide) ?_
  refine q_newa (at_ := .int) (t := 0) (N := 2048) rfl rfl (by decide) (Or.inl ⟨rfl, rfl⟩) ac_int (by decide) (by decide) (by decide) (by decide) (by decide) dX3_init_8 ?_
  show q_W G mi_X3_init _ (d + 4) _ _ _ 1 2048 (true, 33, (zk10_1 P)) 10 [.ref 31] [.ref 32, .ref 31] (hk10_1 h)
  refine q_putP (v := 32) 4 0 fp_X3_9 (Or.inl rfl) (Nat.le_of_ble_eq_true rfl) rfl rfl (by rfl) (Or.inr ⟨_, rfl⟩) dX3_init_10 ?_
  show q_W G mi_X3_init _ (d + 4) _ _ _ 1 2048 (true, 33, (zk10_2 P)) 13 [.ref 31] [] (hk10_1 h)
  refine q_aload_n (i := 0) dX3_init_13 rfl rfl ?_
  refine q_bipush (v := 32) dX3_init_14 (by decide) ?_
  refine q_newa (at_ := .int) (t := 0) (N := 32) rfl rfl (by decide) (Or.inl ⟨rfl, rfl⟩) ac_int (by decide) (by decide) (by decide) (by decide) (by decide) dX3_init_16 ?_
  show q_W G mi_X3_init _ (d + 4) _ _ _ 2 2080 (true, 34, (zk10_3 P)) 18 [.ref 31] [.ref 33, .ref 31] (hk10_2 h)
  refine q_putP (v := 33) 4 1 fp_X3_15 (Or.inl rfl) (Nat.le_of_ble_eq_true rfl) rfl rfl (by rfl) (Or.inr ⟨_, rfl⟩) dX3_init_18 ?_
  show q_W G mi_X3_init _ (d + 4) _ _ _ 2 2080 (true, 34, (zk10_4 P)) 21 [.ref 31] [] (hk10_2 h)
  refine q_aload_n (i := 0) dX3_init_21 rfl rfl ?_
  refine q_sipush (v := 200) dX3_init_22 (by decide) ?_
  refine q_newa (at_ := .int) (t := 0) (N := 200) rfl rfl (by decide) (Or.inl ⟨rfl, rfl⟩) ac_int (by decide) (by decide) (by decide) (by decide) (by decide) dX3_init_25 ?_
  show q_W G mi_X3_init _ (d + 4) _ _ _ 3 2280 (true, 35, (zk10_5 P)) 27 [.ref 31] [.ref 34, .ref 31] (hk10_3 h)
  refine q_putP (v := 34) 4 2 fp_X3_18 (Or.inl rfl) (Nat.le_of_ble_eq_true rfl) rfl rfl (by rfl) (Or.inr ⟨_, rfl⟩) dX3_init_27 ?_
  show q_W G mi_X3_init _ (d + 4) _ _ _ 3 2280 (true, 35, (zk10_6 P)) 30 [.ref 31] [] (hk10_3 h)
  refine q_aload_n (i := 0) dX3_init_30 rfl rfl ?_
  refine q_sipush (v := 200) dX3_init_31 (by decide) ?_
  refine q_newa (at_ := .int) (t := 0) (N := 200) rfl rfl (by decide) (Or.inl ⟨rfl, rfl⟩) ac_int (by decide) (by decide) (by decide) (by decide) (by decide) dX3_init_34 ?_
  show q_W G mi_X3_init _ (d + 4) _ _ _ 4 2480 (true, 36, (zk10_7 P)) 36 [.ref 31] [.ref 35, .ref 31] (hk10_4 h)
  refine q_putP (v := 35) 4 3 fp_X3_21 (Or.inl rfl) (Nat.le_of_ble_eq_true rfl) rfl rfl (by rfl) (Or.inr ⟨_, rfl⟩) dX3_init_36 ?_
  show q_W G mi_X3_init _ (d + 4) _ _ _ 4 2480 (true, 36, (zk10_8 P)) 39 [.ref 31] [] (hk10_4 h)
  refine q_aload_n (i := 0) dX3_init_39 rfl rfl ?_
  refine q_sipush (v := 200) dX3_init_40 (by decide) ?_
  refine q_newa (at_ := .int) (t := 0) (N := 200) rfl rfl (by decide) (Or.inl ⟨rfl, rfl⟩) ac_int (by decide) (by decide) (by decide) (by decide) (by decide) dX3_init_43 ?_
  show q_W G mi_X3_init _ (d + 4) _ _ _ 5 2680 (true, 37, (zk10_9 P)) 45 [.ref 31] [.ref 36, .ref 31] (hk10_5 h)
  refine q_putP (v := 36) 4 4 fp_X3_24 (Or.inl rfl) (Nat.le_of_ble_eq_true rfl) rfl rfl (by rfl) (Or.inr ⟨_, rfl⟩) dX3_init_45 ?_
  show q_W G mi_X3_init _ (d + 4) _ _ _ 5 2680 (true, 37, (zk10_10 P)) 48 [.ref 31] [] (hk10_5 h)
  exact q_vret rfl (by decide) (by decide) dX3_init_48 rfl
def zk1_15 (P : Nat → Nat → Option Nat) : Nat → Nat → Option Nat := (zk10_10 (zk1_14 P))
def hk1_14 (h : qh) : qh := (hk10_5 (hk1_13 h))
def zk1_16 (P : Nat → Nat → Option Nat) : Nat → Nat → Option Nat := q_up (zk1_15 P) 0 3 (some 31)
def zk1_17 (P : Nat → Nat → Option Nat) : Nat → Nat → Option Nat := q_oP (zk1_16 P) 37
def hk1_15 (h : qh) : qh := (hk1_14 h).clr 37
set_option maxRecDepth 100000 in
set_option maxHeartbeats 4000000 in
theorem k_10 (G : qG) (d : Nat) (P : Nat → Nat → Option Nat) (h : qh) : q_M G (true, 38, P) (true, 38, P) (d + 4) 0 0 yX6_init [.ref 37] h (q_rv (fun h1 => h1 = h) (fun _ _ => False)) := by
  refine q_of (M := mi_X6_init) (by decide +kernel) rfl rfl kd_X6_init (fun _ => rfl) (Nat.le_of_ble_eq_true rfl) ?_
  show q_W G mi_X6_init _ (d + 4) 0 0 _ 0 0 _ 0 [.ref 37] [] h
  refine q_aload_n (i := 0) dX6_init_0 rfl rfl ?_
  refine q_objInit ol_X6_1 oi_i oi_c (Nat.le_of_ble_eq_true rfl) dX6_init_1 ?_
  exact q_vret rfl (by decide) (by decide) dX6_init_4 rfl
def zk1_18 (P : Nat → Nat → Option Nat) : Nat → Nat → Option Nat := (zk1_17 P)
def hk1_16 (h : qh) : qh := (hk1_15 h)
def zk1_19 (P : Nat → Nat → Option Nat) : Nat → Nat → Option Nat := q_up (zk1_18 P) 0 4 (some 37)
def zk1_20 (P : Nat → Nat → Option Nat) : Nat → Nat → Option Nat := q_oP (zk1_19 P) 38
def hk1_17 (h : qh) : qh := (hk1_16 h).clr 38
def zk12_1 (P : Nat → Nat → Option Nat) : Nat → Nat → Option Nat := q_oP P 39
def hk12_1 (h : qh) : qh := h.clr 39
def zk12_2 (P : Nat → Nat → Option Nat) : Nat → Nat → Option Nat := q_up (zk12_1 P) 38 2 (some 39)
def zk12_3 (P : Nat → Nat → Option Nat) : Nat → Nat → Option Nat := q_oP (zk12_2 P) 40
def hk12_2 (h : qh) : qh := (hk12_1 h).clr 40
def zk12_4 (P : Nat → Nat → Option Nat) : Nat → Nat → Option Nat := q_up (zk12_3 P) 38 3 (some 40)
def zk12_5 (P : Nat → Nat → Option Nat) : Nat → Nat → Option Nat := q_oP (zk12_4 P) 41
def hk12_3 (h : qh) : qh := (hk12_2 h).clr 41
def zk12_6 (P : Nat → Nat → Option Nat) : Nat → Nat → Option Nat := q_up (zk12_5 P) 38 4 (some 41)
def zk12_7 (P : Nat → Nat → Option Nat) : Nat → Nat → Option Nat := q_up (zk12_6 P) 38 0 (some 31)
def zk12_8 (P : Nat → Nat → Option Nat) : Nat → Nat → Option Nat := q_up (zk12_7 P) 38 1 (some 37)
def hk12_4 (h : qh) : qh := (hk12_3 h).sR 38 5 (some 1)
def hk12_5 (h : qh) : qh := (hk12_4 h).sI 38 9 (-1)
set_option maxRecDepth 100000 in
set_option maxHeartbeats 4000000 in
theorem k_11 (G : qG) (d : Nat) (P : Nat → Nat → Option Nat) (h : qh) : q_M G (true, 39, P) (true, 42, (zk12_8 P)) (d + 4) 3 2816 yX9_init [.ref 38, .ref 31, .ref 37, .ref 1] h (q_rv (fun h1 => h1 = (hk12_5 h)) (fun _ _ => False)) := by
  refine q_of (M := mi_X9_init) (by decide +kernel) rfl rfl kd_X9_init (fun _ => rfl) (Nat.le_of_ble_eq_true rfl) ?_
  show q_W G mi_X9_init _ (d + 4) 3 2816 _ 0 0 _ 0 [.ref 38, .ref 31, .ref 37, .ref 1] [] h
  refine q_aload_n (i := 0) dX9_init_0 rfl rfl ?_
  refine q_objInit ol_X9_3 oi_i oi_c (Nat.le_of_ble_eq_true rfl) dX9_init_1 ?_
  refine q_aload_n (i := 0) dX9_init_4 rfl rfl ?_
  refine q_sipush (v := 1400) dX9_init_5 (by decide) ?_
  refine q_newa (at_ := .int) (t := 0) (N := 1400) rfl rfl (by decide) (Or.inl ⟨rfl, rfl⟩) ac_int (by decide) (by decide) (by decide) (by decide) (by decide) dX9_init_8 ?_
  show q_W G mi_X9_init _ (d + 4) _ _ _ 1 1400 (true, 40, (zk12_1 P)) 10 [.ref 38, .ref 31, .ref 37, .ref 1] [.ref 39, .ref 38] (hk12_1 h)
  refine q_putP (v := 39) 10 2 fp_X9_9 (Or.inl rfl) (Nat.le_of_ble_eq_true rfl) rfl rfl (by rfl) (Or.inr ⟨_, rfl⟩) dX9_init_10 ?_
  show q_W G mi_X9_init _ (d + 4) _ _ _ 1 1400 (true, 40, (zk12_2 P)) 13 [.ref 38, .ref 31, .ref 37, .ref 1] [] (hk12_1 h)
  refine q_aload_n (i := 0) dX9_init_13 rfl rfl ?_
  refine q_sipush (v := 1400) dX9_init_14 (by decide) ?_
  refine q_newa (at_ := .boolean) (t := 2) (N := 1400) rfl rfl (by decide) (Or.inr (Or.inr ⟨rfl, rfl⟩)) ac_boolean (by decide) (by decide) (by decide) (by decide) (by decide) dX9_init_17 ?_
  show q_W G mi_X9_init _ (d + 4) _ _ _ 2 2800 (true, 41, (zk12_3 P)) 19 [.ref 38, .ref 31, .ref 37, .ref 1] [.ref 40, .ref 38] (hk12_2 h)
  refine q_putP (v := 40) 10 3 fp_X9_15 (Or.inl rfl) (Nat.le_of_ble_eq_true rfl) rfl rfl (by rfl) (Or.inr ⟨_, rfl⟩) dX9_init_19 ?_
  show q_W G mi_X9_init _ (d + 4) _ _ _ 2 2800 (true, 41, (zk12_4 P)) 22 [.ref 38, .ref 31, .ref 37, .ref 1] [] (hk12_2 h)
  refine q_aload_n (i := 0) dX9_init_22 rfl rfl ?_
  refine q_bipush (v := 16) dX9_init_23 (by decide) ?_
  refine q_newa (at_ := .int) (t := 0) (N := 16) rfl rfl (by decide) (Or.inl ⟨rfl, rfl⟩) ac_int (by decide) (by decide) (by decide) (by decide) (by decide) dX9_init_25 ?_
  show q_W G mi_X9_init _ (d + 4) _ _ _ 3 2816 (true, 42, (zk12_5 P)) 27 [.ref 38, .ref 31, .ref 37, .ref 1] [.ref 41, .ref 38] (hk12_3 h)
  refine q_putP (v := 41) 10 4 fp_X9_19 (Or.inl rfl) (Nat.le_of_ble_eq_true rfl) rfl rfl (by rfl) (Or.inr ⟨_, rfl⟩) dX9_init_27 ?_
  show q_W G mi_X9_init _ (d + 4) _ _ _ 3 2816 (true, 42, (zk12_6 P)) 30 [.ref 38, .ref 31, .ref 37, .ref 1] [] (hk12_3 h)
  refine q_aload_n (i := 0) dX9_init_30 rfl rfl ?_
  refine q_aload_n (i := 1) dX9_init_31 rfl rfl ?_
  refine q_putP (v := 31) 10 0 fp_X9_22 (Or.inl rfl) (Nat.le_of_ble_eq_true rfl) rfl rfl (by rfl) (Or.inl ⟨_, rfl⟩) dX9_init_32 ?_
  show q_W G mi_X9_init _ (d + 4) _ _ _ 3 2816 (true, 42, (zk12_7 P)) 35 [.ref 38, .ref 31, .ref 37, .ref 1] [] (hk12_3 h)
  refine q_aload_n (i := 0) dX9_init_35 rfl rfl ?_
  refine q_aload_n (i := 2) dX9_init_36 rfl rfl ?_
  refine q_putP (v := 37) 10 1 fp_X9_26 (Or.inl rfl) (Nat.le_of_ble_eq_true rfl) rfl rfl (by rfl) (Or.inl ⟨_, rfl⟩) dX9_init_37 ?_
  show q_W G mi_X9_init _ (d + 4) _ _ _ 3 2816 (true, 42, (zk12_8 P)) 40 [.ref 38, .ref 31, .ref 37, .ref 1] [] (hk12_3 h)
  refine q_aload_n (i := 0) dX9_init_40 rfl rfl ?_
  refine q_aload_n (i := 3) dX9_init_41 rfl rfl ?_
  refine q_putR (v := 1) 10 5 fp_X9_30 (Or.inl rfl) (Nat.le_of_ble_eq_true rfl) rfl rfl (by rfl) (Or.inl ⟨_, rfl⟩) dX9_init_42 ?_
  show q_W G mi_X9_init _ (d + 4) _ _ _ 3 2816 (true, 42, (zk12_8 P)) 45 [.ref 38, .ref 31, .ref 37, .ref 1] [] (hk12_4 h)
  refine q_aload_n (i := 0) dX9_init_45 rfl rfl ?_
  refine q_iconst (v := (-1)) dX9_init_46 (by decide) ?_
  refine q_putI 10 9 fp_X9_34 (Or.inl rfl) (Nat.le_of_ble_eq_true rfl) rfl rfl dX9_init_47 ?_
  show q_W G mi_X9_init _ (d + 4) _ _ _ 3 2816 (true, 42, (zk12_8 P)) 50 [.ref 38, .ref 31, .ref 37, .ref 1] [] (hk12_5 h)
  exact q_vret rfl (by decide) (by decide) dX9_init_50 rfl
