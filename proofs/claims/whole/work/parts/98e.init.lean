def zk1_21 (P : Nat → Nat → Option Nat) : Nat → Nat → Option Nat := (zk12_8 (zk1_20 P))
def hk1_18 (h : qh) : qh := (hk12_5 (hk1_17 h))
def zk1_22 (P : Nat → Nat → Option Nat) : Nat → Nat → Option Nat := q_up (zk1_21 P) 0 5 (some 38)
def zk1_23 (P : Nat → Nat → Option Nat) : Nat → Nat → Option Nat := q_oP (zk1_22 P) 42
def hk1_19 (h : qh) : qh := (hk1_18 h).clr 42
def zk1_24 (P : Nat → Nat → Option Nat) : Nat → Nat → Option Nat := q_up (zk1_23 P) 0 6 (some 42)
def hk1_20 (h : qh) : qh := (hk1_19 h).sI 0 9 0
def hk1_21 (h : qh) : qh := (hk1_20 h).sI 0 10 0
def hk1_22 (h : qh) : qh := (hk1_21 h).sI 0 11 (-1)
set_option maxRecDepth 100000 in
set_option maxHeartbeats 4000000 in
theorem k_12 (G : qG) (d : Nat) (P : Nat → Nat → Option Nat) (h : qh) : q_M G (true, 1, P) (true, 43, (zk1_24 P)) (d + 6) 42 25604 yX10_init [.ref 0] h (q_rv (fun h1 => h1 = (hk1_22 h)) (fun _ _ => False)) := by
  refine q_of (M := mi_X10_init) (by decide +kernel) rfl rfl kd_X10_init (fun _ => rfl) (Nat.le_of_ble_eq_true rfl) ?_
  show q_W G mi_X10_init _ (d + 6) 42 25604 _ 0 0 _ 0 [.ref 0] [] h
  refine q_aload_n (i := 0) dX10_init_0 rfl rfl ?_
  refine q_objInit ol_X10_3 oi_i oi_c (Nat.le_of_ble_eq_true rfl) dX10_init_1 ?_
  refine q_aload_n (i := 0) dX10_init_4 rfl rfl ?_
  refine q_new (ci := 1) rfl rfl rfl nl_X10_9 ni_X0 nn_X0 (by decide) (by decide) dX10_init_5 ?_
  show q_W G mi_X10_init _ (d + 6) _ _ _ 1 12 (true, 2, (zk1_1 P)) 8 [.ref 0] [.ref 1, .ref 0] (hk1_1 h)
  refine q_dup dX10_init_8 rfl ?_
  refine q_callI (d1 := d + 5) (As := []) (st := [.ref 1, .ref 0]) ki_X10_11 rfl (by omega) (by decide) (by decide) (Nat.le_of_ble_eq_true rfl) dX10_init_9 rfl (k_1 G (d + 1) _ _) (fun h1 hh => ?_)
  subst hh
  show q_W G mi_X10_init _ (d + 6) _ _ _ 7 5700 (true, 8, (zk1_2 P)) 12 [.ref 0] [.ref 1, .ref 0] (hk1_2 h)
  refine q_putR (v := 1) 11 7 fp_X10_12 (Or.inl rfl) (Nat.le_of_ble_eq_true rfl) rfl rfl (by rfl) (Or.inl ⟨_, rfl⟩) dX10_init_12 ?_
  show q_W G mi_X10_init _ (d + 6) _ _ _ 7 5700 (true, 8, (zk1_2 P)) 15 [.ref 0] [] (hk1_3 h)
  refine q_aload_n (i := 0) dX10_init_15 rfl rfl ?_
  refine q_new (ci := 1) rfl rfl rfl nl_X10_9 ni_X0 nn_X0 (by decide) (by decide) dX10_init_16 ?_
  show q_W G mi_X10_init _ (d + 6) _ _ _ 8 5712 (true, 9, (zk1_3 P)) 19 [.ref 0] [.ref 8, .ref 0] (hk1_4 h)
  refine q_dup dX10_init_19 rfl ?_
  refine q_callI (d1 := d + 5) (As := []) (st := [.ref 8, .ref 0]) ki_X10_11 rfl (by omega) (by decide) (by decide) (Nat.le_of_ble_eq_true rfl) dX10_init_20 rfl (k_2 G (d + 1) _ _) (fun h1 hh => ?_)
  subst hh
  show q_W G mi_X10_init _ (d + 6) _ _ _ 14 11400 (true, 15, (zk1_4 P)) 23 [.ref 0] [.ref 8, .ref 0] (hk1_5 h)
  refine q_putR (v := 8) 11 8 fp_X10_16 (Or.inl rfl) (Nat.le_of_ble_eq_true rfl) rfl rfl (by rfl) (Or.inl ⟨_, rfl⟩) dX10_init_23 ?_
  show q_W G mi_X10_init _ (d + 6) _ _ _ 14 11400 (true, 15, (zk1_4 P)) 26 [.ref 0] [] (hk1_6 h)
  refine q_aload_n (i := 0) dX10_init_26 rfl rfl ?_
  refine q_new (ci := 8) rfl rfl rfl nl_X10_19 ni_X7 nn_X7 (by decide) (by decide) dX10_init_27 ?_
  show q_W G mi_X10_init _ (d + 6) _ _ _ 15 11402 (true, 16, (zk1_5 P)) 30 [.ref 0] [.ref 15, .ref 0] (hk1_7 h)
  refine q_dup dX10_init_30 rfl ?_
  refine q_callI (d1 := d + 5) (As := []) (st := [.ref 15, .ref 0]) ki_X10_21 rfl (by omega) (by decide) (by decide) (Nat.le_of_ble_eq_true rfl) dX10_init_31 rfl (k_3 G (d + 1) _ _) (fun h1 hh => ?_)
  subst hh
  show q_W G mi_X10_init _ (d + 6) _ _ _ 16 13402 (true, 17, (zk1_6 P)) 34 [.ref 0] [.ref 15, .ref 0] (hk1_8 h)
  refine q_putP (v := 15) 11 0 fp_X10_22 (Or.inl rfl) (Nat.le_of_ble_eq_true rfl) rfl rfl (by rfl) (Or.inl ⟨_, rfl⟩) dX10_init_34 ?_
  show q_W G mi_X10_init _ (d + 6) _ _ _ 16 13402 (true, 17, (zk1_7 P)) 37 [.ref 0] [] (hk1_8 h)
  refine q_aload_n (i := 0) dX10_init_37 rfl rfl ?_
  refine q_new (ci := 9) rfl rfl rfl nl_X10_26 ni_X8 nn_X8 (by decide) (by decide) dX10_init_38 ?_
  show q_W G mi_X10_init _ (d + 6) _ _ _ 17 13409 (true, 18, (zk1_8 P)) 41 [.ref 0] [.ref 17, .ref 0] (hk1_9 h)
  refine q_dup dX10_init_41 rfl ?_
  refine q_aload_n (i := 0) dX10_init_42 rfl rfl ?_
  refine q_getP 11 0 15 fl_X10_22 (Nat.le_of_ble_eq_true rfl) rfl rfl rfl dX10_init_43 ?_
  refine q_getP 8 0 16 fl_X10_28 (Nat.le_of_ble_eq_true rfl) rfl rfl rfl dX10_init_46 ?_
  refine q_callI (d1 := d + 5) (As := [.ref 16]) (st := [.ref 17, .ref 0]) ki_X10_32 rfl (by omega) (by decide) (by decide) (Nat.le_of_ble_eq_true rfl) dX10_init_49 rfl (k_4 G (d + 1) _ _) (fun h1 hh => ?_)
  subst hh
  show q_W G mi_X10_init _ (d + 6) _ _ _ 20 19412 (true, 21, (zk1_9 P)) 52 [.ref 0] [.ref 17, .ref 0] (hk1_10 h)
  refine q_putP (v := 17) 11 1 fp_X10_35 (Or.inl rfl) (Nat.le_of_ble_eq_true rfl) rfl rfl (by rfl) (Or.inl ⟨_, rfl⟩) dX10_init_52 ?_
  show q_W G mi_X10_init _ (d + 6) _ _ _ 20 19412 (true, 21, (zk1_10 P)) 55 [.ref 0] [] (hk1_10 h)
  refine q_aload_n (i := 0) dX10_init_55 rfl rfl ?_
  refine q_new (ci := 3) rfl rfl rfl nl_X10_39 ni_X2 nn_X2 (by decide) (by decide) dX10_init_56 ?_
  show q_W G mi_X10_init _ (d + 6) _ _ _ 21 19420 (true, 22, (zk1_11 P)) 59 [.ref 0] [.ref 21, .ref 0] (hk1_11 h)
  refine q_dup dX10_init_59 rfl ?_
  refine q_aload_n (i := 0) dX10_init_60 rfl rfl ?_
  refine q_getP 11 1 17 fl_X10_35 (Nat.le_of_ble_eq_true rfl) rfl rfl rfl dX10_init_61 ?_
  refine q_aload_n (i := 0) dX10_init_64 rfl rfl ?_
  refine q_getR (k := 8) 11 8 fl_X10_16 (Nat.le_of_ble_eq_true rfl) rfl rfl rfl dX10_init_65 ?_
  refine q_callI (d1 := d + 5) (As := [.ref 17, .ref 8]) (st := [.ref 21, .ref 0]) ki_X10_41 rfl (by omega) (by decide) (by decide) (Nat.le_of_ble_eq_true rfl) dX10_init_68 rfl (k_8 G d _ _) (fun h1 hh => ?_)
  subst hh
  show q_W G mi_X10_init _ (d + 6) _ _ _ 30 20076 (true, 31, (zk1_12 P)) 71 [.ref 0] [.ref 21, .ref 0] (hk1_12 h)
  refine q_putP (v := 21) 11 2 fp_X10_44 (Or.inl rfl) (Nat.le_of_ble_eq_true rfl) rfl rfl (by rfl) (Or.inl ⟨_, rfl⟩) dX10_init_71 ?_
  show q_W G mi_X10_init _ (d + 6) _ _ _ 30 20076 (true, 31, (zk1_13 P)) 74 [.ref 0] [] (hk1_12 h)
  refine q_aload_n (i := 0) dX10_init_74 rfl rfl ?_
  refine q_new (ci := 4) rfl rfl rfl nl_X10_48 ni_X3 nn_X3 (by decide) (by decide) dX10_init_75 ?_
  show q_W G mi_X10_init _ (d + 6) _ _ _ 31 20086 (true, 32, (zk1_14 P)) 78 [.ref 0] [.ref 31, .ref 0] (hk1_13 h)
  refine q_dup dX10_init_78 rfl ?_
  refine q_callI (d1 := d + 5) (As := []) (st := [.ref 31, .ref 0]) ki_X10_50 rfl (by omega) (by decide) (by decide) (Nat.le_of_ble_eq_true rfl) dX10_init_79 rfl (k_9 G (d + 1) _ _) (fun h1 hh => ?_)
  subst hh
  show q_W G mi_X10_init _ (d + 6) _ _ _ 36 22766 (true, 37, (zk1_15 P)) 82 [.ref 0] [.ref 31, .ref 0] (hk1_14 h)
  refine q_putP (v := 31) 11 3 fp_X10_51 (Or.inl rfl) (Nat.le_of_ble_eq_true rfl) rfl rfl (by rfl) (Or.inl ⟨_, rfl⟩) dX10_init_82 ?_
  show q_W G mi_X10_init _ (d + 6) _ _ _ 36 22766 (true, 37, (zk1_16 P)) 85 [.ref 0] [] (hk1_14 h)
  refine q_aload_n (i := 0) dX10_init_85 rfl rfl ?_
  refine q_new (ci := 7) rfl rfl rfl nl_X10_55 ni_X6 nn_X6 (by decide) (by decide) dX10_init_86 ?_
  show q_W G mi_X10_init _ (d + 6) _ _ _ 37 22768 (true, 38, (zk1_17 P)) 89 [.ref 0] [.ref 37, .ref 0] (hk1_15 h)
  refine q_dup dX10_init_89 rfl ?_
  refine q_callI (d1 := d + 5) (As := []) (st := [.ref 37, .ref 0]) ki_X10_57 rfl (by omega) (by decide) (by decide) (Nat.le_of_ble_eq_true rfl) dX10_init_90 rfl (k_10 G (d + 1) _ _) (fun h1 hh => ?_)
  subst hh
  show q_W G mi_X10_init _ (d + 6) _ _ _ 37 22768 (true, 38, (zk1_18 P)) 93 [.ref 0] [.ref 37, .ref 0] (hk1_16 h)
  refine q_putP (v := 37) 11 4 fp_X10_58 (Or.inl rfl) (Nat.le_of_ble_eq_true rfl) rfl rfl (by rfl) (Or.inl ⟨_, rfl⟩) dX10_init_93 ?_
  show q_W G mi_X10_init _ (d + 6) _ _ _ 37 22768 (true, 38, (zk1_19 P)) 96 [.ref 0] [] (hk1_16 h)
  refine q_aload_n (i := 0) dX10_init_96 rfl rfl ?_
  refine q_new (ci := 10) rfl rfl rfl nl_X10_62 ni_X9 nn_X9 (by decide) (by decide) dX10_init_97 ?_
  show q_W G mi_X10_init _ (d + 6) _ _ _ 38 22784 (true, 39, (zk1_20 P)) 100 [.ref 0] [.ref 38, .ref 0] (hk1_17 h)
  refine q_dup dX10_init_100 rfl ?_
  refine q_aload_n (i := 0) dX10_init_101 rfl rfl ?_
  refine q_getP 11 3 31 fl_X10_51 (Nat.le_of_ble_eq_true rfl) rfl rfl rfl dX10_init_102 ?_
  refine q_aload_n (i := 0) dX10_init_105 rfl rfl ?_
  refine q_getP 11 4 37 fl_X10_58 (Nat.le_of_ble_eq_true rfl) rfl rfl rfl dX10_init_106 ?_
  refine q_aload_n (i := 0) dX10_init_109 rfl rfl ?_
  refine q_getR (k := 1) 11 7 fl_X10_12 (Nat.le_of_ble_eq_true rfl) rfl rfl rfl dX10_init_110 ?_
  refine q_callI (d1 := d + 5) (As := [.ref 31, .ref 37, .ref 1]) (st := [.ref 38, .ref 0]) ki_X10_64 rfl (by omega) (by decide) (by decide) (Nat.le_of_ble_eq_true rfl) dX10_init_113 rfl (k_11 G (d + 1) _ _) (fun h1 hh => ?_)
  subst hh
  show q_W G mi_X10_init _ (d + 6) _ _ _ 41 25600 (true, 42, (zk1_21 P)) 116 [.ref 0] [.ref 38, .ref 0] (hk1_18 h)
  refine q_putP (v := 38) 11 5 fp_X10_67 (Or.inl rfl) (Nat.le_of_ble_eq_true rfl) rfl rfl (by rfl) (Or.inl ⟨_, rfl⟩) dX10_init_116 ?_
  show q_W G mi_X10_init _ (d + 6) _ _ _ 41 25600 (true, 42, (zk1_22 P)) 119 [.ref 0] [] (hk1_18 h)
  refine q_aload_n (i := 0) dX10_init_119 rfl rfl ?_
  refine q_iconst (v := 4) dX10_init_120 (by decide) ?_
  refine q_newa (at_ := .int) (t := 0) (N := 4) rfl rfl (by decide) (Or.inl ⟨rfl, rfl⟩) ac_int (by decide) (by decide) (by decide) (by decide) (by decide) dX10_init_121 ?_
  show q_W G mi_X10_init _ (d + 6) _ _ _ 42 25604 (true, 43, (zk1_23 P)) 123 [.ref 0] [.ref 42, .ref 0] (hk1_19 h)
  refine q_putP (v := 42) 11 6 fp_X10_71 (Or.inl rfl) (Nat.le_of_ble_eq_true rfl) rfl rfl (by rfl) (Or.inr ⟨_, rfl⟩) dX10_init_123 ?_
  show q_W G mi_X10_init _ (d + 6) _ _ _ 42 25604 (true, 43, (zk1_24 P)) 126 [.ref 0] [] (hk1_19 h)
  refine q_aload_n (i := 0) dX10_init_126 rfl rfl ?_
  refine q_iconst (v := 0) dX10_init_127 (by decide) ?_
  refine q_putZ 11 9 fp_X10_75 (Or.inl rfl) (Nat.le_of_ble_eq_true rfl) rfl rfl (by decide) dX10_init_128 ?_
  show q_W G mi_X10_init _ (d + 6) _ _ _ 42 25604 (true, 43, (zk1_24 P)) 131 [.ref 0] [] (hk1_20 h)
  refine q_aload_n (i := 0) dX10_init_131 rfl rfl ?_
  refine q_iconst (v := 0) dX10_init_132 (by decide) ?_
  refine q_putI 11 10 fp_X10_79 (Or.inl rfl) (Nat.le_of_ble_eq_true rfl) rfl rfl dX10_init_133 ?_
  show q_W G mi_X10_init _ (d + 6) _ _ _ 42 25604 (true, 43, (zk1_24 P)) 136 [.ref 0] [] (hk1_21 h)
  refine q_aload_n (i := 0) dX10_init_136 rfl rfl ?_
  refine q_iconst (v := (-1)) dX10_init_137 (by decide) ?_
  refine q_putI 11 11 fp_X10_83 (Or.inl rfl) (Nat.le_of_ble_eq_true rfl) rfl rfl dX10_init_138 ?_
  show q_W G mi_X10_init _ (d + 6) _ _ _ 42 25604 (true, 43, (zk1_24 P)) 141 [.ref 0] [] (hk1_22 h)
  exact q_vret rfl (by decide) (by decide) dX10_init_141 rfl
