def zk6_8 (P : Nat → Nat → Option Nat) : Nat → Nat → Option Nat := (zk9_8 (zk6_7 P))
def hk6_6 (h : qh) : qh := (hk9_4 (hk6_5 h))
def zk6_9 (P : Nat → Nat → Option Nat) : Nat → Nat → Option Nat := q_up (zk6_8 P) 21 2 (some 27)
def hk6_7 (h : qh) : qh := (hk6_6 h).sR 21 3 (some 8)
set_option maxRecDepth 100000 in
set_option maxHeartbeats 4000000 in
theorem k_8 (G : qG) (d : Nat) (P : Nat → Nat → Option Nat) (h : qh) : q_M G (true, 22, P) (true, 31, (zk6_9 P)) (d + 5) 9 656 yX2_init [.ref 21, .ref 17, .ref 8] h (q_rv (fun h1 => h1 = (hk6_7 h)) (fun _ _ => False)) := by
  refine q_of (M := mi_X2_init) (by decide +kernel) rfl rfl kd_X2_init (fun _ => rfl) (Nat.le_of_ble_eq_true rfl) ?_
  show q_W G mi_X2_init _ (d + 5) 9 656 _ 0 0 _ 0 [.ref 21, .ref 17, .ref 8] [] h
  refine q_aload_n (i := 0) dX2_init_0 rfl rfl ?_
  refine q_objInit ol_X2_3 oi_i oi_c (Nat.le_of_ble_eq_true rfl) dX2_init_1 ?_
  refine q_aload_n (i := 0) dX2_init_4 rfl rfl ?_
  refine q_new (ci := 5) rfl rfl rfl nl_X2_9 ni_X4 nn_X4 (by decide) (by decide) dX2_init_5 ?_
  show q_W G mi_X2_init _ (d + 5) _ _ _ 1 8 (true, 23, (zk6_1 P)) 8 [.ref 21, .ref 17, .ref 8] [.ref 22, .ref 21] (hk6_1 h)
  refine q_dup dX2_init_8 rfl ?_
  refine q_aload_n (i := 1) dX2_init_9 rfl rfl ?_
  refine q_callI (d1 := d + 4) (As := [.ref 17]) (st := [.ref 22, .ref 21]) ki_X2_11 rfl (by omega) (by decide) (by decide) (Nat.le_of_ble_eq_true rfl) dX2_init_10 rfl (k_5 G d _ _) (fun h1 hh => ?_)
  subst hh
  show q_W G mi_X2_init _ (d + 5) _ _ _ 1 8 (true, 23, (zk6_2 P)) 13 [.ref 21, .ref 17, .ref 8] [.ref 22, .ref 21] (hk6_2 h)
  refine q_putP (v := 22) 3 0 fp_X2_14 (Or.inl rfl) (Nat.le_of_ble_eq_true rfl) rfl rfl (by rfl) (Or.inl ⟨_, rfl⟩) dX2_init_13 ?_
  show q_W G mi_X2_init _ (d + 5) _ _ _ 1 8 (true, 23, (zk6_3 P)) 16 [.ref 21, .ref 17, .ref 8] [] (hk6_2 h)
  refine q_aload_n (i := 0) dX2_init_16 rfl rfl ?_
  refine q_new (ci := 6) rfl rfl rfl nl_X2_20 ni_X5 nn_X5 (by decide) (by decide) dX2_init_17 ?_
  show q_W G mi_X2_init _ (d + 5) _ _ _ 2 12 (true, 24, (zk6_4 P)) 20 [.ref 21, .ref 17, .ref 8] [.ref 23, .ref 21] (hk6_3 h)
  refine q_dup dX2_init_20 rfl ?_
  refine q_callI (d1 := d + 4) (As := []) (st := [.ref 23, .ref 21]) ki_X2_22 rfl (by omega) (by decide) (by decide) (Nat.le_of_ble_eq_true rfl) dX2_init_21 rfl (k_6 G d _ _) (fun h1 hh => ?_)
  subst hh
  show q_W G mi_X2_init _ (d + 5) _ _ _ 5 87 (true, 27, (zk6_5 P)) 24 [.ref 21, .ref 17, .ref 8] [.ref 23, .ref 21] (hk6_4 h)
  refine q_putP (v := 23) 3 1 fp_X2_23 (Or.inl rfl) (Nat.le_of_ble_eq_true rfl) rfl rfl (by rfl) (Or.inl ⟨_, rfl⟩) dX2_init_24 ?_
  show q_W G mi_X2_init _ (d + 5) _ _ _ 5 87 (true, 27, (zk6_6 P)) 27 [.ref 21, .ref 17, .ref 8] [] (hk6_4 h)
  refine q_aload_n (i := 0) dX2_init_27 rfl rfl ?_
  refine q_new (ci := 2) rfl rfl rfl nl_X2_27 ni_X1 nn_X1 (by decide) (by decide) dX2_init_28 ?_
  show q_W G mi_X2_init _ (d + 5) _ _ _ 6 97 (true, 28, (zk6_7 P)) 31 [.ref 21, .ref 17, .ref 8] [.ref 27, .ref 21] (hk6_5 h)
  refine q_dup dX2_init_31 rfl ?_
  refine q_aload_n (i := 0) dX2_init_32 rfl rfl ?_
  refine q_getP 3 0 22 fl_X2_14 (Nat.le_of_ble_eq_true rfl) rfl rfl rfl dX2_init_33 ?_
  refine q_aload_n (i := 0) dX2_init_36 rfl rfl ?_
  refine q_getP 3 1 23 fl_X2_23 (Nat.le_of_ble_eq_true rfl) rfl rfl rfl dX2_init_37 ?_
  refine q_aload_n (i := 2) dX2_init_40 rfl rfl ?_
  refine q_callI (d1 := d + 4) (As := [.ref 22, .ref 23, .ref 8]) (st := [.ref 27, .ref 21]) ki_X2_29 rfl (by omega) (by decide) (by decide) (Nat.le_of_ble_eq_true rfl) dX2_init_41 rfl (k_7 G d _ _) (fun h1 hh => ?_)
  subst hh
  show q_W G mi_X2_init _ (d + 5) _ _ _ 9 656 (true, 31, (zk6_8 P)) 44 [.ref 21, .ref 17, .ref 8] [.ref 27, .ref 21] (hk6_6 h)
  refine q_putP (v := 27) 3 2 fp_X2_32 (Or.inl rfl) (Nat.le_of_ble_eq_true rfl) rfl rfl (by rfl) (Or.inl ⟨_, rfl⟩) dX2_init_44 ?_
  show q_W G mi_X2_init _ (d + 5) _ _ _ 9 656 (true, 31, (zk6_9 P)) 47 [.ref 21, .ref 17, .ref 8] [] (hk6_6 h)
  refine q_aload_n (i := 0) dX2_init_47 rfl rfl ?_
  refine q_aload_n (i := 2) dX2_init_48 rfl rfl ?_
  refine q_putR (v := 8) 3 3 fp_X2_36 (Or.inl rfl) (Nat.le_of_ble_eq_true rfl) rfl rfl (by rfl) (Or.inl ⟨_, rfl⟩) dX2_init_49 ?_
  show q_W G mi_X2_init _ (d + 5) _ _ _ 9 656 (true, 31, (zk6_9 P)) 52 [.ref 21, .ref 17, .ref 8] [] (hk6_7 h)
  exact q_vret rfl (by decide) (by decide) dX2_init_52 rfl
