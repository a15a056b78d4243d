def zk13_1 (P : Nat → Nat → Option Nat) : Nat → Nat → Option Nat := q_oP P 44
def hk13_1 (h : qh) : qh := h.clr 44
def zk13_2 (P : Nat → Nat → Option Nat) : Nat → Nat → Option Nat := q_up (zk13_1 P) 43 1 (some 44)
def hk13_2 (h : qh) : qh := (hk13_1 h).sI 43 4 (-1)
def zk13_3 (P : Nat → Nat → Option Nat) : Nat → Nat → Option Nat := q_oP (zk13_2 P) 45
def hk13_3 (h : qh) : qh := (hk13_2 h).clr 45
def zk13_4 (P : Nat → Nat → Option Nat) : Nat → Nat → Option Nat := q_up (zk13_3 P) 43 5 (some 45)
def zk13_5 (P : Nat → Nat → Option Nat) : Nat → Nat → Option Nat := q_oP (zk13_4 P) 46
def hk13_4 (h : qh) : qh := (hk13_3 h).clr 46
def zk13_6 (P : Nat → Nat → Option Nat) : Nat → Nat → Option Nat := q_up (zk13_5 P) 43 8 (some 46)
def zk13_7 (P : Nat → Nat → Option Nat) : Nat → Nat → Option Nat := q_oP (zk13_6 P) 47
def hk13_5 (h : qh) : qh := (hk13_4 h).clr 47
def zk13_8 (P : Nat → Nat → Option Nat) : Nat → Nat → Option Nat := q_up (zk13_7 P) 43 10 (some 47)
def zk13_9 (P : Nat → Nat → Option Nat) : Nat → Nat → Option Nat := q_oP (zk13_8 P) 48
def hk13_6 (h : qh) : qh := (hk13_5 h).clr 48
def zk13_10 (P : Nat → Nat → Option Nat) : Nat → Nat → Option Nat := q_up (zk13_9 P) 43 11 (some 48)
def zk13_11 (P : Nat → Nat → Option Nat) : Nat → Nat → Option Nat := q_oP (zk13_10 P) 49
def hk13_7 (h : qh) : qh := (hk13_6 h).clr 49
def zk13_12 (P : Nat → Nat → Option Nat) : Nat → Nat → Option Nat := q_up (zk13_11 P) 43 12 (some 49)
def zk13_13 (P : Nat → Nat → Option Nat) : Nat → Nat → Option Nat := q_oP (zk13_12 P) 50
def hk13_8 (h : qh) : qh := (hk13_7 h).clr 50
def zk13_14 (P : Nat → Nat → Option Nat) : Nat → Nat → Option Nat := q_up (zk13_13 P) 43 16 (some 50)
def zk13_15 (P : Nat → Nat → Option Nat) : Nat → Nat → Option Nat := q_oP (zk13_14 P) 51
def hk13_9 (h : qh) : qh := (hk13_8 h).clr 51
def zk14_1 (P : Nat → Nat → Option Nat) : Nat → Nat → Option Nat := q_oP P 52
def hk14_1 (h : qh) : qh := h.clr 52
def zk14_2 (P : Nat → Nat → Option Nat) : Nat → Nat → Option Nat := q_up (zk14_1 P) 51 8 (some 52)
def zk14_3 (P : Nat → Nat → Option Nat) : Nat → Nat → Option Nat := q_oP (zk14_2 P) 53
def hk14_2 (h : qh) : qh := (hk14_1 h).clr 53
def zk14_4 (P : Nat → Nat → Option Nat) : Nat → Nat → Option Nat := q_up (zk14_3 P) 51 9 (some 53)
def zk14_5 (P : Nat → Nat → Option Nat) : Nat → Nat → Option Nat := q_oP (zk14_4 P) 54
def hk14_3 (h : qh) : qh := (hk14_2 h).clr 54
def zk14_6 (P : Nat → Nat → Option Nat) : Nat → Nat → Option Nat := q_up (zk14_5 P) 51 10 (some 54)
def zk14_7 (P : Nat → Nat → Option Nat) : Nat → Nat → Option Nat := q_oP (zk14_6 P) 55
def hk14_4 (h : qh) : qh := (hk14_3 h).clr 55
def zk14_8 (P : Nat → Nat → Option Nat) : Nat → Nat → Option Nat := q_up (zk14_7 P) 51 11 (some 55)
def zk14_9 (P : Nat → Nat → Option Nat) : Nat → Nat → Option Nat := q_oP (zk14_8 P) 56
def hk14_5 (h : qh) : qh := (hk14_4 h).clr 56
def zk14_10 (P : Nat → Nat → Option Nat) : Nat → Nat → Option Nat := q_up (zk14_9 P) 51 12 (some 56)
def zk14_11 (P : Nat → Nat → Option Nat) : Nat → Nat → Option Nat := q_oP (zk14_10 P) 57
def hk14_6 (h : qh) : qh := (hk14_5 h).clr 57
def zk14_12 (P : Nat → Nat → Option Nat) : Nat → Nat → Option Nat := q_up (zk14_11 P) 51 13 (some 57)
def zk14_13 (P : Nat → Nat → Option Nat) : Nat → Nat → Option Nat := q_oP (zk14_12 P) 58
def hk14_7 (h : qh) : qh := (hk14_6 h).clr 58
def zk14_14 (P : Nat → Nat → Option Nat) : Nat → Nat → Option Nat := q_up (zk14_13 P) 51 14 (some 58)
def zk14_15 (P : Nat → Nat → Option Nat) : Nat → Nat → Option Nat := q_oP (zk14_14 P) 59
def hk14_8 (h : qh) : qh := (hk14_7 h).clr 59
def zk14_16 (P : Nat → Nat → Option Nat) : Nat → Nat → Option Nat := q_up (zk14_15 P) 51 15 (some 59)
def zk14_17 (P : Nat → Nat → Option Nat) : Nat → Nat → Option Nat := q_oP (zk14_16 P) 60
def hk14_9 (h : qh) : qh := (hk14_8 h).clr 60
def zk14_18 (P : Nat → Nat → Option Nat) : Nat → Nat → Option Nat := q_up (zk14_17 P) 51 16 (some 60)
def zk14_19 (P : Nat → Nat → Option Nat) : Nat → Nat → Option Nat := q_oP (zk14_18 P) 61
def hk14_10 (h : qh) : qh := (hk14_9 h).clr 61
def zk14_20 (P : Nat → Nat → Option Nat) : Nat → Nat → Option Nat := q_up (zk14_19 P) 51 17 (some 61)
set_option maxRecDepth 100000 in
set_option maxHeartbeats 4000000 in
theorem k_13 (G : qG) (d : Nat) (P : Nat → Nat → Option Nat) (h : qh) : q_M G (true, 52, P) (true, 62, (zk14_20 P)) (d + 4) 10 18008 yX11_init [.ref 51] h (q_rv (fun h1 => h1 = (hk14_10 h)) (fun _ _ => False)) := by
  refine q_of (M := mi_X11_init) (by decide +kernel) rfl rfl kd_X11_init (fun _ => rfl) (Nat.le_of_ble_eq_true rfl) ?_
  show q_W G mi_X11_init _ (d + 4) 10 18008 _ 0 0 _ 0 [.ref 51] [] h
  refine q_aload_n (i := 0) dX11_init_0 rfl rfl ?_
  refine q_objInit ol_X11_3 oi_i oi_c (Nat.le_of_ble_eq_true rfl) dX11_init_1 ?_
  refine q_aload_n (i := 0) dX11_init_4 rfl rfl ?_
  refine q_bipush (v := 8) dX11_init_5 (by decide) ?_
  refine q_newa (at_ := .int) (t := 0) (N := 8) rfl rfl (by decide) (Or.inl ⟨rfl, rfl⟩) ac_int (by decide) (by decide) (by decide) (by decide) (by decide) dX11_init_7 ?_
  show q_W G mi_X11_init _ (d + 4) _ _ _ 1 8 (true, 53, (zk14_1 P)) 9 [.ref 51] [.ref 52, .ref 51] (hk14_1 h)
  refine q_putP (v := 52) 12 8 fp_X11_9 (Or.inl rfl) (Nat.le_of_ble_eq_true rfl) rfl rfl (by rfl) (Or.inr ⟨_, rfl⟩) dX11_init_9 ?_
  show q_W G mi_X11_init _ (d + 4) _ _ _ 1 8 (true, 53, (zk14_2 P)) 12 [.ref 51] [] (hk14_1 h)
  refine q_aload_n (i := 0) dX11_init_12 rfl rfl ?_
  refine q_sipush (v := 2000) dX11_init_13 (by decide) ?_
  refine q_newa (at_ := .int) (t := 0) (N := 2000) rfl rfl (by decide) (Or.inl ⟨rfl, rfl⟩) ac_int (by decide) (by decide) (by decide) (by decide) (by decide) dX11_init_16 ?_
  show q_W G mi_X11_init _ (d + 4) _ _ _ 2 2008 (true, 54, (zk14_3 P)) 18 [.ref 51] [.ref 53, .ref 51] (hk14_2 h)
  refine q_putP (v := 53) 12 9 fp_X11_15 (Or.inl rfl) (Nat.le_of_ble_eq_true rfl) rfl rfl (by rfl) (Or.inr ⟨_, rfl⟩) dX11_init_18 ?_
  show q_W G mi_X11_init _ (d + 4) _ _ _ 2 2008 (true, 54, (zk14_4 P)) 21 [.ref 51] [] (hk14_2 h)
  refine q_aload_n (i := 0) dX11_init_21 rfl rfl ?_
  refine q_sipush (v := 2000) dX11_init_22 (by decide) ?_
  refine q_newa (at_ := .int) (t := 0) (N := 2000) rfl rfl (by decide) (Or.inl ⟨rfl, rfl⟩) ac_int (by decide) (by decide) (by decide) (by decide) (by decide) dX11_init_25 ?_
  show q_W G mi_X11_init _ (d + 4) _ _ _ 3 4008 (true, 55, (zk14_5 P)) 27 [.ref 51] [.ref 54, .ref 51] (hk14_3 h)
  refine q_putP (v := 54) 12 10 fp_X11_18 (Or.inl rfl) (Nat.le_of_ble_eq_true rfl) rfl rfl (by rfl) (Or.inr ⟨_, rfl⟩) dX11_init_27 ?_
  show q_W G mi_X11_init _ (d + 4) _ _ _ 3 4008 (true, 55, (zk14_6 P)) 30 [.ref 51] [] (hk14_3 h)
  refine q_aload_n (i := 0) dX11_init_30 rfl rfl ?_
  refine q_sipush (v := 2000) dX11_init_31 (by decide) ?_
  refine q_newa (at_ := .int) (t := 0) (N := 2000) rfl rfl (by decide) (Or.inl ⟨rfl, rfl⟩) ac_int (by decide) (by decide) (by decide) (by decide) (by decide) dX11_init_34 ?_
  show q_W G mi_X11_init _ (d + 4) _ _ _ 4 6008 (true, 56, (zk14_7 P)) 36 [.ref 51] [.ref 55, .ref 51] (hk14_4 h)
  refine q_putP (v := 55) 12 11 fp_X11_21 (Or.inl rfl) (Nat.le_of_ble_eq_true rfl) rfl rfl (by rfl) (Or.inr ⟨_, rfl⟩) dX11_init_36 ?_
  show q_W G mi_X11_init _ (d + 4) _ _ _ 4 6008 (true, 56, (zk14_8 P)) 39 [.ref 51] [] (hk14_4 h)
  refine q_aload_n (i := 0) dX11_init_39 rfl rfl ?_
  refine q_sipush (v := 2000) dX11_init_40 (by decide) ?_
  refine q_newa (at_ := .int) (t := 0) (N := 2000) rfl rfl (by decide) (Or.inl ⟨rfl, rfl⟩) ac_int (by decide) (by decide) (by decide) (by decide) (by decide) dX11_init_43 ?_
  show q_W G mi_X11_init _ (d + 4) _ _ _ 5 8008 (true, 57, (zk14_9 P)) 45 [.ref 51] [.ref 56, .ref 51] (hk14_5 h)
  refine q_putP (v := 56) 12 12 fp_X11_24 (Or.inl rfl) (Nat.le_of_ble_eq_true rfl) rfl rfl (by rfl) (Or.inr ⟨_, rfl⟩) dX11_init_45 ?_
  show q_W G mi_X11_init _ (d + 4) _ _ _ 5 8008 (true, 57, (zk14_10 P)) 48 [.ref 51] [] (hk14_5 h)
  refine q_aload_n (i := 0) dX11_init_48 rfl rfl ?_
  refine q_sipush (v := 2000) dX11_init_49 (by decide) ?_
  refine q_newa (at_ := .int) (t := 0) (N := 2000) rfl rfl (by decide) (Or.inl ⟨rfl, rfl⟩) ac_int (by decide) (by decide) (by decide) (by decide) (by decide) dX11_init_52 ?_
  show q_W G mi_X11_init _ (d + 4) _ _ _ 6 10008 (true, 58, (zk14_11 P)) 54 [.ref 51] [.ref 57, .ref 51] (hk14_6 h)
  refine q_putP (v := 57) 12 13 fp_X11_27 (Or.inl rfl) (Nat.le_of_ble_eq_true rfl) rfl rfl (by rfl) (Or.inr ⟨_, rfl⟩) dX11_init_54 ?_
  show q_W G mi_X11_init _ (d + 4) _ _ _ 6 10008 (true, 58, (zk14_12 P)) 57 [.ref 51] [] (hk14_6 h)
  refine q_aload_n (i := 0) dX11_init_57 rfl rfl ?_
  refine q_sipush (v := 2000) dX11_init_58 (by decide) ?_
  refine q_newa (at_ := .int) (t := 0) (N := 2000) rfl rfl (by decide) (Or.inl ⟨rfl, rfl⟩) ac_int (by decide) (by decide) (by decide) (by decide) (by decide) dX11_init_61 ?_
  show q_W G mi_X11_init _ (d + 4) _ _ _ 7 12008 (true, 59, (zk14_13 P)) 63 [.ref 51] [.ref 58, .ref 51] (hk14_7 h)
  refine q_putP (v := 58) 12 14 fp_X11_30 (Or.inl rfl) (Nat.le_of_ble_eq_true rfl) rfl rfl (by rfl) (Or.inr ⟨_, rfl⟩) dX11_init_63 ?_
  show q_W G mi_X11_init _ (d + 4) _ _ _ 7 12008 (true, 59, (zk14_14 P)) 66 [.ref 51] [] (hk14_7 h)
  refine q_aload_n (i := 0) dX11_init_66 rfl rfl ?_
  refine q_sipush (v := 2000) dX11_init_67 (by decide) ?_
  refine q_newa (at_ := .int) (t := 0) (N := 2000) rfl rfl (by decide) (Or.inl ⟨rfl, rfl⟩) ac_int (by decide) (by decide) (by decide) (by decide) (by decide) dX11_init_70 ?_
  show q_W G mi_X11_init _ (d + 4) _ _ _ 8 14008 (true, 60, (zk14_15 P)) 72 [.ref 51] [.ref 59, .ref 51] (hk14_8 h)
  refine q_putP (v := 59) 12 15 fp_X11_33 (Or.inl rfl) (Nat.le_of_ble_eq_true rfl) rfl rfl (by rfl) (Or.inr ⟨_, rfl⟩) dX11_init_72 ?_
  show q_W G mi_X11_init _ (d + 4) _ _ _ 8 14008 (true, 60, (zk14_16 P)) 75 [.ref 51] [] (hk14_8 h)
  refine q_aload_n (i := 0) dX11_init_75 rfl rfl ?_
  refine q_sipush (v := 2000) dX11_init_76 (by decide) ?_
  refine q_newa (at_ := .int) (t := 0) (N := 2000) rfl rfl (by decide) (Or.inl ⟨rfl, rfl⟩) ac_int (by decide) (by decide) (by decide) (by decide) (by decide) dX11_init_79 ?_
  show q_W G mi_X11_init _ (d + 4) _ _ _ 9 16008 (true, 61, (zk14_17 P)) 81 [.ref 51] [.ref 60, .ref 51] (hk14_9 h)
  refine q_putP (v := 60) 12 16 fp_X11_36 (Or.inl rfl) (Nat.le_of_ble_eq_true rfl) rfl rfl (by rfl) (Or.inr ⟨_, rfl⟩) dX11_init_81 ?_
  show q_W G mi_X11_init _ (d + 4) _ _ _ 9 16008 (true, 61, (zk14_18 P)) 84 [.ref 51] [] (hk14_9 h)
  refine q_aload_n (i := 0) dX11_init_84 rfl rfl ?_
  refine q_sipush (v := 2000) dX11_init_85 (by decide) ?_
  refine q_newa (at_ := .int) (t := 0) (N := 2000) rfl rfl (by decide) (Or.inl ⟨rfl, rfl⟩) ac_int (by decide) (by decide) (by decide) (by decide) (by decide) dX11_init_88 ?_
  show q_W G mi_X11_init _ (d + 4) _ _ _ 10 18008 (true, 62, (zk14_19 P)) 90 [.ref 51] [.ref 61, .ref 51] (hk14_10 h)
  refine q_putP (v := 61) 12 17 fp_X11_39 (Or.inl rfl) (Nat.le_of_ble_eq_true rfl) rfl rfl (by rfl) (Or.inr ⟨_, rfl⟩) dX11_init_90 ?_
  show q_W G mi_X11_init _ (d + 4) _ _ _ 10 18008 (true, 62, (zk14_20 P)) 93 [.ref 51] [] (hk14_10 h)
  exact q_vret rfl (by decide) (by decide) dX11_init_93 rfl
def zk13_16 (P : Nat → Nat → Option Nat) : Nat → Nat → Option Nat := (zk14_20 (zk13_15 P))
def hk13_10 (h : qh) : qh := (hk14_10 (hk13_9 h))
def hk13_11 (h : qh) : qh := (hk13_10 h).sR 43 21 (some 51)
def zk13_17 (P : Nat → Nat → Option Nat) : Nat → Nat → Option Nat := q_oP (zk13_16 P) 62
def hk13_12 (h : qh) : qh := (hk13_11 h).clr 62
def zk15_1 (P : Nat → Nat → Option Nat) : Nat → Nat → Option Nat := q_oP P 63
def hk15_1 (h : qh) : qh := h.clr 63
def zk15_2 (P : Nat → Nat → Option Nat) : Nat → Nat → Option Nat := q_up (zk15_1 P) 62 8 (some 63)
def zk15_3 (P : Nat → Nat → Option Nat) : Nat → Nat → Option Nat := q_oP (zk15_2 P) 64
def hk15_2 (h : qh) : qh := (hk15_1 h).clr 64
def zk15_4 (P : Nat → Nat → Option Nat) : Nat → Nat → Option Nat := q_up (zk15_3 P) 62 9 (some 64)
def zk15_5 (P : Nat → Nat → Option Nat) : Nat → Nat → Option Nat := q_oP (zk15_4 P) 65
def hk15_3 (h : qh) : qh := (hk15_2 h).clr 65
def zk15_6 (P : Nat → Nat → Option Nat) : Nat → Nat → Option Nat := q_up (zk15_5 P) 62 10 (some 65)
def zk15_7 (P : Nat → Nat → Option Nat) : Nat → Nat → Option Nat := q_oP (zk15_6 P) 66
def hk15_4 (h : qh) : qh := (hk15_3 h).clr 66
def zk15_8 (P : Nat → Nat → Option Nat) : Nat → Nat → Option Nat := q_up (zk15_7 P) 62 11 (some 66)
def zk15_9 (P : Nat → Nat → Option Nat) : Nat → Nat → Option Nat := q_oP (zk15_8 P) 67
def hk15_5 (h : qh) : qh := (hk15_4 h).clr 67
def zk15_10 (P : Nat → Nat → Option Nat) : Nat → Nat → Option Nat := q_up (zk15_9 P) 62 12 (some 67)
def zk15_11 (P : Nat → Nat → Option Nat) : Nat → Nat → Option Nat := q_oP (zk15_10 P) 68
def hk15_6 (h : qh) : qh := (hk15_5 h).clr 68
def zk15_12 (P : Nat → Nat → Option Nat) : Nat → Nat → Option Nat := q_up (zk15_11 P) 62 13 (some 68)
def zk15_13 (P : Nat → Nat → Option Nat) : Nat → Nat → Option Nat := q_oP (zk15_12 P) 69
def hk15_7 (h : qh) : qh := (hk15_6 h).clr 69
def zk15_14 (P : Nat → Nat → Option Nat) : Nat → Nat → Option Nat := q_up (zk15_13 P) 62 14 (some 69)
def zk15_15 (P : Nat → Nat → Option Nat) : Nat → Nat → Option Nat := q_oP (zk15_14 P) 70
def hk15_8 (h : qh) : qh := (hk15_7 h).clr 70
def zk15_16 (P : Nat → Nat → Option Nat) : Nat → Nat → Option Nat := q_up (zk15_15 P) 62 15 (some 70)
def zk15_17 (P : Nat → Nat → Option Nat) : Nat → Nat → Option Nat := q_oP (zk15_16 P) 71
def hk15_9 (h : qh) : qh := (hk15_8 h).clr 71
def zk15_18 (P : Nat → Nat → Option Nat) : Nat → Nat → Option Nat := q_up (zk15_17 P) 62 16 (some 71)
def zk15_19 (P : Nat → Nat → Option Nat) : Nat → Nat → Option Nat := q_oP (zk15_18 P) 72
def hk15_10 (h : qh) : qh := (hk15_9 h).clr 72
def zk15_20 (P : Nat → Nat → Option Nat) : Nat → Nat → Option Nat := q_up (zk15_19 P) 62 17 (some 72)
set_option maxRecDepth 100000 in
set_option maxHeartbeats 4000000 in
theorem k_14 (G : qG) (d : Nat) (P : Nat → Nat → Option Nat) (h : qh) : q_M G (true, 63, P) (true, 73, (zk15_20 P)) (d + 4) 10 18008 yX11_init [.ref 62] h (q_rv (fun h1 => h1 = (hk15_10 h)) (fun _ _ => False)) := by
  refine q_of (M := mi_X11_init) (by decide +kernel) rfl rfl kd_X11_init (fun _ => rfl) (Nat.le_of_ble_eq_true rfl) ?_
  show q_W G mi_X11_init _ (d + 4) 10 18008 _ 0 0 _ 0 [.ref 62] [] h
  refine q_aload_n (i := 0) dX11_init_0 rfl rfl ?_
  refine q_objInit ol_X11_3 oi_i oi_c (Nat.le_of_ble_eq_true rfl) dX11_init_1 ?_
  refine q_aload_n (i := 0) dX11_init_4 rfl rfl ?_
  refine q_bipush (v := 8) dX11_init_5 (by decide) ?_
  refine q_newa (at_ := .int) (t := 0) (N := 8) rfl rfl (by decide) (Or.inl ⟨rfl, rfl⟩) ac_int (by decide) (by decide) (by decide) (by decide) (by decide) dX11_init_7 ?_
  show q_W G mi_X11_init _ (d + 4) _ _ _ 1 8 (true, 64, (zk15_1 P)) 9 [.ref 62] [.ref 63, .ref 62] (hk15_1 h)
  refine q_putP (v := 63) 12 8 fp_X11_9 (Or.inl rfl) (Nat.le_of_ble_eq_true rfl) rfl rfl (by rfl) (Or.inr ⟨_, rfl⟩) dX11_init_9 ?_
  show q_W G mi_X11_init _ (d + 4) _ _ _ 1 8 (true, 64, (zk15_2 P)) 12 [.ref 62] [] (hk15_1 h)
  refine q_aload_n (i := 0) dX11_init_12 rfl rfl ?_
  refine q_sipush (v := 2000) dX11_init_13 (by decide) ?_
  refine q_newa (at_ := .int) (t := 0) (N := 2000) rfl rfl (by decide) (Or.inl ⟨rfl, rfl⟩) ac_int (by decide) (by decide) (by decide) (by decide) (by decide) dX11_init_16 ?_
  show q_W G mi_X11_init _ (d + 4) _ _ _ 2 2008 (true, 65, (zk15_3 P)) 18 [.ref 62] [.ref 64, .ref 62] (hk15_2 h)
  refine q_putP (v := 64) 12 9 fp_X11_15 (Or.inl rfl) (Nat.le_of_ble_eq_true rfl) rfl rfl (by rfl) (Or.inr ⟨_, rfl⟩) dX11_init_18 ?_
  show q_W G mi_X11_init _ (d + 4) _ _ _ 2 2008 (true, 65, (zk15_4 P)) 21 [.ref 62] [] (hk15_2 h)
  refine q_aload_n (i := 0) dX11_init_21 rfl rfl ?_
  refine q_sipush (v := 2000) dX11_init_22 (by decide) ?_
  refine q_newa (at_ := .int) (t := 0) (N := 2000) rfl rfl (by decide) (Or.inl ⟨rfl, rfl⟩) ac_int (by decide) (by decide) (by decide) (by decide) (by decide) dX11_init_25 ?_
  show q_W G mi_X11_init _ (d + 4) _ _ _ 3 4008 (true, 66, (zk15_5 P)) 27 [.ref 62] [.ref 65, .ref 62] (hk15_3 h)
  refine q_putP (v := 65) 12 10 fp_X11_18 (Or.inl rfl) (Nat.le_of_ble_eq_true rfl) rfl rfl (by rfl) (Or.inr ⟨_, rfl⟩) dX11_init_27 ?_
  show q_W G mi_X11_init _ (d + 4) _ _ _ 3 4008 (true, 66, (zk15_6 P)) 30 [.ref 62] [] (hk15_3 h)
  refine q_aload_n (i := 0) dX11_init_30 rfl rfl ?_
  refine q_sipush (v := 2000) dX11_init_31 (by decide) ?_
  refine q_newa (at_ := .int) (t := 0) (N := 2000) rfl rfl (by decide) (Or.inl ⟨rfl, rfl⟩) ac_int (by decide) (by decide) (by decide) (by decide) (by decide) dX11_init_34 ?_
  show q_W G mi_X11_init _ (d + 4) _ _ _ 4 6008 (true, 67, (zk15_7 P)) 36 [.ref 62] [.ref 66, .ref 62] (hk15_4 h)
  refine q_putP (v := 66) 12 11 fp_X11_21 (Or.inl rfl) (Nat.le_of_ble_eq_true rfl) rfl rfl (by rfl) (Or.inr ⟨_, rfl⟩) dX11_init_36 ?_
  show q_W G mi_X11_init _ (d + 4) _ _ _ 4 6008 (true, 67, (zk15_8 P)) 39 [.ref 62] [] (hk15_4 h)
  refine q_aload_n (i := 0) dX11_init_39 rfl rfl ?_
  refine q_sipush (v := 2000) dX11_init_40 (by decide) ?_
  refine q_newa (at_ := .int) (t := 0) (N := 2000) rfl rfl (by decide) (Or.inl ⟨rfl, rfl⟩) ac_int (by decide) (by decide) (by decide) (by decide) (by decide) dX11_init_43 ?_
  show q_W G mi_X11_init _ (d + 4) _ _ _ 5 8008 (true, 68, (zk15_9 P)) 45 [.ref 62] [.ref 67, .ref 62] (hk15_5 h)
  refine q_putP (v := 67) 12 12 fp_X11_24 (Or.inl rfl) (Nat.le_of_ble_eq_true rfl) rfl rfl (by rfl) (Or.inr ⟨_, rfl⟩) dX11_init_45 ?_
  show q_W G mi_X11_init _ (d + 4) _ _ _ 5 8008 (true, 68, (zk15_10 P)) 48 [.ref 62] [] (hk15_5 h)
  refine q_aload_n (i := 0) dX11_init_48 rfl rfl ?_
  refine q_sipush (v := 2000) dX11_init_49 (by decide) ?_
  refine q_newa (at_ := .int) (t := 0) (N := 2000) rfl rfl (by decide) (Or.inl ⟨rfl, rfl⟩) ac_int (by decide) (by decide) (by decide) (by decide) (by decide) dX11_init_52 ?_
  show q_W G mi_X11_init _ (d + 4) _ _ _ 6 10008 (true, 69, (zk15_11 P)) 54 [.ref 62] [.ref 68, .ref 62] (hk15_6 h)
  refine q_putP (v := 68) 12 13 fp_X11_27 (Or.inl rfl) (Nat.le_of_ble_eq_true rfl) rfl rfl (by rfl) (Or.inr ⟨_, rfl⟩) dX11_init_54 ?_
  show q_W G mi_X11_init _ (d + 4) _ _ _ 6 10008 (true, 69, (zk15_12 P)) 57 [.ref 62] [] (hk15_6 h)
  refine q_aload_n (i := 0) dX11_init_57 rfl rfl ?_
  refine q_sipush (v := 2000) dX11_init_58 (by decide) ?_
  refine q_newa (at_ := .int) (t := 0) (N := 2000) rfl rfl (by decide) (Or.inl ⟨rfl, rfl⟩) ac_int (by decide) (by decide) (by decide) (by decide) (by decide) dX11_init_61 ?_
  show q_W G mi_X11_init _ (d + 4) _ _ _ 7 12008 (true, 70, (zk15_13 P)) 63 [.ref 62] [.ref 69, .ref 62] (hk15_7 h)
  refine q_putP (v := 69) 12 14 fp_X11_30 (Or.inl rfl) (Nat.le_of_ble_eq_true rfl) rfl rfl (by rfl) (Or.inr ⟨_, rfl⟩) dX11_init_63 ?_
  show q_W G mi_X11_init _ (d + 4) _ _ _ 7 12008 (true, 70, (zk15_14 P)) 66 [.ref 62] [] (hk15_7 h)
  refine q_aload_n (i := 0) dX11_init_66 rfl rfl ?_
  refine q_sipush (v := 2000) dX11_init_67 (by decide) ?_
  refine q_newa (at_ := .int) (t := 0) (N := 2000) rfl rfl (by decide) (Or.inl ⟨rfl, rfl⟩) ac_int (by decide) (by decide) (by decide) (by decide) (by decide) dX11_init_70 ?_
  show q_W G mi_X11_init _ (d + 4) _ _ _ 8 14008 (true, 71, (zk15_15 P)) 72 [.ref 62] [.ref 70, .ref 62] (hk15_8 h)
  refine q_putP (v := 70) 12 15 fp_X11_33 (Or.inl rfl) (Nat.le_of_ble_eq_true rfl) rfl rfl (by rfl) (Or.inr ⟨_, rfl⟩) dX11_init_72 ?_
  show q_W G mi_X11_init _ (d + 4) _ _ _ 8 14008 (true, 71, (zk15_16 P)) 75 [.ref 62] [] (hk15_8 h)
  refine q_aload_n (i := 0) dX11_init_75 rfl rfl ?_
  refine q_sipush (v := 2000) dX11_init_76 (by decide) ?_
  refine q_newa (at_ := .int) (t := 0) (N := 2000) rfl rfl (by decide) (Or.inl ⟨rfl, rfl⟩) ac_int (by decide) (by decide) (by decide) (by decide) (by decide) dX11_init_79 ?_
  show q_W G mi_X11_init _ (d + 4) _ _ _ 9 16008 (true, 72, (zk15_17 P)) 81 [.ref 62] [.ref 71, .ref 62] (hk15_9 h)
  refine q_putP (v := 71) 12 16 fp_X11_36 (Or.inl rfl) (Nat.le_of_ble_eq_true rfl) rfl rfl (by rfl) (Or.inr ⟨_, rfl⟩) dX11_init_81 ?_
  show q_W G mi_X11_init _ (d + 4) _ _ _ 9 16008 (true, 72, (zk15_18 P)) 84 [.ref 62] [] (hk15_9 h)
  refine q_aload_n (i := 0) dX11_init_84 rfl rfl ?_
  refine q_sipush (v := 2000) dX11_init_85 (by decide) ?_
  refine q_newa (at_ := .int) (t := 0) (N := 2000) rfl rfl (by decide) (Or.inl ⟨rfl, rfl⟩) ac_int (by decide) (by decide) (by decide) (by decide) (by decide) dX11_init_88 ?_
  show q_W G mi_X11_init _ (d + 4) _ _ _ 10 18008 (true, 73, (zk15_19 P)) 90 [.ref 62] [.ref 72, .ref 62] (hk15_10 h)
  refine q_putP (v := 72) 12 17 fp_X11_39 (Or.inl rfl) (Nat.le_of_ble_eq_true rfl) rfl rfl (by rfl) (Or.inr ⟨_, rfl⟩) dX11_init_90 ?_
  show q_W G mi_X11_init _ (d + 4) _ _ _ 10 18008 (true, 73, (zk15_20 P)) 93 [.ref 62] [] (hk15_10 h)
  exact q_vret rfl (by decide) (by decide) dX11_init_93 rfl
