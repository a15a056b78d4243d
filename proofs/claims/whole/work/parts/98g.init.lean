def zk13_18 (P : Nat → Nat → Option Nat) : Nat → Nat → Option Nat := (zk15_20 (zk13_17 P))
def hk13_13 (h : qh) : qh := (hk15_10 (hk13_12 h))
def hk13_14 (h : qh) : qh := (hk13_13 h).sR 43 22 (some 62)
def zk13_19 (P : Nat → Nat → Option Nat) : Nat → Nat → Option Nat := q_oP (zk13_18 P) 73
def hk13_15 (h : qh) : qh := (hk13_14 h).clr 73
def zk13_20 (P : Nat → Nat → Option Nat) : Nat → Nat → Option Nat := q_up (zk13_19 P) 43 24 (some 73)
def zk13_21 (P : Nat → Nat → Option Nat) : Nat → Nat → Option Nat := q_oP (zk13_20 P) 74
def hk13_16 (h : qh) : qh := (hk13_15 h).clr 74
def zk13_22 (P : Nat → Nat → Option Nat) : Nat → Nat → Option Nat := q_up (zk13_21 P) 43 25 (some 74)
def zk13_23 (P : Nat → Nat → Option Nat) : Nat → Nat → Option Nat := q_oP (zk13_22 P) 75
def hk13_17 (h : qh) : qh := (hk13_16 h).clr 75
def zk13_24 (P : Nat → Nat → Option Nat) : Nat → Nat → Option Nat := q_up (zk13_23 P) 43 26 (some 75)
def zk13_25 (P : Nat → Nat → Option Nat) : Nat → Nat → Option Nat := q_oP (zk13_24 P) 76
def hk13_18 (h : qh) : qh := (hk13_17 h).clr 76
def zk13_26 (P : Nat → Nat → Option Nat) : Nat → Nat → Option Nat := q_up (zk13_25 P) 43 28 (some 76)
def zk13_27 (P : Nat → Nat → Option Nat) : Nat → Nat → Option Nat := q_oP (zk13_26 P) 77
def hk13_19 (h : qh) : qh := (hk13_18 h).clr 77
def zk13_28 (P : Nat → Nat → Option Nat) : Nat → Nat → Option Nat := q_up (zk13_27 P) 43 29 (some 77)
def zk13_29 (P : Nat → Nat → Option Nat) : Nat → Nat → Option Nat := q_oP (zk13_28 P) 78
def hk13_20 (h : qh) : qh := (hk13_19 h).clr 78
def zk13_30 (P : Nat → Nat → Option Nat) : Nat → Nat → Option Nat := q_up (zk13_29 P) 43 30 (some 78)
def zk13_31 (P : Nat → Nat → Option Nat) : Nat → Nat → Option Nat := q_oP (zk13_30 P) 79
def hk13_21 (h : qh) : qh := (hk13_20 h).clr 79
def zk13_32 (P : Nat → Nat → Option Nat) : Nat → Nat → Option Nat := q_up (zk13_31 P) 43 38 (some 79)
def zk13_33 (P : Nat → Nat → Option Nat) : Nat → Nat → Option Nat := q_oP (zk13_32 P) 80
def hk13_22 (h : qh) : qh := (hk13_21 h).clr 80
def zk13_34 (P : Nat → Nat → Option Nat) : Nat → Nat → Option Nat := q_up (zk13_33 P) 43 39 (some 80)
def zk13_35 (P : Nat → Nat → Option Nat) : Nat → Nat → Option Nat := q_oP (zk13_34 P) 81
def hk13_23 (h : qh) : qh := (hk13_22 h).clr 81
def hk13_24 (h : qh) : qh := (hk13_23 h).sR 43 41 (some 81)
def zk13_36 (P : Nat → Nat → Option Nat) : Nat → Nat → Option Nat := q_oP (zk13_35 P) 82
def hk13_25 (h : qh) : qh := (hk13_24 h).clr 82
def hk13_26 (h : qh) : qh := (hk13_25 h).sR 43 42 (some 82)
set_option maxRecDepth 100000 in
set_option maxHeartbeats 4000000 in
theorem k_15 (G : qG) (d : Nat) (P : Nat → Nat → Option Nat) (h : qh) (hd5 : 5 ≤ d + 5) : q_M G (true, 44, P) (true, 83, (zk13_36 P)) (d + 5) 39 62761 yX12_init [.ref 43] h (q_rv (fun h1 => h1 = (hk13_26 h)) (fun _ _ => False)) := by
  refine q_of (M := mi_X12_init) (by decide +kernel) rfl rfl kd_X12_init (fun _ => rfl) (Nat.le_of_ble_eq_true rfl) ?_
  show q_W G mi_X12_init _ (d + 5) 39 62761 _ 0 0 _ 0 [.ref 43] [] h
  refine q_aload_n (i := 0) dX12_init_0 rfl rfl ?_
  refine q_objInit ol_X12_3 oi_i oi_c (Nat.le_of_ble_eq_true rfl) dX12_init_1 ?_
  refine q_aload_n (i := 0) dX12_init_4 rfl rfl ?_
  refine q_sipush (v := 2000) dX12_init_5 (by decide) ?_
  refine q_newa (at_ := .byte) (t := 1) (N := 2000) rfl rfl (by decide) (Or.inr (Or.inl ⟨rfl, rfl⟩)) ac_byte (by decide) (by decide) (by decide) (by decide) (by decide) dX12_init_8 ?_
  show q_W G mi_X12_init _ (d + 5) _ _ _ 1 2000 (true, 45, (zk13_1 P)) 10 [.ref 43] [.ref 44, .ref 43] (hk13_1 h)
  refine q_putP (v := 44) 13 1 fp_X12_9 (Or.inl rfl) (Nat.le_of_ble_eq_true rfl) rfl rfl (by rfl) (Or.inr ⟨_, rfl⟩) dX12_init_10 ?_
  show q_W G mi_X12_init _ (d + 5) _ _ _ 1 2000 (true, 45, (zk13_2 P)) 13 [.ref 43] [] (hk13_1 h)
  refine q_aload_n (i := 0) dX12_init_13 rfl rfl ?_
  refine q_iconst (v := (-1)) dX12_init_14 (by decide) ?_
  refine q_putI 13 4 fp_X12_13 (Or.inl rfl) (Nat.le_of_ble_eq_true rfl) rfl rfl dX12_init_15 ?_
  show q_W G mi_X12_init _ (d + 5) _ _ _ 1 2000 (true, 45, (zk13_2 P)) 18 [.ref 43] [] (hk13_2 h)
  refine q_aload_n (i := 0) dX12_init_18 rfl rfl ?_
  refine q_bipush (v := 32) dX12_init_19 (by decide) ?_
  refine q_newa (at_ := .int) (t := 0) (N := 32) rfl rfl (by decide) (Or.inl ⟨rfl, rfl⟩) ac_int (by decide) (by decide) (by decide) (by decide) (by decide) dX12_init_21 ?_
  show q_W G mi_X12_init _ (d + 5) _ _ _ 2 2032 (true, 46, (zk13_3 P)) 23 [.ref 43] [.ref 45, .ref 43] (hk13_3 h)
  refine q_putP (v := 45) 13 5 fp_X12_17 (Or.inl rfl) (Nat.le_of_ble_eq_true rfl) rfl rfl (by rfl) (Or.inr ⟨_, rfl⟩) dX12_init_23 ?_
  show q_W G mi_X12_init _ (d + 5) _ _ _ 2 2032 (true, 46, (zk13_4 P)) 26 [.ref 43] [] (hk13_3 h)
  refine q_aload_n (i := 0) dX12_init_26 rfl rfl ?_
  refine q_sipush (v := 2000) dX12_init_27 (by decide) ?_
  refine q_newa (at_ := .byte) (t := 1) (N := 2000) rfl rfl (by decide) (Or.inr (Or.inl ⟨rfl, rfl⟩)) ac_byte (by decide) (by decide) (by decide) (by decide) (by decide) dX12_init_30 ?_
  show q_W G mi_X12_init _ (d + 5) _ _ _ 3 4032 (true, 47, (zk13_5 P)) 32 [.ref 43] [.ref 46, .ref 43] (hk13_4 h)
  refine q_putP (v := 46) 13 8 fp_X12_21 (Or.inl rfl) (Nat.le_of_ble_eq_true rfl) rfl rfl (by rfl) (Or.inr ⟨_, rfl⟩) dX12_init_32 ?_
  show q_W G mi_X12_init _ (d + 5) _ _ _ 3 4032 (true, 47, (zk13_6 P)) 35 [.ref 43] [] (hk13_4 h)
  refine q_aload_n (i := 0) dX12_init_35 rfl rfl ?_
  refine q_sipush (v := 2001) dX12_init_36 (by decide) ?_
  refine q_newa (at_ := .int) (t := 0) (N := 2001) rfl rfl (by decide) (Or.inl ⟨rfl, rfl⟩) ac_int (by decide) (by decide) (by decide) (by decide) (by decide) dX12_init_39 ?_
  show q_W G mi_X12_init _ (d + 5) _ _ _ 4 6033 (true, 48, (zk13_7 P)) 41 [.ref 43] [.ref 47, .ref 43] (hk13_5 h)
  refine q_putP (v := 47) 13 10 fp_X12_24 (Or.inl rfl) (Nat.le_of_ble_eq_true rfl) rfl rfl (by rfl) (Or.inr ⟨_, rfl⟩) dX12_init_41 ?_
  show q_W G mi_X12_init _ (d + 5) _ _ _ 4 6033 (true, 48, (zk13_8 P)) 44 [.ref 43] [] (hk13_5 h)
  refine q_aload_n (i := 0) dX12_init_44 rfl rfl ?_
  refine q_sipush (v := 2001) dX12_init_45 (by decide) ?_
  refine q_newa (at_ := .int) (t := 0) (N := 2001) rfl rfl (by decide) (Or.inl ⟨rfl, rfl⟩) ac_int (by decide) (by decide) (by decide) (by decide) (by decide) dX12_init_48 ?_
  show q_W G mi_X12_init _ (d + 5) _ _ _ 5 8034 (true, 49, (zk13_9 P)) 50 [.ref 43] [.ref 48, .ref 43] (hk13_6 h)
  refine q_putP (v := 48) 13 11 fp_X12_27 (Or.inl rfl) (Nat.le_of_ble_eq_true rfl) rfl rfl (by rfl) (Or.inr ⟨_, rfl⟩) dX12_init_50 ?_
  show q_W G mi_X12_init _ (d + 5) _ _ _ 5 8034 (true, 49, (zk13_10 P)) 53 [.ref 43] [] (hk13_6 h)
  refine q_aload_n (i := 0) dX12_init_53 rfl rfl ?_
  refine q_sipush (v := 2001) dX12_init_54 (by decide) ?_
  refine q_newa (at_ := .int) (t := 0) (N := 2001) rfl rfl (by decide) (Or.inl ⟨rfl, rfl⟩) ac_int (by decide) (by decide) (by decide) (by decide) (by decide) dX12_init_57 ?_
  show q_W G mi_X12_init _ (d + 5) _ _ _ 6 10035 (true, 50, (zk13_11 P)) 59 [.ref 43] [.ref 49, .ref 43] (hk13_7 h)
  refine q_putP (v := 49) 13 12 fp_X12_30 (Or.inl rfl) (Nat.le_of_ble_eq_true rfl) rfl rfl (by rfl) (Or.inr ⟨_, rfl⟩) dX12_init_59 ?_
  show q_W G mi_X12_init _ (d + 5) _ _ _ 6 10035 (true, 50, (zk13_12 P)) 62 [.ref 43] [] (hk13_7 h)
  refine q_aload_n (i := 0) dX12_init_62 rfl rfl ?_
  refine q_ise rfl rfl rfl dX12_init_63 dX12_init_66 dX12_init_67 dX12_init_69 hd5 (by decide) (by decide) (Nat.le_of_ble_eq_true rfl) ?_
  show q_W G mi_X12_init _ (d + 5) _ _ _ 7 10041 (true, 51, (zk13_13 P)) 72 [.ref 43] [.ref 50, .ref 43] (hk13_8 h)
  refine q_putP (v := 50) 13 16 fp_X12_40 (Or.inl rfl) (Nat.le_of_ble_eq_true rfl) rfl rfl (by rfl) (Or.inl ⟨_, rfl⟩) dX12_init_72 ?_
  show q_W G mi_X12_init _ (d + 5) _ _ _ 7 10041 (true, 51, (zk13_14 P)) 75 [.ref 43] [] (hk13_8 h)
  refine q_aload_n (i := 0) dX12_init_75 rfl rfl ?_
  refine q_new (ci := 12) rfl rfl rfl nl_X12_43 ni_X11 nn_X11 (by decide) (by decide) dX12_init_76 ?_
  show q_W G mi_X12_init _ (d + 5) _ _ _ 8 10059 (true, 52, (zk13_15 P)) 79 [.ref 43] [.ref 51, .ref 43] (hk13_9 h)
  refine q_dup dX12_init_79 rfl ?_
  refine q_callI (d1 := d + 4) (As := []) (st := [.ref 51, .ref 43]) ki_X12_45 rfl (by omega) (by decide) (by decide) (Nat.le_of_ble_eq_true rfl) dX12_init_80 rfl (k_13 G d _ _) (fun h1 hh => ?_)
  subst hh
  show q_W G mi_X12_init _ (d + 5) _ _ _ 18 28067 (true, 62, (zk13_16 P)) 83 [.ref 43] [.ref 51, .ref 43] (hk13_10 h)
  refine q_putR (v := 51) 13 21 fp_X12_46 (Or.inl rfl) (Nat.le_of_ble_eq_true rfl) rfl rfl (by rfl) (Or.inl ⟨_, rfl⟩) dX12_init_83 ?_
  show q_W G mi_X12_init _ (d + 5) _ _ _ 18 28067 (true, 62, (zk13_16 P)) 86 [.ref 43] [] (hk13_11 h)
  refine q_aload_n (i := 0) dX12_init_86 rfl rfl ?_
  refine q_new (ci := 12) rfl rfl rfl nl_X12_43 ni_X11 nn_X11 (by decide) (by decide) dX12_init_87 ?_
  show q_W G mi_X12_init _ (d + 5) _ _ _ 19 28085 (true, 63, (zk13_17 P)) 90 [.ref 43] [.ref 62, .ref 43] (hk13_12 h)
  refine q_dup dX12_init_90 rfl ?_
  refine q_callI (d1 := d + 4) (As := []) (st := [.ref 62, .ref 43]) ki_X12_45 rfl (by omega) (by decide) (by decide) (Nat.le_of_ble_eq_true rfl) dX12_init_91 rfl (k_14 G d _ _) (fun h1 hh => ?_)
  subst hh
  show q_W G mi_X12_init _ (d + 5) _ _ _ 29 46093 (true, 73, (zk13_18 P)) 94 [.ref 43] [.ref 62, .ref 43] (hk13_13 h)
  refine q_putR (v := 62) 13 22 fp_X12_50 (Or.inl rfl) (Nat.le_of_ble_eq_true rfl) rfl rfl (by rfl) (Or.inl ⟨_, rfl⟩) dX12_init_94 ?_
  show q_W G mi_X12_init _ (d + 5) _ _ _ 29 46093 (true, 73, (zk13_18 P)) 97 [.ref 43] [] (hk13_14 h)
  refine q_aload_n (i := 0) dX12_init_97 rfl rfl ?_
  refine q_sipush (v := 2000) dX12_init_98 (by decide) ?_
  refine q_newa (at_ := .int) (t := 0) (N := 2000) rfl rfl (by decide) (Or.inl ⟨rfl, rfl⟩) ac_int (by decide) (by decide) (by decide) (by decide) (by decide) dX12_init_101 ?_
  show q_W G mi_X12_init _ (d + 5) _ _ _ 30 48093 (true, 74, (zk13_19 P)) 103 [.ref 43] [.ref 73, .ref 43] (hk13_15 h)
  refine q_putP (v := 73) 13 24 fp_X12_53 (Or.inl rfl) (Nat.le_of_ble_eq_true rfl) rfl rfl (by rfl) (Or.inr ⟨_, rfl⟩) dX12_init_103 ?_
  show q_W G mi_X12_init _ (d + 5) _ _ _ 30 48093 (true, 74, (zk13_20 P)) 106 [.ref 43] [] (hk13_15 h)
  refine q_aload_n (i := 0) dX12_init_106 rfl rfl ?_
  refine q_sipush (v := 2000) dX12_init_107 (by decide) ?_
  refine q_newa (at_ := .int) (t := 0) (N := 2000) rfl rfl (by decide) (Or.inl ⟨rfl, rfl⟩) ac_int (by decide) (by decide) (by decide) (by decide) (by decide) dX12_init_110 ?_
  show q_W G mi_X12_init _ (d + 5) _ _ _ 31 50093 (true, 75, (zk13_21 P)) 112 [.ref 43] [.ref 74, .ref 43] (hk13_16 h)
  refine q_putP (v := 74) 13 25 fp_X12_56 (Or.inl rfl) (Nat.le_of_ble_eq_true rfl) rfl rfl (by rfl) (Or.inr ⟨_, rfl⟩) dX12_init_112 ?_
  show q_W G mi_X12_init _ (d + 5) _ _ _ 31 50093 (true, 75, (zk13_22 P)) 115 [.ref 43] [] (hk13_16 h)
  refine q_aload_n (i := 0) dX12_init_115 rfl rfl ?_
  refine q_sipush (v := 2000) dX12_init_116 (by decide) ?_
  refine q_newa (at_ := .int) (t := 0) (N := 2000) rfl rfl (by decide) (Or.inl ⟨rfl, rfl⟩) ac_int (by decide) (by decide) (by decide) (by decide) (by decide) dX12_init_119 ?_
  show q_W G mi_X12_init _ (d + 5) _ _ _ 32 52093 (true, 76, (zk13_23 P)) 121 [.ref 43] [.ref 75, .ref 43] (hk13_17 h)
  refine q_putP (v := 75) 13 26 fp_X12_59 (Or.inl rfl) (Nat.le_of_ble_eq_true rfl) rfl rfl (by rfl) (Or.inr ⟨_, rfl⟩) dX12_init_121 ?_
  show q_W G mi_X12_init _ (d + 5) _ _ _ 32 52093 (true, 76, (zk13_24 P)) 124 [.ref 43] [] (hk13_17 h)
  refine q_aload_n (i := 0) dX12_init_124 rfl rfl ?_
  refine q_sipush (v := 2048) dX12_init_125 (by decide) ?_
  refine q_newa (at_ := .int) (t := 0) (N := 2048) rfl rfl (by decide) (Or.inl ⟨rfl, rfl⟩) ac_int (by decide) (by decide) (by decide) (by decide) (by decide) dX12_init_128 ?_
  show q_W G mi_X12_init _ (d + 5) _ _ _ 33 54141 (true, 77, (zk13_25 P)) 130 [.ref 43] [.ref 76, .ref 43] (hk13_18 h)
  refine q_putP (v := 76) 13 28 fp_X12_62 (Or.inl rfl) (Nat.le_of_ble_eq_true rfl) rfl rfl (by rfl) (Or.inr ⟨_, rfl⟩) dX12_init_130 ?_
  show q_W G mi_X12_init _ (d + 5) _ _ _ 33 54141 (true, 77, (zk13_26 P)) 133 [.ref 43] [] (hk13_18 h)
  refine q_aload_n (i := 0) dX12_init_133 rfl rfl ?_
  refine q_iconst (v := 4) dX12_init_134 (by decide) ?_
  refine q_newa (at_ := .int) (t := 0) (N := 4) rfl rfl (by decide) (Or.inl ⟨rfl, rfl⟩) ac_int (by decide) (by decide) (by decide) (by decide) (by decide) dX12_init_135 ?_
  show q_W G mi_X12_init _ (d + 5) _ _ _ 34 54145 (true, 78, (zk13_27 P)) 137 [.ref 43] [.ref 77, .ref 43] (hk13_19 h)
  refine q_putP (v := 77) 13 29 fp_X12_65 (Or.inl rfl) (Nat.le_of_ble_eq_true rfl) rfl rfl (by rfl) (Or.inr ⟨_, rfl⟩) dX12_init_137 ?_
  show q_W G mi_X12_init _ (d + 5) _ _ _ 34 54145 (true, 78, (zk13_28 P)) 140 [.ref 43] [] (hk13_19 h)
  refine q_aload_n (i := 0) dX12_init_140 rfl rfl ?_
  refine q_sipush (v := 2016) dX12_init_141 (by decide) ?_
  refine q_newa (at_ := .int) (t := 0) (N := 2016) rfl rfl (by decide) (Or.inl ⟨rfl, rfl⟩) ac_int (by decide) (by decide) (by decide) (by decide) (by decide) dX12_init_144 ?_
  show q_W G mi_X12_init _ (d + 5) _ _ _ 35 56161 (true, 79, (zk13_29 P)) 146 [.ref 43] [.ref 78, .ref 43] (hk13_20 h)
  refine q_putP (v := 78) 13 30 fp_X12_68 (Or.inl rfl) (Nat.le_of_ble_eq_true rfl) rfl rfl (by rfl) (Or.inr ⟨_, rfl⟩) dX12_init_146 ?_
  show q_W G mi_X12_init _ (d + 5) _ _ _ 35 56161 (true, 79, (zk13_30 P)) 149 [.ref 43] [] (hk13_20 h)
  refine q_aload_n (i := 0) dX12_init_149 rfl rfl ?_
  refine q_sipush (v := 600) dX12_init_150 (by decide) ?_
  refine q_newa (at_ := .int) (t := 0) (N := 600) rfl rfl (by decide) (Or.inl ⟨rfl, rfl⟩) ac_int (by decide) (by decide) (by decide) (by decide) (by decide) dX12_init_153 ?_
  show q_W G mi_X12_init _ (d + 5) _ _ _ 36 56761 (true, 80, (zk13_31 P)) 155 [.ref 43] [.ref 79, .ref 43] (hk13_21 h)
  refine q_putP (v := 79) 13 38 fp_X12_71 (Or.inl rfl) (Nat.le_of_ble_eq_true rfl) rfl rfl (by rfl) (Or.inr ⟨_, rfl⟩) dX12_init_155 ?_
  show q_W G mi_X12_init _ (d + 5) _ _ _ 36 56761 (true, 80, (zk13_32 P)) 158 [.ref 43] [] (hk13_21 h)
  refine q_aload_n (i := 0) dX12_init_158 rfl rfl ?_
  refine q_sipush (v := 2000) dX12_init_159 (by decide) ?_
  refine q_newa (at_ := .int) (t := 0) (N := 2000) rfl rfl (by decide) (Or.inl ⟨rfl, rfl⟩) ac_int (by decide) (by decide) (by decide) (by decide) (by decide) dX12_init_162 ?_
  show q_W G mi_X12_init _ (d + 5) _ _ _ 37 58761 (true, 81, (zk13_33 P)) 164 [.ref 43] [.ref 80, .ref 43] (hk13_22 h)
  refine q_putP (v := 80) 13 39 fp_X12_74 (Or.inl rfl) (Nat.le_of_ble_eq_true rfl) rfl rfl (by rfl) (Or.inr ⟨_, rfl⟩) dX12_init_164 ?_
  show q_W G mi_X12_init _ (d + 5) _ _ _ 37 58761 (true, 81, (zk13_34 P)) 167 [.ref 43] [] (hk13_22 h)
  refine q_aload_n (i := 0) dX12_init_167 rfl rfl ?_
  refine q_sipush (v := 2000) dX12_init_168 (by decide) ?_
  refine q_newa (at_ := .int) (t := 0) (N := 2000) rfl rfl (by decide) (Or.inl ⟨rfl, rfl⟩) ac_int (by decide) (by decide) (by decide) (by decide) (by decide) dX12_init_171 ?_
  show q_W G mi_X12_init _ (d + 5) _ _ _ 38 60761 (true, 82, (zk13_35 P)) 173 [.ref 43] [.ref 81, .ref 43] (hk13_23 h)
  refine q_putR (v := 81) 13 41 fp_X12_77 (Or.inl rfl) (Nat.le_of_ble_eq_true rfl) rfl rfl (by rfl) (Or.inr ⟨_, rfl⟩) dX12_init_173 ?_
  show q_W G mi_X12_init _ (d + 5) _ _ _ 38 60761 (true, 82, (zk13_35 P)) 176 [.ref 43] [] (hk13_24 h)
  refine q_aload_n (i := 0) dX12_init_176 rfl rfl ?_
  refine q_sipush (v := 2000) dX12_init_177 (by decide) ?_
  refine q_newa (at_ := .int) (t := 0) (N := 2000) rfl rfl (by decide) (Or.inl ⟨rfl, rfl⟩) ac_int (by decide) (by decide) (by decide) (by decide) (by decide) dX12_init_180 ?_
  show q_W G mi_X12_init _ (d + 5) _ _ _ 39 62761 (true, 83, (zk13_36 P)) 182 [.ref 43] [.ref 82, .ref 43] (hk13_25 h)
  refine q_putR (v := 82) 13 42 fp_X12_80 (Or.inl rfl) (Nat.le_of_ble_eq_true rfl) rfl rfl (by rfl) (Or.inr ⟨_, rfl⟩) dX12_init_182 ?_
  show q_W G mi_X12_init _ (d + 5) _ _ _ 39 62761 (true, 83, (zk13_36 P)) 185 [.ref 43] [] (hk13_26 h)
  exact q_vret rfl (by decide) (by decide) dX12_init_185 rfl
