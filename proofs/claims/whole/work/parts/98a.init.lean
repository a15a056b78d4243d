def q_oP (P : Nat → Nat → Option Nat) (n : Nat) : Nat → Nat → Option Nat := fun o k => if o = n then none else P o k
theorem ol_X10_3 : Cond.methodLink RX10 3 Lib.objectInit ∈ q_tb := q_in 120 (by decide +kernel) rfl
theorem oi_i : Cond.instanceMethod Lib.objectInit ∈ q_tb := q_in 121 (by decide +kernel) rfl
theorem oi_c : Cond.code Lib.objectInit ⟨#[0xb1]⟩ 1 none ∈ q_tb := q_in 122 (by decide +kernel) rfl
theorem nl_X10_9 : Cond.classLink RX10 9 RX0 ∈ q_tb := q_in 123 (by decide +kernel) rfl
theorem ni_X0 : Cond.instantiable RX0 12 ∈ q_tb := q_in 124 (by decide +kernel) rfl
theorem nn_X0 : Cond.initialized RX0 ∈ q_tb := q_in 91 (by decide +kernel) rfl
theorem ol_X0_3 : Cond.methodLink RX0 3 Lib.objectInit ∈ q_tb := q_in 128 (by decide +kernel) rfl
theorem ac_int : Cond.arrayClass .int ∈ q_tb := q_in 179 (by decide +kernel) rfl
set_option maxRecDepth 100000 in
theorem kd_X0_init : Cond.code yX0_init cX0_init 1 none ∈ q_tb := q_in 127 rfl rfl
def mi_X0_init : qm := (RX0, cX0_init, 1, none, [], true)
theorem wi9_X0 : Cond.initialized RX0 ∈ q_tb := q_in 91 (by decide +kernel) rfl
theorem ki_X10_11 : q_Ci RX10 11 yX0_init 0 := ⟨cX0_init, 1, by decide, kd_X0_init, Or.inr ⟨"TokenCircuit", q_inn 125 (by decide +kernel)⟩, wi9_X0, by decide, by decide +kernel, rfl, q_in 126 (by decide +kernel) rfl⟩
theorem nl_X10_19 : Cond.classLink RX10 19 RX7 ∈ q_tb := q_in 180 (by decide +kernel) rfl
theorem ni_X7 : Cond.instantiable RX7 2 ∈ q_tb := q_in 181 (by decide +kernel) rfl
theorem nn_X7 : Cond.initialized RX7 ∈ q_tb := q_in 92 (by decide +kernel) rfl
theorem ol_X7_3 : Cond.methodLink RX7 3 Lib.objectInit ∈ q_tb := q_in 185 (by decide +kernel) rfl
theorem ac_byte : Cond.arrayClass .byte ∈ q_tb := q_in 195 (by decide +kernel) rfl
set_option maxRecDepth 100000 in
theorem kd_X7_init : Cond.code yX7_init cX7_init 1 none ∈ q_tb := q_in 184 rfl rfl
def mi_X7_init : qm := (RX7, cX7_init, 1, none, [], true)
theorem wi9_X7 : Cond.initialized RX7 ∈ q_tb := q_in 92 (by decide +kernel) rfl
theorem ki_X10_21 : q_Ci RX10 21 yX7_init 0 := ⟨cX7_init, 1, by decide, kd_X7_init, Or.inr ⟨"TokenCircuit", q_inn 182 (by decide +kernel)⟩, wi9_X7, by decide, by decide +kernel, rfl, q_in 183 (by decide +kernel) rfl⟩
theorem nl_X10_26 : Cond.classLink RX10 26 RX8 ∈ q_tb := q_in 196 (by decide +kernel) rfl
theorem ni_X8 : Cond.instantiable RX8 7 ∈ q_tb := q_in 197 (by decide +kernel) rfl
theorem nn_X8 : Cond.initialized RX8 ∈ q_tb := q_in 93 (by decide +kernel) rfl
theorem ol_X8_3 : Cond.methodLink RX8 3 Lib.objectInit ∈ q_tb := q_in 201 (by decide +kernel) rfl
theorem ac_long : Cond.arrayClass .long ∈ q_tb := q_in 228 (by decide +kernel) rfl
set_option maxRecDepth 100000 in
theorem kd_X8_init : Cond.code yX8_init cX8_init 2 none ∈ q_tb := q_in 200 rfl rfl
def mi_X8_init : qm := (RX8, cX8_init, 2, none, [], true)
theorem wi9_X8 : Cond.initialized RX8 ∈ q_tb := q_in 93 (by decide +kernel) rfl
theorem ki_X10_32 : q_Ci RX10 32 yX8_init 1 := ⟨cX8_init, 2, by decide, kd_X8_init, Or.inl (q_in 198 (by decide +kernel) rfl), wi9_X8, by decide, by decide +kernel, rfl, q_in 199 (by decide +kernel) rfl⟩
theorem nl_X10_39 : Cond.classLink RX10 39 RX2 ∈ q_tb := q_in 229 (by decide +kernel) rfl
theorem ni_X2 : Cond.instantiable RX2 8 ∈ q_tb := q_in 230 (by decide +kernel) rfl
theorem nn_X2 : Cond.initialized RX2 ∈ q_tb := q_in 94 (by decide +kernel) rfl
theorem ol_X2_3 : Cond.methodLink RX2 3 Lib.objectInit ∈ q_tb := q_in 234 (by decide +kernel) rfl
theorem nl_X2_9 : Cond.classLink RX2 9 RX4 ∈ q_tb := q_in 235 (by decide +kernel) rfl
theorem ni_X4 : Cond.instantiable RX4 8 ∈ q_tb := q_in 236 (by decide +kernel) rfl
theorem nn_X4 : Cond.initialized RX4 ∈ q_tb := q_in 95 (by decide +kernel) rfl
theorem ol_X4_3 : Cond.methodLink RX4 3 Lib.objectInit ∈ q_tb := q_in 240 (by decide +kernel) rfl
set_option maxRecDepth 100000 in
theorem kd_X4_init : Cond.code yX4_init cX4_init 2 none ∈ q_tb := q_in 239 rfl rfl
def mi_X4_init : qm := (RX4, cX4_init, 2, none, [], true)
theorem wi9_X4 : Cond.initialized RX4 ∈ q_tb := q_in 95 (by decide +kernel) rfl
theorem ki_X2_11 : q_Ci RX2 11 yX4_init 1 := ⟨cX4_init, 2, by decide, kd_X4_init, Or.inl (q_in 237 (by decide +kernel) rfl), wi9_X4, by decide, by decide +kernel, rfl, q_in 238 (by decide +kernel) rfl⟩
theorem nl_X2_20 : Cond.classLink RX2 20 RX5 ∈ q_tb := q_in 274 (by decide +kernel) rfl
theorem ni_X5 : Cond.instantiable RX5 4 ∈ q_tb := q_in 275 (by decide +kernel) rfl
theorem nn_X5 : Cond.initialized RX5 ∈ q_tb := q_in 96 (by decide +kernel) rfl
theorem ol_X5_3 : Cond.methodLink RX5 3 Lib.objectInit ∈ q_tb := q_in 279 (by decide +kernel) rfl
set_option maxRecDepth 100000 in
theorem kd_X5_init : Cond.code yX5_init cX5_init 1 none ∈ q_tb := q_in 278 rfl rfl
def mi_X5_init : qm := (RX5, cX5_init, 1, none, [], true)
theorem wi9_X5 : Cond.initialized RX5 ∈ q_tb := q_in 96 (by decide +kernel) rfl
theorem ki_X2_22 : q_Ci RX2 22 yX5_init 0 := ⟨cX5_init, 1, by decide, kd_X5_init, Or.inr ⟨"TokenCircuit", q_inn 276 (by decide +kernel)⟩, wi9_X5, by decide, by decide +kernel, rfl, q_in 277 (by decide +kernel) rfl⟩
theorem nl_X2_27 : Cond.classLink RX2 27 RX1 ∈ q_tb := q_in 294 (by decide +kernel) rfl
theorem ni_X1 : Cond.instantiable RX1 10 ∈ q_tb := q_in 295 (by decide +kernel) rfl
theorem nn_X1 : Cond.initialized RX1 ∈ q_tb := q_in 97 (by decide +kernel) rfl
theorem ol_X1_3 : Cond.methodLink RX1 3 Lib.objectInit ∈ q_tb := q_in 299 (by decide +kernel) rfl
set_option maxRecDepth 100000 in
theorem kd_X1_init : Cond.code yX1_init cX1_init 4 none ∈ q_tb := q_in 298 rfl rfl
def mi_X1_init : qm := (RX1, cX1_init, 4, none, [], true)
theorem wi9_X1 : Cond.initialized RX1 ∈ q_tb := q_in 97 (by decide +kernel) rfl
theorem ki_X2_29 : q_Ci RX2 29 yX1_init 3 := ⟨cX1_init, 4, by decide, kd_X1_init, Or.inl (q_in 296 (by decide +kernel) rfl), wi9_X1, by decide, by decide +kernel, rfl, q_in 297 (by decide +kernel) rfl⟩
set_option maxRecDepth 100000 in
theorem kd_X2_init : Cond.code yX2_init cX2_init 3 none ∈ q_tb := q_in 233 rfl rfl
def mi_X2_init : qm := (RX2, cX2_init, 3, none, [], true)
theorem wi9_X2 : Cond.initialized RX2 ∈ q_tb := q_in 94 (by decide +kernel) rfl
theorem ki_X10_41 : q_Ci RX10 41 yX2_init 2 := ⟨cX2_init, 3, by decide, kd_X2_init, Or.inl (q_in 231 (by decide +kernel) rfl), wi9_X2, by decide, by decide +kernel, rfl, q_in 232 (by decide +kernel) rfl⟩
theorem nl_X10_48 : Cond.classLink RX10 48 RX3 ∈ q_tb := q_in 356 (by decide +kernel) rfl
theorem ni_X3 : Cond.instantiable RX3 10 ∈ q_tb := q_in 357 (by decide +kernel) rfl
theorem nn_X3 : Cond.initialized RX3 ∈ q_tb := q_in 98 (by decide +kernel) rfl
theorem ol_X3_3 : Cond.methodLink RX3 3 Lib.objectInit ∈ q_tb := q_in 361 (by decide +kernel) rfl
set_option maxRecDepth 100000 in
theorem kd_X3_init : Cond.code yX3_init cX3_init 1 none ∈ q_tb := q_in 360 rfl rfl
def mi_X3_init : qm := (RX3, cX3_init, 1, none, [], true)
theorem wi9_X3 : Cond.initialized RX3 ∈ q_tb := q_in 98 (by decide +kernel) rfl
theorem ki_X10_50 : q_Ci RX10 50 yX3_init 0 := ⟨cX3_init, 1, by decide, kd_X3_init, Or.inr ⟨"TokenCircuit", q_inn 358 (by decide +kernel)⟩, wi9_X3, by decide, by decide +kernel, rfl, q_in 359 (by decide +kernel) rfl⟩
theorem nl_X10_55 : Cond.classLink RX10 55 RX6 ∈ q_tb := q_in 400 (by decide +kernel) rfl
theorem ni_X6 : Cond.instantiable RX6 2 ∈ q_tb := q_in 401 (by decide +kernel) rfl
theorem nn_X6 : Cond.initialized RX6 ∈ q_tb := q_in 99 (by decide +kernel) rfl
theorem ol_X6_1 : Cond.methodLink RX6 1 Lib.objectInit ∈ q_tb := q_in 405 (by decide +kernel) rfl
set_option maxRecDepth 100000 in
theorem kd_X6_init : Cond.code yX6_init cX6_init 1 none ∈ q_tb := q_in 404 rfl rfl
def mi_X6_init : qm := (RX6, cX6_init, 1, none, [], true)
theorem wi9_X6 : Cond.initialized RX6 ∈ q_tb := q_in 99 (by decide +kernel) rfl
theorem ki_X10_57 : q_Ci RX10 57 yX6_init 0 := ⟨cX6_init, 1, by decide, kd_X6_init, Or.inr ⟨"TokenCircuit", q_inn 402 (by decide +kernel)⟩, wi9_X6, by decide, by decide +kernel, rfl, q_in 403 (by decide +kernel) rfl⟩
theorem nl_X10_62 : Cond.classLink RX10 62 RX9 ∈ q_tb := q_in 416 (by decide +kernel) rfl
theorem ni_X9 : Cond.instantiable RX9 16 ∈ q_tb := q_in 417 (by decide +kernel) rfl
theorem nn_X9 : Cond.initialized RX9 ∈ q_tb := q_in 100 (by decide +kernel) rfl
theorem ol_X9_3 : Cond.methodLink RX9 3 Lib.objectInit ∈ q_tb := q_in 421 (by decide +kernel) rfl
theorem ac_boolean : Cond.arrayClass .boolean ∈ q_tb := q_in 477 (by decide +kernel) rfl
set_option maxRecDepth 100000 in
theorem kd_X9_init : Cond.code yX9_init cX9_init 4 none ∈ q_tb := q_in 420 rfl rfl
def mi_X9_init : qm := (RX9, cX9_init, 4, none, [], true)
theorem wi9_X9 : Cond.initialized RX9 ∈ q_tb := q_in 100 (by decide +kernel) rfl
theorem ki_X10_64 : q_Ci RX10 64 yX9_init 3 := ⟨cX9_init, 4, by decide, kd_X9_init, Or.inl (q_in 418 (by decide +kernel) rfl), wi9_X9, by decide, by decide +kernel, rfl, q_in 419 (by decide +kernel) rfl⟩
set_option maxRecDepth 100000 in
theorem kd_X10_init : Cond.code yX10_init cX10_init 1 none ∈ q_tb := q_in 119 rfl rfl
def mi_X10_init : qm := (RX10, cX10_init, 1, none, [], true)
theorem ol_X12_3 : Cond.methodLink RX12 3 Lib.objectInit ∈ q_tb := q_in 1125 (by decide +kernel) rfl
theorem nl_X12_43 : Cond.classLink RX12 43 RX11 ∈ q_tb := q_in 1142 (by decide +kernel) rfl
theorem ni_X11 : Cond.instantiable RX11 18 ∈ q_tb := q_in 1143 (by decide +kernel) rfl
theorem nn_X11 : Cond.initialized RX11 ∈ q_tb := q_in 106 (by decide +kernel) rfl
theorem ol_X11_3 : Cond.methodLink RX11 3 Lib.objectInit ∈ q_tb := q_in 1147 (by decide +kernel) rfl
set_option maxRecDepth 100000 in
theorem kd_X11_init : Cond.code yX11_init cX11_init 1 none ∈ q_tb := q_in 1146 rfl rfl
def mi_X11_init : qm := (RX11, cX11_init, 1, none, [], true)
theorem wi9_X11 : Cond.initialized RX11 ∈ q_tb := q_in 106 (by decide +kernel) rfl
theorem ki_X12_45 : q_Ci RX12 45 yX11_init 0 := ⟨cX11_init, 1, by decide, kd_X11_init, Or.inr ⟨"TokenCircuitModel", q_inn 1144 (by decide +kernel)⟩, wi9_X11, by decide, by decide +kernel, rfl, q_in 1145 (by decide +kernel) rfl⟩
set_option maxRecDepth 100000 in
theorem kd_X12_init : Cond.code yX12_init cX12_init 1 none ∈ q_tb := q_in 1124 rfl rfl
def mi_X12_init : qm := (RX12, cX12_init, 1, none, [], true)
def zk1_1 (P : Nat → Nat → Option Nat) : Nat → Nat → Option Nat := q_oP P 1
def hk1_1 (h : qh) : qh := h.clr 1
def zk2_1 (P : Nat → Nat → Option Nat) : Nat → Nat → Option Nat := q_oP P 2
def hk2_1 (h : qh) : qh := h.clr 2
def zk2_2 (P : Nat → Nat → Option Nat) : Nat → Nat → Option Nat := q_up (zk2_1 P) 1 0 (some 2)
def zk2_3 (P : Nat → Nat → Option Nat) : Nat → Nat → Option Nat := q_oP (zk2_2 P) 3
def hk2_2 (h : qh) : qh := (hk2_1 h).clr 3
def zk2_4 (P : Nat → Nat → Option Nat) : Nat → Nat → Option Nat := q_up (zk2_3 P) 1 1 (some 3)
def zk2_5 (P : Nat → Nat → Option Nat) : Nat → Nat → Option Nat := q_oP (zk2_4 P) 4
def hk2_3 (h : qh) : qh := (hk2_2 h).clr 4
def zk2_6 (P : Nat → Nat → Option Nat) : Nat → Nat → Option Nat := q_up (zk2_5 P) 1 2 (some 4)
def zk2_7 (P : Nat → Nat → Option Nat) : Nat → Nat → Option Nat := q_oP (zk2_6 P) 5
def hk2_4 (h : qh) : qh := (hk2_3 h).clr 5
def zk2_8 (P : Nat → Nat → Option Nat) : Nat → Nat → Option Nat := q_up (zk2_7 P) 1 3 (some 5)
def zk2_9 (P : Nat → Nat → Option Nat) : Nat → Nat → Option Nat := q_oP (zk2_8 P) 6
def hk2_5 (h : qh) : qh := (hk2_4 h).clr 6
def zk2_10 (P : Nat → Nat → Option Nat) : Nat → Nat → Option Nat := q_up (zk2_9 P) 1 4 (some 6)
def zk2_11 (P : Nat → Nat → Option Nat) : Nat → Nat → Option Nat := q_oP (zk2_10 P) 7
def hk2_6 (h : qh) : qh := (hk2_5 h).clr 7
def zk2_12 (P : Nat → Nat → Option Nat) : Nat → Nat → Option Nat := q_up (zk2_11 P) 1 5 (some 7)
set_option maxRecDepth 100000 in
set_option maxHeartbeats 4000000 in
theorem k_1 (G : qG) (d : Nat) (P : Nat → Nat → Option Nat) (h : qh) : q_M G (true, 2, P) (true, 8, (zk2_12 P)) (d + 4) 6 5688 yX0_init [.ref 1] h (q_rv (fun h1 => h1 = (hk2_6 h)) (fun _ _ => False)) := by
  refine q_of (M := mi_X0_init) (by decide +kernel) rfl rfl kd_X0_init (fun _ => rfl) (Nat.le_of_ble_eq_true rfl) ?_
  show q_W G mi_X0_init _ (d + 4) 6 5688 _ 0 0 _ 0 [.ref 1] [] h
  refine q_aload_n (i := 0) dX0_init_0 rfl rfl ?_
  refine q_objInit ol_X0_3 oi_i oi_c (Nat.le_of_ble_eq_true rfl) dX0_init_1 ?_
  refine q_aload_n (i := 0) dX0_init_4 rfl rfl ?_
  refine q_sipush (v := 1400) dX0_init_5 (by decide) ?_
  refine q_newa (at_ := .int) (t := 0) (N := 1400) rfl rfl (by decide) (Or.inl ⟨rfl, rfl⟩) ac_int (by decide) (by decide) (by decide) (by decide) (by decide) dX0_init_8 ?_
  show q_W G mi_X0_init _ (d + 4) _ _ _ 1 1400 (true, 3, (zk2_1 P)) 10 [.ref 1] [.ref 2, .ref 1] (hk2_1 h)
  refine q_putP (v := 2) 1 0 fp_X0_9 (Or.inl rfl) (Nat.le_of_ble_eq_true rfl) rfl rfl (by rfl) (Or.inr ⟨_, rfl⟩) dX0_init_10 ?_
  show q_W G mi_X0_init _ (d + 4) _ _ _ 1 1400 (true, 3, (zk2_2 P)) 13 [.ref 1] [] (hk2_1 h)
  refine q_aload_n (i := 0) dX0_init_13 rfl rfl ?_
  refine q_sipush (v := 1400) dX0_init_14 (by decide) ?_
  refine q_newa (at_ := .int) (t := 0) (N := 1400) rfl rfl (by decide) (Or.inl ⟨rfl, rfl⟩) ac_int (by decide) (by decide) (by decide) (by decide) (by decide) dX0_init_17 ?_
  show q_W G mi_X0_init _ (d + 4) _ _ _ 2 2800 (true, 4, (zk2_3 P)) 19 [.ref 1] [.ref 3, .ref 1] (hk2_2 h)
  refine q_putP (v := 3) 1 1 fp_X0_15 (Or.inl rfl) (Nat.le_of_ble_eq_true rfl) rfl rfl (by rfl) (Or.inr ⟨_, rfl⟩) dX0_init_19 ?_
  show q_W G mi_X0_init _ (d + 4) _ _ _ 2 2800 (true, 4, (zk2_4 P)) 22 [.ref 1] [] (hk2_2 h)
  refine q_aload_n (i := 0) dX0_init_22 rfl rfl ?_
  refine q_sipush (v := 1400) dX0_init_23 (by decide) ?_
  refine q_newa (at_ := .int) (t := 0) (N := 1400) rfl rfl (by decide) (Or.inl ⟨rfl, rfl⟩) ac_int (by decide) (by decide) (by decide) (by decide) (by decide) dX0_init_26 ?_
  show q_W G mi_X0_init _ (d + 4) _ _ _ 3 4200 (true, 5, (zk2_5 P)) 28 [.ref 1] [.ref 4, .ref 1] (hk2_3 h)
  refine q_putP (v := 4) 1 2 fp_X0_18 (Or.inl rfl) (Nat.le_of_ble_eq_true rfl) rfl rfl (by rfl) (Or.inr ⟨_, rfl⟩) dX0_init_28 ?_
  show q_W G mi_X0_init _ (d + 4) _ _ _ 3 4200 (true, 5, (zk2_6 P)) 31 [.ref 1] [] (hk2_3 h)
  refine q_aload_n (i := 0) dX0_init_31 rfl rfl ?_
  refine q_sipush (v := 1400) dX0_init_32 (by decide) ?_
  refine q_newa (at_ := .int) (t := 0) (N := 1400) rfl rfl (by decide) (Or.inl ⟨rfl, rfl⟩) ac_int (by decide) (by decide) (by decide) (by decide) (by decide) dX0_init_35 ?_
  show q_W G mi_X0_init _ (d + 4) _ _ _ 4 5600 (true, 6, (zk2_7 P)) 37 [.ref 1] [.ref 5, .ref 1] (hk2_4 h)
  refine q_putP (v := 5) 1 3 fp_X0_21 (Or.inl rfl) (Nat.le_of_ble_eq_true rfl) rfl rfl (by rfl) (Or.inr ⟨_, rfl⟩) dX0_init_37 ?_
  show q_W G mi_X0_init _ (d + 4) _ _ _ 4 5600 (true, 6, (zk2_8 P)) 40 [.ref 1] [] (hk2_4 h)
  refine q_aload_n (i := 0) dX0_init_40 rfl rfl ?_
  refine q_bipush (v := 80) dX0_init_41 (by decide) ?_
  refine q_newa (at_ := .int) (t := 0) (N := 80) rfl rfl (by decide) (Or.inl ⟨rfl, rfl⟩) ac_int (by decide) (by decide) (by decide) (by decide) (by decide) dX0_init_43 ?_
  show q_W G mi_X0_init _ (d + 4) _ _ _ 5 5680 (true, 7, (zk2_9 P)) 45 [.ref 1] [.ref 6, .ref 1] (hk2_5 h)
  refine q_putP (v := 6) 1 4 fp_X0_24 (Or.inl rfl) (Nat.le_of_ble_eq_true rfl) rfl rfl (by rfl) (Or.inr ⟨_, rfl⟩) dX0_init_45 ?_
  show q_W G mi_X0_init _ (d + 4) _ _ _ 5 5680 (true, 7, (zk2_10 P)) 48 [.ref 1] [] (hk2_5 h)
  refine q_aload_n (i := 0) dX0_init_48 rfl rfl ?_
  refine q_bipush (v := 8) dX0_init_49 (by decide) ?_
  refine q_newa (at_ := .int) (t := 0) (N := 8) rfl rfl (by decide) (Or.inl ⟨rfl, rfl⟩) ac_int (by decide) (by decide) (by decide) (by decide) (by decide) dX0_init_51 ?_
  show q_W G mi_X0_init _ (d + 4) _ _ _ 6 5688 (true, 8, (zk2_11 P)) 53 [.ref 1] [.ref 7, .ref 1] (hk2_6 h)
  refine q_putP (v := 7) 1 5 fp_X0_27 (Or.inl rfl) (Nat.le_of_ble_eq_true rfl) rfl rfl (by rfl) (Or.inr ⟨_, rfl⟩) dX0_init_53 ?_
  show q_W G mi_X0_init _ (d + 4) _ _ _ 6 5688 (true, 8, (zk2_12 P)) 56 [.ref 1] [] (hk2_6 h)
  exact q_vret rfl (by decide) (by decide) dX0_init_56 rfl
def zk1_2 (P : Nat → Nat → Option Nat) : Nat → Nat → Option Nat := (zk2_12 (zk1_1 P))
def hk1_2 (h : qh) : qh := (hk2_6 (hk1_1 h))
def hk1_3 (h : qh) : qh := (hk1_2 h).sR 0 7 (some 1)
def zk1_3 (P : Nat → Nat → Option Nat) : Nat → Nat → Option Nat := q_oP (zk1_2 P) 8
def hk1_4 (h : qh) : qh := (hk1_3 h).clr 8
def zk3_1 (P : Nat → Nat → Option Nat) : Nat → Nat → Option Nat := q_oP P 9
def hk3_1 (h : qh) : qh := h.clr 9
def zk3_2 (P : Nat → Nat → Option Nat) : Nat → Nat → Option Nat := q_up (zk3_1 P) 8 0 (some 9)
def zk3_3 (P : Nat → Nat → Option Nat) : Nat → Nat → Option Nat := q_oP (zk3_2 P) 10
def hk3_2 (h : qh) : qh := (hk3_1 h).clr 10
def zk3_4 (P : Nat → Nat → Option Nat) : Nat → Nat → Option Nat := q_up (zk3_3 P) 8 1 (some 10)
def zk3_5 (P : Nat → Nat → Option Nat) : Nat → Nat → Option Nat := q_oP (zk3_4 P) 11
def hk3_3 (h : qh) : qh := (hk3_2 h).clr 11
def zk3_6 (P : Nat → Nat → Option Nat) : Nat → Nat → Option Nat := q_up (zk3_5 P) 8 2 (some 11)
def zk3_7 (P : Nat → Nat → Option Nat) : Nat → Nat → Option Nat := q_oP (zk3_6 P) 12
def hk3_4 (h : qh) : qh := (hk3_3 h).clr 12
def zk3_8 (P : Nat → Nat → Option Nat) : Nat → Nat → Option Nat := q_up (zk3_7 P) 8 3 (some 12)
def zk3_9 (P : Nat → Nat → Option Nat) : Nat → Nat → Option Nat := q_oP (zk3_8 P) 13
def hk3_5 (h : qh) : qh := (hk3_4 h).clr 13
def zk3_10 (P : Nat → Nat → Option Nat) : Nat → Nat → Option Nat := q_up (zk3_9 P) 8 4 (some 13)
def zk3_11 (P : Nat → Nat → Option Nat) : Nat → Nat → Option Nat := q_oP (zk3_10 P) 14
def hk3_6 (h : qh) : qh := (hk3_5 h).clr 14
def zk3_12 (P : Nat → Nat → Option Nat) : Nat → Nat → Option Nat := q_up (zk3_11 P) 8 5 (some 14)
set_option maxRecDepth 100000 in
set_option maxHeartbeats 4000000 in
theorem k_2 (G : qG) (d : Nat) (P : Nat → Nat → Option Nat) (h : qh) : q_M G (true, 9, P) (true, 15, (zk3_12 P)) (d + 4) 6 5688 yX0_init [.ref 8] h (q_rv (fun h1 => h1 = (hk3_6 h)) (fun _ _ => False)) := by
  refine q_of (M := mi_X0_init) (by decide +kernel) rfl rfl kd_X0_init (fun _ => rfl) (Nat.le_of_ble_eq_true rfl) ?_
  show q_W G mi_X0_init _ (d + 4) 6 5688 _ 0 0 _ 0 [.ref 8] [] h
  refine q_aload_n (i := 0) dX0_init_0 rfl rfl ?_
  refine q_objInit ol_X0_3 oi_i oi_c (Nat.le_of_ble_eq_true rfl) dX0_init_1 ?_
  refine q_aload_n (i := 0) dX0_init_4 rfl rfl ?_
  refine q_sipush (v := 1400) dX0_init_5 (by decide) ?_
  refine q_newa (at_ := .int) (t := 0) (N := 1400) rfl rfl (by decide) (Or.inl ⟨rfl, rfl⟩) ac_int (by decide) (by decide) (by decide) (by decide) (by decide) dX0_init_8 ?_
  show q_W G mi_X0_init _ (d + 4) _ _ _ 1 1400 (true, 10, (zk3_1 P)) 10 [.ref 8] [.ref 9, .ref 8] (hk3_1 h)
  refine q_putP (v := 9) 1 0 fp_X0_9 (Or.inl rfl) (Nat.le_of_ble_eq_true rfl) rfl rfl (by rfl) (Or.inr ⟨_, rfl⟩) dX0_init_10 ?_
  show q_W G mi_X0_init _ (d + 4) _ _ _ 1 1400 (true, 10, (zk3_2 P)) 13 [.ref 8] [] (hk3_1 h)
  refine q_aload_n (i := 0) dX0_init_13 rfl rfl ?_
  refine q_sipush (v := 1400) dX0_init_14 (by decide) ?_
  refine q_newa (at_ := .int) (t := 0) (N := 1400) rfl rfl (by decide) (Or.inl ⟨rfl, rfl⟩) ac_int (by decide) (by decide) (by decide) (by decide) (by decide) dX0_init_17 ?_
  show q_W G mi_X0_init _ (d + 4) _ _ _ 2 2800 (true, 11, (zk3_3 P)) 19 [.ref 8] [.ref 10, .ref 8] (hk3_2 h)
  refine q_putP (v := 10) 1 1 fp_X0_15 (Or.inl rfl) (Nat.le_of_ble_eq_true rfl) rfl rfl (by rfl) (Or.inr ⟨_, rfl⟩) dX0_init_19 ?_
  show q_W G mi_X0_init _ (d + 4) _ _ _ 2 2800 (true, 11, (zk3_4 P)) 22 [.ref 8] [] (hk3_2 h)
  refine q_aload_n (i := 0) dX0_init_22 rfl rfl ?_
  refine q_sipush (v := 1400) dX0_init_23 (by decide) ?_
  refine q_newa (at_ := .int) (t := 0) (N := 1400) rfl rfl (by decide) (Or.inl ⟨rfl, rfl⟩) ac_int (by decide) (by decide) (by decide) (by decide) (by decide) dX0_init_26 ?_
  show q_W G mi_X0_init _ (d + 4) _ _ _ 3 4200 (true, 12, (zk3_5 P)) 28 [.ref 8] [.ref 11, .ref 8] (hk3_3 h)
  refine q_putP (v := 11) 1 2 fp_X0_18 (Or.inl rfl) (Nat.le_of_ble_eq_true rfl) rfl rfl (by rfl) (Or.inr ⟨_, rfl⟩) dX0_init_28 ?_
  show q_W G mi_X0_init _ (d + 4) _ _ _ 3 4200 (true, 12, (zk3_6 P)) 31 [.ref 8] [] (hk3_3 h)
  refine q_aload_n (i := 0) dX0_init_31 rfl rfl ?_
  refine q_sipush (v := 1400) dX0_init_32 (by decide) ?_
  refine q_newa (at_ := .int) (t := 0) (N := 1400) rfl rfl (by decide) (Or.inl ⟨rfl, rfl⟩) ac_int (by decide) (by decide) (by decide) (by decide) (by decide) dX0_init_35 ?_
  show q_W G mi_X0_init _ (d + 4) _ _ _ 4 5600 (true, 13, (zk3_7 P)) 37 [.ref 8] [.ref 12, .ref 8] (hk3_4 h)
  refine q_putP (v := 12) 1 3 fp_X0_21 (Or.inl rfl) (Nat.le_of_ble_eq_true rfl) rfl rfl (by rfl) (Or.inr ⟨_, rfl⟩) dX0_init_37 ?_
  show q_W G mi_X0_init _ (d + 4) _ _ _ 4 5600 (true, 13, (zk3_8 P)) 40 [.ref 8] [] (hk3_4 h)
  refine q_aload_n (i := 0) dX0_init_40 rfl rfl ?_
  refine q_bipush (v := 80) dX0_init_41 (by decide) ?_
  refine q_newa (at_ := .int) (t := 0) (N := 80) rfl rfl (by decide) (Or.inl ⟨rfl, rfl⟩) ac_int (by decide) (by decide) (by decide) (by decide) (by decide) dX0_init_43 ?_
  show q_W G mi_X0_init _ (d + 4) _ _ _ 5 5680 (true, 14, (zk3_9 P)) 45 [.ref 8] [.ref 13, .ref 8] (hk3_5 h)
  refine q_putP (v := 13) 1 4 fp_X0_24 (Or.inl rfl) (Nat.le_of_ble_eq_true rfl) rfl rfl (by rfl) (Or.inr ⟨_, rfl⟩) dX0_init_45 ?_
  show q_W G mi_X0_init _ (d + 4) _ _ _ 5 5680 (true, 14, (zk3_10 P)) 48 [.ref 8] [] (hk3_5 h)
  refine q_aload_n (i := 0) dX0_init_48 rfl rfl ?_
  refine q_bipush (v := 8) dX0_init_49 (by decide) ?_
  refine q_newa (at_ := .int) (t := 0) (N := 8) rfl rfl (by decide) (Or.inl ⟨rfl, rfl⟩) ac_int (by decide) (by decide) (by decide) (by decide) (by decide) dX0_init_51 ?_
  show q_W G mi_X0_init _ (d + 4) _ _ _ 6 5688 (true, 15, (zk3_11 P)) 53 [.ref 8] [.ref 14, .ref 8] (hk3_6 h)
  refine q_putP (v := 14) 1 5 fp_X0_27 (Or.inl rfl) (Nat.le_of_ble_eq_true rfl) rfl rfl (by rfl) (Or.inr ⟨_, rfl⟩) dX0_init_53 ?_
  show q_W G mi_X0_init _ (d + 4) _ _ _ 6 5688 (true, 15, (zk3_12 P)) 56 [.ref 8] [] (hk3_6 h)
  exact q_vret rfl (by decide) (by decide) dX0_init_56 rfl
def zk1_4 (P : Nat → Nat → Option Nat) : Nat → Nat → Option Nat := (zk3_12 (zk1_3 P))
def hk1_5 (h : qh) : qh := (hk3_6 (hk1_4 h))
def hk1_6 (h : qh) : qh := (hk1_5 h).sR 0 8 (some 8)
def zk1_5 (P : Nat → Nat → Option Nat) : Nat → Nat → Option Nat := q_oP (zk1_4 P) 15
def hk1_7 (h : qh) : qh := (hk1_6 h).clr 15
def zk4_1 (P : Nat → Nat → Option Nat) : Nat → Nat → Option Nat := q_oP P 16
def hk4_1 (h : qh) : qh := h.clr 16
def zk4_2 (P : Nat → Nat → Option Nat) : Nat → Nat → Option Nat := q_up (zk4_1 P) 15 0 (some 16)
set_option maxRecDepth 100000 in
set_option maxHeartbeats 4000000 in
theorem k_3 (G : qG) (d : Nat) (P : Nat → Nat → Option Nat) (h : qh) : q_M G (true, 16, P) (true, 17, (zk4_2 P)) (d + 4) 1 2000 yX7_init [.ref 15] h (q_rv (fun h1 => h1 = (hk4_1 h)) (fun _ _ => False)) := by
  refine q_of (M := mi_X7_init) (by decide +kernel) rfl rfl kd_X7_init (fun _ => rfl) (Nat.le_of_ble_eq_true rfl) ?_
  show q_W G mi_X7_init _ (d + 4) 1 2000 _ 0 0 _ 0 [.ref 15] [] h
  refine q_aload_n (i := 0) dX7_init_0 rfl rfl ?_
  refine q_objInit ol_X7_3 oi_i oi_c (Nat.le_of_ble_eq_true rfl) dX7_init_1 ?_
  refine q_aload_n (i := 0) dX7_init_4 rfl rfl ?_
  refine q_sipush (v := 2000) dX7_init_5 (by decide) ?_
  refine q_newa (at_ := .byte) (t := 1) (N := 2000) rfl rfl (by decide) (Or.inr (Or.inl ⟨rfl, rfl⟩)) ac_byte (by decide) (by decide) (by decide) (by decide) (by decide) dX7_init_8 ?_
  show q_W G mi_X7_init _ (d + 4) _ _ _ 1 2000 (true, 17, (zk4_1 P)) 10 [.ref 15] [.ref 16, .ref 15] (hk4_1 h)
  refine q_putP (v := 16) 8 0 fp_X7_9 (Or.inl rfl) (Nat.le_of_ble_eq_true rfl) rfl rfl (by rfl) (Or.inr ⟨_, rfl⟩) dX7_init_10 ?_
  show q_W G mi_X7_init _ (d + 4) _ _ _ 1 2000 (true, 17, (zk4_2 P)) 13 [.ref 15] [] (hk4_1 h)
  exact q_vret rfl (by decide) (by decide) dX7_init_13 rfl
def zk1_6 (P : Nat → Nat → Option Nat) : Nat → Nat → Option Nat := (zk4_2 (zk1_5 P))
def hk1_8 (h : qh) : qh := (hk4_1 (hk1_7 h))
def zk1_7 (P : Nat → Nat → Option Nat) : Nat → Nat → Option Nat := q_up (zk1_6 P) 0 0 (some 15)
def zk1_8 (P : Nat → Nat → Option Nat) : Nat → Nat → Option Nat := q_oP (zk1_7 P) 17
def hk1_9 (h : qh) : qh := (hk1_8 h).clr 17
def zk5_1 (P : Nat → Nat → Option Nat) : Nat → Nat → Option Nat := q_oP P 18
def hk5_1 (h : qh) : qh := h.clr 18
def zk5_2 (P : Nat → Nat → Option Nat) : Nat → Nat → Option Nat := q_up (zk5_1 P) 17 0 (some 18)
def zk5_3 (P : Nat → Nat → Option Nat) : Nat → Nat → Option Nat := q_oP (zk5_2 P) 19
def hk5_2 (h : qh) : qh := (hk5_1 h).clr 19
def zk5_4 (P : Nat → Nat → Option Nat) : Nat → Nat → Option Nat := q_up (zk5_3 P) 17 1 (some 19)
def zk5_5 (P : Nat → Nat → Option Nat) : Nat → Nat → Option Nat := q_oP (zk5_4 P) 20
def hk5_3 (h : qh) : qh := (hk5_2 h).clr 20
def zk5_6 (P : Nat → Nat → Option Nat) : Nat → Nat → Option Nat := q_up (zk5_5 P) 17 2 (some 20)
def zk5_7 (P : Nat → Nat → Option Nat) : Nat → Nat → Option Nat := q_up (zk5_6 P) 17 3 (some 16)
set_option maxRecDepth 100000 in
set_option maxHeartbeats 4000000 in
theorem k_4 (G : qG) (d : Nat) (P : Nat → Nat → Option Nat) (h : qh) : q_M G (true, 18, P) (true, 21, (zk5_7 P)) (d + 4) 3 6003 yX8_init [.ref 17, .ref 16] h (q_rv (fun h1 => h1 = (hk5_3 h)) (fun _ _ => False)) := by
  refine q_of (M := mi_X8_init) (by decide +kernel) rfl rfl kd_X8_init (fun _ => rfl) (Nat.le_of_ble_eq_true rfl) ?_
  show q_W G mi_X8_init _ (d + 4) 3 6003 _ 0 0 _ 0 [.ref 17, .ref 16] [] h
  refine q_aload_n (i := 0) dX8_init_0 rfl rfl ?_
  refine q_objInit ol_X8_3 oi_i oi_c (Nat.le_of_ble_eq_true rfl) dX8_init_1 ?_
  refine q_aload_n (i := 0) dX8_init_4 rfl rfl ?_
  refine q_sipush (v := 2001) dX8_init_5 (by decide) ?_
  refine q_newa (at_ := .int) (t := 0) (N := 2001) rfl rfl (by decide) (Or.inl ⟨rfl, rfl⟩) ac_int (by decide) (by decide) (by decide) (by decide) (by decide) dX8_init_8 ?_
  show q_W G mi_X8_init _ (d + 4) _ _ _ 1 2001 (true, 19, (zk5_1 P)) 10 [.ref 17, .ref 16] [.ref 18, .ref 17] (hk5_1 h)
  refine q_putP (v := 18) 9 0 fp_X8_9 (Or.inl rfl) (Nat.le_of_ble_eq_true rfl) rfl rfl (by rfl) (Or.inr ⟨_, rfl⟩) dX8_init_10 ?_
  show q_W G mi_X8_init _ (d + 4) _ _ _ 1 2001 (true, 19, (zk5_2 P)) 13 [.ref 17, .ref 16] [] (hk5_1 h)
  refine q_aload_n (i := 0) dX8_init_13 rfl rfl ?_
  refine q_sipush (v := 2001) dX8_init_14 (by decide) ?_
  refine q_newa (at_ := .int) (t := 0) (N := 2001) rfl rfl (by decide) (Or.inl ⟨rfl, rfl⟩) ac_int (by decide) (by decide) (by decide) (by decide) (by decide) dX8_init_17 ?_
  show q_W G mi_X8_init _ (d + 4) _ _ _ 2 4002 (true, 20, (zk5_3 P)) 19 [.ref 17, .ref 16] [.ref 19, .ref 17] (hk5_2 h)
  refine q_putP (v := 19) 9 1 fp_X8_15 (Or.inl rfl) (Nat.le_of_ble_eq_true rfl) rfl rfl (by rfl) (Or.inr ⟨_, rfl⟩) dX8_init_19 ?_
  show q_W G mi_X8_init _ (d + 4) _ _ _ 2 4002 (true, 20, (zk5_4 P)) 22 [.ref 17, .ref 16] [] (hk5_2 h)
  refine q_aload_n (i := 0) dX8_init_22 rfl rfl ?_
  refine q_sipush (v := 2001) dX8_init_23 (by decide) ?_
  refine q_newl (at_ := .long) (N := 2001) rfl rfl rfl ac_long (by decide) (by decide) (by decide) (by decide) (by decide) dX8_init_26 ?_
  show q_W G mi_X8_init _ (d + 4) _ _ _ 3 6003 (true, 21, (zk5_5 P)) 28 [.ref 17, .ref 16] [.ref 20, .ref 17] (hk5_3 h)
  refine q_putP (v := 20) 9 2 fp_X8_18 (Or.inl rfl) (Nat.le_of_ble_eq_true rfl) rfl rfl (by rfl) (Or.inr ⟨_, rfl⟩) dX8_init_28 ?_
  show q_W G mi_X8_init _ (d + 4) _ _ _ 3 6003 (true, 21, (zk5_6 P)) 31 [.ref 17, .ref 16] [] (hk5_3 h)
  refine q_aload_n (i := 0) dX8_init_31 rfl rfl ?_
  refine q_aload_n (i := 1) dX8_init_32 rfl rfl ?_
  refine q_putP (v := 16) 9 3 fp_X8_22 (Or.inl rfl) (Nat.le_of_ble_eq_true rfl) rfl rfl (by rfl) (Or.inr ⟨_, rfl⟩) dX8_init_33 ?_
  show q_W G mi_X8_init _ (d + 4) _ _ _ 3 6003 (true, 21, (zk5_7 P)) 36 [.ref 17, .ref 16] [] (hk5_3 h)
  exact q_vret rfl (by decide) (by decide) dX8_init_36 rfl
