def q_oP (P : Nat → Nat → Option Nat) (n : Nat) : Nat → Nat → Option Nat := fun o k => if o = n then none else P o k
theorem ol_X10_3 : Cond.methodLink RX10 3 Lib.objectInit ∈ q_tb := q_in 120 (by decide +kernel) rfl
theorem oi_i : Cond.instanceMethod Lib.objectInit ∈ q_tb := q_in 121 (by decide +kernel) rfl
theorem oi_c : Cond.code Lib.objectInit ⟨#[0xb1]⟩ 1 none ∈ q_tb := q_in 122 (by decide +kernel) rfl
theorem nl_X10_9 : Cond.classLink RX10 9 RX0 ∈ q_tb := q_in 123 (by decide +kernel) rfl
theorem ni_X0 : Cond.instantiable RX0 12 ∈ q_tb := q_in 124 (by decide +kernel) rfl
theorem nn_X0 : Cond.initialized RX0 ∈ q_tb := q_in 91 (by decide +kernel) rfl
theorem ol_X0_3 : Cond.methodLink RX0 3 Lib.objectInit ∈ q_tb := q_in 128 (by decide +kernel) rfl
theorem ac_int : Cond.arrayClass .int ∈ q_tb := q_in 179 (by decide +kernel) rfl
set_option maxRecDepth 100000 in
theorem kd_X0_init : Cond.code yX0_init cX0_init 1 none ∈ q_tb := q_in 127 rfl rfl
def mi_X0_init : qm := (RX0, cX0_init, 1, none, [], true)
theorem wi9_X0 : Cond.initialized RX0 ∈ q_tb := q_in 91 (by decide +kernel) rfl
theorem ki_X10_11 : q_Ci RX10 11 yX0_init 0 := ⟨cX0_init, 1, by decide, kd_X0_init, Or.inr ⟨"TokenCircuit", q_inn 125 (by decide +kernel)⟩, wi9_X0, by decide, by decide +kernel, rfl, q_in 126 (by decide +kernel) rfl⟩
theorem nl_X10_19 : Cond.classLink RX10 19 RX7 ∈ q_tb := q_in 180 (by decide +kernel) rfl
theorem ni_X7 : Cond.instantiable RX7 2 ∈ q_tb := q_in 181 (by decide +kernel) rfl
theorem nn_X7 : Cond.initialized RX7 ∈ q_tb := q_in 92 (by decide +kernel) rfl
theorem ol_X7_3 : Cond.methodLink RX7 3 Lib.objectInit ∈ q_tb := q_in 185 (by decide +kernel) rfl
theorem ac_byte : Cond.arrayClass .byte ∈ q_tb := q_in 195 (by decide +kernel) rfl
set_option maxRecDepth 100000 in
theorem kd_X7_init : Cond.code yX7_init cX7_init 1 none ∈ q_tb := q_in 184 rfl rfl
def mi_X7_init : qm := (RX7, cX7_init, 1, none, [], true)
theorem wi9_X7 : Cond.initialized RX7 ∈ q_tb := q_in 92 (by decide +kernel) rfl
theorem ki_X10_21 : q_Ci RX10 21 yX7_init 0 := ⟨cX7_init, 1, by decide, kd_X7_init, Or.inr ⟨"TokenCircuit", q_inn 182 (by decide +kernel)⟩, wi9_X7, by decide, by decide +kernel, rfl, q_in 183 (by decide +kernel) rfl⟩
theorem nl_X10_26 : Cond.classLink RX10 26 RX8 ∈ q_tb := q_in 196 (by decide +kernel) rfl
theorem ni_X8 : Cond.instantiable RX8 7 ∈ q_tb := q_in 197 (by decide +kernel) rfl
theorem nn_X8 : Cond.initialized RX8 ∈ q_tb := q_in 93 (by decide +kernel) rfl
theorem ol_X8_3 : Cond.methodLink RX8 3 Lib.objectInit ∈ q_tb := q_in 201 (by decide +kernel) rfl
theorem ac_long : Cond.arrayClass .long ∈ q_tb := q_in 228 (by decide +kernel) rfl
set_option maxRecDepth 100000 in
theorem kd_X8_init : Cond.code yX8_init cX8_init 2 none ∈ q_tb := q_in 200 rfl rfl
def mi_X8_init : qm := (RX8, cX8_init, 2, none, [], true)
theorem wi9_X8 : Cond.initialized RX8 ∈ q_tb := q_in 93 (by decide +kernel) rfl
theorem ki_X10_32 : q_Ci RX10 32 yX8_init 1 := ⟨cX8_init, 2, by decide, kd_X8_init, Or.inl (q_in 198 (by decide +kernel) rfl), wi9_X8, by decide, by decide +kernel, rfl, q_in 199 (by decide +kernel) rfl⟩
theorem nl_X10_39 : Cond.classLink RX10 39 RX2 ∈ q_tb := q_in 229 (by decide +kernel) rfl
theorem ni_X2 : Cond.instantiable RX2 8 ∈ q_tb := q_in 230 (by decide +kernel) rfl
theorem nn_X2 : Cond.initialized RX2 ∈ q_tb := q_in 94 (by decide +kernel) rfl
theorem ol_X2_3 : Cond.methodLink RX2 3 Lib.objectInit ∈ q_tb := q_in 234 (by decide +kernel) rfl
theorem nl_X2_9 : Cond.classLink RX2 9 RX4 ∈ q_tb := q_in 235 (by decide +kernel) rfl
theorem ni_X4 : Cond.instantiable RX4 8 ∈ q_tb := q_in 236 (by decide +kernel) rfl
theorem nn_X4 : Cond.initialized RX4 ∈ q_tb := q_in 95 (by decide +kernel) rfl
theorem ol_X4_3 : Cond.methodLink RX4 3 Lib.objectInit ∈ q_tb := q_in 240 (by decide +kernel) rfl
set_option maxRecDepth 100000 in
theorem kd_X4_init : Cond.code yX4_init cX4_init 2 none ∈ q_tb := q_in 239 rfl rfl
def mi_X4_init : qm := (RX4, cX4_init, 2, none, [], true)
theorem wi9_X4 : Cond.initialized RX4 ∈ q_tb := q_in 95 (by decide +kernel) rfl
theorem ki_X2_11 : q_Ci RX2 11 yX4_init 1 := ⟨cX4_init, 2, by decide, kd_X4_init, Or.inl (q_in 237 (by decide +kernel) rfl), wi9_X4, by decide, by decide +kernel, rfl, q_in 238 (by decide +kernel) rfl⟩
theorem nl_X2_20 : Cond.classLink RX2 20 RX5 ∈ q_tb := q_in 274 (by decide +kernel) rfl
theorem ni_X5 : Cond.instantiable RX5 4 ∈ q_tb := q_in 275 (by decide +kernel) rfl
theorem nn_X5 : Cond.initialized RX5 ∈ q_tb := q_in 96 (by decide +kernel) rfl
theorem ol_X5_3 : Cond.methodLink RX5 3 Lib.objectInit ∈ q_tb := q_in 279 (by decide +kernel) rfl
set_option maxRecDepth 100000 in
theorem kd_X5_init : Cond.code yX5_init cX5_init 1 none ∈ q_tb := q_in 278 rfl rfl
def mi_X5_init : qm := (RX5, cX5_init, 1, none, [], true)
theorem wi9_X5 : Cond.initialized RX5 ∈ q_tb := q_in 96 (by decide +kernel) rfl
theorem ki_X2_22 : q_Ci RX2 22 yX5_init 0 := ⟨cX5_init, 1, by decide, kd_X5_init, Or.inr ⟨"TokenCircuit", q_inn 276 (by decide +kernel)⟩, wi9_X5, by decide, by decide +kernel, rfl, q_in 277 (by decide +kernel) rfl⟩
theorem nl_X2_27 : Cond.classLink RX2 27 RX1 ∈ q_tb := q_in 294 (by decide +kernel) rfl
theorem ni_X1 : Cond.instantiable RX1 10 ∈ q_tb := q_in 295 (by decide +kernel) rfl
theorem nn_X1 : Cond.initialized RX1 ∈ q_tb := q_in 97 (by decide +kernel) rfl
theorem ol_X1_3 : Cond.methodLink RX1 3 Lib.objectInit ∈ q_tb := q_in 299 (by decide +kernel) rfl
set_option maxRecDepth 100000 in
theorem kd_X1_init : Cond.code yX1_init cX1_init 4 none ∈ q_tb := q_in 298 rfl rfl
def mi_X1_init : qm := (RX1, cX1_init, 4, none, [], true)
theorem wi9_X1 : Cond.initialized RX1 ∈ q_tb := q_in 97 (by decide +kernel) rfl
theorem ki_X2_29 : q_Ci RX2 29 yX1_init 3 := ⟨cX1_init, 4, by decide, kd_X1_init, Or.inl (q_in 296 (by decide +kernel) rfl), wi9_X1, by decide, by decide +kernel, rfl, q_in 297 (by decide +kernel) rfl⟩
set_option maxRecDepth 100000 in
theorem kd_X2_init : Cond.code yX2_init cX2_init 3 none ∈ q_tb := q_in 233 rfl rfl
def mi_X2_init : qm := (RX2, cX2_init, 3, none, [], true)
theorem wi9_X2 : Cond.initialized RX2 ∈ q_tb := q_in 94 (by decide +kernel) rfl
theorem ki_X10_41 : q_Ci RX10 41 yX2_init 2 := ⟨cX2_init, 3, by decide, kd_X2_init, Or.inl (q_in 231 (by decide +kernel) rfl), wi9_X2, by decide, by decide +kernel, rfl, q_in 232 (by decide +kernel) rfl⟩
theorem nl_X10_48 : Cond.classLink RX10 48 RX3 ∈ q_tb := q_in 356 (by decide +kernel) rfl
theorem ni_X3 : Cond.instantiable RX3 10 ∈ q_tb := q_in 357 (by decide +kernel) rfl
theorem nn_X3 : Cond.initialized RX3 ∈ q_tb := q_in 98 (by decide +kernel) rfl
theorem ol_X3_3 : Cond.methodLink RX3 3 Lib.objectInit ∈ q_tb := q_in 361 (by decide +kernel) rfl
set_option maxRecDepth 100000 in
theorem kd_X3_init : Cond.code yX3_init cX3_init 1 none ∈ q_tb := q_in 360 rfl rfl
def mi_X3_init : qm := (RX3, cX3_init, 1, none, [], true)
theorem wi9_X3 : Cond.initialized RX3 ∈ q_tb := q_in 98 (by decide +kernel) rfl
theorem ki_X10_50 : q_Ci RX10 50 yX3_init 0 := ⟨cX3_init, 1, by decide, kd_X3_init, Or.inr ⟨"TokenCircuit", q_inn 358 (by decide +kernel)⟩, wi9_X3, by decide, by decide +kernel, rfl, q_in 359 (by decide +kernel) rfl⟩
theorem nl_X10_55 : Cond.classLink RX10 55 RX6 ∈ q_tb := q_in 400 (by decide +kernel) rfl
theorem ni_X6 : Cond.instantiable RX6 2 ∈ q_tb := q_in 401 (by decide +kernel) rfl
theorem nn_X6 : Cond.initialized RX6 ∈ q_tb := q_in 99 (by decide +kernel) rfl
theorem ol_X6_1 : Cond.methodLink RX6 1 Lib.objectInit ∈ q_tb := q_in 405 (by decide +kernel) rfl
set_option maxRecDepth 100000 in
theorem kd_X6_init : Cond.code yX6_init cX6_init 1 none ∈ q_tb := q_in 404 rfl rfl
def mi_X6_init : qm := (RX6, cX6_init, 1, none, [], true)
theorem wi9_X6 : Cond.initialized RX6 ∈ q_tb := q_in 99 (by decide +kernel) rfl
theorem ki_X10_57 : q_Ci RX10 57 yX6_init 0 := ⟨cX6_init, 1, by decide, kd_X6_init, Or.inr ⟨"TokenCircuit", q_inn 402 (by decide +kernel)⟩, wi9_X6, by decide, by decide +kernel, rfl, q_in 403 (by decide +kernel) rfl⟩
theorem nl_X10_62 : Cond.classLink RX10 62 RX9 ∈ q_tb := q_in 416 (by decide +kernel) rfl
theorem ni_X9 : Cond.instantiable RX9 15 ∈ q_tb := q_in 417 (by decide +kernel) rfl
theorem nn_X9 : Cond.initialized RX9 ∈ q_tb := q_in 100 (by decide +kernel) rfl
theorem ol_X9_3 : Cond.methodLink RX9 3 Lib.objectInit ∈ q_tb := q_in 421 (by decide +kernel) rfl
theorem ac_boolean : Cond.arrayClass .boolean ∈ q_tb := q_in 474 (by decide +kernel) rfl
set_option maxRecDepth 100000 in
theorem kd_X9_init : Cond.code yX9_init cX9_init 4 none ∈ q_tb := q_in 420 rfl rfl
def mi_X9_init : qm := (RX9, cX9_init, 4, none, [], true)
theorem wi9_X9 : Cond.initialized RX9 ∈ q_tb := q_in 100 (by decide +kernel) rfl
theorem ki_X10_64 : q_Ci RX10 64 yX9_init 3 := ⟨cX9_init, 4, by decide, kd_X9_init, Or.inl (q_in 418 (by decide +kernel) rfl), wi9_X9, by decide, by decide +kernel, rfl, q_in 419 (by decide +kernel) rfl⟩
set_option maxRecDepth 100000 in
theorem kd_X10_init : Cond.code yX10_init cX10_init 1 none ∈ q_tb := q_in 119 rfl rfl
def mi_X10_init : qm := (RX10, cX10_init, 1, none, [], true)
theorem ol_X12_3 : Cond.methodLink RX12 3 Lib.objectInit ∈ q_tb := q_in 1122 (by decide +kernel) rfl
theorem nl_X12_43 : Cond.classLink RX12 43 RX11 ∈ q_tb := q_in 1139 (by decide +kernel) rfl
theorem ni_X11 : Cond.instantiable RX11 18 ∈ q_tb := q_in 1140 (by decide +kernel) rfl
theorem nn_X11 : Cond.initialized RX11 ∈ q_tb := q_in 106 (by decide +kernel) rfl
theorem ol_X11_3 : Cond.methodLink RX11 3 Lib.objectInit ∈ q_tb := q_in 1144 (by decide +kernel) rfl
set_option maxRecDepth 100000 in
theorem kd_X11_init : Cond.code yX11_init cX11_init 1 none ∈ q_tb := q_in 1143 rfl rfl
def mi_X11_init : qm := (RX11, cX11_init, 1, none, [], true)
theorem wi9_X11 : Cond.initialized RX11 ∈ q_tb := q_in 106 (by decide +kernel) rfl
theorem ki_X12_45 : q_Ci RX12 45 yX11_init 0 := ⟨cX11_init, 1, by decide, kd_X11_init, Or.inr ⟨"TokenCircuitModel", q_inn 1141 (by decide +kernel)⟩, wi9_X11, by decide, by decide +kernel, rfl, q_in 1142 (by decide +kernel) rfl⟩
set_option maxRecDepth 100000 in
theorem kd_X12_init : Cond.code yX12_init cX12_init 1 none ∈ q_tb := q_in 1121 rfl rfl
def mi_X12_init : qm := (RX12, cX12_init, 1, none, [], true)
set_option maxRecDepth 100000 in
set_option maxHeartbeats 4000000 in
theorem k_1 (G : qG) (d : Nat) (P : Nat → Nat → Option Nat) (h : qh) : q_M G (true, 2, P) (true, 8, (q_up (q_oP (q_up (q_oP (q_up (q_oP (q_up (q_oP (q_up (q_oP (q_up (q_oP P 2) 1 0 (some 2)) 3) 1 1 (some 3)) 4) 1 2 (some 4)) 5) 1 3 (some 5)) 6) 1 4 (some 6)) 7) 1 5 (some 7))) (d + 4) 6 5688 yX0_init [.ref 1] h (q_rv (fun h1 => h1 = ((((((h.clr 2).clr 3).clr 4).clr 5).clr 6).clr 7)) (fun _ _ => False)) := by
  refine q_of (M := mi_X0_init) (by decide +kernel) rfl rfl kd_X0_init (fun _ => rfl) (Nat.le_of_ble_eq_true rfl) ?_
  show q_W G mi_X0_init _ (d + 4) 6 5688 _ 0 0 _ 0 [.ref 1] [] h
  refine q_aload_n (i := 0) dX0_init_0 rfl rfl ?_
  refine q_objInit ol_X0_3 oi_i oi_c (Nat.le_of_ble_eq_true rfl) dX0_init_1 ?_
  refine q_aload_n (i := 0) dX0_init_4 rfl rfl ?_
  refine q_sipush (v := 1400) dX0_init_5 (by decide) ?_
  refine q_newa (at_ := .int) (t := 0) (N := 1400) rfl rfl (by decide) (Or.inl ⟨rfl, rfl⟩) ac_int (by decide) (by decide) (by decide) (by decide) (by decide) dX0_init_8 ?_
  show q_W G mi_X0_init _ (d + 4) _ _ _ 1 1400 (true, 3, (q_oP P 2)) 10 [.ref 1] [.ref 2, .ref 1] (h.clr 2)
  refine q_putP (v := 2) 1 0 fp_X0_9 (Or.inl rfl) (Nat.le_of_ble_eq_true rfl) rfl rfl (by rfl) (Or.inr ⟨_, rfl⟩) dX0_init_10 ?_
  show q_W G mi_X0_init _ (d + 4) _ _ _ 1 1400 (true, 3, (q_up (q_oP P 2) 1 0 (some 2))) 13 [.ref 1] [] (h.clr 2)
  refine q_aload_n (i := 0) dX0_init_13 rfl rfl ?_
  refine q_sipush (v := 1400) dX0_init_14 (by decide) ?_
  refine q_newa (at_ := .int) (t := 0) (N := 1400) rfl rfl (by decide) (Or.inl ⟨rfl, rfl⟩) ac_int (by decide) (by decide) (by decide) (by decide) (by decide) dX0_init_17 ?_
  show q_W G mi_X0_init _ (d + 4) _ _ _ 2 2800 (true, 4, (q_oP (q_up (q_oP P 2) 1 0 (some 2)) 3)) 19 [.ref 1] [.ref 3, .ref 1] ((h.clr 2).clr 3)
  refine q_putP (v := 3) 1 1 fp_X0_15 (Or.inl rfl) (Nat.le_of_ble_eq_true rfl) rfl rfl (by rfl) (Or.inr ⟨_, rfl⟩) dX0_init_19 ?_
  show q_W G mi_X0_init _ (d + 4) _ _ _ 2 2800 (true, 4, (q_up (q_oP (q_up (q_oP P 2) 1 0 (some 2)) 3) 1 1 (some 3))) 22 [.ref 1] [] ((h.clr 2).clr 3)
  refine q_aload_n (i := 0) dX0_init_22 rfl rfl ?_
  refine q_sipush (v := 1400) dX0_init_23 (by decide) ?_
  refine q_newa (at_ := .int) (t := 0) (N := 1400) rfl rfl (by decide) (Or.inl ⟨rfl, rfl⟩) ac_int (by decide) (by decide) (by decide) (by decide) (by decide) dX0_init_26 ?_
  show q_W G mi_X0_init _ (d + 4) _ _ _ 3 4200 (true, 5, (q_oP (q_up (q_oP (q_up (q_oP P 2) 1 0 (some 2)) 3) 1 1 (some 3)) 4)) 28 [.ref 1] [.ref 4, .ref 1] (((h.clr 2).clr 3).clr 4)
  refine q_putP (v := 4) 1 2 fp_X0_18 (Or.inl rfl) (Nat.le_of_ble_eq_true rfl) rfl rfl (by rfl) (Or.inr ⟨_, rfl⟩) dX0_init_28 ?_
  show q_W G mi_X0_init _ (d + 4) _ _ _ 3 4200 (true, 5, (q_up (q_oP (q_up (q_oP (q_up (q_oP P 2) 1 0 (some 2)) 3) 1 1 (some 3)) 4) 1 2 (some 4))) 31 [.ref 1] [] (((h.clr 2).clr 3).clr 4)
  refine q_aload_n (i := 0) dX0_init_31 rfl rfl ?_
  refine q_sipush (v := 1400) dX0_init_32 (by decide) ?_
  refine q_newa (at_ := .int) (t := 0) (N := 1400) rfl rfl (by decide) (Or.inl ⟨rfl, rfl⟩) ac_int (by decide) (by decide) (by decide) (by decide) (by decide) dX0_init_35 ?_
  show q_W G mi_X0_init _ (d + 4) _ _ _ 4 5600 (true, 6, (q_oP (q_up (q_oP (q_up (q_oP (q_up (q_oP P 2) 1 0 (some 2)) 3) 1 1 (some 3)) 4) 1 2 (some 4)) 5)) 37 [.ref 1] [.ref 5, .ref 1] ((((h.clr 2).clr 3).clr 4).clr 5)
  refine q_putP (v := 5) 1 3 fp_X0_21 (Or.inl rfl) (Nat.le_of_ble_eq_true rfl) rfl rfl (by rfl) (Or.inr ⟨_, rfl⟩) dX0_init_37 ?_
  show q_W G mi_X0_init _ (d + 4) _ _ _ 4 5600 (true, 6, (q_up (q_oP (q_up (q_oP (q_up (q_oP (q_up (q_oP P 2) 1 0 (some 2)) 3) 1 1 (some 3)) 4) 1 2 (some 4)) 5) 1 3 (some 5))) 40 [.ref 1] [] ((((h.clr 2).clr 3).clr 4).clr 5)
  refine q_aload_n (i := 0) dX0_init_40 rfl rfl ?_
  refine q_bipush (v := 80) dX0_init_41 (by decide) ?_
  refine q_newa (at_ := .int) (t := 0) (N := 80) rfl rfl (by decide) (Or.inl ⟨rfl, rfl⟩) ac_int (by decide) (by decide) (by decide) (by decide) (by decide) dX0_init_43 ?_
  show q_W G mi_X0_init _ (d + 4) _ _ _ 5 5680 (true, 7, (q_oP (q_up (q_oP (q_up (q_oP (q_up (q_oP (q_up (q_oP P 2) 1 0 (some 2)) 3) 1 1 (some 3)) 4) 1 2 (some 4)) 5) 1 3 (some 5)) 6)) 45 [.ref 1] [.ref 6, .ref 1] (((((h.clr 2).clr 3).clr 4).clr 5).clr 6)
  refine q_putP (v := 6) 1 4 fp_X0_24 (Or.inl rfl) (Nat.le_of_ble_eq_true rfl) rfl rfl (by rfl) (Or.inr ⟨_, rfl⟩) dX0_init_45 ?_
  show q_W G mi_X0_init _ (d + 4) _ _ _ 5 5680 (true, 7, (q_up (q_oP (q_up (q_oP (q_up (q_oP (q_up (q_oP (q_up (q_oP P 2) 1 0 (some 2)) 3) 1 1 (some 3)) 4) 1 2 (some 4)) 5) 1 3 (some 5)) 6) 1 4 (some 6))) 48 [.ref 1] [] (((((h.clr 2).clr 3).clr 4).clr 5).clr 6)
  refine q_aload_n (i := 0) dX0_init_48 rfl rfl ?_
  refine q_bipush (v := 8) dX0_init_49 (by decide) ?_
  refine q_newa (at_ := .int) (t := 0) (N := 8) rfl rfl (by decide) (Or.inl ⟨rfl, rfl⟩) ac_int (by decide) (by decide) (by decide) (by decide) (by decide) dX0_init_51 ?_
  show q_W G mi_X0_init _ (d + 4) _ _ _ 6 5688 (true, 8, (q_oP (q_up (q_oP (q_up (q_oP (q_up (q_oP (q_up (q_oP (q_up (q_oP P 2) 1 0 (some 2)) 3) 1 1 (some 3)) 4) 1 2 (some 4)) 5) 1 3 (some 5)) 6) 1 4 (some 6)) 7)) 53 [.ref 1] [.ref 7, .ref 1] ((((((h.clr 2).clr 3).clr 4).clr 5).clr 6).clr 7)
  refine q_putP (v := 7) 1 5 fp_X0_27 (Or.inl rfl) (Nat.le_of_ble_eq_true rfl) rfl rfl (by rfl) (Or.inr ⟨_, rfl⟩) dX0_init_53 ?_
  show q_W G mi_X0_init _ (d + 4) _ _ _ 6 5688 (true, 8, (q_up (q_oP (q_up (q_oP (q_up (q_oP (q_up (q_oP (q_up (q_oP (q_up (q_oP P 2) 1 0 (some 2)) 3) 1 1 (some 3)) 4) 1 2 (some 4)) 5) 1 3 (some 5)) 6) 1 4 (some 6)) 7) 1 5 (some 7))) 56 [.ref 1] [] ((((((h.clr 2).clr 3).clr 4).clr 5).clr 6).clr 7)
  exact q_vret rfl (by decide) (by decide) dX0_init_56 rfl
set_option maxRecDepth 100000 in
set_option maxHeartbeats 4000000 in
theorem k_2 (G : qG) (d : Nat) (P : Nat → Nat → Option Nat) (h : qh) : q_M G (true, 9, P) (true, 15, (q_up (q_oP (q_up (q_oP (q_up (q_oP (q_up (q_oP (q_up (q_oP (q_up (q_oP P 9) 8 0 (some 9)) 10) 8 1 (some 10)) 11) 8 2 (some 11)) 12) 8 3 (some 12)) 13) 8 4 (some 13)) 14) 8 5 (some 14))) (d + 4) 6 5688 yX0_init [.ref 8] h (q_rv (fun h1 => h1 = ((((((h.clr 9).clr 10).clr 11).clr 12).clr 13).clr 14)) (fun _ _ => False)) := by
  refine q_of (M := mi_X0_init) (by decide +kernel) rfl rfl kd_X0_init (fun _ => rfl) (Nat.le_of_ble_eq_true rfl) ?_
  show q_W G mi_X0_init _ (d + 4) 6 5688 _ 0 0 _ 0 [.ref 8] [] h
  refine q_aload_n (i := 0) dX0_init_0 rfl rfl ?_
  refine q_objInit ol_X0_3 oi_i oi_c (Nat.le_of_ble_eq_true rfl) dX0_init_1 ?_
  refine q_aload_n (i := 0) dX0_init_4 rfl rfl ?_
  refine q_sipush (v := 1400) dX0_init_5 (by decide) ?_
  refine q_newa (at_ := .int) (t := 0) (N := 1400) rfl rfl (by decide) (Or.inl ⟨rfl, rfl⟩) ac_int (by decide) (by decide) (by decide) (by decide) (by decide) dX0_init_8 ?_
  show q_W G mi_X0_init _ (d + 4) _ _ _ 1 1400 (true, 10, (q_oP P 9)) 10 [.ref 8] [.ref 9, .ref 8] (h.clr 9)
  refine q_putP (v := 9) 1 0 fp_X0_9 (Or.inl rfl) (Nat.le_of_ble_eq_true rfl) rfl rfl (by rfl) (Or.inr ⟨_, rfl⟩) dX0_init_10 ?_
  show q_W G mi_X0_init _ (d + 4) _ _ _ 1 1400 (true, 10, (q_up (q_oP P 9) 8 0 (some 9))) 13 [.ref 8] [] (h.clr 9)
  refine q_aload_n (i := 0) dX0_init_13 rfl rfl ?_
  refine q_sipush (v := 1400) dX0_init_14 (by decide) ?_
  refine q_newa (at_ := .int) (t := 0) (N := 1400) rfl rfl (by decide) (Or.inl ⟨rfl, rfl⟩) ac_int (by decide) (by decide) (by decide) (by decide) (by decide) dX0_init_17 ?_
  show q_W G mi_X0_init _ (d + 4) _ _ _ 2 2800 (true, 11, (q_oP (q_up (q_oP P 9) 8 0 (some 9)) 10)) 19 [.ref 8] [.ref 10, .ref 8] ((h.clr 9).clr 10)
  refine q_putP (v := 10) 1 1 fp_X0_15 (Or.inl rfl) (Nat.le_of_ble_eq_true rfl) rfl rfl (by rfl) (Or.inr ⟨_, rfl⟩) dX0_init_19 ?_
  show q_W G mi_X0_init _ (d + 4) _ _ _ 2 2800 (true, 11, (q_up (q_oP (q_up (q_oP P 9) 8 0 (some 9)) 10) 8 1 (some 10))) 22 [.ref 8] [] ((h.clr 9).clr 10)
  refine q_aload_n (i := 0) dX0_init_22 rfl rfl ?_
  refine q_sipush (v := 1400) dX0_init_23 (by decide) ?_
  refine q_newa (at_ := .int) (t := 0) (N := 1400) rfl rfl (by decide) (Or.inl ⟨rfl, rfl⟩) ac_int (by decide) (by decide) (by decide) (by decide) (by decide) dX0_init_26 ?_
  show q_W G mi_X0_init _ (d + 4) _ _ _ 3 4200 (true, 12, (q_oP (q_up (q_oP (q_up (q_oP P 9) 8 0 (some 9)) 10) 8 1 (some 10)) 11)) 28 [.ref 8] [.ref 11, .ref 8] (((h.clr 9).clr 10).clr 11)
  refine q_putP (v := 11) 1 2 fp_X0_18 (Or.inl rfl) (Nat.le_of_ble_eq_true rfl) rfl rfl (by rfl) (Or.inr ⟨_, rfl⟩) dX0_init_28 ?_
  show q_W G mi_X0_init _ (d + 4) _ _ _ 3 4200 (true, 12, (q_up (q_oP (q_up (q_oP (q_up (q_oP P 9) 8 0 (some 9)) 10) 8 1 (some 10)) 11) 8 2 (some 11))) 31 [.ref 8] [] (((h.clr 9).clr 10).clr 11)
  refine q_aload_n (i := 0) dX0_init_31 rfl rfl ?_
  refine q_sipush (v := 1400) dX0_init_32 (by decide) ?_
  refine q_newa (at_ := .int) (t := 0) (N := 1400) rfl rfl (by decide) (Or.inl ⟨rfl, rfl⟩) ac_int (by decide) (by decide) (by decide) (by decide) (by decide) dX0_init_35 ?_
  show q_W G mi_X0_init _ (d + 4) _ _ _ 4 5600 (true, 13, (q_oP (q_up (q_oP (q_up (q_oP (q_up (q_oP P 9) 8 0 (some 9)) 10) 8 1 (some 10)) 11) 8 2 (some 11)) 12)) 37 [.ref 8] [.ref 12, .ref 8] ((((h.clr 9).clr 10).clr 11).clr 12)
  refine q_putP (v := 12) 1 3 fp_X0_21 (Or.inl rfl) (Nat.le_of_ble_eq_true rfl) rfl rfl (by rfl) (Or.inr ⟨_, rfl⟩) dX0_init_37 ?_
  show q_W G mi_X0_init _ (d + 4) _ _ _ 4 5600 (true, 13, (q_up (q_oP (q_up (q_oP (q_up (q_oP (q_up (q_oP P 9) 8 0 (some 9)) 10) 8 1 (some 10)) 11) 8 2 (some 11)) 12) 8 3 (some 12))) 40 [.ref 8] [] ((((h.clr 9).clr 10).clr 11).clr 12)
  refine q_aload_n (i := 0) dX0_init_40 rfl rfl ?_
  refine q_bipush (v := 80) dX0_init_41 (by decide) ?_
  refine q_newa (at_ := .int) (t := 0) (N := 80) rfl rfl (by decide) (Or.inl ⟨rfl, rfl⟩) ac_int (by decide) (by decide) (by decide) (by decide) (by decide) dX0_init_43 ?_
  show q_W G mi_X0_init _ (d + 4) _ _ _ 5 5680 (true, 14, (q_oP (q_up (q_oP (q_up (q_oP (q_up (q_oP (q_up (q_oP P 9) 8 0 (some 9)) 10) 8 1 (some 10)) 11) 8 2 (some 11)) 12) 8 3 (some 12)) 13)) 45 [.ref 8] [.ref 13, .ref 8] (((((h.clr 9).clr 10).clr 11).clr 12).clr 13)
  refine q_putP (v := 13) 1 4 fp_X0_24 (Or.inl rfl) (Nat.le_of_ble_eq_true rfl) rfl rfl (by rfl) (Or.inr ⟨_, rfl⟩) dX0_init_45 ?_
  show q_W G mi_X0_init _ (d + 4) _ _ _ 5 5680 (true, 14, (q_up (q_oP (q_up (q_oP (q_up (q_oP (q_up (q_oP (q_up (q_oP P 9) 8 0 (some 9)) 10) 8 1 (some 10)) 11) 8 2 (some 11)) 12) 8 3 (some 12)) 13) 8 4 (some 13))) 48 [.ref 8] [] (((((h.clr 9).clr 10).clr 11).clr 12).clr 13)
  refine q_aload_n (i := 0) dX0_init_48 rfl rfl ?_
  refine q_bipush (v := 8) dX0_init_49 (by decide) ?_
  refine q_newa (at_ := .int) (t := 0) (N := 8) rfl rfl (by decide) (Or.inl ⟨rfl, rfl⟩) ac_int (by decide) (by decide) (by decide) (by decide) (by decide) dX0_init_51 ?_
  show q_W G mi_X0_init _ (d + 4) _ _ _ 6 5688 (true, 15, (q_oP (q_up (q_oP (q_up (q_oP (q_up (q_oP (q_up (q_oP (q_up (q_oP P 9) 8 0 (some 9)) 10) 8 1 (some 10)) 11) 8 2 (some 11)) 12) 8 3 (some 12)) 13) 8 4 (some 13)) 14)) 53 [.ref 8] [.ref 14, .ref 8] ((((((h.clr 9).clr 10).clr 11).clr 12).clr 13).clr 14)
  refine q_putP (v := 14) 1 5 fp_X0_27 (Or.inl rfl) (Nat.le_of_ble_eq_true rfl) rfl rfl (by rfl) (Or.inr ⟨_, rfl⟩) dX0_init_53 ?_
  show q_W G mi_X0_init _ (d + 4) _ _ _ 6 5688 (true, 15, (q_up (q_oP (q_up (q_oP (q_up (q_oP (q_up (q_oP (q_up (q_oP (q_up (q_oP P 9) 8 0 (some 9)) 10) 8 1 (some 10)) 11) 8 2 (some 11)) 12) 8 3 (some 12)) 13) 8 4 (some 13)) 14) 8 5 (some 14))) 56 [.ref 8] [] ((((((h.clr 9).clr 10).clr 11).clr 12).clr 13).clr 14)
  exact q_vret rfl (by decide) (by decide) dX0_init_56 rfl
set_option maxRecDepth 100000 in
set_option maxHeartbeats 4000000 in
theorem k_3 (G : qG) (d : Nat) (P : Nat → Nat → Option Nat) (h : qh) : q_M G (true, 16, P) (true, 17, (q_up (q_oP P 16) 15 0 (some 16))) (d + 4) 1 2000 yX7_init [.ref 15] h (q_rv (fun h1 => h1 = (h.clr 16)) (fun _ _ => False)) := by
  refine q_of (M := mi_X7_init) (by decide +kernel) rfl rfl kd_X7_init (fun _ => rfl) (Nat.le_of_ble_eq_true rfl) ?_
  show q_W G mi_X7_init _ (d + 4) 1 2000 _ 0 0 _ 0 [.ref 15] [] h
  refine q_aload_n (i := 0) dX7_init_0 rfl rfl ?_
  refine q_objInit ol_X7_3 oi_i oi_c (Nat.le_of_ble_eq_true rfl) dX7_init_1 ?_
  refine q_aload_n (i := 0) dX7_init_4 rfl rfl ?_
  refine q_sipush (v := 2000) dX7_init_5 (by decide) ?_
  refine q_newa (at_ := .byte) (t := 1) (N := 2000) rfl rfl (by decide) (Or.inr (Or.inl ⟨rfl, rfl⟩)) ac_byte (by decide) (by decide) (by decide) (by decide) (by decide) dX7_init_8 ?_
  show q_W G mi_X7_init _ (d + 4) _ _ _ 1 2000 (true, 17, (q_oP P 16)) 10 [.ref 15] [.ref 16, .ref 15] (h.clr 16)
  refine q_putP (v := 16) 8 0 fp_X7_9 (Or.inl rfl) (Nat.le_of_ble_eq_true rfl) rfl rfl (by rfl) (Or.inr ⟨_, rfl⟩) dX7_init_10 ?_
  show q_W G mi_X7_init _ (d + 4) _ _ _ 1 2000 (true, 17, (q_up (q_oP P 16) 15 0 (some 16))) 13 [.ref 15] [] (h.clr 16)
  exact q_vret rfl (by decide) (by decide) dX7_init_13 rfl
set_option maxRecDepth 100000 in
set_option maxHeartbeats 4000000 in
theorem k_4 (G : qG) (d : Nat) (P : Nat → Nat → Option Nat) (h : qh) : q_M G (true, 18, P) (true, 21, (q_up (q_up (q_oP (q_up (q_oP (q_up (q_oP P 18) 17 0 (some 18)) 19) 17 1 (some 19)) 20) 17 2 (some 20)) 17 3 (some 16))) (d + 4) 3 6003 yX8_init [.ref 17, .ref 16] h (q_rv (fun h1 => h1 = (((h.clr 18).clr 19).clr 20)) (fun _ _ => False)) := by
  refine q_of (M := mi_X8_init) (by decide +kernel) rfl rfl kd_X8_init (fun _ => rfl) (Nat.le_of_ble_eq_true rfl) ?_
  show q_W G mi_X8_init _ (d + 4) 3 6003 _ 0 0 _ 0 [.ref 17, .ref 16] [] h
  refine q_aload_n (i := 0) dX8_init_0 rfl rfl ?_
  refine q_objInit ol_X8_3 oi_i oi_c (Nat.le_of_ble_eq_true rfl) dX8_init_1 ?_
  refine q_aload_n (i := 0) dX8_init_4 rfl rfl ?_
  refine q_sipush (v := 2001) dX8_init_5 (by decide) ?_
  refine q_newa (at_ := .int) (t := 0) (N := 2001) rfl rfl (by decide) (Or.inl ⟨rfl, rfl⟩) ac_int (by decide) (by decide) (by decide) (by decide) (by decide) dX8_init_8 ?_
  show q_W G mi_X8_init _ (d + 4) _ _ _ 1 2001 (true, 19, (q_oP P 18)) 10 [.ref 17, .ref 16] [.ref 18, .ref 17] (h.clr 18)
  refine q_putP (v := 18) 9 0 fp_X8_9 (Or.inl rfl) (Nat.le_of_ble_eq_true rfl) rfl rfl (by rfl) (Or.inr ⟨_, rfl⟩) dX8_init_10 ?_
  show q_W G mi_X8_init _ (d + 4) _ _ _ 1 2001 (true, 19, (q_up (q_oP P 18) 17 0 (some 18))) 13 [.ref 17, .ref 16] [] (h.clr 18)
  refine q_aload_n (i := 0) dX8_init_13 rfl rfl ?_
  refine q_sipush (v := 2001) dX8_init_14 (by decide) ?_
  refine q_newa (at_ := .int) (t := 0) (N := 2001) rfl rfl (by decide) (Or.inl ⟨rfl, rfl⟩) ac_int (by decide) (by decide) (by decide) (by decide) (by decide) dX8_init_17 ?_
  show q_W G mi_X8_init _ (d + 4) _ _ _ 2 4002 (true, 20, (q_oP (q_up (q_oP P 18) 17 0 (some 18)) 19)) 19 [.ref 17, .ref 16] [.ref 19, .ref 17] ((h.clr 18).clr 19)
  refine q_putP (v := 19) 9 1 fp_X8_15 (Or.inl rfl) (Nat.le_of_ble_eq_true rfl) rfl rfl (by rfl) (Or.inr ⟨_, rfl⟩) dX8_init_19 ?_
  show q_W G mi_X8_init _ (d + 4) _ _ _ 2 4002 (true, 20, (q_up (q_oP (q_up (q_oP P 18) 17 0 (some 18)) 19) 17 1 (some 19))) 22 [.ref 17, .ref 16] [] ((h.clr 18).clr 19)
  refine q_aload_n (i := 0) dX8_init_22 rfl rfl ?_
  refine q_sipush (v := 2001) dX8_init_23 (by decide) ?_
  refine q_newl (at_ := .long) (N := 2001) rfl rfl rfl ac_long (by decide) (by decide) (by decide) (by decide) (by decide) dX8_init_26 ?_
  show q_W G mi_X8_init _ (d + 4) _ _ _ 3 6003 (true, 21, (q_oP (q_up (q_oP (q_up (q_oP P 18) 17 0 (some 18)) 19) 17 1 (some 19)) 20)) 28 [.ref 17, .ref 16] [.ref 20, .ref 17] (((h.clr 18).clr 19).clr 20)
  refine q_putP (v := 20) 9 2 fp_X8_18 (Or.inl rfl) (Nat.le_of_ble_eq_true rfl) rfl rfl (by rfl) (Or.inr ⟨_, rfl⟩) dX8_init_28 ?_
  show q_W G mi_X8_init _ (d + 4) _ _ _ 3 6003 (true, 21, (q_up (q_oP (q_up (q_oP (q_up (q_oP P 18) 17 0 (some 18)) 19) 17 1 (some 19)) 20) 17 2 (some 20))) 31 [.ref 17, .ref 16] [] (((h.clr 18).clr 19).clr 20)
  refine q_aload_n (i := 0) dX8_init_31 rfl rfl ?_
  refine q_aload_n (i := 1) dX8_init_32 rfl rfl ?_
  refine q_putP (v := 16) 9 3 fp_X8_22 (Or.inl rfl) (Nat.le_of_ble_eq_true rfl) rfl rfl (by rfl) (Or.inr ⟨_, rfl⟩) dX8_init_33 ?_
  show q_W G mi_X8_init _ (d + 4) _ _ _ 3 6003 (true, 21, (q_up (q_up (q_oP (q_up (q_oP (q_up (q_oP P 18) 17 0 (some 18)) 19) 17 1 (some 19)) 20) 17 2 (some 20)) 17 3 (some 16))) 36 [.ref 17, .ref 16] [] (((h.clr 18).clr 19).clr 20)
  exact q_vret rfl (by decide) (by decide) dX8_init_36 rfl
set_option maxRecDepth 100000 in
set_option maxHeartbeats 4000000 in
theorem k_5 (G : qG) (d : Nat) (P : Nat → Nat → Option Nat) (h : qh) : q_M G (true, 23, P) (true, 23, (q_up P 22 0 (some 17))) (d + 4) 0 0 yX4_init [.ref 22, .ref 17] h (q_rv (fun h1 => h1 = h) (fun _ _ => False)) := by
  refine q_of (M := mi_X4_init) (by decide +kernel) rfl rfl kd_X4_init (fun _ => rfl) (Nat.le_of_ble_eq_true rfl) ?_
  show q_W G mi_X4_init _ (d + 4) 0 0 _ 0 0 _ 0 [.ref 22, .ref 17] [] h
  refine q_aload_n (i := 0) dX4_init_0 rfl rfl ?_
  refine q_objInit ol_X4_3 oi_i oi_c (Nat.le_of_ble_eq_true rfl) dX4_init_1 ?_
  refine q_aload_n (i := 0) dX4_init_4 rfl rfl ?_
  refine q_aload_n (i := 1) dX4_init_5 rfl rfl ?_
  refine q_putP (v := 17) 5 0 fp_X4_9 (Or.inl rfl) (Nat.le_of_ble_eq_true rfl) rfl rfl (by rfl) (Or.inl ⟨_, rfl⟩) dX4_init_6 ?_
  show q_W G mi_X4_init _ (d + 4) _ _ _ 0 0 (true, 23, (q_up P 22 0 (some 17))) 9 [.ref 22, .ref 17] [] h
  exact q_vret rfl (by decide) (by decide) dX4_init_9 rfl
set_option maxRecDepth 100000 in
set_option maxHeartbeats 4000000 in
theorem k_6 (G : qG) (d : Nat) (P : Nat → Nat → Option Nat) (h : qh) : q_M G (true, 24, P) (true, 27, (q_up (q_oP (q_up (q_oP (q_up (q_oP P 24) 23 0 (some 24)) 25) 23 1 (some 25)) 26) 23 2 (some 26))) (d + 4) 3 75 yX5_init [.ref 23] h (q_rv (fun h1 => h1 = (((h.clr 24).clr 25).clr 26)) (fun _ _ => False)) := by
  refine q_of (M := mi_X5_init) (by decide +kernel) rfl rfl kd_X5_init (fun _ => rfl) (Nat.le_of_ble_eq_true rfl) ?_
  show q_W G mi_X5_init _ (d + 4) 3 75 _ 0 0 _ 0 [.ref 23] [] h
  refine q_aload_n (i := 0) dX5_init_0 rfl rfl ?_
  refine q_objInit ol_X5_3 oi_i oi_c (Nat.le_of_ble_eq_true rfl) dX5_init_1 ?_
  refine q_aload_n (i := 0) dX5_init_4 rfl rfl ?_
  refine q_bipush (v := 25) dX5_init_5 (by decide) ?_
  refine q_newl (at_ := .long) (N := 25) rfl rfl rfl ac_long (by decide) (by decide) (by decide) (by decide) (by decide) dX5_init_7 ?_
  show q_W G mi_X5_init _ (d + 4) _ _ _ 1 25 (true, 25, (q_oP P 24)) 9 [.ref 23] [.ref 24, .ref 23] (h.clr 24)
  refine q_putP (v := 24) 6 0 fp_X5_9 (Or.inl rfl) (Nat.le_of_ble_eq_true rfl) rfl rfl (by rfl) (Or.inr ⟨_, rfl⟩) dX5_init_9 ?_
  show q_W G mi_X5_init _ (d + 4) _ _ _ 1 25 (true, 25, (q_up (q_oP P 24) 23 0 (some 24))) 12 [.ref 23] [] (h.clr 24)
  refine q_aload_n (i := 0) dX5_init_12 rfl rfl ?_
  refine q_bipush (v := 25) dX5_init_13 (by decide) ?_
  refine q_newa (at_ := .int) (t := 0) (N := 25) rfl rfl (by decide) (Or.inl ⟨rfl, rfl⟩) ac_int (by decide) (by decide) (by decide) (by decide) (by decide) dX5_init_15 ?_
  show q_W G mi_X5_init _ (d + 4) _ _ _ 2 50 (true, 26, (q_oP (q_up (q_oP P 24) 23 0 (some 24)) 25)) 17 [.ref 23] [.ref 25, .ref 23] ((h.clr 24).clr 25)
  refine q_putP (v := 25) 6 1 fp_X5_15 (Or.inl rfl) (Nat.le_of_ble_eq_true rfl) rfl rfl (by rfl) (Or.inr ⟨_, rfl⟩) dX5_init_17 ?_
  show q_W G mi_X5_init _ (d + 4) _ _ _ 2 50 (true, 26, (q_up (q_oP (q_up (q_oP P 24) 23 0 (some 24)) 25) 23 1 (some 25))) 20 [.ref 23] [] ((h.clr 24).clr 25)
  refine q_aload_n (i := 0) dX5_init_20 rfl rfl ?_
  refine q_bipush (v := 25) dX5_init_21 (by decide) ?_
  refine q_newa (at_ := .int) (t := 0) (N := 25) rfl rfl (by decide) (Or.inl ⟨rfl, rfl⟩) ac_int (by decide) (by decide) (by decide) (by decide) (by decide) dX5_init_23 ?_
  show q_W G mi_X5_init _ (d + 4) _ _ _ 3 75 (true, 27, (q_oP (q_up (q_oP (q_up (q_oP P 24) 23 0 (some 24)) 25) 23 1 (some 25)) 26)) 25 [.ref 23] [.ref 26, .ref 23] (((h.clr 24).clr 25).clr 26)
  refine q_putP (v := 26) 6 2 fp_X5_19 (Or.inl rfl) (Nat.le_of_ble_eq_true rfl) rfl rfl (by rfl) (Or.inr ⟨_, rfl⟩) dX5_init_25 ?_
  show q_W G mi_X5_init _ (d + 4) _ _ _ 3 75 (true, 27, (q_up (q_oP (q_up (q_oP (q_up (q_oP P 24) 23 0 (some 24)) 25) 23 1 (some 25)) 26) 23 2 (some 26))) 28 [.ref 23] [] (((h.clr 24).clr 25).clr 26)
  exact q_vret rfl (by decide) (by decide) dX5_init_28 rfl
set_option maxRecDepth 100000 in
set_option maxHeartbeats 4000000 in
theorem k_7 (G : qG) (d : Nat) (P : Nat → Nat → Option Nat) (h : qh) : q_M G (true, 28, P) (true, 31, (q_up (q_up (q_up (q_oP (q_up (q_oP (q_up (q_oP P 28) 27 2 (some 28)) 29) 27 3 (some 29)) 30) 27 4 (some 30)) 27 0 (some 22)) 27 1 (some 23))) (d + 4) 3 559 yX1_init [.ref 27, .ref 22, .ref 23, .ref 8] h (q_rv (fun h1 => h1 = ((((h.clr 28).clr 29).clr 30).sR 27 5 (some 8))) (fun _ _ => False)) := by
  refine q_of (M := mi_X1_init) (by decide +kernel) rfl rfl kd_X1_init (fun _ => rfl) (Nat.le_of_ble_eq_true rfl) ?_
  show q_W G mi_X1_init _ (d + 4) 3 559 _ 0 0 _ 0 [.ref 27, .ref 22, .ref 23, .ref 8] [] h
  refine q_aload_n (i := 0) dX1_init_0 rfl rfl ?_
  refine q_objInit ol_X1_3 oi_i oi_c (Nat.le_of_ble_eq_true rfl) dX1_init_1 ?_
  refine q_aload_n (i := 0) dX1_init_4 rfl rfl ?_
  refine q_sipush (v := 186) dX1_init_5 (by decide) ?_
  refine q_newa (at_ := .int) (t := 0) (N := 186) rfl rfl (by decide) (Or.inl ⟨rfl, rfl⟩) ac_int (by decide) (by decide) (by decide) (by decide) (by decide) dX1_init_8 ?_
  show q_W G mi_X1_init _ (d + 4) _ _ _ 1 186 (true, 29, (q_oP P 28)) 10 [.ref 27, .ref 22, .ref 23, .ref 8] [.ref 28, .ref 27] (h.clr 28)
  refine q_putP (v := 28) 2 2 fp_X1_9 (Or.inl rfl) (Nat.le_of_ble_eq_true rfl) rfl rfl (by rfl) (Or.inr ⟨_, rfl⟩) dX1_init_10 ?_
  show q_W G mi_X1_init _ (d + 4) _ _ _ 1 186 (true, 29, (q_up (q_oP P 28) 27 2 (some 28))) 13 [.ref 27, .ref 22, .ref 23, .ref 8] [] (h.clr 28)
  refine q_aload_n (i := 0) dX1_init_13 rfl rfl ?_
  refine q_sipush (v := 186) dX1_init_14 (by decide) ?_
  refine q_newa (at_ := .int) (t := 0) (N := 186) rfl rfl (by decide) (Or.inl ⟨rfl, rfl⟩) ac_int (by decide) (by decide) (by decide) (by decide) (by decide) dX1_init_17 ?_
  show q_W G mi_X1_init _ (d + 4) _ _ _ 2 372 (true, 30, (q_oP (q_up (q_oP P 28) 27 2 (some 28)) 29)) 19 [.ref 27, .ref 22, .ref 23, .ref 8] [.ref 29, .ref 27] ((h.clr 28).clr 29)
  refine q_putP (v := 29) 2 3 fp_X1_15 (Or.inl rfl) (Nat.le_of_ble_eq_true rfl) rfl rfl (by rfl) (Or.inr ⟨_, rfl⟩) dX1_init_19 ?_
  show q_W G mi_X1_init _ (d + 4) _ _ _ 2 372 (true, 30, (q_up (q_oP (q_up (q_oP P 28) 27 2 (some 28)) 29) 27 3 (some 29))) 22 [.ref 27, .ref 22, .ref 23, .ref 8] [] ((h.clr 28).clr 29)
  refine q_aload_n (i := 0) dX1_init_22 rfl rfl ?_
  refine q_sipush (v := 187) dX1_init_23 (by decide) ?_
  refine q_newa (at_ := .int) (t := 0) (N := 187) rfl rfl (by decide) (Or.inl ⟨rfl, rfl⟩) ac_int (by decide) (by decide) (by decide) (by decide) (by decide) dX1_init_26 ?_
  show q_W G mi_X1_init _ (d + 4) _ _ _ 3 559 (true, 31, (q_oP (q_up (q_oP (q_up (q_oP P 28) 27 2 (some 28)) 29) 27 3 (some 29)) 30)) 28 [.ref 27, .ref 22, .ref 23, .ref 8] [.ref 30, .ref 27] (((h.clr 28).clr 29).clr 30)
  refine q_putP (v := 30) 2 4 fp_X1_18 (Or.inl rfl) (Nat.le_of_ble_eq_true rfl) rfl rfl (by rfl) (Or.inr ⟨_, rfl⟩) dX1_init_28 ?_
  show q_W G mi_X1_init _ (d + 4) _ _ _ 3 559 (true, 31, (q_up (q_oP (q_up (q_oP (q_up (q_oP P 28) 27 2 (some 28)) 29) 27 3 (some 29)) 30) 27 4 (some 30))) 31 [.ref 27, .ref 22, .ref 23, .ref 8] [] (((h.clr 28).clr 29).clr 30)
  refine q_aload_n (i := 0) dX1_init_31 rfl rfl ?_
  refine q_aload_n (i := 1) dX1_init_32 rfl rfl ?_
  refine q_putP (v := 22) 2 0 fp_X1_21 (Or.inl rfl) (Nat.le_of_ble_eq_true rfl) rfl rfl (by rfl) (Or.inl ⟨_, rfl⟩) dX1_init_33 ?_
  show q_W G mi_X1_init _ (d + 4) _ _ _ 3 559 (true, 31, (q_up (q_up (q_oP (q_up (q_oP (q_up (q_oP P 28) 27 2 (some 28)) 29) 27 3 (some 29)) 30) 27 4 (some 30)) 27 0 (some 22))) 36 [.ref 27, .ref 22, .ref 23, .ref 8] [] (((h.clr 28).clr 29).clr 30)
  refine q_aload_n (i := 0) dX1_init_36 rfl rfl ?_
  refine q_aload_n (i := 2) dX1_init_37 rfl rfl ?_
  refine q_putP (v := 23) 2 1 fp_X1_25 (Or.inl rfl) (Nat.le_of_ble_eq_true rfl) rfl rfl (by rfl) (Or.inl ⟨_, rfl⟩) dX1_init_38 ?_
  show q_W G mi_X1_init _ (d + 4) _ _ _ 3 559 (true, 31, (q_up (q_up (q_up (q_oP (q_up (q_oP (q_up (q_oP P 28) 27 2 (some 28)) 29) 27 3 (some 29)) 30) 27 4 (some 30)) 27 0 (some 22)) 27 1 (some 23))) 41 [.ref 27, .ref 22, .ref 23, .ref 8] [] (((h.clr 28).clr 29).clr 30)
  refine q_aload_n (i := 0) dX1_init_41 rfl rfl ?_
  refine q_aload_n (i := 3) dX1_init_42 rfl rfl ?_
  refine q_putR (v := 8) 2 5 fp_X1_29 (Or.inl rfl) (Nat.le_of_ble_eq_true rfl) rfl rfl (by rfl) (Or.inl ⟨_, rfl⟩) dX1_init_43 ?_
  exact q_vret rfl (by decide) (by decide) dX1_init_46 rfl
set_option maxRecDepth 100000 in
set_option maxHeartbeats 4000000 in
theorem k_8 (G : qG) (d : Nat) (P : Nat → Nat → Option Nat) (h : qh) : q_M G (true, 22, P) (true, 31, (q_up (q_up (q_up (q_up (q_oP (q_up (q_oP (q_up (q_oP (q_oP (q_up (q_up (q_oP (q_up (q_oP (q_up (q_oP (q_oP (q_up (q_up (q_oP P 22) 22 0 (some 17)) 21 0 (some 22)) 23) 24) 23 0 (some 24)) 25) 23 1 (some 25)) 26) 23 2 (some 26)) 21 1 (some 23)) 27) 28) 27 2 (some 28)) 29) 27 3 (some 29)) 30) 27 4 (some 30)) 27 0 (some 22)) 27 1 (some 23)) 21 2 (some 27))) (d + 4) 9 656 yX2_init [.ref 21, .ref 17, .ref 8] h (q_rv (fun h1 => h1 = (((((((((((h.clr 22).clr 23).clr 24).clr 25).clr 26).clr 27).clr 28).clr 29).clr 30).sR 27 5 (some 8)).sR 21 3 (some 8))) (fun _ _ => False)) := by
  refine q_of (M := mi_X2_init) (by decide +kernel) rfl rfl kd_X2_init (fun _ => rfl) (Nat.le_of_ble_eq_true rfl) ?_
  show q_W G mi_X2_init _ (d + 4) 9 656 _ 0 0 _ 0 [.ref 21, .ref 17, .ref 8] [] h
  refine q_aload_n (i := 0) dX2_init_0 rfl rfl ?_
  refine q_objInit ol_X2_3 oi_i oi_c (Nat.le_of_ble_eq_true rfl) dX2_init_1 ?_
  refine q_aload_n (i := 0) dX2_init_4 rfl rfl ?_
  refine q_new (ci := 5) rfl rfl rfl nl_X2_9 ni_X4 nn_X4 (by decide) (by decide) dX2_init_5 ?_
  show q_W G mi_X2_init _ (d + 4) _ _ _ 1 8 (true, 23, (q_oP P 22)) 8 [.ref 21, .ref 17, .ref 8] [.ref 22, .ref 21] (h.clr 22)
  refine q_dup dX2_init_8 rfl ?_
  refine q_aload_n (i := 1) dX2_init_9 rfl rfl ?_
  refine q_callI (As := [.ref 17]) (st := [.ref 22, .ref 21]) ki_X2_11 rfl (Nat.le_refl _) (by decide) (by decide) (Nat.le_of_ble_eq_true rfl) dX2_init_10 rfl (k_5 G _ _ _) (fun h1 hh => ?_)
  subst hh
  show q_W G mi_X2_init _ (d + 4) _ _ _ 1 8 (true, 23, (q_up (q_oP P 22) 22 0 (some 17))) 13 [.ref 21, .ref 17, .ref 8] [.ref 22, .ref 21] (h.clr 22)
  refine q_putP (v := 22) 3 0 fp_X2_14 (Or.inl rfl) (Nat.le_of_ble_eq_true rfl) rfl rfl (by rfl) (Or.inl ⟨_, rfl⟩) dX2_init_13 ?_
  show q_W G mi_X2_init _ (d + 4) _ _ _ 1 8 (true, 23, (q_up (q_up (q_oP P 22) 22 0 (some 17)) 21 0 (some 22))) 16 [.ref 21, .ref 17, .ref 8] [] (h.clr 22)
  refine q_aload_n (i := 0) dX2_init_16 rfl rfl ?_
  refine q_new (ci := 6) rfl rfl rfl nl_X2_20 ni_X5 nn_X5 (by decide) (by decide) dX2_init_17 ?_
  show q_W G mi_X2_init _ (d + 4) _ _ _ 2 12 (true, 24, (q_oP (q_up (q_up (q_oP P 22) 22 0 (some 17)) 21 0 (some 22)) 23)) 20 [.ref 21, .ref 17, .ref 8] [.ref 23, .ref 21] ((h.clr 22).clr 23)
  refine q_dup dX2_init_20 rfl ?_
  refine q_callI (As := []) (st := [.ref 23, .ref 21]) ki_X2_22 rfl (Nat.le_refl _) (by decide) (by decide) (Nat.le_of_ble_eq_true rfl) dX2_init_21 rfl (k_6 G _ _ _) (fun h1 hh => ?_)
  subst hh
  show q_W G mi_X2_init _ (d + 4) _ _ _ 5 87 (true, 27, (q_up (q_oP (q_up (q_oP (q_up (q_oP (q_oP (q_up (q_up (q_oP P 22) 22 0 (some 17)) 21 0 (some 22)) 23) 24) 23 0 (some 24)) 25) 23 1 (some 25)) 26) 23 2 (some 26))) 24 [.ref 21, .ref 17, .ref 8] [.ref 23, .ref 21] (((((h.clr 22).clr 23).clr 24).clr 25).clr 26)
  refine q_putP (v := 23) 3 1 fp_X2_23 (Or.inl rfl) (Nat.le_of_ble_eq_true rfl) rfl rfl (by rfl) (Or.inl ⟨_, rfl⟩) dX2_init_24 ?_
  show q_W G mi_X2_init _ (d + 4) _ _ _ 5 87 (true, 27, (q_up (q_up (q_oP (q_up (q_oP (q_up (q_oP (q_oP (q_up (q_up (q_oP P 22) 22 0 (some 17)) 21 0 (some 22)) 23) 24) 23 0 (some 24)) 25) 23 1 (some 25)) 26) 23 2 (some 26)) 21 1 (some 23))) 27 [.ref 21, .ref 17, .ref 8] [] (((((h.clr 22).clr 23).clr 24).clr 25).clr 26)
  refine q_aload_n (i := 0) dX2_init_27 rfl rfl ?_
  refine q_new (ci := 2) rfl rfl rfl nl_X2_27 ni_X1 nn_X1 (by decide) (by decide) dX2_init_28 ?_
  show q_W G mi_X2_init _ (d + 4) _ _ _ 6 97 (true, 28, (q_oP (q_up (q_up (q_oP (q_up (q_oP (q_up (q_oP (q_oP (q_up (q_up (q_oP P 22) 22 0 (some 17)) 21 0 (some 22)) 23) 24) 23 0 (some 24)) 25) 23 1 (some 25)) 26) 23 2 (some 26)) 21 1 (some 23)) 27)) 31 [.ref 21, .ref 17, .ref 8] [.ref 27, .ref 21] ((((((h.clr 22).clr 23).clr 24).clr 25).clr 26).clr 27)
  refine q_dup dX2_init_31 rfl ?_
  refine q_aload_n (i := 0) dX2_init_32 rfl rfl ?_
  refine q_getP 3 0 22 fl_X2_14 (Nat.le_of_ble_eq_true rfl) rfl rfl rfl dX2_init_33 ?_
  refine q_aload_n (i := 0) dX2_init_36 rfl rfl ?_
  refine q_getP 3 1 23 fl_X2_23 (Nat.le_of_ble_eq_true rfl) rfl rfl rfl dX2_init_37 ?_
  refine q_aload_n (i := 2) dX2_init_40 rfl rfl ?_
  refine q_callI (As := [.ref 22, .ref 23, .ref 8]) (st := [.ref 27, .ref 21]) ki_X2_29 rfl (Nat.le_refl _) (by decide) (by decide) (Nat.le_of_ble_eq_true rfl) dX2_init_41 rfl (k_7 G _ _ _) (fun h1 hh => ?_)
  subst hh
  show q_W G mi_X2_init _ (d + 4) _ _ _ 9 656 (true, 31, (q_up (q_up (q_up (q_oP (q_up (q_oP (q_up (q_oP (q_oP (q_up (q_up (q_oP (q_up (q_oP (q_up (q_oP (q_oP (q_up (q_up (q_oP P 22) 22 0 (some 17)) 21 0 (some 22)) 23) 24) 23 0 (some 24)) 25) 23 1 (some 25)) 26) 23 2 (some 26)) 21 1 (some 23)) 27) 28) 27 2 (some 28)) 29) 27 3 (some 29)) 30) 27 4 (some 30)) 27 0 (some 22)) 27 1 (some 23))) 44 [.ref 21, .ref 17, .ref 8] [.ref 27, .ref 21] ((((((((((h.clr 22).clr 23).clr 24).clr 25).clr 26).clr 27).clr 28).clr 29).clr 30).sR 27 5 (some 8))
  refine q_putP (v := 27) 3 2 fp_X2_32 (Or.inl rfl) (Nat.le_of_ble_eq_true rfl) rfl rfl (by rfl) (Or.inl ⟨_, rfl⟩) dX2_init_44 ?_
  show q_W G mi_X2_init _ (d + 4) _ _ _ 9 656 (true, 31, (q_up (q_up (q_up (q_up (q_oP (q_up (q_oP (q_up (q_oP (q_oP (q_up (q_up (q_oP (q_up (q_oP (q_up (q_oP (q_oP (q_up (q_up (q_oP P 22) 22 0 (some 17)) 21 0 (some 22)) 23) 24) 23 0 (some 24)) 25) 23 1 (some 25)) 26) 23 2 (some 26)) 21 1 (some 23)) 27) 28) 27 2 (some 28)) 29) 27 3 (some 29)) 30) 27 4 (some 30)) 27 0 (some 22)) 27 1 (some 23)) 21 2 (some 27))) 47 [.ref 21, .ref 17, .ref 8] [] ((((((((((h.clr 22).clr 23).clr 24).clr 25).clr 26).clr 27).clr 28).clr 29).clr 30).sR 27 5 (some 8))
  refine q_aload_n (i := 0) dX2_init_47 rfl rfl ?_
  refine q_aload_n (i := 2) dX2_init_48 rfl rfl ?_
  refine q_putR (v := 8) 3 3 fp_X2_36 (Or.inl rfl) (Nat.le_of_ble_eq_true rfl) rfl rfl (by rfl) (Or.inl ⟨_, rfl⟩) dX2_init_49 ?_
  exact q_vret rfl (by decide) (by decide) dX2_init_52 rfl
set_option maxRecDepth 100000 in
set_option maxHeartbeats 4000000 in
theorem k_9 (G : qG) (d : Nat) (P : Nat → Nat → Option Nat) (h : qh) : q_M G (true, 32, P) (true, 37, (q_up (q_oP (q_up (q_oP (q_up (q_oP (q_up (q_oP (q_up (q_oP P 32) 31 0 (some 32)) 33) 31 1 (some 33)) 34) 31 2 (some 34)) 35) 31 3 (some 35)) 36) 31 4 (some 36))) (d + 4) 5 2680 yX3_init [.ref 31] h (q_rv (fun h1 => h1 = (((((h.clr 32).clr 33).clr 34).clr 35).clr 36)) (fun _ _ => False)) := by
  refine q_of (M := mi_X3_init) (by decide +kernel) rfl rfl kd_X3_init (fun _ => rfl) (Nat.le_of_ble_eq_true rfl) ?_
  show q_W G mi_X3_init _ (d + 4) 5 2680 _ 0 0 _ 0 [.ref 31] [] h
  refine q_aload_n (i := 0) dX3_init_0 rfl rfl ?_
  refine q_objInit ol_X3_3 oi_i oi_c (Nat.le_of_ble_eq_true rfl) dX3_init_1 ?_
  refine q_aload_n (i := 0) dX3_init_4 rfl rfl ?_
  refine q_sipush (v := 2048) dX3_init_5 (by decide) ?_
  refine q_newa (at_ := .int) (t := 0) (N := 2048) rfl rfl (by decide) (Or.inl ⟨rfl, rfl⟩) ac_int (by decide) (by decide) (by decide) (by decide) (by decide) dX3_init_8 ?_
  show q_W G mi_X3_init _ (d + 4) _ _ _ 1 2048 (true, 33, (q_oP P 32)) 10 [.ref 31] [.ref 32, .ref 31] (h.clr 32)
  refine q_putP (v := 32) 4 0 fp_X3_9 (Or.inl rfl) (Nat.le_of_ble_eq_true rfl) rfl rfl (by rfl) (Or.inr ⟨_, rfl⟩) dX3_init_10 ?_
  show q_W G mi_X3_init _ (d + 4) _ _ _ 1 2048 (true, 33, (q_up (q_oP P 32) 31 0 (some 32))) 13 [.ref 31] [] (h.clr 32)
  refine q_aload_n (i := 0) dX3_init_13 rfl rfl ?_
  refine q_bipush (v := 32) dX3_init_14 (by decide) ?_
  refine q_newa (at_ := .int) (t := 0) (N := 32) rfl rfl (by decide) (Or.inl ⟨rfl, rfl⟩) ac_int (by decide) (by decide) (by decide) (by decide) (by decide) dX3_init_16 ?_
  show q_W G mi_X3_init _ (d + 4) _ _ _ 2 2080 (true, 34, (q_oP (q_up (q_oP P 32) 31 0 (some 32)) 33)) 18 [.ref 31] [.ref 33, .ref 31] ((h.clr 32).clr 33)
  refine q_putP (v := 33) 4 1 fp_X3_15 (Or.inl rfl) (Nat.le_of_ble_eq_true rfl) rfl rfl (by rfl) (Or.inr ⟨_, rfl⟩) dX3_init_18 ?_
  show q_W G mi_X3_init _ (d + 4) _ _ _ 2 2080 (true, 34, (q_up (q_oP (q_up (q_oP P 32) 31 0 (some 32)) 33) 31 1 (some 33))) 21 [.ref 31] [] ((h.clr 32).clr 33)
  refine q_aload_n (i := 0) dX3_init_21 rfl rfl ?_
  refine q_sipush (v := 200) dX3_init_22 (by decide) ?_
  refine q_newa (at_ := .int) (t := 0) (N := 200) rfl rfl (by decide) (Or.inl ⟨rfl, rfl⟩) ac_int (by decide) (by decide) (by decide) (by decide) (by decide) dX3_init_25 ?_
  show q_W G mi_X3_init _ (d + 4) _ _ _ 3 2280 (true, 35, (q_oP (q_up (q_oP (q_up (q_oP P 32) 31 0 (some 32)) 33) 31 1 (some 33)) 34)) 27 [.ref 31] [.ref 34, .ref 31] (((h.clr 32).clr 33).clr 34)
  refine q_putP (v := 34) 4 2 fp_X3_18 (Or.inl rfl) (Nat.le_of_ble_eq_true rfl) rfl rfl (by rfl) (Or.inr ⟨_, rfl⟩) dX3_init_27 ?_
  show q_W G mi_X3_init _ (d + 4) _ _ _ 3 2280 (true, 35, (q_up (q_oP (q_up (q_oP (q_up (q_oP P 32) 31 0 (some 32)) 33) 31 1 (some 33)) 34) 31 2 (some 34))) 30 [.ref 31] [] (((h.clr 32).clr 33).clr 34)
  refine q_aload_n (i := 0) dX3_init_30 rfl rfl ?_
  refine q_sipush (v := 200) dX3_init_31 (by decide) ?_
  refine q_newa (at_ := .int) (t := 0) (N := 200) rfl rfl (by decide) (Or.inl ⟨rfl, rfl⟩) ac_int (by decide) (by decide) (by decide) (by decide) (by decide) dX3_init_34 ?_
  show q_W G mi_X3_init _ (d + 4) _ _ _ 4 2480 (true, 36, (q_oP (q_up (q_oP (q_up (q_oP (q_up (q_oP P 32) 31 0 (some 32)) 33) 31 1 (some 33)) 34) 31 2 (some 34)) 35)) 36 [.ref 31] [.ref 35, .ref 31] ((((h.clr 32).clr 33).clr 34).clr 35)
  refine q_putP (v := 35) 4 3 fp_X3_21 (Or.inl rfl) (Nat.le_of_ble_eq_true rfl) rfl rfl (by rfl) (Or.inr ⟨_, rfl⟩) dX3_init_36 ?_
  show q_W G mi_X3_init _ (d + 4) _ _ _ 4 2480 (true, 36, (q_up (q_oP (q_up (q_oP (q_up (q_oP (q_up (q_oP P 32) 31 0 (some 32)) 33) 31 1 (some 33)) 34) 31 2 (some 34)) 35) 31 3 (some 35))) 39 [.ref 31] [] ((((h.clr 32).clr 33).clr 34).clr 35)
  refine q_aload_n (i := 0) dX3_init_39 rfl rfl ?_
  refine q_sipush (v := 200) dX3_init_40 (by decide) ?_
  refine q_newa (at_ := .int) (t := 0) (N := 200) rfl rfl (by decide) (Or.inl ⟨rfl, rfl⟩) ac_int (by decide) (by decide) (by decide) (by decide) (by decide) dX3_init_43 ?_
  show q_W G mi_X3_init _ (d + 4) _ _ _ 5 2680 (true, 37, (q_oP (q_up (q_oP (q_up (q_oP (q_up (q_oP (q_up (q_oP P 32) 31 0 (some 32)) 33) 31 1 (some 33)) 34) 31 2 (some 34)) 35) 31 3 (some 35)) 36)) 45 [.ref 31] [.ref 36, .ref 31] (((((h.clr 32).clr 33).clr 34).clr 35).clr 36)
  refine q_putP (v := 36) 4 4 fp_X3_24 (Or.inl rfl) (Nat.le_of_ble_eq_true rfl) rfl rfl (by rfl) (Or.inr ⟨_, rfl⟩) dX3_init_45 ?_
  show q_W G mi_X3_init _ (d + 4) _ _ _ 5 2680 (true, 37, (q_up (q_oP (q_up (q_oP (q_up (q_oP (q_up (q_oP (q_up (q_oP P 32) 31 0 (some 32)) 33) 31 1 (some 33)) 34) 31 2 (some 34)) 35) 31 3 (some 35)) 36) 31 4 (some 36))) 48 [.ref 31] [] (((((h.clr 32).clr 33).clr 34).clr 35).clr 36)
  exact q_vret rfl (by decide) (by decide) dX3_init_48 rfl
set_option maxRecDepth 100000 in
set_option maxHeartbeats 4000000 in
theorem k_10 (G : qG) (d : Nat) (P : Nat → Nat → Option Nat) (h : qh) : q_M G (true, 38, P) (true, 38, P) (d + 4) 0 0 yX6_init [.ref 37] h (q_rv (fun h1 => h1 = h) (fun _ _ => False)) := by
  refine q_of (M := mi_X6_init) (by decide +kernel) rfl rfl kd_X6_init (fun _ => rfl) (Nat.le_of_ble_eq_true rfl) ?_
  show q_W G mi_X6_init _ (d + 4) 0 0 _ 0 0 _ 0 [.ref 37] [] h
  refine q_aload_n (i := 0) dX6_init_0 rfl rfl ?_
  refine q_objInit ol_X6_1 oi_i oi_c (Nat.le_of_ble_eq_true rfl) dX6_init_1 ?_
  exact q_vret rfl (by decide) (by decide) dX6_init_4 rfl
set_option maxRecDepth 100000 in
set_option maxHeartbeats 4000000 in
theorem k_11 (G : qG) (d : Nat) (P : Nat → Nat → Option Nat) (h : qh) : q_M G (true, 39, P) (true, 42, (q_up (q_up (q_up (q_oP (q_up (q_oP (q_up (q_oP P 39) 38 2 (some 39)) 40) 38 3 (some 40)) 41) 38 4 (some 41)) 38 0 (some 31)) 38 1 (some 37))) (d + 4) 3 2816 yX9_init [.ref 38, .ref 31, .ref 37, .ref 1] h (q_rv (fun h1 => h1 = (((((h.clr 39).clr 40).clr 41).sR 38 5 (some 1)).sI 38 9 (-1))) (fun _ _ => False)) := by
  refine q_of (M := mi_X9_init) (by decide +kernel) rfl rfl kd_X9_init (fun _ => rfl) (Nat.le_of_ble_eq_true rfl) ?_
  show q_W G mi_X9_init _ (d + 4) 3 2816 _ 0 0 _ 0 [.ref 38, .ref 31, .ref 37, .ref 1] [] h
  refine q_aload_n (i := 0) dX9_init_0 rfl rfl ?_
  refine q_objInit ol_X9_3 oi_i oi_c (Nat.le_of_ble_eq_true rfl) dX9_init_1 ?_
  refine q_aload_n (i := 0) dX9_init_4 rfl rfl ?_
  refine q_sipush (v := 1400) dX9_init_5 (by decide) ?_
  refine q_newa (at_ := .int) (t := 0) (N := 1400) rfl rfl (by decide) (Or.inl ⟨rfl, rfl⟩) ac_int (by decide) (by decide) (by decide) (by decide) (by decide) dX9_init_8 ?_
  show q_W G mi_X9_init _ (d + 4) _ _ _ 1 1400 (true, 40, (q_oP P 39)) 10 [.ref 38, .ref 31, .ref 37, .ref 1] [.ref 39, .ref 38] (h.clr 39)
  refine q_putP (v := 39) 10 2 fp_X9_9 (Or.inl rfl) (Nat.le_of_ble_eq_true rfl) rfl rfl (by rfl) (Or.inr ⟨_, rfl⟩) dX9_init_10 ?_
  show q_W G mi_X9_init _ (d + 4) _ _ _ 1 1400 (true, 40, (q_up (q_oP P 39) 38 2 (some 39))) 13 [.ref 38, .ref 31, .ref 37, .ref 1] [] (h.clr 39)
  refine q_aload_n (i := 0) dX9_init_13 rfl rfl ?_
  refine q_sipush (v := 1400) dX9_init_14 (by decide) ?_
  refine q_newa (at_ := .boolean) (t := 2) (N := 1400) rfl rfl (by decide) (Or.inr (Or.inr ⟨rfl, rfl⟩)) ac_boolean (by decide) (by decide) (by decide) (by decide) (by decide) dX9_init_17 ?_
  show q_W G mi_X9_init _ (d + 4) _ _ _ 2 2800 (true, 41, (q_oP (q_up (q_oP P 39) 38 2 (some 39)) 40)) 19 [.ref 38, .ref 31, .ref 37, .ref 1] [.ref 40, .ref 38] ((h.clr 39).clr 40)
  refine q_putP (v := 40) 10 3 fp_X9_15 (Or.inl rfl) (Nat.le_of_ble_eq_true rfl) rfl rfl (by rfl) (Or.inr ⟨_, rfl⟩) dX9_init_19 ?_
  show q_W G mi_X9_init _ (d + 4) _ _ _ 2 2800 (true, 41, (q_up (q_oP (q_up (q_oP P 39) 38 2 (some 39)) 40) 38 3 (some 40))) 22 [.ref 38, .ref 31, .ref 37, .ref 1] [] ((h.clr 39).clr 40)
  refine q_aload_n (i := 0) dX9_init_22 rfl rfl ?_
  refine q_bipush (v := 16) dX9_init_23 (by decide) ?_
  refine q_newa (at_ := .int) (t := 0) (N := 16) rfl rfl (by decide) (Or.inl ⟨rfl, rfl⟩) ac_int (by decide) (by decide) (by decide) (by decide) (by decide) dX9_init_25 ?_
  show q_W G mi_X9_init _ (d + 4) _ _ _ 3 2816 (true, 42, (q_oP (q_up (q_oP (q_up (q_oP P 39) 38 2 (some 39)) 40) 38 3 (some 40)) 41)) 27 [.ref 38, .ref 31, .ref 37, .ref 1] [.ref 41, .ref 38] (((h.clr 39).clr 40).clr 41)
  refine q_putP (v := 41) 10 4 fp_X9_19 (Or.inl rfl) (Nat.le_of_ble_eq_true rfl) rfl rfl (by rfl) (Or.inr ⟨_, rfl⟩) dX9_init_27 ?_
  show q_W G mi_X9_init _ (d + 4) _ _ _ 3 2816 (true, 42, (q_up (q_oP (q_up (q_oP (q_up (q_oP P 39) 38 2 (some 39)) 40) 38 3 (some 40)) 41) 38 4 (some 41))) 30 [.ref 38, .ref 31, .ref 37, .ref 1] [] (((h.clr 39).clr 40).clr 41)
  refine q_aload_n (i := 0) dX9_init_30 rfl rfl ?_
  refine q_aload_n (i := 1) dX9_init_31 rfl rfl ?_
  refine q_putP (v := 31) 10 0 fp_X9_22 (Or.inl rfl) (Nat.le_of_ble_eq_true rfl) rfl rfl (by rfl) (Or.inl ⟨_, rfl⟩) dX9_init_32 ?_
  show q_W G mi_X9_init _ (d + 4) _ _ _ 3 2816 (true, 42, (q_up (q_up (q_oP (q_up (q_oP (q_up (q_oP P 39) 38 2 (some 39)) 40) 38 3 (some 40)) 41) 38 4 (some 41)) 38 0 (some 31))) 35 [.ref 38, .ref 31, .ref 37, .ref 1] [] (((h.clr 39).clr 40).clr 41)
  refine q_aload_n (i := 0) dX9_init_35 rfl rfl ?_
  refine q_aload_n (i := 2) dX9_init_36 rfl rfl ?_
  refine q_putP (v := 37) 10 1 fp_X9_26 (Or.inl rfl) (Nat.le_of_ble_eq_true rfl) rfl rfl (by rfl) (Or.inl ⟨_, rfl⟩) dX9_init_37 ?_
  show q_W G mi_X9_init _ (d + 4) _ _ _ 3 2816 (true, 42, (q_up (q_up (q_up (q_oP (q_up (q_oP (q_up (q_oP P 39) 38 2 (some 39)) 40) 38 3 (some 40)) 41) 38 4 (some 41)) 38 0 (some 31)) 38 1 (some 37))) 40 [.ref 38, .ref 31, .ref 37, .ref 1] [] (((h.clr 39).clr 40).clr 41)
  refine q_aload_n (i := 0) dX9_init_40 rfl rfl ?_
  refine q_aload_n (i := 3) dX9_init_41 rfl rfl ?_
  refine q_putR (v := 1) 10 5 fp_X9_30 (Or.inl rfl) (Nat.le_of_ble_eq_true rfl) rfl rfl (by rfl) (Or.inl ⟨_, rfl⟩) dX9_init_42 ?_
  refine q_aload_n (i := 0) dX9_init_45 rfl rfl ?_
  refine q_iconst (v := (-1)) dX9_init_46 (by decide) ?_
  refine q_putI 10 9 fp_X9_34 (Or.inl rfl) (Nat.le_of_ble_eq_true rfl) rfl rfl dX9_init_47 ?_
  exact q_vret rfl (by decide) (by decide) dX9_init_50 rfl
set_option maxRecDepth 100000 in
set_option maxHeartbeats 4000000 in
theorem k_12 (G : qG) (d : Nat) (P : Nat → Nat → Option Nat) (h : qh) : q_M G (true, 1, P) (true, 43, (q_up (q_oP (q_up (q_up (q_up (q_up (q_oP (q_up (q_oP (q_up (q_oP (q_oP (q_up (q_oP (q_up (q_up (q_oP (q_up (q_oP (q_up (q_oP (q_up (q_oP (q_up (q_oP (q_oP (q_up (q_up (q_up (q_up (q_up (q_oP (q_up (q_oP (q_up (q_oP (q_oP (q_up (q_up (q_oP (q_up (q_oP (q_up (q_oP (q_oP (q_up (q_up (q_oP (q_oP (q_up (q_up (q_up (q_oP (q_up (q_oP (q_up (q_oP (q_oP (q_up (q_up (q_oP (q_oP (q_up (q_oP (q_up (q_oP (q_up (q_oP (q_up (q_oP (q_up (q_oP (q_up (q_oP (q_oP (q_up (q_oP (q_up (q_oP (q_up (q_oP (q_up (q_oP (q_up (q_oP (q_up (q_oP (q_oP P 1) 2) 1 0 (some 2)) 3) 1 1 (some 3)) 4) 1 2 (some 4)) 5) 1 3 (some 5)) 6) 1 4 (some 6)) 7) 1 5 (some 7)) 8) 9) 8 0 (some 9)) 10) 8 1 (some 10)) 11) 8 2 (some 11)) 12) 8 3 (some 12)) 13) 8 4 (some 13)) 14) 8 5 (some 14)) 15) 16) 15 0 (some 16)) 0 0 (some 15)) 17) 18) 17 0 (some 18)) 19) 17 1 (some 19)) 20) 17 2 (some 20)) 17 3 (some 16)) 0 1 (some 17)) 21) 22) 22 0 (some 17)) 21 0 (some 22)) 23) 24) 23 0 (some 24)) 25) 23 1 (some 25)) 26) 23 2 (some 26)) 21 1 (some 23)) 27) 28) 27 2 (some 28)) 29) 27 3 (some 29)) 30) 27 4 (some 30)) 27 0 (some 22)) 27 1 (some 23)) 21 2 (some 27)) 0 2 (some 21)) 31) 32) 31 0 (some 32)) 33) 31 1 (some 33)) 34) 31 2 (some 34)) 35) 31 3 (some 35)) 36) 31 4 (some 36)) 0 3 (some 31)) 37) 0 4 (some 37)) 38) 39) 38 2 (some 39)) 40) 38 3 (some 40)) 41) 38 4 (some 41)) 38 0 (some 31)) 38 1 (some 37)) 0 5 (some 38)) 42) 0 6 (some 42))) (d + 4) 42 25603 yX10_init [.ref 0] h (q_rv (fun h1 => h1 = (((((((((((((((((((((((((((((((((((((((((((((((((((h.clr 1).clr 2).clr 3).clr 4).clr 5).clr 6).clr 7).sR 0 7 (some 1)).clr 8).clr 9).clr 10).clr 11).clr 12).clr 13).clr 14).sR 0 8 (some 8)).clr 15).clr 16).clr 17).clr 18).clr 19).clr 20).clr 21).clr 22).clr 23).clr 24).clr 25).clr 26).clr 27).clr 28).clr 29).clr 30).sR 27 5 (some 8)).sR 21 3 (some 8)).clr 31).clr 32).clr 33).clr 34).clr 35).clr 36).clr 37).clr 38).clr 39).clr 40).clr 41).sR 38 5 (some 1)).sI 38 9 (-1)).clr 42).sI 0 9 0).sI 0 10 0).sI 0 11 (-1))) (fun _ _ => False)) := by
  refine q_of (M := mi_X10_init) (by decide +kernel) rfl rfl kd_X10_init (fun _ => rfl) (Nat.le_of_ble_eq_true rfl) ?_
  show q_W G mi_X10_init _ (d + 4) 42 25603 _ 0 0 _ 0 [.ref 0] [] h
  refine q_aload_n (i := 0) dX10_init_0 rfl rfl ?_
  refine q_objInit ol_X10_3 oi_i oi_c (Nat.le_of_ble_eq_true rfl) dX10_init_1 ?_
  refine q_aload_n (i := 0) dX10_init_4 rfl rfl ?_
  refine q_new (ci := 1) rfl rfl rfl nl_X10_9 ni_X0 nn_X0 (by decide) (by decide) dX10_init_5 ?_
  show q_W G mi_X10_init _ (d + 4) _ _ _ 1 12 (true, 2, (q_oP P 1)) 8 [.ref 0] [.ref 1, .ref 0] (h.clr 1)
  refine q_dup dX10_init_8 rfl ?_
  refine q_callI (As := []) (st := [.ref 1, .ref 0]) ki_X10_11 rfl (Nat.le_refl _) (by decide) (by decide) (Nat.le_of_ble_eq_true rfl) dX10_init_9 rfl (k_1 G _ _ _) (fun h1 hh => ?_)
  subst hh
  show q_W G mi_X10_init _ (d + 4) _ _ _ 7 5700 (true, 8, (q_up (q_oP (q_up (q_oP (q_up (q_oP (q_up (q_oP (q_up (q_oP (q_up (q_oP (q_oP P 1) 2) 1 0 (some 2)) 3) 1 1 (some 3)) 4) 1 2 (some 4)) 5) 1 3 (some 5)) 6) 1 4 (some 6)) 7) 1 5 (some 7))) 12 [.ref 0] [.ref 1, .ref 0] (((((((h.clr 1).clr 2).clr 3).clr 4).clr 5).clr 6).clr 7)
  refine q_putR (v := 1) 11 7 fp_X10_12 (Or.inl rfl) (Nat.le_of_ble_eq_true rfl) rfl rfl (by rfl) (Or.inl ⟨_, rfl⟩) dX10_init_12 ?_
  refine q_aload_n (i := 0) dX10_init_15 rfl rfl ?_
  refine q_new (ci := 1) rfl rfl rfl nl_X10_9 ni_X0 nn_X0 (by decide) (by decide) dX10_init_16 ?_
  show q_W G mi_X10_init _ (d + 4) _ _ _ 8 5712 (true, 9, (q_oP (q_up (q_oP (q_up (q_oP (q_up (q_oP (q_up (q_oP (q_up (q_oP (q_up (q_oP (q_oP P 1) 2) 1 0 (some 2)) 3) 1 1 (some 3)) 4) 1 2 (some 4)) 5) 1 3 (some 5)) 6) 1 4 (some 6)) 7) 1 5 (some 7)) 8)) 19 [.ref 0] [.ref 8, .ref 0] (((((((((h.clr 1).clr 2).clr 3).clr 4).clr 5).clr 6).clr 7).sR 0 7 (some 1)).clr 8)
  refine q_dup dX10_init_19 rfl ?_
  refine q_callI (As := []) (st := [.ref 8, .ref 0]) ki_X10_11 rfl (Nat.le_refl _) (by decide) (by decide) (Nat.le_of_ble_eq_true rfl) dX10_init_20 rfl (k_2 G _ _ _) (fun h1 hh => ?_)
  subst hh
  show q_W G mi_X10_init _ (d + 4) _ _ _ 14 11400 (true, 15, (q_up (q_oP (q_up (q_oP (q_up (q_oP (q_up (q_oP (q_up (q_oP (q_up (q_oP (q_oP (q_up (q_oP (q_up (q_oP (q_up (q_oP (q_up (q_oP (q_up (q_oP (q_up (q_oP (q_oP P 1) 2) 1 0 (some 2)) 3) 1 1 (some 3)) 4) 1 2 (some 4)) 5) 1 3 (some 5)) 6) 1 4 (some 6)) 7) 1 5 (some 7)) 8) 9) 8 0 (some 9)) 10) 8 1 (some 10)) 11) 8 2 (some 11)) 12) 8 3 (some 12)) 13) 8 4 (some 13)) 14) 8 5 (some 14))) 23 [.ref 0] [.ref 8, .ref 0] (((((((((((((((h.clr 1).clr 2).clr 3).clr 4).clr 5).clr 6).clr 7).sR 0 7 (some 1)).clr 8).clr 9).clr 10).clr 11).clr 12).clr 13).clr 14)
  refine q_putR (v := 8) 11 8 fp_X10_16 (Or.inl rfl) (Nat.le_of_ble_eq_true rfl) rfl rfl (by rfl) (Or.inl ⟨_, rfl⟩) dX10_init_23 ?_
  refine q_aload_n (i := 0) dX10_init_26 rfl rfl ?_
  refine q_new (ci := 8) rfl rfl rfl nl_X10_19 ni_X7 nn_X7 (by decide) (by decide) dX10_init_27 ?_
  show q_W G mi_X10_init _ (d + 4) _ _ _ 15 11402 (true, 16, (q_oP (q_up (q_oP (q_up (q_oP (q_up (q_oP (q_up (q_oP (q_up (q_oP (q_up (q_oP (q_oP (q_up (q_oP (q_up (q_oP (q_up (q_oP (q_up (q_oP (q_up (q_oP (q_up (q_oP (q_oP P 1) 2) 1 0 (some 2)) 3) 1 1 (some 3)) 4) 1 2 (some 4)) 5) 1 3 (some 5)) 6) 1 4 (some 6)) 7) 1 5 (some 7)) 8) 9) 8 0 (some 9)) 10) 8 1 (some 10)) 11) 8 2 (some 11)) 12) 8 3 (some 12)) 13) 8 4 (some 13)) 14) 8 5 (some 14)) 15)) 30 [.ref 0] [.ref 15, .ref 0] (((((((((((((((((h.clr 1).clr 2).clr 3).clr 4).clr 5).clr 6).clr 7).sR 0 7 (some 1)).clr 8).clr 9).clr 10).clr 11).clr 12).clr 13).clr 14).sR 0 8 (some 8)).clr 15)
  refine q_dup dX10_init_30 rfl ?_
  refine q_callI (As := []) (st := [.ref 15, .ref 0]) ki_X10_21 rfl (Nat.le_refl _) (by decide) (by decide) (Nat.le_of_ble_eq_true rfl) dX10_init_31 rfl (k_3 G _ _ _) (fun h1 hh => ?_)
  subst hh
  show q_W G mi_X10_init _ (d + 4) _ _ _ 16 13402 (true, 17, (q_up (q_oP (q_oP (q_up (q_oP (q_up (q_oP (q_up (q_oP (q_up (q_oP (q_up (q_oP (q_up (q_oP (q_oP (q_up (q_oP (q_up (q_oP (q_up (q_oP (q_up (q_oP (q_up (q_oP (q_up (q_oP (q_oP P 1) 2) 1 0 (some 2)) 3) 1 1 (some 3)) 4) 1 2 (some 4)) 5) 1 3 (some 5)) 6) 1 4 (some 6)) 7) 1 5 (some 7)) 8) 9) 8 0 (some 9)) 10) 8 1 (some 10)) 11) 8 2 (some 11)) 12) 8 3 (some 12)) 13) 8 4 (some 13)) 14) 8 5 (some 14)) 15) 16) 15 0 (some 16))) 34 [.ref 0] [.ref 15, .ref 0] ((((((((((((((((((h.clr 1).clr 2).clr 3).clr 4).clr 5).clr 6).clr 7).sR 0 7 (some 1)).clr 8).clr 9).clr 10).clr 11).clr 12).clr 13).clr 14).sR 0 8 (some 8)).clr 15).clr 16)
  refine q_putP (v := 15) 11 0 fp_X10_22 (Or.inl rfl) (Nat.le_of_ble_eq_true rfl) rfl rfl (by rfl) (Or.inl ⟨_, rfl⟩) dX10_init_34 ?_
  show q_W G mi_X10_init _ (d + 4) _ _ _ 16 13402 (true, 17, (q_up (q_up (q_oP (q_oP (q_up (q_oP (q_up (q_oP (q_up (q_oP (q_up (q_oP (q_up (q_oP (q_up (q_oP (q_oP (q_up (q_oP (q_up (q_oP (q_up (q_oP (q_up (q_oP (q_up (q_oP (q_up (q_oP (q_oP P 1) 2) 1 0 (some 2)) 3) 1 1 (some 3)) 4) 1 2 (some 4)) 5) 1 3 (some 5)) 6) 1 4 (some 6)) 7) 1 5 (some 7)) 8) 9) 8 0 (some 9)) 10) 8 1 (some 10)) 11) 8 2 (some 11)) 12) 8 3 (some 12)) 13) 8 4 (some 13)) 14) 8 5 (some 14)) 15) 16) 15 0 (some 16)) 0 0 (some 15))) 37 [.ref 0] [] ((((((((((((((((((h.clr 1).clr 2).clr 3).clr 4).clr 5).clr 6).clr 7).sR 0 7 (some 1)).clr 8).clr 9).clr 10).clr 11).clr 12).clr 13).clr 14).sR 0 8 (some 8)).clr 15).clr 16)
  refine q_aload_n (i := 0) dX10_init_37 rfl rfl ?_
  refine q_new (ci := 9) rfl rfl rfl nl_X10_26 ni_X8 nn_X8 (by decide) (by decide) dX10_init_38 ?_
  show q_W G mi_X10_init _ (d + 4) _ _ _ 17 13409 (true, 18, (q_oP (q_up (q_up (q_oP (q_oP (q_up (q_oP (q_up (q_oP (q_up (q_oP (q_up (q_oP (q_up (q_oP (q_up (q_oP (q_oP (q_up (q_oP (q_up (q_oP (q_up (q_oP (q_up (q_oP (q_up (q_oP (q_up (q_oP (q_oP P 1) 2) 1 0 (some 2)) 3) 1 1 (some 3)) 4) 1 2 (some 4)) 5) 1 3 (some 5)) 6) 1 4 (some 6)) 7) 1 5 (some 7)) 8) 9) 8 0 (some 9)) 10) 8 1 (some 10)) 11) 8 2 (some 11)) 12) 8 3 (some 12)) 13) 8 4 (some 13)) 14) 8 5 (some 14)) 15) 16) 15 0 (some 16)) 0 0 (some 15)) 17)) 41 [.ref 0] [.ref 17, .ref 0] (((((((((((((((((((h.clr 1).clr 2).clr 3).clr 4).clr 5).clr 6).clr 7).sR 0 7 (some 1)).clr 8).clr 9).clr 10).clr 11).clr 12).clr 13).clr 14).sR 0 8 (some 8)).clr 15).clr 16).clr 17)
  refine q_dup dX10_init_41 rfl ?_
  refine q_aload_n (i := 0) dX10_init_42 rfl rfl ?_
  refine q_getP 11 0 15 fl_X10_22 (Nat.le_of_ble_eq_true rfl) rfl rfl rfl dX10_init_43 ?_
  refine q_getP 8 0 16 fl_X10_28 (Nat.le_of_ble_eq_true rfl) rfl rfl rfl dX10_init_46 ?_
  refine q_callI (As := [.ref 16]) (st := [.ref 17, .ref 0]) ki_X10_32 rfl (Nat.le_refl _) (by decide) (by decide) (Nat.le_of_ble_eq_true rfl) dX10_init_49 rfl (k_4 G _ _ _) (fun h1 hh => ?_)
  subst hh
  show q_W G mi_X10_init _ (d + 4) _ _ _ 20 19412 (true, 21, (q_up (q_up (q_oP (q_up (q_oP (q_up (q_oP (q_oP (q_up (q_up (q_oP (q_oP (q_up (q_oP (q_up (q_oP (q_up (q_oP (q_up (q_oP (q_up (q_oP (q_up (q_oP (q_oP (q_up (q_oP (q_up (q_oP (q_up (q_oP (q_up (q_oP (q_up (q_oP (q_up (q_oP (q_oP P 1) 2) 1 0 (some 2)) 3) 1 1 (some 3)) 4) 1 2 (some 4)) 5) 1 3 (some 5)) 6) 1 4 (some 6)) 7) 1 5 (some 7)) 8) 9) 8 0 (some 9)) 10) 8 1 (some 10)) 11) 8 2 (some 11)) 12) 8 3 (some 12)) 13) 8 4 (some 13)) 14) 8 5 (some 14)) 15) 16) 15 0 (some 16)) 0 0 (some 15)) 17) 18) 17 0 (some 18)) 19) 17 1 (some 19)) 20) 17 2 (some 20)) 17 3 (some 16))) 52 [.ref 0] [.ref 17, .ref 0] ((((((((((((((((((((((h.clr 1).clr 2).clr 3).clr 4).clr 5).clr 6).clr 7).sR 0 7 (some 1)).clr 8).clr 9).clr 10).clr 11).clr 12).clr 13).clr 14).sR 0 8 (some 8)).clr 15).clr 16).clr 17).clr 18).clr 19).clr 20)
  refine q_putP (v := 17) 11 1 fp_X10_35 (Or.inl rfl) (Nat.le_of_ble_eq_true rfl) rfl rfl (by rfl) (Or.inl ⟨_, rfl⟩) dX10_init_52 ?_
  show q_W G mi_X10_init _ (d + 4) _ _ _ 20 19412 (true, 21, (q_up (q_up (q_up (q_oP (q_up (q_oP (q_up (q_oP (q_oP (q_up (q_up (q_oP (q_oP (q_up (q_oP (q_up (q_oP (q_up (q_oP (q_up (q_oP (q_up (q_oP (q_up (q_oP (q_oP (q_up (q_oP (q_up (q_oP (q_up (q_oP (q_up (q_oP (q_up (q_oP (q_up (q_oP (q_oP P 1) 2) 1 0 (some 2)) 3) 1 1 (some 3)) 4) 1 2 (some 4)) 5) 1 3 (some 5)) 6) 1 4 (some 6)) 7) 1 5 (some 7)) 8) 9) 8 0 (some 9)) 10) 8 1 (some 10)) 11) 8 2 (some 11)) 12) 8 3 (some 12)) 13) 8 4 (some 13)) 14) 8 5 (some 14)) 15) 16) 15 0 (some 16)) 0 0 (some 15)) 17) 18) 17 0 (some 18)) 19) 17 1 (some 19)) 20) 17 2 (some 20)) 17 3 (some 16)) 0 1 (some 17))) 55 [.ref 0] [] ((((((((((((((((((((((h.clr 1).clr 2).clr 3).clr 4).clr 5).clr 6).clr 7).sR 0 7 (some 1)).clr 8).clr 9).clr 10).clr 11).clr 12).clr 13).clr 14).sR 0 8 (some 8)).clr 15).clr 16).clr 17).clr 18).clr 19).clr 20)
  refine q_aload_n (i := 0) dX10_init_55 rfl rfl ?_
  refine q_new (ci := 3) rfl rfl rfl nl_X10_39 ni_X2 nn_X2 (by decide) (by decide) dX10_init_56 ?_
  show q_W G mi_X10_init _ (d + 4) _ _ _ 21 19420 (true, 22, (q_oP (q_up (q_up (q_up (q_oP (q_up (q_oP (q_up (q_oP (q_oP (q_up (q_up (q_oP (q_oP (q_up (q_oP (q_up (q_oP (q_up (q_oP (q_up (q_oP (q_up (q_oP (q_up (q_oP (q_oP (q_up (q_oP (q_up (q_oP (q_up (q_oP (q_up (q_oP (q_up (q_oP (q_up (q_oP (q_oP P 1) 2) 1 0 (some 2)) 3) 1 1 (some 3)) 4) 1 2 (some 4)) 5) 1 3 (some 5)) 6) 1 4 (some 6)) 7) 1 5 (some 7)) 8) 9) 8 0 (some 9)) 10) 8 1 (some 10)) 11) 8 2 (some 11)) 12) 8 3 (some 12)) 13) 8 4 (some 13)) 14) 8 5 (some 14)) 15) 16) 15 0 (some 16)) 0 0 (some 15)) 17) 18) 17 0 (some 18)) 19) 17 1 (some 19)) 20) 17 2 (some 20)) 17 3 (some 16)) 0 1 (some 17)) 21)) 59 [.ref 0] [.ref 21, .ref 0] (((((((((((((((((((((((h.clr 1).clr 2).clr 3).clr 4).clr 5).clr 6).clr 7).sR 0 7 (some 1)).clr 8).clr 9).clr 10).clr 11).clr 12).clr 13).clr 14).sR 0 8 (some 8)).clr 15).clr 16).clr 17).clr 18).clr 19).clr 20).clr 21)
  refine q_dup dX10_init_59 rfl ?_
  refine q_aload_n (i := 0) dX10_init_60 rfl rfl ?_
  refine q_getP 11 1 17 fl_X10_35 (Nat.le_of_ble_eq_true rfl) rfl rfl rfl dX10_init_61 ?_
  refine q_aload_n (i := 0) dX10_init_64 rfl rfl ?_
  refine q_getR (k := 8) 11 8 fl_X10_16 (Nat.le_of_ble_eq_true rfl) rfl rfl rfl dX10_init_65 ?_
  refine q_callI (As := [.ref 17, .ref 8]) (st := [.ref 21, .ref 0]) ki_X10_41 rfl (Nat.le_refl _) (by decide) (by decide) (Nat.le_of_ble_eq_true rfl) dX10_init_68 rfl (k_8 G _ _ _) (fun h1 hh => ?_)
  subst hh
  show q_W G mi_X10_init _ (d + 4) _ _ _ 30 20076 (true, 31, (q_up (q_up (q_up (q_up (q_oP (q_up (q_oP (q_up (q_oP (q_oP (q_up (q_up (q_oP (q_up (q_oP (q_up (q_oP (q_oP (q_up (q_up (q_oP (q_oP (q_up (q_up (q_up (q_oP (q_up (q_oP (q_up (q_oP (q_oP (q_up (q_up (q_oP (q_oP (q_up (q_oP (q_up (q_oP (q_up (q_oP (q_up (q_oP (q_up (q_oP (q_up (q_oP (q_oP (q_up (q_oP (q_up (q_oP (q_up (q_oP (q_up (q_oP (q_up (q_oP (q_up (q_oP (q_oP P 1) 2) 1 0 (some 2)) 3) 1 1 (some 3)) 4) 1 2 (some 4)) 5) 1 3 (some 5)) 6) 1 4 (some 6)) 7) 1 5 (some 7)) 8) 9) 8 0 (some 9)) 10) 8 1 (some 10)) 11) 8 2 (some 11)) 12) 8 3 (some 12)) 13) 8 4 (some 13)) 14) 8 5 (some 14)) 15) 16) 15 0 (some 16)) 0 0 (some 15)) 17) 18) 17 0 (some 18)) 19) 17 1 (some 19)) 20) 17 2 (some 20)) 17 3 (some 16)) 0 1 (some 17)) 21) 22) 22 0 (some 17)) 21 0 (some 22)) 23) 24) 23 0 (some 24)) 25) 23 1 (some 25)) 26) 23 2 (some 26)) 21 1 (some 23)) 27) 28) 27 2 (some 28)) 29) 27 3 (some 29)) 30) 27 4 (some 30)) 27 0 (some 22)) 27 1 (some 23)) 21 2 (some 27))) 71 [.ref 0] [.ref 21, .ref 0] ((((((((((((((((((((((((((((((((((h.clr 1).clr 2).clr 3).clr 4).clr 5).clr 6).clr 7).sR 0 7 (some 1)).clr 8).clr 9).clr 10).clr 11).clr 12).clr 13).clr 14).sR 0 8 (some 8)).clr 15).clr 16).clr 17).clr 18).clr 19).clr 20).clr 21).clr 22).clr 23).clr 24).clr 25).clr 26).clr 27).clr 28).clr 29).clr 30).sR 27 5 (some 8)).sR 21 3 (some 8))
  refine q_putP (v := 21) 11 2 fp_X10_44 (Or.inl rfl) (Nat.le_of_ble_eq_true rfl) rfl rfl (by rfl) (Or.inl ⟨_, rfl⟩) dX10_init_71 ?_
  show q_W G mi_X10_init _ (d + 4) _ _ _ 30 20076 (true, 31, (q_up (q_up (q_up (q_up (q_up (q_oP (q_up (q_oP (q_up (q_oP (q_oP (q_up (q_up (q_oP (q_up (q_oP (q_up (q_oP (q_oP (q_up (q_up (q_oP (q_oP (q_up (q_up (q_up (q_oP (q_up (q_oP (q_up (q_oP (q_oP (q_up (q_up (q_oP (q_oP (q_up (q_oP (q_up (q_oP (q_up (q_oP (q_up (q_oP (q_up (q_oP (q_up (q_oP (q_oP (q_up (q_oP (q_up (q_oP (q_up (q_oP (q_up (q_oP (q_up (q_oP (q_up (q_oP (q_oP P 1) 2) 1 0 (some 2)) 3) 1 1 (some 3)) 4) 1 2 (some 4)) 5) 1 3 (some 5)) 6) 1 4 (some 6)) 7) 1 5 (some 7)) 8) 9) 8 0 (some 9)) 10) 8 1 (some 10)) 11) 8 2 (some 11)) 12) 8 3 (some 12)) 13) 8 4 (some 13)) 14) 8 5 (some 14)) 15) 16) 15 0 (some 16)) 0 0 (some 15)) 17) 18) 17 0 (some 18)) 19) 17 1 (some 19)) 20) 17 2 (some 20)) 17 3 (some 16)) 0 1 (some 17)) 21) 22) 22 0 (some 17)) 21 0 (some 22)) 23) 24) 23 0 (some 24)) 25) 23 1 (some 25)) 26) 23 2 (some 26)) 21 1 (some 23)) 27) 28) 27 2 (some 28)) 29) 27 3 (some 29)) 30) 27 4 (some 30)) 27 0 (some 22)) 27 1 (some 23)) 21 2 (some 27)) 0 2 (some 21))) 74 [.ref 0] [] ((((((((((((((((((((((((((((((((((h.clr 1).clr 2).clr 3).clr 4).clr 5).clr 6).clr 7).sR 0 7 (some 1)).clr 8).clr 9).clr 10).clr 11).clr 12).clr 13).clr 14).sR 0 8 (some 8)).clr 15).clr 16).clr 17).clr 18).clr 19).clr 20).clr 21).clr 22).clr 23).clr 24).clr 25).clr 26).clr 27).clr 28).clr 29).clr 30).sR 27 5 (some 8)).sR 21 3 (some 8))
  refine q_aload_n (i := 0) dX10_init_74 rfl rfl ?_
  refine q_new (ci := 4) rfl rfl rfl nl_X10_48 ni_X3 nn_X3 (by decide) (by decide) dX10_init_75 ?_
  show q_W G mi_X10_init _ (d + 4) _ _ _ 31 20086 (true, 32, (q_oP (q_up (q_up (q_up (q_up (q_up (q_oP (q_up (q_oP (q_up (q_oP (q_oP (q_up (q_up (q_oP (q_up (q_oP (q_up (q_oP (q_oP (q_up (q_up (q_oP (q_oP (q_up (q_up (q_up (q_oP (q_up (q_oP (q_up (q_oP (q_oP (q_up (q_up (q_oP (q_oP (q_up (q_oP (q_up (q_oP (q_up (q_oP (q_up (q_oP (q_up (q_oP (q_up (q_oP (q_oP (q_up (q_oP (q_up (q_oP (q_up (q_oP (q_up (q_oP (q_up (q_oP (q_up (q_oP (q_oP P 1) 2) 1 0 (some 2)) 3) 1 1 (some 3)) 4) 1 2 (some 4)) 5) 1 3 (some 5)) 6) 1 4 (some 6)) 7) 1 5 (some 7)) 8) 9) 8 0 (some 9)) 10) 8 1 (some 10)) 11) 8 2 (some 11)) 12) 8 3 (some 12)) 13) 8 4 (some 13)) 14) 8 5 (some 14)) 15) 16) 15 0 (some 16)) 0 0 (some 15)) 17) 18) 17 0 (some 18)) 19) 17 1 (some 19)) 20) 17 2 (some 20)) 17 3 (some 16)) 0 1 (some 17)) 21) 22) 22 0 (some 17)) 21 0 (some 22)) 23) 24) 23 0 (some 24)) 25) 23 1 (some 25)) 26) 23 2 (some 26)) 21 1 (some 23)) 27) 28) 27 2 (some 28)) 29) 27 3 (some 29)) 30) 27 4 (some 30)) 27 0 (some 22)) 27 1 (some 23)) 21 2 (some 27)) 0 2 (some 21)) 31)) 78 [.ref 0] [.ref 31, .ref 0] (((((((((((((((((((((((((((((((((((h.clr 1).clr 2).clr 3).clr 4).clr 5).clr 6).clr 7).sR 0 7 (some 1)).clr 8).clr 9).clr 10).clr 11).clr 12).clr 13).clr 14).sR 0 8 (some 8)).clr 15).clr 16).clr 17).clr 18).clr 19).clr 20).clr 21).clr 22).clr 23).clr 24).clr 25).clr 26).clr 27).clr 28).clr 29).clr 30).sR 27 5 (some 8)).sR 21 3 (some 8)).clr 31)
  refine q_dup dX10_init_78 rfl ?_
  refine q_callI (As := []) (st := [.ref 31, .ref 0]) ki_X10_50 rfl (Nat.le_refl _) (by decide) (by decide) (Nat.le_of_ble_eq_true rfl) dX10_init_79 rfl (k_9 G _ _ _) (fun h1 hh => ?_)
  subst hh
  show q_W G mi_X10_init _ (d + 4) _ _ _ 36 22766 (true, 37, (q_up (q_oP (q_up (q_oP (q_up (q_oP (q_up (q_oP (q_up (q_oP (q_oP (q_up (q_up (q_up (q_up (q_up (q_oP (q_up (q_oP (q_up (q_oP (q_oP (q_up (q_up (q_oP (q_up (q_oP (q_up (q_oP (q_oP (q_up (q_up (q_oP (q_oP (q_up (q_up (q_up (q_oP (q_up (q_oP (q_up (q_oP (q_oP (q_up (q_up (q_oP (q_oP (q_up (q_oP (q_up (q_oP (q_up (q_oP (q_up (q_oP (q_up (q_oP (q_up (q_oP (q_oP (q_up (q_oP (q_up (q_oP (q_up (q_oP (q_up (q_oP (q_up (q_oP (q_up (q_oP (q_oP P 1) 2) 1 0 (some 2)) 3) 1 1 (some 3)) 4) 1 2 (some 4)) 5) 1 3 (some 5)) 6) 1 4 (some 6)) 7) 1 5 (some 7)) 8) 9) 8 0 (some 9)) 10) 8 1 (some 10)) 11) 8 2 (some 11)) 12) 8 3 (some 12)) 13) 8 4 (some 13)) 14) 8 5 (some 14)) 15) 16) 15 0 (some 16)) 0 0 (some 15)) 17) 18) 17 0 (some 18)) 19) 17 1 (some 19)) 20) 17 2 (some 20)) 17 3 (some 16)) 0 1 (some 17)) 21) 22) 22 0 (some 17)) 21 0 (some 22)) 23) 24) 23 0 (some 24)) 25) 23 1 (some 25)) 26) 23 2 (some 26)) 21 1 (some 23)) 27) 28) 27 2 (some 28)) 29) 27 3 (some 29)) 30) 27 4 (some 30)) 27 0 (some 22)) 27 1 (some 23)) 21 2 (some 27)) 0 2 (some 21)) 31) 32) 31 0 (some 32)) 33) 31 1 (some 33)) 34) 31 2 (some 34)) 35) 31 3 (some 35)) 36) 31 4 (some 36))) 82 [.ref 0] [.ref 31, .ref 0] ((((((((((((((((((((((((((((((((((((((((h.clr 1).clr 2).clr 3).clr 4).clr 5).clr 6).clr 7).sR 0 7 (some 1)).clr 8).clr 9).clr 10).clr 11).clr 12).clr 13).clr 14).sR 0 8 (some 8)).clr 15).clr 16).clr 17).clr 18).clr 19).clr 20).clr 21).clr 22).clr 23).clr 24).clr 25).clr 26).clr 27).clr 28).clr 29).clr 30).sR 27 5 (some 8)).sR 21 3 (some 8)).clr 31).clr 32).clr 33).clr 34).clr 35).clr 36)
  refine q_putP (v := 31) 11 3 fp_X10_51 (Or.inl rfl) (Nat.le_of_ble_eq_true rfl) rfl rfl (by rfl) (Or.inl ⟨_, rfl⟩) dX10_init_82 ?_
  show q_W G mi_X10_init _ (d + 4) _ _ _ 36 22766 (true, 37, (q_up (q_up (q_oP (q_up (q_oP (q_up (q_oP (q_up (q_oP (q_up (q_oP (q_oP (q_up (q_up (q_up (q_up (q_up (q_oP (q_up (q_oP (q_up (q_oP (q_oP (q_up (q_up (q_oP (q_up (q_oP (q_up (q_oP (q_oP (q_up (q_up (q_oP (q_oP (q_up (q_up (q_up (q_oP (q_up (q_oP (q_up (q_oP (q_oP (q_up (q_up (q_oP (q_oP (q_up (q_oP (q_up (q_oP (q_up (q_oP (q_up (q_oP (q_up (q_oP (q_up (q_oP (q_oP (q_up (q_oP (q_up (q_oP (q_up (q_oP (q_up (q_oP (q_up (q_oP (q_up (q_oP (q_oP P 1) 2) 1 0 (some 2)) 3) 1 1 (some 3)) 4) 1 2 (some 4)) 5) 1 3 (some 5)) 6) 1 4 (some 6)) 7) 1 5 (some 7)) 8) 9) 8 0 (some 9)) 10) 8 1 (some 10)) 11) 8 2 (some 11)) 12) 8 3 (some 12)) 13) 8 4 (some 13)) 14) 8 5 (some 14)) 15) 16) 15 0 (some 16)) 0 0 (some 15)) 17) 18) 17 0 (some 18)) 19) 17 1 (some 19)) 20) 17 2 (some 20)) 17 3 (some 16)) 0 1 (some 17)) 21) 22) 22 0 (some 17)) 21 0 (some 22)) 23) 24) 23 0 (some 24)) 25) 23 1 (some 25)) 26) 23 2 (some 26)) 21 1 (some 23)) 27) 28) 27 2 (some 28)) 29) 27 3 (some 29)) 30) 27 4 (some 30)) 27 0 (some 22)) 27 1 (some 23)) 21 2 (some 27)) 0 2 (some 21)) 31) 32) 31 0 (some 32)) 33) 31 1 (some 33)) 34) 31 2 (some 34)) 35) 31 3 (some 35)) 36) 31 4 (some 36)) 0 3 (some 31))) 85 [.ref 0] [] ((((((((((((((((((((((((((((((((((((((((h.clr 1).clr 2).clr 3).clr 4).clr 5).clr 6).clr 7).sR 0 7 (some 1)).clr 8).clr 9).clr 10).clr 11).clr 12).clr 13).clr 14).sR 0 8 (some 8)).clr 15).clr 16).clr 17).clr 18).clr 19).clr 20).clr 21).clr 22).clr 23).clr 24).clr 25).clr 26).clr 27).clr 28).clr 29).clr 30).sR 27 5 (some 8)).sR 21 3 (some 8)).clr 31).clr 32).clr 33).clr 34).clr 35).clr 36)
  refine q_aload_n (i := 0) dX10_init_85 rfl rfl ?_
  refine q_new (ci := 7) rfl rfl rfl nl_X10_55 ni_X6 nn_X6 (by decide) (by decide) dX10_init_86 ?_
  show q_W G mi_X10_init _ (d + 4) _ _ _ 37 22768 (true, 38, (q_oP (q_up (q_up (q_oP (q_up (q_oP (q_up (q_oP (q_up (q_oP (q_up (q_oP (q_oP (q_up (q_up (q_up (q_up (q_up (q_oP (q_up (q_oP (q_up (q_oP (q_oP (q_up (q_up (q_oP (q_up (q_oP (q_up (q_oP (q_oP (q_up (q_up (q_oP (q_oP (q_up (q_up (q_up (q_oP (q_up (q_oP (q_up (q_oP (q_oP (q_up (q_up (q_oP (q_oP (q_up (q_oP (q_up (q_oP (q_up (q_oP (q_up (q_oP (q_up (q_oP (q_up (q_oP (q_oP (q_up (q_oP (q_up (q_oP (q_up (q_oP (q_up (q_oP (q_up (q_oP (q_up (q_oP (q_oP P 1) 2) 1 0 (some 2)) 3) 1 1 (some 3)) 4) 1 2 (some 4)) 5) 1 3 (some 5)) 6) 1 4 (some 6)) 7) 1 5 (some 7)) 8) 9) 8 0 (some 9)) 10) 8 1 (some 10)) 11) 8 2 (some 11)) 12) 8 3 (some 12)) 13) 8 4 (some 13)) 14) 8 5 (some 14)) 15) 16) 15 0 (some 16)) 0 0 (some 15)) 17) 18) 17 0 (some 18)) 19) 17 1 (some 19)) 20) 17 2 (some 20)) 17 3 (some 16)) 0 1 (some 17)) 21) 22) 22 0 (some 17)) 21 0 (some 22)) 23) 24) 23 0 (some 24)) 25) 23 1 (some 25)) 26) 23 2 (some 26)) 21 1 (some 23)) 27) 28) 27 2 (some 28)) 29) 27 3 (some 29)) 30) 27 4 (some 30)) 27 0 (some 22)) 27 1 (some 23)) 21 2 (some 27)) 0 2 (some 21)) 31) 32) 31 0 (some 32)) 33) 31 1 (some 33)) 34) 31 2 (some 34)) 35) 31 3 (some 35)) 36) 31 4 (some 36)) 0 3 (some 31)) 37)) 89 [.ref 0] [.ref 37, .ref 0] (((((((((((((((((((((((((((((((((((((((((h.clr 1).clr 2).clr 3).clr 4).clr 5).clr 6).clr 7).sR 0 7 (some 1)).clr 8).clr 9).clr 10).clr 11).clr 12).clr 13).clr 14).sR 0 8 (some 8)).clr 15).clr 16).clr 17).clr 18).clr 19).clr 20).clr 21).clr 22).clr 23).clr 24).clr 25).clr 26).clr 27).clr 28).clr 29).clr 30).sR 27 5 (some 8)).sR 21 3 (some 8)).clr 31).clr 32).clr 33).clr 34).clr 35).clr 36).clr 37)
  refine q_dup dX10_init_89 rfl ?_
  refine q_callI (As := []) (st := [.ref 37, .ref 0]) ki_X10_57 rfl (Nat.le_refl _) (by decide) (by decide) (Nat.le_of_ble_eq_true rfl) dX10_init_90 rfl (k_10 G _ _ _) (fun h1 hh => ?_)
  subst hh
  show q_W G mi_X10_init _ (d + 4) _ _ _ 37 22768 (true, 38, (q_oP (q_up (q_up (q_oP (q_up (q_oP (q_up (q_oP (q_up (q_oP (q_up (q_oP (q_oP (q_up (q_up (q_up (q_up (q_up (q_oP (q_up (q_oP (q_up (q_oP (q_oP (q_up (q_up (q_oP (q_up (q_oP (q_up (q_oP (q_oP (q_up (q_up (q_oP (q_oP (q_up (q_up (q_up (q_oP (q_up (q_oP (q_up (q_oP (q_oP (q_up (q_up (q_oP (q_oP (q_up (q_oP (q_up (q_oP (q_up (q_oP (q_up (q_oP (q_up (q_oP (q_up (q_oP (q_oP (q_up (q_oP (q_up (q_oP (q_up (q_oP (q_up (q_oP (q_up (q_oP (q_up (q_oP (q_oP P 1) 2) 1 0 (some 2)) 3) 1 1 (some 3)) 4) 1 2 (some 4)) 5) 1 3 (some 5)) 6) 1 4 (some 6)) 7) 1 5 (some 7)) 8) 9) 8 0 (some 9)) 10) 8 1 (some 10)) 11) 8 2 (some 11)) 12) 8 3 (some 12)) 13) 8 4 (some 13)) 14) 8 5 (some 14)) 15) 16) 15 0 (some 16)) 0 0 (some 15)) 17) 18) 17 0 (some 18)) 19) 17 1 (some 19)) 20) 17 2 (some 20)) 17 3 (some 16)) 0 1 (some 17)) 21) 22) 22 0 (some 17)) 21 0 (some 22)) 23) 24) 23 0 (some 24)) 25) 23 1 (some 25)) 26) 23 2 (some 26)) 21 1 (some 23)) 27) 28) 27 2 (some 28)) 29) 27 3 (some 29)) 30) 27 4 (some 30)) 27 0 (some 22)) 27 1 (some 23)) 21 2 (some 27)) 0 2 (some 21)) 31) 32) 31 0 (some 32)) 33) 31 1 (some 33)) 34) 31 2 (some 34)) 35) 31 3 (some 35)) 36) 31 4 (some 36)) 0 3 (some 31)) 37)) 93 [.ref 0] [.ref 37, .ref 0] (((((((((((((((((((((((((((((((((((((((((h.clr 1).clr 2).clr 3).clr 4).clr 5).clr 6).clr 7).sR 0 7 (some 1)).clr 8).clr 9).clr 10).clr 11).clr 12).clr 13).clr 14).sR 0 8 (some 8)).clr 15).clr 16).clr 17).clr 18).clr 19).clr 20).clr 21).clr 22).clr 23).clr 24).clr 25).clr 26).clr 27).clr 28).clr 29).clr 30).sR 27 5 (some 8)).sR 21 3 (some 8)).clr 31).clr 32).clr 33).clr 34).clr 35).clr 36).clr 37)
  refine q_putP (v := 37) 11 4 fp_X10_58 (Or.inl rfl) (Nat.le_of_ble_eq_true rfl) rfl rfl (by rfl) (Or.inl ⟨_, rfl⟩) dX10_init_93 ?_
  show q_W G mi_X10_init _ (d + 4) _ _ _ 37 22768 (true, 38, (q_up (q_oP (q_up (q_up (q_oP (q_up (q_oP (q_up (q_oP (q_up (q_oP (q_up (q_oP (q_oP (q_up (q_up (q_up (q_up (q_up (q_oP (q_up (q_oP (q_up (q_oP (q_oP (q_up (q_up (q_oP (q_up (q_oP (q_up (q_oP (q_oP (q_up (q_up (q_oP (q_oP (q_up (q_up (q_up (q_oP (q_up (q_oP (q_up (q_oP (q_oP (q_up (q_up (q_oP (q_oP (q_up (q_oP (q_up (q_oP (q_up (q_oP (q_up (q_oP (q_up (q_oP (q_up (q_oP (q_oP (q_up (q_oP (q_up (q_oP (q_up (q_oP (q_up (q_oP (q_up (q_oP (q_up (q_oP (q_oP P 1) 2) 1 0 (some 2)) 3) 1 1 (some 3)) 4) 1 2 (some 4)) 5) 1 3 (some 5)) 6) 1 4 (some 6)) 7) 1 5 (some 7)) 8) 9) 8 0 (some 9)) 10) 8 1 (some 10)) 11) 8 2 (some 11)) 12) 8 3 (some 12)) 13) 8 4 (some 13)) 14) 8 5 (some 14)) 15) 16) 15 0 (some 16)) 0 0 (some 15)) 17) 18) 17 0 (some 18)) 19) 17 1 (some 19)) 20) 17 2 (some 20)) 17 3 (some 16)) 0 1 (some 17)) 21) 22) 22 0 (some 17)) 21 0 (some 22)) 23) 24) 23 0 (some 24)) 25) 23 1 (some 25)) 26) 23 2 (some 26)) 21 1 (some 23)) 27) 28) 27 2 (some 28)) 29) 27 3 (some 29)) 30) 27 4 (some 30)) 27 0 (some 22)) 27 1 (some 23)) 21 2 (some 27)) 0 2 (some 21)) 31) 32) 31 0 (some 32)) 33) 31 1 (some 33)) 34) 31 2 (some 34)) 35) 31 3 (some 35)) 36) 31 4 (some 36)) 0 3 (some 31)) 37) 0 4 (some 37))) 96 [.ref 0] [] (((((((((((((((((((((((((((((((((((((((((h.clr 1).clr 2).clr 3).clr 4).clr 5).clr 6).clr 7).sR 0 7 (some 1)).clr 8).clr 9).clr 10).clr 11).clr 12).clr 13).clr 14).sR 0 8 (some 8)).clr 15).clr 16).clr 17).clr 18).clr 19).clr 20).clr 21).clr 22).clr 23).clr 24).clr 25).clr 26).clr 27).clr 28).clr 29).clr 30).sR 27 5 (some 8)).sR 21 3 (some 8)).clr 31).clr 32).clr 33).clr 34).clr 35).clr 36).clr 37)
  refine q_aload_n (i := 0) dX10_init_96 rfl rfl ?_
  refine q_new (ci := 10) rfl rfl rfl nl_X10_62 ni_X9 nn_X9 (by decide) (by decide) dX10_init_97 ?_
  show q_W G mi_X10_init _ (d + 4) _ _ _ 38 22783 (true, 39, (q_oP (q_up (q_oP (q_up (q_up (q_oP (q_up (q_oP (q_up (q_oP (q_up (q_oP (q_up (q_oP (q_oP (q_up (q_up (q_up (q_up (q_up (q_oP (q_up (q_oP (q_up (q_oP (q_oP (q_up (q_up (q_oP (q_up (q_oP (q_up (q_oP (q_oP (q_up (q_up (q_oP (q_oP (q_up (q_up (q_up (q_oP (q_up (q_oP (q_up (q_oP (q_oP (q_up (q_up (q_oP (q_oP (q_up (q_oP (q_up (q_oP (q_up (q_oP (q_up (q_oP (q_up (q_oP (q_up (q_oP (q_oP (q_up (q_oP (q_up (q_oP (q_up (q_oP (q_up (q_oP (q_up (q_oP (q_up (q_oP (q_oP P 1) 2) 1 0 (some 2)) 3) 1 1 (some 3)) 4) 1 2 (some 4)) 5) 1 3 (some 5)) 6) 1 4 (some 6)) 7) 1 5 (some 7)) 8) 9) 8 0 (some 9)) 10) 8 1 (some 10)) 11) 8 2 (some 11)) 12) 8 3 (some 12)) 13) 8 4 (some 13)) 14) 8 5 (some 14)) 15) 16) 15 0 (some 16)) 0 0 (some 15)) 17) 18) 17 0 (some 18)) 19) 17 1 (some 19)) 20) 17 2 (some 20)) 17 3 (some 16)) 0 1 (some 17)) 21) 22) 22 0 (some 17)) 21 0 (some 22)) 23) 24) 23 0 (some 24)) 25) 23 1 (some 25)) 26) 23 2 (some 26)) 21 1 (some 23)) 27) 28) 27 2 (some 28)) 29) 27 3 (some 29)) 30) 27 4 (some 30)) 27 0 (some 22)) 27 1 (some 23)) 21 2 (some 27)) 0 2 (some 21)) 31) 32) 31 0 (some 32)) 33) 31 1 (some 33)) 34) 31 2 (some 34)) 35) 31 3 (some 35)) 36) 31 4 (some 36)) 0 3 (some 31)) 37) 0 4 (some 37)) 38)) 100 [.ref 0] [.ref 38, .ref 0] ((((((((((((((((((((((((((((((((((((((((((h.clr 1).clr 2).clr 3).clr 4).clr 5).clr 6).clr 7).sR 0 7 (some 1)).clr 8).clr 9).clr 10).clr 11).clr 12).clr 13).clr 14).sR 0 8 (some 8)).clr 15).clr 16).clr 17).clr 18).clr 19).clr 20).clr 21).clr 22).clr 23).clr 24).clr 25).clr 26).clr 27).clr 28).clr 29).clr 30).sR 27 5 (some 8)).sR 21 3 (some 8)).clr 31).clr 32).clr 33).clr 34).clr 35).clr 36).clr 37).clr 38)
  refine q_dup dX10_init_100 rfl ?_
  refine q_aload_n (i := 0) dX10_init_101 rfl rfl ?_
  refine q_getP 11 3 31 fl_X10_51 (Nat.le_of_ble_eq_true rfl) rfl rfl rfl dX10_init_102 ?_
  refine q_aload_n (i := 0) dX10_init_105 rfl rfl ?_
  refine q_getP 11 4 37 fl_X10_58 (Nat.le_of_ble_eq_true rfl) rfl rfl rfl dX10_init_106 ?_
  refine q_aload_n (i := 0) dX10_init_109 rfl rfl ?_
  refine q_getR (k := 1) 11 7 fl_X10_12 (Nat.le_of_ble_eq_true rfl) rfl rfl rfl dX10_init_110 ?_
  refine q_callI (As := [.ref 31, .ref 37, .ref 1]) (st := [.ref 38, .ref 0]) ki_X10_64 rfl (Nat.le_refl _) (by decide) (by decide) (Nat.le_of_ble_eq_true rfl) dX10_init_113 rfl (k_11 G _ _ _) (fun h1 hh => ?_)
  subst hh
  show q_W G mi_X10_init _ (d + 4) _ _ _ 41 25599 (true, 42, (q_up (q_up (q_up (q_oP (q_up (q_oP (q_up (q_oP (q_oP (q_up (q_oP (q_up (q_up (q_oP (q_up (q_oP (q_up (q_oP (q_up (q_oP (q_up (q_oP (q_oP (q_up (q_up (q_up (q_up (q_up (q_oP (q_up (q_oP (q_up (q_oP (q_oP (q_up (q_up (q_oP (q_up (q_oP (q_up (q_oP (q_oP (q_up (q_up (q_oP (q_oP (q_up (q_up (q_up (q_oP (q_up (q_oP (q_up (q_oP (q_oP (q_up (q_up (q_oP (q_oP (q_up (q_oP (q_up (q_oP (q_up (q_oP (q_up (q_oP (q_up (q_oP (q_up (q_oP (q_oP (q_up (q_oP (q_up (q_oP (q_up (q_oP (q_up (q_oP (q_up (q_oP (q_up (q_oP (q_oP P 1) 2) 1 0 (some 2)) 3) 1 1 (some 3)) 4) 1 2 (some 4)) 5) 1 3 (some 5)) 6) 1 4 (some 6)) 7) 1 5 (some 7)) 8) 9) 8 0 (some 9)) 10) 8 1 (some 10)) 11) 8 2 (some 11)) 12) 8 3 (some 12)) 13) 8 4 (some 13)) 14) 8 5 (some 14)) 15) 16) 15 0 (some 16)) 0 0 (some 15)) 17) 18) 17 0 (some 18)) 19) 17 1 (some 19)) 20) 17 2 (some 20)) 17 3 (some 16)) 0 1 (some 17)) 21) 22) 22 0 (some 17)) 21 0 (some 22)) 23) 24) 23 0 (some 24)) 25) 23 1 (some 25)) 26) 23 2 (some 26)) 21 1 (some 23)) 27) 28) 27 2 (some 28)) 29) 27 3 (some 29)) 30) 27 4 (some 30)) 27 0 (some 22)) 27 1 (some 23)) 21 2 (some 27)) 0 2 (some 21)) 31) 32) 31 0 (some 32)) 33) 31 1 (some 33)) 34) 31 2 (some 34)) 35) 31 3 (some 35)) 36) 31 4 (some 36)) 0 3 (some 31)) 37) 0 4 (some 37)) 38) 39) 38 2 (some 39)) 40) 38 3 (some 40)) 41) 38 4 (some 41)) 38 0 (some 31)) 38 1 (some 37))) 116 [.ref 0] [.ref 38, .ref 0] (((((((((((((((((((((((((((((((((((((((((((((((h.clr 1).clr 2).clr 3).clr 4).clr 5).clr 6).clr 7).sR 0 7 (some 1)).clr 8).clr 9).clr 10).clr 11).clr 12).clr 13).clr 14).sR 0 8 (some 8)).clr 15).clr 16).clr 17).clr 18).clr 19).clr 20).clr 21).clr 22).clr 23).clr 24).clr 25).clr 26).clr 27).clr 28).clr 29).clr 30).sR 27 5 (some 8)).sR 21 3 (some 8)).clr 31).clr 32).clr 33).clr 34).clr 35).clr 36).clr 37).clr 38).clr 39).clr 40).clr 41).sR 38 5 (some 1)).sI 38 9 (-1))
  refine q_putP (v := 38) 11 5 fp_X10_67 (Or.inl rfl) (Nat.le_of_ble_eq_true rfl) rfl rfl (by rfl) (Or.inl ⟨_, rfl⟩) dX10_init_116 ?_
  show q_W G mi_X10_init _ (d + 4) _ _ _ 41 25599 (true, 42, (q_up (q_up (q_up (q_up (q_oP (q_up (q_oP (q_up (q_oP (q_oP (q_up (q_oP (q_up (q_up (q_oP (q_up (q_oP (q_up (q_oP (q_up (q_oP (q_up (q_oP (q_oP (q_up (q_up (q_up (q_up (q_up (q_oP (q_up (q_oP (q_up (q_oP (q_oP (q_up (q_up (q_oP (q_up (q_oP (q_up (q_oP (q_oP (q_up (q_up (q_oP (q_oP (q_up (q_up (q_up (q_oP (q_up (q_oP (q_up (q_oP (q_oP (q_up (q_up (q_oP (q_oP (q_up (q_oP (q_up (q_oP (q_up (q_oP (q_up (q_oP (q_up (q_oP (q_up (q_oP (q_oP (q_up (q_oP (q_up (q_oP (q_up (q_oP (q_up (q_oP (q_up (q_oP (q_up (q_oP (q_oP P 1) 2) 1 0 (some 2)) 3) 1 1 (some 3)) 4) 1 2 (some 4)) 5) 1 3 (some 5)) 6) 1 4 (some 6)) 7) 1 5 (some 7)) 8) 9) 8 0 (some 9)) 10) 8 1 (some 10)) 11) 8 2 (some 11)) 12) 8 3 (some 12)) 13) 8 4 (some 13)) 14) 8 5 (some 14)) 15) 16) 15 0 (some 16)) 0 0 (some 15)) 17) 18) 17 0 (some 18)) 19) 17 1 (some 19)) 20) 17 2 (some 20)) 17 3 (some 16)) 0 1 (some 17)) 21) 22) 22 0 (some 17)) 21 0 (some 22)) 23) 24) 23 0 (some 24)) 25) 23 1 (some 25)) 26) 23 2 (some 26)) 21 1 (some 23)) 27) 28) 27 2 (some 28)) 29) 27 3 (some 29)) 30) 27 4 (some 30)) 27 0 (some 22)) 27 1 (some 23)) 21 2 (some 27)) 0 2 (some 21)) 31) 32) 31 0 (some 32)) 33) 31 1 (some 33)) 34) 31 2 (some 34)) 35) 31 3 (some 35)) 36) 31 4 (some 36)) 0 3 (some 31)) 37) 0 4 (some 37)) 38) 39) 38 2 (some 39)) 40) 38 3 (some 40)) 41) 38 4 (some 41)) 38 0 (some 31)) 38 1 (some 37)) 0 5 (some 38))) 119 [.ref 0] [] (((((((((((((((((((((((((((((((((((((((((((((((h.clr 1).clr 2).clr 3).clr 4).clr 5).clr 6).clr 7).sR 0 7 (some 1)).clr 8).clr 9).clr 10).clr 11).clr 12).clr 13).clr 14).sR 0 8 (some 8)).clr 15).clr 16).clr 17).clr 18).clr 19).clr 20).clr 21).clr 22).clr 23).clr 24).clr 25).clr 26).clr 27).clr 28).clr 29).clr 30).sR 27 5 (some 8)).sR 21 3 (some 8)).clr 31).clr 32).clr 33).clr 34).clr 35).clr 36).clr 37).clr 38).clr 39).clr 40).clr 41).sR 38 5 (some 1)).sI 38 9 (-1))
  refine q_aload_n (i := 0) dX10_init_119 rfl rfl ?_
  refine q_iconst (v := 4) dX10_init_120 (by decide) ?_
  refine q_newa (at_ := .int) (t := 0) (N := 4) rfl rfl (by decide) (Or.inl ⟨rfl, rfl⟩) ac_int (by decide) (by decide) (by decide) (by decide) (by decide) dX10_init_121 ?_
  show q_W G mi_X10_init _ (d + 4) _ _ _ 42 25603 (true, 43, (q_oP (q_up (q_up (q_up (q_up (q_oP (q_up (q_oP (q_up (q_oP (q_oP (q_up (q_oP (q_up (q_up (q_oP (q_up (q_oP (q_up (q_oP (q_up (q_oP (q_up (q_oP (q_oP (q_up (q_up (q_up (q_up (q_up (q_oP (q_up (q_oP (q_up (q_oP (q_oP (q_up (q_up (q_oP (q_up (q_oP (q_up (q_oP (q_oP (q_up (q_up (q_oP (q_oP (q_up (q_up (q_up (q_oP (q_up (q_oP (q_up (q_oP (q_oP (q_up (q_up (q_oP (q_oP (q_up (q_oP (q_up (q_oP (q_up (q_oP (q_up (q_oP (q_up (q_oP (q_up (q_oP (q_oP (q_up (q_oP (q_up (q_oP (q_up (q_oP (q_up (q_oP (q_up (q_oP (q_up (q_oP (q_oP P 1) 2) 1 0 (some 2)) 3) 1 1 (some 3)) 4) 1 2 (some 4)) 5) 1 3 (some 5)) 6) 1 4 (some 6)) 7) 1 5 (some 7)) 8) 9) 8 0 (some 9)) 10) 8 1 (some 10)) 11) 8 2 (some 11)) 12) 8 3 (some 12)) 13) 8 4 (some 13)) 14) 8 5 (some 14)) 15) 16) 15 0 (some 16)) 0 0 (some 15)) 17) 18) 17 0 (some 18)) 19) 17 1 (some 19)) 20) 17 2 (some 20)) 17 3 (some 16)) 0 1 (some 17)) 21) 22) 22 0 (some 17)) 21 0 (some 22)) 23) 24) 23 0 (some 24)) 25) 23 1 (some 25)) 26) 23 2 (some 26)) 21 1 (some 23)) 27) 28) 27 2 (some 28)) 29) 27 3 (some 29)) 30) 27 4 (some 30)) 27 0 (some 22)) 27 1 (some 23)) 21 2 (some 27)) 0 2 (some 21)) 31) 32) 31 0 (some 32)) 33) 31 1 (some 33)) 34) 31 2 (some 34)) 35) 31 3 (some 35)) 36) 31 4 (some 36)) 0 3 (some 31)) 37) 0 4 (some 37)) 38) 39) 38 2 (some 39)) 40) 38 3 (some 40)) 41) 38 4 (some 41)) 38 0 (some 31)) 38 1 (some 37)) 0 5 (some 38)) 42)) 123 [.ref 0] [.ref 42, .ref 0] ((((((((((((((((((((((((((((((((((((((((((((((((h.clr 1).clr 2).clr 3).clr 4).clr 5).clr 6).clr 7).sR 0 7 (some 1)).clr 8).clr 9).clr 10).clr 11).clr 12).clr 13).clr 14).sR 0 8 (some 8)).clr 15).clr 16).clr 17).clr 18).clr 19).clr 20).clr 21).clr 22).clr 23).clr 24).clr 25).clr 26).clr 27).clr 28).clr 29).clr 30).sR 27 5 (some 8)).sR 21 3 (some 8)).clr 31).clr 32).clr 33).clr 34).clr 35).clr 36).clr 37).clr 38).clr 39).clr 40).clr 41).sR 38 5 (some 1)).sI 38 9 (-1)).clr 42)
  refine q_putP (v := 42) 11 6 fp_X10_71 (Or.inl rfl) (Nat.le_of_ble_eq_true rfl) rfl rfl (by rfl) (Or.inr ⟨_, rfl⟩) dX10_init_123 ?_
  show q_W G mi_X10_init _ (d + 4) _ _ _ 42 25603 (true, 43, (q_up (q_oP (q_up (q_up (q_up (q_up (q_oP (q_up (q_oP (q_up (q_oP (q_oP (q_up (q_oP (q_up (q_up (q_oP (q_up (q_oP (q_up (q_oP (q_up (q_oP (q_up (q_oP (q_oP (q_up (q_up (q_up (q_up (q_up (q_oP (q_up (q_oP (q_up (q_oP (q_oP (q_up (q_up (q_oP (q_up (q_oP (q_up (q_oP (q_oP (q_up (q_up (q_oP (q_oP (q_up (q_up (q_up (q_oP (q_up (q_oP (q_up (q_oP (q_oP (q_up (q_up (q_oP (q_oP (q_up (q_oP (q_up (q_oP (q_up (q_oP (q_up (q_oP (q_up (q_oP (q_up (q_oP (q_oP (q_up (q_oP (q_up (q_oP (q_up (q_oP (q_up (q_oP (q_up (q_oP (q_up (q_oP (q_oP P 1) 2) 1 0 (some 2)) 3) 1 1 (some 3)) 4) 1 2 (some 4)) 5) 1 3 (some 5)) 6) 1 4 (some 6)) 7) 1 5 (some 7)) 8) 9) 8 0 (some 9)) 10) 8 1 (some 10)) 11) 8 2 (some 11)) 12) 8 3 (some 12)) 13) 8 4 (some 13)) 14) 8 5 (some 14)) 15) 16) 15 0 (some 16)) 0 0 (some 15)) 17) 18) 17 0 (some 18)) 19) 17 1 (some 19)) 20) 17 2 (some 20)) 17 3 (some 16)) 0 1 (some 17)) 21) 22) 22 0 (some 17)) 21 0 (some 22)) 23) 24) 23 0 (some 24)) 25) 23 1 (some 25)) 26) 23 2 (some 26)) 21 1 (some 23)) 27) 28) 27 2 (some 28)) 29) 27 3 (some 29)) 30) 27 4 (some 30)) 27 0 (some 22)) 27 1 (some 23)) 21 2 (some 27)) 0 2 (some 21)) 31) 32) 31 0 (some 32)) 33) 31 1 (some 33)) 34) 31 2 (some 34)) 35) 31 3 (some 35)) 36) 31 4 (some 36)) 0 3 (some 31)) 37) 0 4 (some 37)) 38) 39) 38 2 (some 39)) 40) 38 3 (some 40)) 41) 38 4 (some 41)) 38 0 (some 31)) 38 1 (some 37)) 0 5 (some 38)) 42) 0 6 (some 42))) 126 [.ref 0] [] ((((((((((((((((((((((((((((((((((((((((((((((((h.clr 1).clr 2).clr 3).clr 4).clr 5).clr 6).clr 7).sR 0 7 (some 1)).clr 8).clr 9).clr 10).clr 11).clr 12).clr 13).clr 14).sR 0 8 (some 8)).clr 15).clr 16).clr 17).clr 18).clr 19).clr 20).clr 21).clr 22).clr 23).clr 24).clr 25).clr 26).clr 27).clr 28).clr 29).clr 30).sR 27 5 (some 8)).sR 21 3 (some 8)).clr 31).clr 32).clr 33).clr 34).clr 35).clr 36).clr 37).clr 38).clr 39).clr 40).clr 41).sR 38 5 (some 1)).sI 38 9 (-1)).clr 42)
  refine q_aload_n (i := 0) dX10_init_126 rfl rfl ?_
  refine q_iconst (v := 0) dX10_init_127 (by decide) ?_
  refine q_putZ 11 9 fp_X10_75 (Or.inl rfl) (Nat.le_of_ble_eq_true rfl) rfl rfl (by decide) dX10_init_128 ?_
  refine q_aload_n (i := 0) dX10_init_131 rfl rfl ?_
  refine q_iconst (v := 0) dX10_init_132 (by decide) ?_
  refine q_putI 11 10 fp_X10_79 (Or.inl rfl) (Nat.le_of_ble_eq_true rfl) rfl rfl dX10_init_133 ?_
  refine q_aload_n (i := 0) dX10_init_136 rfl rfl ?_
  refine q_iconst (v := (-1)) dX10_init_137 (by decide) ?_
  refine q_putI 11 11 fp_X10_83 (Or.inl rfl) (Nat.le_of_ble_eq_true rfl) rfl rfl dX10_init_138 ?_
  exact q_vret rfl (by decide) (by decide) dX10_init_141 rfl
set_option maxRecDepth 100000 in
set_option maxHeartbeats 4000000 in
theorem k_13 (G : qG) (d : Nat) (P : Nat → Nat → Option Nat) (h : qh) : q_M G (true, 52, P) (true, 62, (q_up (q_oP (q_up (q_oP (q_up (q_oP (q_up (q_oP (q_up (q_oP (q_up (q_oP (q_up (q_oP (q_up (q_oP (q_up (q_oP (q_up (q_oP P 52) 51 8 (some 52)) 53) 51 9 (some 53)) 54) 51 10 (some 54)) 55) 51 11 (some 55)) 56) 51 12 (some 56)) 57) 51 13 (some 57)) 58) 51 14 (some 58)) 59) 51 15 (some 59)) 60) 51 16 (some 60)) 61) 51 17 (some 61))) (d + 4) 10 18008 yX11_init [.ref 51] h (q_rv (fun h1 => h1 = ((((((((((h.clr 52).clr 53).clr 54).clr 55).clr 56).clr 57).clr 58).clr 59).clr 60).clr 61)) (fun _ _ => False)) := by
  refine q_of (M := mi_X11_init) (by decide +kernel) rfl rfl kd_X11_init (fun _ => rfl) (Nat.le_of_ble_eq_true rfl) ?_
  show q_W G mi_X11_init _ (d + 4) 10 18008 _ 0 0 _ 0 [.ref 51] [] h
  refine q_aload_n (i := 0) dX11_init_0 rfl rfl ?_
  refine q_objInit ol_X11_3 oi_i oi_c (Nat.le_of_ble_eq_true rfl) dX11_init_1 ?_
  refine q_aload_n (i := 0) dX11_init_4 rfl rfl ?_
  refine q_bipush (v := 8) dX11_init_5 (by decide) ?_
  refine q_newa (at_ := .int) (t := 0) (N := 8) rfl rfl (by decide) (Or.inl ⟨rfl, rfl⟩) ac_int (by decide) (by decide) (by decide) (by decide) (by decide) dX11_init_7 ?_
  show q_W G mi_X11_init _ (d + 4) _ _ _ 1 8 (true, 53, (q_oP P 52)) 9 [.ref 51] [.ref 52, .ref 51] (h.clr 52)
  refine q_putP (v := 52) 12 8 fp_X11_9 (Or.inl rfl) (Nat.le_of_ble_eq_true rfl) rfl rfl (by rfl) (Or.inr ⟨_, rfl⟩) dX11_init_9 ?_
  show q_W G mi_X11_init _ (d + 4) _ _ _ 1 8 (true, 53, (q_up (q_oP P 52) 51 8 (some 52))) 12 [.ref 51] [] (h.clr 52)
  refine q_aload_n (i := 0) dX11_init_12 rfl rfl ?_
  refine q_sipush (v := 2000) dX11_init_13 (by decide) ?_
  refine q_newa (at_ := .int) (t := 0) (N := 2000) rfl rfl (by decide) (Or.inl ⟨rfl, rfl⟩) ac_int (by decide) (by decide) (by decide) (by decide) (by decide) dX11_init_16 ?_
  show q_W G mi_X11_init _ (d + 4) _ _ _ 2 2008 (true, 54, (q_oP (q_up (q_oP P 52) 51 8 (some 52)) 53)) 18 [.ref 51] [.ref 53, .ref 51] ((h.clr 52).clr 53)
  refine q_putP (v := 53) 12 9 fp_X11_15 (Or.inl rfl) (Nat.le_of_ble_eq_true rfl) rfl rfl (by rfl) (Or.inr ⟨_, rfl⟩) dX11_init_18 ?_
  show q_W G mi_X11_init _ (d + 4) _ _ _ 2 2008 (true, 54, (q_up (q_oP (q_up (q_oP P 52) 51 8 (some 52)) 53) 51 9 (some 53))) 21 [.ref 51] [] ((h.clr 52).clr 53)
  refine q_aload_n (i := 0) dX11_init_21 rfl rfl ?_
  refine q_sipush (v := 2000) dX11_init_22 (by decide) ?_
  refine q_newa (at_ := .int) (t := 0) (N := 2000) rfl rfl (by decide) (Or.inl ⟨rfl, rfl⟩) ac_int (by decide) (by decide) (by decide) (by decide) (by decide) dX11_init_25 ?_
  show q_W G mi_X11_init _ (d + 4) _ _ _ 3 4008 (true, 55, (q_oP (q_up (q_oP (q_up (q_oP P 52) 51 8 (some 52)) 53) 51 9 (some 53)) 54)) 27 [.ref 51] [.ref 54, .ref 51] (((h.clr 52).clr 53).clr 54)
  refine q_putP (v := 54) 12 10 fp_X11_18 (Or.inl rfl) (Nat.le_of_ble_eq_true rfl) rfl rfl (by rfl) (Or.inr ⟨_, rfl⟩) dX11_init_27 ?_
  show q_W G mi_X11_init _ (d + 4) _ _ _ 3 4008 (true, 55, (q_up (q_oP (q_up (q_oP (q_up (q_oP P 52) 51 8 (some 52)) 53) 51 9 (some 53)) 54) 51 10 (some 54))) 30 [.ref 51] [] (((h.clr 52).clr 53).clr 54)
  refine q_aload_n (i := 0) dX11_init_30 rfl rfl ?_
  refine q_sipush (v := 2000) dX11_init_31 (by decide) ?_
  refine q_newa (at_ := .int) (t := 0) (N := 2000) rfl rfl (by decide) (Or.inl ⟨rfl, rfl⟩) ac_int (by decide) (by decide) (by decide) (by decide) (by decide) dX11_init_34 ?_
  show q_W G mi_X11_init _ (d + 4) _ _ _ 4 6008 (true, 56, (q_oP (q_up (q_oP (q_up (q_oP (q_up (q_oP P 52) 51 8 (some 52)) 53) 51 9 (some 53)) 54) 51 10 (some 54)) 55)) 36 [.ref 51] [.ref 55, .ref 51] ((((h.clr 52).clr 53).clr 54).clr 55)
  refine q_putP (v := 55) 12 11 fp_X11_21 (Or.inl rfl) (Nat.le_of_ble_eq_true rfl) rfl rfl (by rfl) (Or.inr ⟨_, rfl⟩) dX11_init_36 ?_
  show q_W G mi_X11_init _ (d + 4) _ _ _ 4 6008 (true, 56, (q_up (q_oP (q_up (q_oP (q_up (q_oP (q_up (q_oP P 52) 51 8 (some 52)) 53) 51 9 (some 53)) 54) 51 10 (some 54)) 55) 51 11 (some 55))) 39 [.ref 51] [] ((((h.clr 52).clr 53).clr 54).clr 55)
  refine q_aload_n (i := 0) dX11_init_39 rfl rfl ?_
  refine q_sipush (v := 2000) dX11_init_40 (by decide) ?_
  refine q_newa (at_ := .int) (t := 0) (N := 2000) rfl rfl (by decide) (Or.inl ⟨rfl, rfl⟩) ac_int (by decide) (by decide) (by decide) (by decide) (by decide) dX11_init_43 ?_
  show q_W G mi_X11_init _ (d + 4) _ _ _ 5 8008 (true, 57, (q_oP (q_up (q_oP (q_up (q_oP (q_up (q_oP (q_up (q_oP P 52) 51 8 (some 52)) 53) 51 9 (some 53)) 54) 51 10 (some 54)) 55) 51 11 (some 55)) 56)) 45 [.ref 51] [.ref 56, .ref 51] (((((h.clr 52).clr 53).clr 54).clr 55).clr 56)
  refine q_putP (v := 56) 12 12 fp_X11_24 (Or.inl rfl) (Nat.le_of_ble_eq_true rfl) rfl rfl (by rfl) (Or.inr ⟨_, rfl⟩) dX11_init_45 ?_
  show q_W G mi_X11_init _ (d + 4) _ _ _ 5 8008 (true, 57, (q_up (q_oP (q_up (q_oP (q_up (q_oP (q_up (q_oP (q_up (q_oP P 52) 51 8 (some 52)) 53) 51 9 (some 53)) 54) 51 10 (some 54)) 55) 51 11 (some 55)) 56) 51 12 (some 56))) 48 [.ref 51] [] (((((h.clr 52).clr 53).clr 54).clr 55).clr 56)
  refine q_aload_n (i := 0) dX11_init_48 rfl rfl ?_
  refine q_sipush (v := 2000) dX11_init_49 (by decide) ?_
  refine q_newa (at_ := .int) (t := 0) (N := 2000) rfl rfl (by decide) (Or.inl ⟨rfl, rfl⟩) ac_int (by decide) (by decide) (by decide) (by decide) (by decide) dX11_init_52 ?_
  show q_W G mi_X11_init _ (d + 4) _ _ _ 6 10008 (true, 58, (q_oP (q_up (q_oP (q_up (q_oP (q_up (q_oP (q_up (q_oP (q_up (q_oP P 52) 51 8 (some 52)) 53) 51 9 (some 53)) 54) 51 10 (some 54)) 55) 51 11 (some 55)) 56) 51 12 (some 56)) 57)) 54 [.ref 51] [.ref 57, .ref 51] ((((((h.clr 52).clr 53).clr 54).clr 55).clr 56).clr 57)
  refine q_putP (v := 57) 12 13 fp_X11_27 (Or.inl rfl) (Nat.le_of_ble_eq_true rfl) rfl rfl (by rfl) (Or.inr ⟨_, rfl⟩) dX11_init_54 ?_
  show q_W G mi_X11_init _ (d + 4) _ _ _ 6 10008 (true, 58, (q_up (q_oP (q_up (q_oP (q_up (q_oP (q_up (q_oP (q_up (q_oP (q_up (q_oP P 52) 51 8 (some 52)) 53) 51 9 (some 53)) 54) 51 10 (some 54)) 55) 51 11 (some 55)) 56) 51 12 (some 56)) 57) 51 13 (some 57))) 57 [.ref 51] [] ((((((h.clr 52).clr 53).clr 54).clr 55).clr 56).clr 57)
  refine q_aload_n (i := 0) dX11_init_57 rfl rfl ?_
  refine q_sipush (v := 2000) dX11_init_58 (by decide) ?_
  refine q_newa (at_ := .int) (t := 0) (N := 2000) rfl rfl (by decide) (Or.inl ⟨rfl, rfl⟩) ac_int (by decide) (by decide) (by decide) (by decide) (by decide) dX11_init_61 ?_
  show q_W G mi_X11_init _ (d + 4) _ _ _ 7 12008 (true, 59, (q_oP (q_up (q_oP (q_up (q_oP (q_up (q_oP (q_up (q_oP (q_up (q_oP (q_up (q_oP P 52) 51 8 (some 52)) 53) 51 9 (some 53)) 54) 51 10 (some 54)) 55) 51 11 (some 55)) 56) 51 12 (some 56)) 57) 51 13 (some 57)) 58)) 63 [.ref 51] [.ref 58, .ref 51] (((((((h.clr 52).clr 53).clr 54).clr 55).clr 56).clr 57).clr 58)
  refine q_putP (v := 58) 12 14 fp_X11_30 (Or.inl rfl) (Nat.le_of_ble_eq_true rfl) rfl rfl (by rfl) (Or.inr ⟨_, rfl⟩) dX11_init_63 ?_
  show q_W G mi_X11_init _ (d + 4) _ _ _ 7 12008 (true, 59, (q_up (q_oP (q_up (q_oP (q_up (q_oP (q_up (q_oP (q_up (q_oP (q_up (q_oP (q_up (q_oP P 52) 51 8 (some 52)) 53) 51 9 (some 53)) 54) 51 10 (some 54)) 55) 51 11 (some 55)) 56) 51 12 (some 56)) 57) 51 13 (some 57)) 58) 51 14 (some 58))) 66 [.ref 51] [] (((((((h.clr 52).clr 53).clr 54).clr 55).clr 56).clr 57).clr 58)
  refine q_aload_n (i := 0) dX11_init_66 rfl rfl ?_
  refine q_sipush (v := 2000) dX11_init_67 (by decide) ?_
  refine q_newa (at_ := .int) (t := 0) (N := 2000) rfl rfl (by decide) (Or.inl ⟨rfl, rfl⟩) ac_int (by decide) (by decide) (by decide) (by decide) (by decide) dX11_init_70 ?_
  show q_W G mi_X11_init _ (d + 4) _ _ _ 8 14008 (true, 60, (q_oP (q_up (q_oP (q_up (q_oP (q_up (q_oP (q_up (q_oP (q_up (q_oP (q_up (q_oP (q_up (q_oP P 52) 51 8 (some 52)) 53) 51 9 (some 53)) 54) 51 10 (some 54)) 55) 51 11 (some 55)) 56) 51 12 (some 56)) 57) 51 13 (some 57)) 58) 51 14 (some 58)) 59)) 72 [.ref 51] [.ref 59, .ref 51] ((((((((h.clr 52).clr 53).clr 54).clr 55).clr 56).clr 57).clr 58).clr 59)
  refine q_putP (v := 59) 12 15 fp_X11_33 (Or.inl rfl) (Nat.le_of_ble_eq_true rfl) rfl rfl (by rfl) (Or.inr ⟨_, rfl⟩) dX11_init_72 ?_
  show q_W G mi_X11_init _ (d + 4) _ _ _ 8 14008 (true, 60, (q_up (q_oP (q_up (q_oP (q_up (q_oP (q_up (q_oP (q_up (q_oP (q_up (q_oP (q_up (q_oP (q_up (q_oP P 52) 51 8 (some 52)) 53) 51 9 (some 53)) 54) 51 10 (some 54)) 55) 51 11 (some 55)) 56) 51 12 (some 56)) 57) 51 13 (some 57)) 58) 51 14 (some 58)) 59) 51 15 (some 59))) 75 [.ref 51] [] ((((((((h.clr 52).clr 53).clr 54).clr 55).clr 56).clr 57).clr 58).clr 59)
  refine q_aload_n (i := 0) dX11_init_75 rfl rfl ?_
  refine q_sipush (v := 2000) dX11_init_76 (by decide) ?_
  refine q_newa (at_ := .int) (t := 0) (N := 2000) rfl rfl (by decide) (Or.inl ⟨rfl, rfl⟩) ac_int (by decide) (by decide) (by decide) (by decide) (by decide) dX11_init_79 ?_
  show q_W G mi_X11_init _ (d + 4) _ _ _ 9 16008 (true, 61, (q_oP (q_up (q_oP (q_up (q_oP (q_up (q_oP (q_up (q_oP (q_up (q_oP (q_up (q_oP (q_up (q_oP (q_up (q_oP P 52) 51 8 (some 52)) 53) 51 9 (some 53)) 54) 51 10 (some 54)) 55) 51 11 (some 55)) 56) 51 12 (some 56)) 57) 51 13 (some 57)) 58) 51 14 (some 58)) 59) 51 15 (some 59)) 60)) 81 [.ref 51] [.ref 60, .ref 51] (((((((((h.clr 52).clr 53).clr 54).clr 55).clr 56).clr 57).clr 58).clr 59).clr 60)
  refine q_putP (v := 60) 12 16 fp_X11_36 (Or.inl rfl) (Nat.le_of_ble_eq_true rfl) rfl rfl (by rfl) (Or.inr ⟨_, rfl⟩) dX11_init_81 ?_
  show q_W G mi_X11_init _ (d + 4) _ _ _ 9 16008 (true, 61, (q_up (q_oP (q_up (q_oP (q_up (q_oP (q_up (q_oP (q_up (q_oP (q_up (q_oP (q_up (q_oP (q_up (q_oP (q_up (q_oP P 52) 51 8 (some 52)) 53) 51 9 (some 53)) 54) 51 10 (some 54)) 55) 51 11 (some 55)) 56) 51 12 (some 56)) 57) 51 13 (some 57)) 58) 51 14 (some 58)) 59) 51 15 (some 59)) 60) 51 16 (some 60))) 84 [.ref 51] [] (((((((((h.clr 52).clr 53).clr 54).clr 55).clr 56).clr 57).clr 58).clr 59).clr 60)
  refine q_aload_n (i := 0) dX11_init_84 rfl rfl ?_
  refine q_sipush (v := 2000) dX11_init_85 (by decide) ?_
  refine q_newa (at_ := .int) (t := 0) (N := 2000) rfl rfl (by decide) (Or.inl ⟨rfl, rfl⟩) ac_int (by decide) (by decide) (by decide) (by decide) (by decide) dX11_init_88 ?_
  show q_W G mi_X11_init _ (d + 4) _ _ _ 10 18008 (true, 62, (q_oP (q_up (q_oP (q_up (q_oP (q_up (q_oP (q_up (q_oP (q_up (q_oP (q_up (q_oP (q_up (q_oP (q_up (q_oP (q_up (q_oP P 52) 51 8 (some 52)) 53) 51 9 (some 53)) 54) 51 10 (some 54)) 55) 51 11 (some 55)) 56) 51 12 (some 56)) 57) 51 13 (some 57)) 58) 51 14 (some 58)) 59) 51 15 (some 59)) 60) 51 16 (some 60)) 61)) 90 [.ref 51] [.ref 61, .ref 51] ((((((((((h.clr 52).clr 53).clr 54).clr 55).clr 56).clr 57).clr 58).clr 59).clr 60).clr 61)
  refine q_putP (v := 61) 12 17 fp_X11_39 (Or.inl rfl) (Nat.le_of_ble_eq_true rfl) rfl rfl (by rfl) (Or.inr ⟨_, rfl⟩) dX11_init_90 ?_
  show q_W G mi_X11_init _ (d + 4) _ _ _ 10 18008 (true, 62, (q_up (q_oP (q_up (q_oP (q_up (q_oP (q_up (q_oP (q_up (q_oP (q_up (q_oP (q_up (q_oP (q_up (q_oP (q_up (q_oP (q_up (q_oP P 52) 51 8 (some 52)) 53) 51 9 (some 53)) 54) 51 10 (some 54)) 55) 51 11 (some 55)) 56) 51 12 (some 56)) 57) 51 13 (some 57)) 58) 51 14 (some 58)) 59) 51 15 (some 59)) 60) 51 16 (some 60)) 61) 51 17 (some 61))) 93 [.ref 51] [] ((((((((((h.clr 52).clr 53).clr 54).clr 55).clr 56).clr 57).clr 58).clr 59).clr 60).clr 61)
  exact q_vret rfl (by decide) (by decide) dX11_init_93 rfl
set_option maxRecDepth 100000 in
set_option maxHeartbeats 4000000 in
theorem k_14 (G : qG) (d : Nat) (P : Nat → Nat → Option Nat) (h : qh) : q_M G (true, 63, P) (true, 73, (q_up (q_oP (q_up (q_oP (q_up (q_oP (q_up (q_oP (q_up (q_oP (q_up (q_oP (q_up (q_oP (q_up (q_oP (q_up (q_oP (q_up (q_oP P 63) 62 8 (some 63)) 64) 62 9 (some 64)) 65) 62 10 (some 65)) 66) 62 11 (some 66)) 67) 62 12 (some 67)) 68) 62 13 (some 68)) 69) 62 14 (some 69)) 70) 62 15 (some 70)) 71) 62 16 (some 71)) 72) 62 17 (some 72))) (d + 4) 10 18008 yX11_init [.ref 62] h (q_rv (fun h1 => h1 = ((((((((((h.clr 63).clr 64).clr 65).clr 66).clr 67).clr 68).clr 69).clr 70).clr 71).clr 72)) (fun _ _ => False)) := by
  refine q_of (M := mi_X11_init) (by decide +kernel) rfl rfl kd_X11_init (fun _ => rfl) (Nat.le_of_ble_eq_true rfl) ?_
  show q_W G mi_X11_init _ (d + 4) 10 18008 _ 0 0 _ 0 [.ref 62] [] h
  refine q_aload_n (i := 0) dX11_init_0 rfl rfl ?_
  refine q_objInit ol_X11_3 oi_i oi_c (Nat.le_of_ble_eq_true rfl) dX11_init_1 ?_
  refine q_aload_n (i := 0) dX11_init_4 rfl rfl ?_
  refine q_bipush (v := 8) dX11_init_5 (by decide) ?_
  refine q_newa (at_ := .int) (t := 0) (N := 8) rfl rfl (by decide) (Or.inl ⟨rfl, rfl⟩) ac_int (by decide) (by decide) (by decide) (by decide) (by decide) dX11_init_7 ?_
  show q_W G mi_X11_init _ (d + 4) _ _ _ 1 8 (true, 64, (q_oP P 63)) 9 [.ref 62] [.ref 63, .ref 62] (h.clr 63)
  refine q_putP (v := 63) 12 8 fp_X11_9 (Or.inl rfl) (Nat.le_of_ble_eq_true rfl) rfl rfl (by rfl) (Or.inr ⟨_, rfl⟩) dX11_init_9 ?_
  show q_W G mi_X11_init _ (d + 4) _ _ _ 1 8 (true, 64, (q_up (q_oP P 63) 62 8 (some 63))) 12 [.ref 62] [] (h.clr 63)
  refine q_aload_n (i := 0) dX11_init_12 rfl rfl ?_
  refine q_sipush (v := 2000) dX11_init_13 (by decide) ?_
  refine q_newa (at_ := .int) (t := 0) (N := 2000) rfl rfl (by decide) (Or.inl ⟨rfl, rfl⟩) ac_int (by decide) (by decide) (by decide) (by decide) (by decide) dX11_init_16 ?_
  show q_W G mi_X11_init _ (d + 4) _ _ _ 2 2008 (true, 65, (q_oP (q_up (q_oP P 63) 62 8 (some 63)) 64)) 18 [.ref 62] [.ref 64, .ref 62] ((h.clr 63).clr 64)
  refine q_putP (v := 64) 12 9 fp_X11_15 (Or.inl rfl) (Nat.le_of_ble_eq_true rfl) rfl rfl (by rfl) (Or.inr ⟨_, rfl⟩) dX11_init_18 ?_
  show q_W G mi_X11_init _ (d + 4) _ _ _ 2 2008 (true, 65, (q_up (q_oP (q_up (q_oP P 63) 62 8 (some 63)) 64) 62 9 (some 64))) 21 [.ref 62] [] ((h.clr 63).clr 64)
  refine q_aload_n (i := 0) dX11_init_21 rfl rfl ?_
  refine q_sipush (v := 2000) dX11_init_22 (by decide) ?_
  refine q_newa (at_ := .int) (t := 0) (N := 2000) rfl rfl (by decide) (Or.inl ⟨rfl, rfl⟩) ac_int (by decide) (by decide) (by decide) (by decide) (by decide) dX11_init_25 ?_
  show q_W G mi_X11_init _ (d + 4) _ _ _ 3 4008 (true, 66, (q_oP (q_up (q_oP (q_up (q_oP P 63) 62 8 (some 63)) 64) 62 9 (some 64)) 65)) 27 [.ref 62] [.ref 65, .ref 62] (((h.clr 63).clr 64).clr 65)
  refine q_putP (v := 65) 12 10 fp_X11_18 (Or.inl rfl) (Nat.le_of_ble_eq_true rfl) rfl rfl (by rfl) (Or.inr ⟨_, rfl⟩) dX11_init_27 ?_
  show q_W G mi_X11_init _ (d + 4) _ _ _ 3 4008 (true, 66, (q_up (q_oP (q_up (q_oP (q_up (q_oP P 63) 62 8 (some 63)) 64) 62 9 (some 64)) 65) 62 10 (some 65))) 30 [.ref 62] [] (((h.clr 63).clr 64).clr 65)
  refine q_aload_n (i := 0) dX11_init_30 rfl rfl ?_
  refine q_sipush (v := 2000) dX11_init_31 (by decide) ?_
  refine q_newa (at_ := .int) (t := 0) (N := 2000) rfl rfl (by decide) (Or.inl ⟨rfl, rfl⟩) ac_int (by decide) (by decide) (by decide) (by decide) (by decide) dX11_init_34 ?_
  show q_W G mi_X11_init _ (d + 4) _ _ _ 4 6008 (true, 67, (q_oP (q_up (q_oP (q_up (q_oP (q_up (q_oP P 63) 62 8 (some 63)) 64) 62 9 (some 64)) 65) 62 10 (some 65)) 66)) 36 [.ref 62] [.ref 66, .ref 62] ((((h.clr 63).clr 64).clr 65).clr 66)
  refine q_putP (v := 66) 12 11 fp_X11_21 (Or.inl rfl) (Nat.le_of_ble_eq_true rfl) rfl rfl (by rfl) (Or.inr ⟨_, rfl⟩) dX11_init_36 ?_
  show q_W G mi_X11_init _ (d + 4) _ _ _ 4 6008 (true, 67, (q_up (q_oP (q_up (q_oP (q_up (q_oP (q_up (q_oP P 63) 62 8 (some 63)) 64) 62 9 (some 64)) 65) 62 10 (some 65)) 66) 62 11 (some 66))) 39 [.ref 62] [] ((((h.clr 63).clr 64).clr 65).clr 66)
  refine q_aload_n (i := 0) dX11_init_39 rfl rfl ?_
  refine q_sipush (v := 2000) dX11_init_40 (by decide) ?_
  refine q_newa (at_ := .int) (t := 0) (N := 2000) rfl rfl (by decide) (Or.inl ⟨rfl, rfl⟩) ac_int (by decide) (by decide) (by decide) (by decide) (by decide) dX11_init_43 ?_
  show q_W G mi_X11_init _ (d + 4) _ _ _ 5 8008 (true, 68, (q_oP (q_up (q_oP (q_up (q_oP (q_up (q_oP (q_up (q_oP P 63) 62 8 (some 63)) 64) 62 9 (some 64)) 65) 62 10 (some 65)) 66) 62 11 (some 66)) 67)) 45 [.ref 62] [.ref 67, .ref 62] (((((h.clr 63).clr 64).clr 65).clr 66).clr 67)
  refine q_putP (v := 67) 12 12 fp_X11_24 (Or.inl rfl) (Nat.le_of_ble_eq_true rfl) rfl rfl (by rfl) (Or.inr ⟨_, rfl⟩) dX11_init_45 ?_
  show q_W G mi_X11_init _ (d + 4) _ _ _ 5 8008 (true, 68, (q_up (q_oP (q_up (q_oP (q_up (q_oP (q_up (q_oP (q_up (q_oP P 63) 62 8 (some 63)) 64) 62 9 (some 64)) 65) 62 10 (some 65)) 66) 62 11 (some 66)) 67) 62 12 (some 67))) 48 [.ref 62] [] (((((h.clr 63).clr 64).clr 65).clr 66).clr 67)
  refine q_aload_n (i := 0) dX11_init_48 rfl rfl ?_
  refine q_sipush (v := 2000) dX11_init_49 (by decide) ?_
  refine q_newa (at_ := .int) (t := 0) (N := 2000) rfl rfl (by decide) (Or.inl ⟨rfl, rfl⟩) ac_int (by decide) (by decide) (by decide) (by decide) (by decide) dX11_init_52 ?_
  show q_W G mi_X11_init _ (d + 4) _ _ _ 6 10008 (true, 69, (q_oP (q_up (q_oP (q_up (q_oP (q_up (q_oP (q_up (q_oP (q_up (q_oP P 63) 62 8 (some 63)) 64) 62 9 (some 64)) 65) 62 10 (some 65)) 66) 62 11 (some 66)) 67) 62 12 (some 67)) 68)) 54 [.ref 62] [.ref 68, .ref 62] ((((((h.clr 63).clr 64).clr 65).clr 66).clr 67).clr 68)
  refine q_putP (v := 68) 12 13 fp_X11_27 (Or.inl rfl) (Nat.le_of_ble_eq_true rfl) rfl rfl (by rfl) (Or.inr ⟨_, rfl⟩) dX11_init_54 ?_
  show q_W G mi_X11_init _ (d + 4) _ _ _ 6 10008 (true, 69, (q_up (q_oP (q_up (q_oP (q_up (q_oP (q_up (q_oP (q_up (q_oP (q_up (q_oP P 63) 62 8 (some 63)) 64) 62 9 (some 64)) 65) 62 10 (some 65)) 66) 62 11 (some 66)) 67) 62 12 (some 67)) 68) 62 13 (some 68))) 57 [.ref 62] [] ((((((h.clr 63).clr 64).clr 65).clr 66).clr 67).clr 68)
  refine q_aload_n (i := 0) dX11_init_57 rfl rfl ?_
  refine q_sipush (v := 2000) dX11_init_58 (by decide) ?_
  refine q_newa (at_ := .int) (t := 0) (N := 2000) rfl rfl (by decide) (Or.inl ⟨rfl, rfl⟩) ac_int (by decide) (by decide) (by decide) (by decide) (by decide) dX11_init_61 ?_
  show q_W G mi_X11_init _ (d + 4) _ _ _ 7 12008 (true, 70, (q_oP (q_up (q_oP (q_up (q_oP (q_up (q_oP (q_up (q_oP (q_up (q_oP (q_up (q_oP P 63) 62 8 (some 63)) 64) 62 9 (some 64)) 65) 62 10 (some 65)) 66) 62 11 (some 66)) 67) 62 12 (some 67)) 68) 62 13 (some 68)) 69)) 63 [.ref 62] [.ref 69, .ref 62] (((((((h.clr 63).clr 64).clr 65).clr 66).clr 67).clr 68).clr 69)
  refine q_putP (v := 69) 12 14 fp_X11_30 (Or.inl rfl) (Nat.le_of_ble_eq_true rfl) rfl rfl (by rfl) (Or.inr ⟨_, rfl⟩) dX11_init_63 ?_
  show q_W G mi_X11_init _ (d + 4) _ _ _ 7 12008 (true, 70, (q_up (q_oP (q_up (q_oP (q_up (q_oP (q_up (q_oP (q_up (q_oP (q_up (q_oP (q_up (q_oP P 63) 62 8 (some 63)) 64) 62 9 (some 64)) 65) 62 10 (some 65)) 66) 62 11 (some 66)) 67) 62 12 (some 67)) 68) 62 13 (some 68)) 69) 62 14 (some 69))) 66 [.ref 62] [] (((((((h.clr 63).clr 64).clr 65).clr 66).clr 67).clr 68).clr 69)
  refine q_aload_n (i := 0) dX11_init_66 rfl rfl ?_
  refine q_sipush (v := 2000) dX11_init_67 (by decide) ?_
  refine q_newa (at_ := .int) (t := 0) (N := 2000) rfl rfl (by decide) (Or.inl ⟨rfl, rfl⟩) ac_int (by decide) (by decide) (by decide) (by decide) (by decide) dX11_init_70 ?_
  show q_W G mi_X11_init _ (d + 4) _ _ _ 8 14008 (true, 71, (q_oP (q_up (q_oP (q_up (q_oP (q_up (q_oP (q_up (q_oP (q_up (q_oP (q_up (q_oP (q_up (q_oP P 63) 62 8 (some 63)) 64) 62 9 (some 64)) 65) 62 10 (some 65)) 66) 62 11 (some 66)) 67) 62 12 (some 67)) 68) 62 13 (some 68)) 69) 62 14 (some 69)) 70)) 72 [.ref 62] [.ref 70, .ref 62] ((((((((h.clr 63).clr 64).clr 65).clr 66).clr 67).clr 68).clr 69).clr 70)
  refine q_putP (v := 70) 12 15 fp_X11_33 (Or.inl rfl) (Nat.le_of_ble_eq_true rfl) rfl rfl (by rfl) (Or.inr ⟨_, rfl⟩) dX11_init_72 ?_
  show q_W G mi_X11_init _ (d + 4) _ _ _ 8 14008 (true, 71, (q_up (q_oP (q_up (q_oP (q_up (q_oP (q_up (q_oP (q_up (q_oP (q_up (q_oP (q_up (q_oP (q_up (q_oP P 63) 62 8 (some 63)) 64) 62 9 (some 64)) 65) 62 10 (some 65)) 66) 62 11 (some 66)) 67) 62 12 (some 67)) 68) 62 13 (some 68)) 69) 62 14 (some 69)) 70) 62 15 (some 70))) 75 [.ref 62] [] ((((((((h.clr 63).clr 64).clr 65).clr 66).clr 67).clr 68).clr 69).clr 70)
  refine q_aload_n (i := 0) dX11_init_75 rfl rfl ?_
  refine q_sipush (v := 2000) dX11_init_76 (by decide) ?_
  refine q_newa (at_ := .int) (t := 0) (N := 2000) rfl rfl (by decide) (Or.inl ⟨rfl, rfl⟩) ac_int (by decide) (by decide) (by decide) (by decide) (by decide) dX11_init_79 ?_
  show q_W G mi_X11_init _ (d + 4) _ _ _ 9 16008 (true, 72, (q_oP (q_up (q_oP (q_up (q_oP (q_up (q_oP (q_up (q_oP (q_up (q_oP (q_up (q_oP (q_up (q_oP (q_up (q_oP P 63) 62 8 (some 63)) 64) 62 9 (some 64)) 65) 62 10 (some 65)) 66) 62 11 (some 66)) 67) 62 12 (some 67)) 68) 62 13 (some 68)) 69) 62 14 (some 69)) 70) 62 15 (some 70)) 71)) 81 [.ref 62] [.ref 71, .ref 62] (((((((((h.clr 63).clr 64).clr 65).clr 66).clr 67).clr 68).clr 69).clr 70).clr 71)
  refine q_putP (v := 71) 12 16 fp_X11_36 (Or.inl rfl) (Nat.le_of_ble_eq_true rfl) rfl rfl (by rfl) (Or.inr ⟨_, rfl⟩) dX11_init_81 ?_
  show q_W G mi_X11_init _ (d + 4) _ _ _ 9 16008 (true, 72, (q_up (q_oP (q_up (q_oP (q_up (q_oP (q_up (q_oP (q_up (q_oP (q_up (q_oP (q_up (q_oP (q_up (q_oP (q_up (q_oP P 63) 62 8 (some 63)) 64) 62 9 (some 64)) 65) 62 10 (some 65)) 66) 62 11 (some 66)) 67) 62 12 (some 67)) 68) 62 13 (some 68)) 69) 62 14 (some 69)) 70) 62 15 (some 70)) 71) 62 16 (some 71))) 84 [.ref 62] [] (((((((((h.clr 63).clr 64).clr 65).clr 66).clr 67).clr 68).clr 69).clr 70).clr 71)
  refine q_aload_n (i := 0) dX11_init_84 rfl rfl ?_
  refine q_sipush (v := 2000) dX11_init_85 (by decide) ?_
  refine q_newa (at_ := .int) (t := 0) (N := 2000) rfl rfl (by decide) (Or.inl ⟨rfl, rfl⟩) ac_int (by decide) (by decide) (by decide) (by decide) (by decide) dX11_init_88 ?_
  show q_W G mi_X11_init _ (d + 4) _ _ _ 10 18008 (true, 73, (q_oP (q_up (q_oP (q_up (q_oP (q_up (q_oP (q_up (q_oP (q_up (q_oP (q_up (q_oP (q_up (q_oP (q_up (q_oP (q_up (q_oP P 63) 62 8 (some 63)) 64) 62 9 (some 64)) 65) 62 10 (some 65)) 66) 62 11 (some 66)) 67) 62 12 (some 67)) 68) 62 13 (some 68)) 69) 62 14 (some 69)) 70) 62 15 (some 70)) 71) 62 16 (some 71)) 72)) 90 [.ref 62] [.ref 72, .ref 62] ((((((((((h.clr 63).clr 64).clr 65).clr 66).clr 67).clr 68).clr 69).clr 70).clr 71).clr 72)
  refine q_putP (v := 72) 12 17 fp_X11_39 (Or.inl rfl) (Nat.le_of_ble_eq_true rfl) rfl rfl (by rfl) (Or.inr ⟨_, rfl⟩) dX11_init_90 ?_
  show q_W G mi_X11_init _ (d + 4) _ _ _ 10 18008 (true, 73, (q_up (q_oP (q_up (q_oP (q_up (q_oP (q_up (q_oP (q_up (q_oP (q_up (q_oP (q_up (q_oP (q_up (q_oP (q_up (q_oP (q_up (q_oP P 63) 62 8 (some 63)) 64) 62 9 (some 64)) 65) 62 10 (some 65)) 66) 62 11 (some 66)) 67) 62 12 (some 67)) 68) 62 13 (some 68)) 69) 62 14 (some 69)) 70) 62 15 (some 70)) 71) 62 16 (some 71)) 72) 62 17 (some 72))) 93 [.ref 62] [] ((((((((((h.clr 63).clr 64).clr 65).clr 66).clr 67).clr 68).clr 69).clr 70).clr 71).clr 72)
  exact q_vret rfl (by decide) (by decide) dX11_init_93 rfl
set_option maxRecDepth 100000 in
set_option maxHeartbeats 4000000 in
theorem k_15 (G : qG) (d : Nat) (P : Nat → Nat → Option Nat) (h : qh) (hd5 : 5 ≤ d + 4) : q_M G (true, 44, P) (true, 83, (q_oP (q_oP (q_up (q_oP (q_up (q_oP (q_up (q_oP (q_up (q_oP (q_up (q_oP (q_up (q_oP (q_up (q_oP (q_up (q_oP (q_up (q_oP (q_up (q_oP (q_up (q_oP (q_up (q_oP (q_up (q_oP (q_up (q_oP (q_up (q_oP (q_up (q_oP (q_up (q_oP (q_up (q_oP (q_oP (q_up (q_oP (q_up (q_oP (q_up (q_oP (q_up (q_oP (q_up (q_oP (q_up (q_oP (q_up (q_oP (q_up (q_oP (q_up (q_oP (q_up (q_oP (q_oP (q_up (q_oP (q_up (q_oP (q_up (q_oP (q_up (q_oP (q_up (q_oP (q_up (q_oP (q_up (q_oP P 44) 43 1 (some 44)) 45) 43 5 (some 45)) 46) 43 8 (some 46)) 47) 43 10 (some 47)) 48) 43 11 (some 48)) 49) 43 12 (some 49)) 50) 43 16 (some 50)) 51) 52) 51 8 (some 52)) 53) 51 9 (some 53)) 54) 51 10 (some 54)) 55) 51 11 (some 55)) 56) 51 12 (some 56)) 57) 51 13 (some 57)) 58) 51 14 (some 58)) 59) 51 15 (some 59)) 60) 51 16 (some 60)) 61) 51 17 (some 61)) 62) 63) 62 8 (some 63)) 64) 62 9 (some 64)) 65) 62 10 (some 65)) 66) 62 11 (some 66)) 67) 62 12 (some 67)) 68) 62 13 (some 68)) 69) 62 14 (some 69)) 70) 62 15 (some 70)) 71) 62 16 (some 71)) 72) 62 17 (some 72)) 73) 43 24 (some 73)) 74) 43 25 (some 74)) 75) 43 26 (some 75)) 76) 43 28 (some 76)) 77) 43 29 (some 77)) 78) 43 30 (some 78)) 79) 43 38 (some 79)) 80) 43 39 (some 80)) 81) 82)) (d + 4) 39 62761 yX12_init [.ref 43] h (q_rv (fun h1 => h1 = ((((((((((((((((((((((((((((((((((((((((((((h.clr 44).sI 43 4 (-1)).clr 45).clr 46).clr 47).clr 48).clr 49).clr 50).clr 51).clr 52).clr 53).clr 54).clr 55).clr 56).clr 57).clr 58).clr 59).clr 60).clr 61).sR 43 21 (some 51)).clr 62).clr 63).clr 64).clr 65).clr 66).clr 67).clr 68).clr 69).clr 70).clr 71).clr 72).sR 43 22 (some 62)).clr 73).clr 74).clr 75).clr 76).clr 77).clr 78).clr 79).clr 80).clr 81).sR 43 41 (some 81)).clr 82).sR 43 42 (some 82))) (fun _ _ => False)) := by
  refine q_of (M := mi_X12_init) (by decide +kernel) rfl rfl kd_X12_init (fun _ => rfl) (Nat.le_of_ble_eq_true rfl) ?_
  show q_W G mi_X12_init _ (d + 4) 39 62761 _ 0 0 _ 0 [.ref 43] [] h
  refine q_aload_n (i := 0) dX12_init_0 rfl rfl ?_
  refine q_objInit ol_X12_3 oi_i oi_c (Nat.le_of_ble_eq_true rfl) dX12_init_1 ?_
  refine q_aload_n (i := 0) dX12_init_4 rfl rfl ?_
  refine q_sipush (v := 2000) dX12_init_5 (by decide) ?_
  refine q_newa (at_ := .byte) (t := 1) (N := 2000) rfl rfl (by decide) (Or.inr (Or.inl ⟨rfl, rfl⟩)) ac_byte (by decide) (by decide) (by decide) (by decide) (by decide) dX12_init_8 ?_
  show q_W G mi_X12_init _ (d + 4) _ _ _ 1 2000 (true, 45, (q_oP P 44)) 10 [.ref 43] [.ref 44, .ref 43] (h.clr 44)
  refine q_putP (v := 44) 13 1 fp_X12_9 (Or.inl rfl) (Nat.le_of_ble_eq_true rfl) rfl rfl (by rfl) (Or.inr ⟨_, rfl⟩) dX12_init_10 ?_
  show q_W G mi_X12_init _ (d + 4) _ _ _ 1 2000 (true, 45, (q_up (q_oP P 44) 43 1 (some 44))) 13 [.ref 43] [] (h.clr 44)
  refine q_aload_n (i := 0) dX12_init_13 rfl rfl ?_
  refine q_iconst (v := (-1)) dX12_init_14 (by decide) ?_
  refine q_putI 13 4 fp_X12_13 (Or.inl rfl) (Nat.le_of_ble_eq_true rfl) rfl rfl dX12_init_15 ?_
  refine q_aload_n (i := 0) dX12_init_18 rfl rfl ?_
  refine q_bipush (v := 32) dX12_init_19 (by decide) ?_
  refine q_newa (at_ := .int) (t := 0) (N := 32) rfl rfl (by decide) (Or.inl ⟨rfl, rfl⟩) ac_int (by decide) (by decide) (by decide) (by decide) (by decide) dX12_init_21 ?_
  show q_W G mi_X12_init _ (d + 4) _ _ _ 2 2032 (true, 46, (q_oP (q_up (q_oP P 44) 43 1 (some 44)) 45)) 23 [.ref 43] [.ref 45, .ref 43] (((h.clr 44).sI 43 4 (-1)).clr 45)
  refine q_putP (v := 45) 13 5 fp_X12_17 (Or.inl rfl) (Nat.le_of_ble_eq_true rfl) rfl rfl (by rfl) (Or.inr ⟨_, rfl⟩) dX12_init_23 ?_
  show q_W G mi_X12_init _ (d + 4) _ _ _ 2 2032 (true, 46, (q_up (q_oP (q_up (q_oP P 44) 43 1 (some 44)) 45) 43 5 (some 45))) 26 [.ref 43] [] (((h.clr 44).sI 43 4 (-1)).clr 45)
  refine q_aload_n (i := 0) dX12_init_26 rfl rfl ?_
  refine q_sipush (v := 2000) dX12_init_27 (by decide) ?_
  refine q_newa (at_ := .byte) (t := 1) (N := 2000) rfl rfl (by decide) (Or.inr (Or.inl ⟨rfl, rfl⟩)) ac_byte (by decide) (by decide) (by decide) (by decide) (by decide) dX12_init_30 ?_
  show q_W G mi_X12_init _ (d + 4) _ _ _ 3 4032 (true, 47, (q_oP (q_up (q_oP (q_up (q_oP P 44) 43 1 (some 44)) 45) 43 5 (some 45)) 46)) 32 [.ref 43] [.ref 46, .ref 43] ((((h.clr 44).sI 43 4 (-1)).clr 45).clr 46)
  refine q_putP (v := 46) 13 8 fp_X12_21 (Or.inl rfl) (Nat.le_of_ble_eq_true rfl) rfl rfl (by rfl) (Or.inr ⟨_, rfl⟩) dX12_init_32 ?_
  show q_W G mi_X12_init _ (d + 4) _ _ _ 3 4032 (true, 47, (q_up (q_oP (q_up (q_oP (q_up (q_oP P 44) 43 1 (some 44)) 45) 43 5 (some 45)) 46) 43 8 (some 46))) 35 [.ref 43] [] ((((h.clr 44).sI 43 4 (-1)).clr 45).clr 46)
  refine q_aload_n (i := 0) dX12_init_35 rfl rfl ?_
  refine q_sipush (v := 2001) dX12_init_36 (by decide) ?_
  refine q_newa (at_ := .int) (t := 0) (N := 2001) rfl rfl (by decide) (Or.inl ⟨rfl, rfl⟩) ac_int (by decide) (by decide) (by decide) (by decide) (by decide) dX12_init_39 ?_
  show q_W G mi_X12_init _ (d + 4) _ _ _ 4 6033 (true, 48, (q_oP (q_up (q_oP (q_up (q_oP (q_up (q_oP P 44) 43 1 (some 44)) 45) 43 5 (some 45)) 46) 43 8 (some 46)) 47)) 41 [.ref 43] [.ref 47, .ref 43] (((((h.clr 44).sI 43 4 (-1)).clr 45).clr 46).clr 47)
  refine q_putP (v := 47) 13 10 fp_X12_24 (Or.inl rfl) (Nat.le_of_ble_eq_true rfl) rfl rfl (by rfl) (Or.inr ⟨_, rfl⟩) dX12_init_41 ?_
  show q_W G mi_X12_init _ (d + 4) _ _ _ 4 6033 (true, 48, (q_up (q_oP (q_up (q_oP (q_up (q_oP (q_up (q_oP P 44) 43 1 (some 44)) 45) 43 5 (some 45)) 46) 43 8 (some 46)) 47) 43 10 (some 47))) 44 [.ref 43] [] (((((h.clr 44).sI 43 4 (-1)).clr 45).clr 46).clr 47)
  refine q_aload_n (i := 0) dX12_init_44 rfl rfl ?_
  refine q_sipush (v := 2001) dX12_init_45 (by decide) ?_
  refine q_newa (at_ := .int) (t := 0) (N := 2001) rfl rfl (by decide) (Or.inl ⟨rfl, rfl⟩) ac_int (by decide) (by decide) (by decide) (by decide) (by decide) dX12_init_48 ?_
  show q_W G mi_X12_init _ (d + 4) _ _ _ 5 8034 (true, 49, (q_oP (q_up (q_oP (q_up (q_oP (q_up (q_oP (q_up (q_oP P 44) 43 1 (some 44)) 45) 43 5 (some 45)) 46) 43 8 (some 46)) 47) 43 10 (some 47)) 48)) 50 [.ref 43] [.ref 48, .ref 43] ((((((h.clr 44).sI 43 4 (-1)).clr 45).clr 46).clr 47).clr 48)
  refine q_putP (v := 48) 13 11 fp_X12_27 (Or.inl rfl) (Nat.le_of_ble_eq_true rfl) rfl rfl (by rfl) (Or.inr ⟨_, rfl⟩) dX12_init_50 ?_
  show q_W G mi_X12_init _ (d + 4) _ _ _ 5 8034 (true, 49, (q_up (q_oP (q_up (q_oP (q_up (q_oP (q_up (q_oP (q_up (q_oP P 44) 43 1 (some 44)) 45) 43 5 (some 45)) 46) 43 8 (some 46)) 47) 43 10 (some 47)) 48) 43 11 (some 48))) 53 [.ref 43] [] ((((((h.clr 44).sI 43 4 (-1)).clr 45).clr 46).clr 47).clr 48)
  refine q_aload_n (i := 0) dX12_init_53 rfl rfl ?_
  refine q_sipush (v := 2001) dX12_init_54 (by decide) ?_
  refine q_newa (at_ := .int) (t := 0) (N := 2001) rfl rfl (by decide) (Or.inl ⟨rfl, rfl⟩) ac_int (by decide) (by decide) (by decide) (by decide) (by decide) dX12_init_57 ?_
  show q_W G mi_X12_init _ (d + 4) _ _ _ 6 10035 (true, 50, (q_oP (q_up (q_oP (q_up (q_oP (q_up (q_oP (q_up (q_oP (q_up (q_oP P 44) 43 1 (some 44)) 45) 43 5 (some 45)) 46) 43 8 (some 46)) 47) 43 10 (some 47)) 48) 43 11 (some 48)) 49)) 59 [.ref 43] [.ref 49, .ref 43] (((((((h.clr 44).sI 43 4 (-1)).clr 45).clr 46).clr 47).clr 48).clr 49)
  refine q_putP (v := 49) 13 12 fp_X12_30 (Or.inl rfl) (Nat.le_of_ble_eq_true rfl) rfl rfl (by rfl) (Or.inr ⟨_, rfl⟩) dX12_init_59 ?_
  show q_W G mi_X12_init _ (d + 4) _ _ _ 6 10035 (true, 50, (q_up (q_oP (q_up (q_oP (q_up (q_oP (q_up (q_oP (q_up (q_oP (q_up (q_oP P 44) 43 1 (some 44)) 45) 43 5 (some 45)) 46) 43 8 (some 46)) 47) 43 10 (some 47)) 48) 43 11 (some 48)) 49) 43 12 (some 49))) 62 [.ref 43] [] (((((((h.clr 44).sI 43 4 (-1)).clr 45).clr 46).clr 47).clr 48).clr 49)
  refine q_aload_n (i := 0) dX12_init_62 rfl rfl ?_
  refine q_ise rfl rfl rfl dX12_init_63 dX12_init_66 dX12_init_67 dX12_init_69 hd5 (by decide) (by decide) (Nat.le_of_ble_eq_true rfl) ?_
  show q_W G mi_X12_init _ (d + 4) _ _ _ 7 10041 (true, 51, (q_oP (q_up (q_oP (q_up (q_oP (q_up (q_oP (q_up (q_oP (q_up (q_oP (q_up (q_oP P 44) 43 1 (some 44)) 45) 43 5 (some 45)) 46) 43 8 (some 46)) 47) 43 10 (some 47)) 48) 43 11 (some 48)) 49) 43 12 (some 49)) 50)) 72 [.ref 43] [.ref 50, .ref 43] ((((((((h.clr 44).sI 43 4 (-1)).clr 45).clr 46).clr 47).clr 48).clr 49).clr 50)
  refine q_putP (v := 50) 13 16 fp_X12_40 (Or.inl rfl) (Nat.le_of_ble_eq_true rfl) rfl rfl (by rfl) (Or.inl ⟨_, rfl⟩) dX12_init_72 ?_
  show q_W G mi_X12_init _ (d + 4) _ _ _ 7 10041 (true, 51, (q_up (q_oP (q_up (q_oP (q_up (q_oP (q_up (q_oP (q_up (q_oP (q_up (q_oP (q_up (q_oP P 44) 43 1 (some 44)) 45) 43 5 (some 45)) 46) 43 8 (some 46)) 47) 43 10 (some 47)) 48) 43 11 (some 48)) 49) 43 12 (some 49)) 50) 43 16 (some 50))) 75 [.ref 43] [] ((((((((h.clr 44).sI 43 4 (-1)).clr 45).clr 46).clr 47).clr 48).clr 49).clr 50)
  refine q_aload_n (i := 0) dX12_init_75 rfl rfl ?_
  refine q_new (ci := 12) rfl rfl rfl nl_X12_43 ni_X11 nn_X11 (by decide) (by decide) dX12_init_76 ?_
  show q_W G mi_X12_init _ (d + 4) _ _ _ 8 10059 (true, 52, (q_oP (q_up (q_oP (q_up (q_oP (q_up (q_oP (q_up (q_oP (q_up (q_oP (q_up (q_oP (q_up (q_oP P 44) 43 1 (some 44)) 45) 43 5 (some 45)) 46) 43 8 (some 46)) 47) 43 10 (some 47)) 48) 43 11 (some 48)) 49) 43 12 (some 49)) 50) 43 16 (some 50)) 51)) 79 [.ref 43] [.ref 51, .ref 43] (((((((((h.clr 44).sI 43 4 (-1)).clr 45).clr 46).clr 47).clr 48).clr 49).clr 50).clr 51)
  refine q_dup dX12_init_79 rfl ?_
  refine q_callI (As := []) (st := [.ref 51, .ref 43]) ki_X12_45 rfl (Nat.le_refl _) (by decide) (by decide) (Nat.le_of_ble_eq_true rfl) dX12_init_80 rfl (k_13 G _ _ _) (fun h1 hh => ?_)
  subst hh
  show q_W G mi_X12_init _ (d + 4) _ _ _ 18 28067 (true, 62, (q_up (q_oP (q_up (q_oP (q_up (q_oP (q_up (q_oP (q_up (q_oP (q_up (q_oP (q_up (q_oP (q_up (q_oP (q_up (q_oP (q_up (q_oP (q_oP (q_up (q_oP (q_up (q_oP (q_up (q_oP (q_up (q_oP (q_up (q_oP (q_up (q_oP (q_up (q_oP P 44) 43 1 (some 44)) 45) 43 5 (some 45)) 46) 43 8 (some 46)) 47) 43 10 (some 47)) 48) 43 11 (some 48)) 49) 43 12 (some 49)) 50) 43 16 (some 50)) 51) 52) 51 8 (some 52)) 53) 51 9 (some 53)) 54) 51 10 (some 54)) 55) 51 11 (some 55)) 56) 51 12 (some 56)) 57) 51 13 (some 57)) 58) 51 14 (some 58)) 59) 51 15 (some 59)) 60) 51 16 (some 60)) 61) 51 17 (some 61))) 83 [.ref 43] [.ref 51, .ref 43] (((((((((((((((((((h.clr 44).sI 43 4 (-1)).clr 45).clr 46).clr 47).clr 48).clr 49).clr 50).clr 51).clr 52).clr 53).clr 54).clr 55).clr 56).clr 57).clr 58).clr 59).clr 60).clr 61)
  refine q_putR (v := 51) 13 21 fp_X12_46 (Or.inl rfl) (Nat.le_of_ble_eq_true rfl) rfl rfl (by rfl) (Or.inl ⟨_, rfl⟩) dX12_init_83 ?_
  refine q_aload_n (i := 0) dX12_init_86 rfl rfl ?_
  refine q_new (ci := 12) rfl rfl rfl nl_X12_43 ni_X11 nn_X11 (by decide) (by decide) dX12_init_87 ?_
  show q_W G mi_X12_init _ (d + 4) _ _ _ 19 28085 (true, 63, (q_oP (q_up (q_oP (q_up (q_oP (q_up (q_oP (q_up (q_oP (q_up (q_oP (q_up (q_oP (q_up (q_oP (q_up (q_oP (q_up (q_oP (q_up (q_oP (q_oP (q_up (q_oP (q_up (q_oP (q_up (q_oP (q_up (q_oP (q_up (q_oP (q_up (q_oP (q_up (q_oP P 44) 43 1 (some 44)) 45) 43 5 (some 45)) 46) 43 8 (some 46)) 47) 43 10 (some 47)) 48) 43 11 (some 48)) 49) 43 12 (some 49)) 50) 43 16 (some 50)) 51) 52) 51 8 (some 52)) 53) 51 9 (some 53)) 54) 51 10 (some 54)) 55) 51 11 (some 55)) 56) 51 12 (some 56)) 57) 51 13 (some 57)) 58) 51 14 (some 58)) 59) 51 15 (some 59)) 60) 51 16 (some 60)) 61) 51 17 (some 61)) 62)) 90 [.ref 43] [.ref 62, .ref 43] (((((((((((((((((((((h.clr 44).sI 43 4 (-1)).clr 45).clr 46).clr 47).clr 48).clr 49).clr 50).clr 51).clr 52).clr 53).clr 54).clr 55).clr 56).clr 57).clr 58).clr 59).clr 60).clr 61).sR 43 21 (some 51)).clr 62)
  refine q_dup dX12_init_90 rfl ?_
  refine q_callI (As := []) (st := [.ref 62, .ref 43]) ki_X12_45 rfl (Nat.le_refl _) (by decide) (by decide) (Nat.le_of_ble_eq_true rfl) dX12_init_91 rfl (k_14 G _ _ _) (fun h1 hh => ?_)
  subst hh
  show q_W G mi_X12_init _ (d + 4) _ _ _ 29 46093 (true, 73, (q_up (q_oP (q_up (q_oP (q_up (q_oP (q_up (q_oP (q_up (q_oP (q_up (q_oP (q_up (q_oP (q_up (q_oP (q_up (q_oP (q_up (q_oP (q_oP (q_up (q_oP (q_up (q_oP (q_up (q_oP (q_up (q_oP (q_up (q_oP (q_up (q_oP (q_up (q_oP (q_up (q_oP (q_up (q_oP (q_up (q_oP (q_oP (q_up (q_oP (q_up (q_oP (q_up (q_oP (q_up (q_oP (q_up (q_oP (q_up (q_oP (q_up (q_oP P 44) 43 1 (some 44)) 45) 43 5 (some 45)) 46) 43 8 (some 46)) 47) 43 10 (some 47)) 48) 43 11 (some 48)) 49) 43 12 (some 49)) 50) 43 16 (some 50)) 51) 52) 51 8 (some 52)) 53) 51 9 (some 53)) 54) 51 10 (some 54)) 55) 51 11 (some 55)) 56) 51 12 (some 56)) 57) 51 13 (some 57)) 58) 51 14 (some 58)) 59) 51 15 (some 59)) 60) 51 16 (some 60)) 61) 51 17 (some 61)) 62) 63) 62 8 (some 63)) 64) 62 9 (some 64)) 65) 62 10 (some 65)) 66) 62 11 (some 66)) 67) 62 12 (some 67)) 68) 62 13 (some 68)) 69) 62 14 (some 69)) 70) 62 15 (some 70)) 71) 62 16 (some 71)) 72) 62 17 (some 72))) 94 [.ref 43] [.ref 62, .ref 43] (((((((((((((((((((((((((((((((h.clr 44).sI 43 4 (-1)).clr 45).clr 46).clr 47).clr 48).clr 49).clr 50).clr 51).clr 52).clr 53).clr 54).clr 55).clr 56).clr 57).clr 58).clr 59).clr 60).clr 61).sR 43 21 (some 51)).clr 62).clr 63).clr 64).clr 65).clr 66).clr 67).clr 68).clr 69).clr 70).clr 71).clr 72)
  refine q_putR (v := 62) 13 22 fp_X12_50 (Or.inl rfl) (Nat.le_of_ble_eq_true rfl) rfl rfl (by rfl) (Or.inl ⟨_, rfl⟩) dX12_init_94 ?_
  refine q_aload_n (i := 0) dX12_init_97 rfl rfl ?_
  refine q_sipush (v := 2000) dX12_init_98 (by decide) ?_
  refine q_newa (at_ := .int) (t := 0) (N := 2000) rfl rfl (by decide) (Or.inl ⟨rfl, rfl⟩) ac_int (by decide) (by decide) (by decide) (by decide) (by decide) dX12_init_101 ?_
  show q_W G mi_X12_init _ (d + 4) _ _ _ 30 48093 (true, 74, (q_oP (q_up (q_oP (q_up (q_oP (q_up (q_oP (q_up (q_oP (q_up (q_oP (q_up (q_oP (q_up (q_oP (q_up (q_oP (q_up (q_oP (q_up (q_oP (q_oP (q_up (q_oP (q_up (q_oP (q_up (q_oP (q_up (q_oP (q_up (q_oP (q_up (q_oP (q_up (q_oP (q_up (q_oP (q_up (q_oP (q_up (q_oP (q_oP (q_up (q_oP (q_up (q_oP (q_up (q_oP (q_up (q_oP (q_up (q_oP (q_up (q_oP (q_up (q_oP P 44) 43 1 (some 44)) 45) 43 5 (some 45)) 46) 43 8 (some 46)) 47) 43 10 (some 47)) 48) 43 11 (some 48)) 49) 43 12 (some 49)) 50) 43 16 (some 50)) 51) 52) 51 8 (some 52)) 53) 51 9 (some 53)) 54) 51 10 (some 54)) 55) 51 11 (some 55)) 56) 51 12 (some 56)) 57) 51 13 (some 57)) 58) 51 14 (some 58)) 59) 51 15 (some 59)) 60) 51 16 (some 60)) 61) 51 17 (some 61)) 62) 63) 62 8 (some 63)) 64) 62 9 (some 64)) 65) 62 10 (some 65)) 66) 62 11 (some 66)) 67) 62 12 (some 67)) 68) 62 13 (some 68)) 69) 62 14 (some 69)) 70) 62 15 (some 70)) 71) 62 16 (some 71)) 72) 62 17 (some 72)) 73)) 103 [.ref 43] [.ref 73, .ref 43] (((((((((((((((((((((((((((((((((h.clr 44).sI 43 4 (-1)).clr 45).clr 46).clr 47).clr 48).clr 49).clr 50).clr 51).clr 52).clr 53).clr 54).clr 55).clr 56).clr 57).clr 58).clr 59).clr 60).clr 61).sR 43 21 (some 51)).clr 62).clr 63).clr 64).clr 65).clr 66).clr 67).clr 68).clr 69).clr 70).clr 71).clr 72).sR 43 22 (some 62)).clr 73)
  refine q_putP (v := 73) 13 24 fp_X12_53 (Or.inl rfl) (Nat.le_of_ble_eq_true rfl) rfl rfl (by rfl) (Or.inr ⟨_, rfl⟩) dX12_init_103 ?_
  show q_W G mi_X12_init _ (d + 4) _ _ _ 30 48093 (true, 74, (q_up (q_oP (q_up (q_oP (q_up (q_oP (q_up (q_oP (q_up (q_oP (q_up (q_oP (q_up (q_oP (q_up (q_oP (q_up (q_oP (q_up (q_oP (q_up (q_oP (q_oP (q_up (q_oP (q_up (q_oP (q_up (q_oP (q_up (q_oP (q_up (q_oP (q_up (q_oP (q_up (q_oP (q_up (q_oP (q_up (q_oP (q_up (q_oP (q_oP (q_up (q_oP (q_up (q_oP (q_up (q_oP (q_up (q_oP (q_up (q_oP (q_up (q_oP (q_up (q_oP P 44) 43 1 (some 44)) 45) 43 5 (some 45)) 46) 43 8 (some 46)) 47) 43 10 (some 47)) 48) 43 11 (some 48)) 49) 43 12 (some 49)) 50) 43 16 (some 50)) 51) 52) 51 8 (some 52)) 53) 51 9 (some 53)) 54) 51 10 (some 54)) 55) 51 11 (some 55)) 56) 51 12 (some 56)) 57) 51 13 (some 57)) 58) 51 14 (some 58)) 59) 51 15 (some 59)) 60) 51 16 (some 60)) 61) 51 17 (some 61)) 62) 63) 62 8 (some 63)) 64) 62 9 (some 64)) 65) 62 10 (some 65)) 66) 62 11 (some 66)) 67) 62 12 (some 67)) 68) 62 13 (some 68)) 69) 62 14 (some 69)) 70) 62 15 (some 70)) 71) 62 16 (some 71)) 72) 62 17 (some 72)) 73) 43 24 (some 73))) 106 [.ref 43] [] (((((((((((((((((((((((((((((((((h.clr 44).sI 43 4 (-1)).clr 45).clr 46).clr 47).clr 48).clr 49).clr 50).clr 51).clr 52).clr 53).clr 54).clr 55).clr 56).clr 57).clr 58).clr 59).clr 60).clr 61).sR 43 21 (some 51)).clr 62).clr 63).clr 64).clr 65).clr 66).clr 67).clr 68).clr 69).clr 70).clr 71).clr 72).sR 43 22 (some 62)).clr 73)
  refine q_aload_n (i := 0) dX12_init_106 rfl rfl ?_
  refine q_sipush (v := 2000) dX12_init_107 (by decide) ?_
  refine q_newa (at_ := .int) (t := 0) (N := 2000) rfl rfl (by decide) (Or.inl ⟨rfl, rfl⟩) ac_int (by decide) (by decide) (by decide) (by decide) (by decide) dX12_init_110 ?_
  show q_W G mi_X12_init _ (d + 4) _ _ _ 31 50093 (true, 75, (q_oP (q_up (q_oP (q_up (q_oP (q_up (q_oP (q_up (q_oP (q_up (q_oP (q_up (q_oP (q_up (q_oP (q_up (q_oP (q_up (q_oP (q_up (q_oP (q_up (q_oP (q_oP (q_up (q_oP (q_up (q_oP (q_up (q_oP (q_up (q_oP (q_up (q_oP (q_up (q_oP (q_up (q_oP (q_up (q_oP (q_up (q_oP (q_up (q_oP (q_oP (q_up (q_oP (q_up (q_oP (q_up (q_oP (q_up (q_oP (q_up (q_oP (q_up (q_oP (q_up (q_oP P 44) 43 1 (some 44)) 45) 43 5 (some 45)) 46) 43 8 (some 46)) 47) 43 10 (some 47)) 48) 43 11 (some 48)) 49) 43 12 (some 49)) 50) 43 16 (some 50)) 51) 52) 51 8 (some 52)) 53) 51 9 (some 53)) 54) 51 10 (some 54)) 55) 51 11 (some 55)) 56) 51 12 (some 56)) 57) 51 13 (some 57)) 58) 51 14 (some 58)) 59) 51 15 (some 59)) 60) 51 16 (some 60)) 61) 51 17 (some 61)) 62) 63) 62 8 (some 63)) 64) 62 9 (some 64)) 65) 62 10 (some 65)) 66) 62 11 (some 66)) 67) 62 12 (some 67)) 68) 62 13 (some 68)) 69) 62 14 (some 69)) 70) 62 15 (some 70)) 71) 62 16 (some 71)) 72) 62 17 (some 72)) 73) 43 24 (some 73)) 74)) 112 [.ref 43] [.ref 74, .ref 43] ((((((((((((((((((((((((((((((((((h.clr 44).sI 43 4 (-1)).clr 45).clr 46).clr 47).clr 48).clr 49).clr 50).clr 51).clr 52).clr 53).clr 54).clr 55).clr 56).clr 57).clr 58).clr 59).clr 60).clr 61).sR 43 21 (some 51)).clr 62).clr 63).clr 64).clr 65).clr 66).clr 67).clr 68).clr 69).clr 70).clr 71).clr 72).sR 43 22 (some 62)).clr 73).clr 74)
  refine q_putP (v := 74) 13 25 fp_X12_56 (Or.inl rfl) (Nat.le_of_ble_eq_true rfl) rfl rfl (by rfl) (Or.inr ⟨_, rfl⟩) dX12_init_112 ?_
  show q_W G mi_X12_init _ (d + 4) _ _ _ 31 50093 (true, 75, (q_up (q_oP (q_up (q_oP (q_up (q_oP (q_up (q_oP (q_up (q_oP (q_up (q_oP (q_up (q_oP (q_up (q_oP (q_up (q_oP (q_up (q_oP (q_up (q_oP (q_up (q_oP (q_oP (q_up (q_oP (q_up (q_oP (q_up (q_oP (q_up (q_oP (q_up (q_oP (q_up (q_oP (q_up (q_oP (q_up (q_oP (q_up (q_oP (q_up (q_oP (q_oP (q_up (q_oP (q_up (q_oP (q_up (q_oP (q_up (q_oP (q_up (q_oP (q_up (q_oP (q_up (q_oP P 44) 43 1 (some 44)) 45) 43 5 (some 45)) 46) 43 8 (some 46)) 47) 43 10 (some 47)) 48) 43 11 (some 48)) 49) 43 12 (some 49)) 50) 43 16 (some 50)) 51) 52) 51 8 (some 52)) 53) 51 9 (some 53)) 54) 51 10 (some 54)) 55) 51 11 (some 55)) 56) 51 12 (some 56)) 57) 51 13 (some 57)) 58) 51 14 (some 58)) 59) 51 15 (some 59)) 60) 51 16 (some 60)) 61) 51 17 (some 61)) 62) 63) 62 8 (some 63)) 64) 62 9 (some 64)) 65) 62 10 (some 65)) 66) 62 11 (some 66)) 67) 62 12 (some 67)) 68) 62 13 (some 68)) 69) 62 14 (some 69)) 70) 62 15 (some 70)) 71) 62 16 (some 71)) 72) 62 17 (some 72)) 73) 43 24 (some 73)) 74) 43 25 (some 74))) 115 [.ref 43] [] ((((((((((((((((((((((((((((((((((h.clr 44).sI 43 4 (-1)).clr 45).clr 46).clr 47).clr 48).clr 49).clr 50).clr 51).clr 52).clr 53).clr 54).clr 55).clr 56).clr 57).clr 58).clr 59).clr 60).clr 61).sR 43 21 (some 51)).clr 62).clr 63).clr 64).clr 65).clr 66).clr 67).clr 68).clr 69).clr 70).clr 71).clr 72).sR 43 22 (some 62)).clr 73).clr 74)
  refine q_aload_n (i := 0) dX12_init_115 rfl rfl ?_
  refine q_sipush (v := 2000) dX12_init_116 (by decide) ?_
  refine q_newa (at_ := .int) (t := 0) (N := 2000) rfl rfl (by decide) (Or.inl ⟨rfl, rfl⟩) ac_int (by decide) (by decide) (by decide) (by decide) (by decide) dX12_init_119 ?_
  show q_W G mi_X12_init _ (d + 4) _ _ _ 32 52093 (true, 76, (q_oP (q_up (q_oP (q_up (q_oP (q_up (q_oP (q_up (q_oP (q_up (q_oP (q_up (q_oP (q_up (q_oP (q_up (q_oP (q_up (q_oP (q_up (q_oP (q_up (q_oP (q_up (q_oP (q_oP (q_up (q_oP (q_up (q_oP (q_up (q_oP (q_up (q_oP (q_up (q_oP (q_up (q_oP (q_up (q_oP (q_up (q_oP (q_up (q_oP (q_up (q_oP (q_oP (q_up (q_oP (q_up (q_oP (q_up (q_oP (q_up (q_oP (q_up (q_oP (q_up (q_oP (q_up (q_oP P 44) 43 1 (some 44)) 45) 43 5 (some 45)) 46) 43 8 (some 46)) 47) 43 10 (some 47)) 48) 43 11 (some 48)) 49) 43 12 (some 49)) 50) 43 16 (some 50)) 51) 52) 51 8 (some 52)) 53) 51 9 (some 53)) 54) 51 10 (some 54)) 55) 51 11 (some 55)) 56) 51 12 (some 56)) 57) 51 13 (some 57)) 58) 51 14 (some 58)) 59) 51 15 (some 59)) 60) 51 16 (some 60)) 61) 51 17 (some 61)) 62) 63) 62 8 (some 63)) 64) 62 9 (some 64)) 65) 62 10 (some 65)) 66) 62 11 (some 66)) 67) 62 12 (some 67)) 68) 62 13 (some 68)) 69) 62 14 (some 69)) 70) 62 15 (some 70)) 71) 62 16 (some 71)) 72) 62 17 (some 72)) 73) 43 24 (some 73)) 74) 43 25 (some 74)) 75)) 121 [.ref 43] [.ref 75, .ref 43] (((((((((((((((((((((((((((((((((((h.clr 44).sI 43 4 (-1)).clr 45).clr 46).clr 47).clr 48).clr 49).clr 50).clr 51).clr 52).clr 53).clr 54).clr 55).clr 56).clr 57).clr 58).clr 59).clr 60).clr 61).sR 43 21 (some 51)).clr 62).clr 63).clr 64).clr 65).clr 66).clr 67).clr 68).clr 69).clr 70).clr 71).clr 72).sR 43 22 (some 62)).clr 73).clr 74).clr 75)
  refine q_putP (v := 75) 13 26 fp_X12_59 (Or.inl rfl) (Nat.le_of_ble_eq_true rfl) rfl rfl (by rfl) (Or.inr ⟨_, rfl⟩) dX12_init_121 ?_
  show q_W G mi_X12_init _ (d + 4) _ _ _ 32 52093 (true, 76, (q_up (q_oP (q_up (q_oP (q_up (q_oP (q_up (q_oP (q_up (q_oP (q_up (q_oP (q_up (q_oP (q_up (q_oP (q_up (q_oP (q_up (q_oP (q_up (q_oP (q_up (q_oP (q_up (q_oP (q_oP (q_up (q_oP (q_up (q_oP (q_up (q_oP (q_up (q_oP (q_up (q_oP (q_up (q_oP (q_up (q_oP (q_up (q_oP (q_up (q_oP (q_up (q_oP (q_oP (q_up (q_oP (q_up (q_oP (q_up (q_oP (q_up (q_oP (q_up (q_oP (q_up (q_oP (q_up (q_oP P 44) 43 1 (some 44)) 45) 43 5 (some 45)) 46) 43 8 (some 46)) 47) 43 10 (some 47)) 48) 43 11 (some 48)) 49) 43 12 (some 49)) 50) 43 16 (some 50)) 51) 52) 51 8 (some 52)) 53) 51 9 (some 53)) 54) 51 10 (some 54)) 55) 51 11 (some 55)) 56) 51 12 (some 56)) 57) 51 13 (some 57)) 58) 51 14 (some 58)) 59) 51 15 (some 59)) 60) 51 16 (some 60)) 61) 51 17 (some 61)) 62) 63) 62 8 (some 63)) 64) 62 9 (some 64)) 65) 62 10 (some 65)) 66) 62 11 (some 66)) 67) 62 12 (some 67)) 68) 62 13 (some 68)) 69) 62 14 (some 69)) 70) 62 15 (some 70)) 71) 62 16 (some 71)) 72) 62 17 (some 72)) 73) 43 24 (some 73)) 74) 43 25 (some 74)) 75) 43 26 (some 75))) 124 [.ref 43] [] (((((((((((((((((((((((((((((((((((h.clr 44).sI 43 4 (-1)).clr 45).clr 46).clr 47).clr 48).clr 49).clr 50).clr 51).clr 52).clr 53).clr 54).clr 55).clr 56).clr 57).clr 58).clr 59).clr 60).clr 61).sR 43 21 (some 51)).clr 62).clr 63).clr 64).clr 65).clr 66).clr 67).clr 68).clr 69).clr 70).clr 71).clr 72).sR 43 22 (some 62)).clr 73).clr 74).clr 75)
  refine q_aload_n (i := 0) dX12_init_124 rfl rfl ?_
  refine q_sipush (v := 2048) dX12_init_125 (by decide) ?_
  refine q_newa (at_ := .int) (t := 0) (N := 2048) rfl rfl (by decide) (Or.inl ⟨rfl, rfl⟩) ac_int (by decide) (by decide) (by decide) (by decide) (by decide) dX12_init_128 ?_
  show q_W G mi_X12_init _ (d + 4) _ _ _ 33 54141 (true, 77, (q_oP (q_up (q_oP (q_up (q_oP (q_up (q_oP (q_up (q_oP (q_up (q_oP (q_up (q_oP (q_up (q_oP (q_up (q_oP (q_up (q_oP (q_up (q_oP (q_up (q_oP (q_up (q_oP (q_up (q_oP (q_oP (q_up (q_oP (q_up (q_oP (q_up (q_oP (q_up (q_oP (q_up (q_oP (q_up (q_oP (q_up (q_oP (q_up (q_oP (q_up (q_oP (q_up (q_oP (q_oP (q_up (q_oP (q_up (q_oP (q_up (q_oP (q_up (q_oP (q_up (q_oP (q_up (q_oP (q_up (q_oP P 44) 43 1 (some 44)) 45) 43 5 (some 45)) 46) 43 8 (some 46)) 47) 43 10 (some 47)) 48) 43 11 (some 48)) 49) 43 12 (some 49)) 50) 43 16 (some 50)) 51) 52) 51 8 (some 52)) 53) 51 9 (some 53)) 54) 51 10 (some 54)) 55) 51 11 (some 55)) 56) 51 12 (some 56)) 57) 51 13 (some 57)) 58) 51 14 (some 58)) 59) 51 15 (some 59)) 60) 51 16 (some 60)) 61) 51 17 (some 61)) 62) 63) 62 8 (some 63)) 64) 62 9 (some 64)) 65) 62 10 (some 65)) 66) 62 11 (some 66)) 67) 62 12 (some 67)) 68) 62 13 (some 68)) 69) 62 14 (some 69)) 70) 62 15 (some 70)) 71) 62 16 (some 71)) 72) 62 17 (some 72)) 73) 43 24 (some 73)) 74) 43 25 (some 74)) 75) 43 26 (some 75)) 76)) 130 [.ref 43] [.ref 76, .ref 43] ((((((((((((((((((((((((((((((((((((h.clr 44).sI 43 4 (-1)).clr 45).clr 46).clr 47).clr 48).clr 49).clr 50).clr 51).clr 52).clr 53).clr 54).clr 55).clr 56).clr 57).clr 58).clr 59).clr 60).clr 61).sR 43 21 (some 51)).clr 62).clr 63).clr 64).clr 65).clr 66).clr 67).clr 68).clr 69).clr 70).clr 71).clr 72).sR 43 22 (some 62)).clr 73).clr 74).clr 75).clr 76)
  refine q_putP (v := 76) 13 28 fp_X12_62 (Or.inl rfl) (Nat.le_of_ble_eq_true rfl) rfl rfl (by rfl) (Or.inr ⟨_, rfl⟩) dX12_init_130 ?_
  show q_W G mi_X12_init _ (d + 4) _ _ _ 33 54141 (true, 77, (q_up (q_oP (q_up (q_oP (q_up (q_oP (q_up (q_oP (q_up (q_oP (q_up (q_oP (q_up (q_oP (q_up (q_oP (q_up (q_oP (q_up (q_oP (q_up (q_oP (q_up (q_oP (q_up (q_oP (q_up (q_oP (q_oP (q_up (q_oP (q_up (q_oP (q_up (q_oP (q_up (q_oP (q_up (q_oP (q_up (q_oP (q_up (q_oP (q_up (q_oP (q_up (q_oP (q_up (q_oP (q_oP (q_up (q_oP (q_up (q_oP (q_up (q_oP (q_up (q_oP (q_up (q_oP (q_up (q_oP (q_up (q_oP P 44) 43 1 (some 44)) 45) 43 5 (some 45)) 46) 43 8 (some 46)) 47) 43 10 (some 47)) 48) 43 11 (some 48)) 49) 43 12 (some 49)) 50) 43 16 (some 50)) 51) 52) 51 8 (some 52)) 53) 51 9 (some 53)) 54) 51 10 (some 54)) 55) 51 11 (some 55)) 56) 51 12 (some 56)) 57) 51 13 (some 57)) 58) 51 14 (some 58)) 59) 51 15 (some 59)) 60) 51 16 (some 60)) 61) 51 17 (some 61)) 62) 63) 62 8 (some 63)) 64) 62 9 (some 64)) 65) 62 10 (some 65)) 66) 62 11 (some 66)) 67) 62 12 (some 67)) 68) 62 13 (some 68)) 69) 62 14 (some 69)) 70) 62 15 (some 70)) 71) 62 16 (some 71)) 72) 62 17 (some 72)) 73) 43 24 (some 73)) 74) 43 25 (some 74)) 75) 43 26 (some 75)) 76) 43 28 (some 76))) 133 [.ref 43] [] ((((((((((((((((((((((((((((((((((((h.clr 44).sI 43 4 (-1)).clr 45).clr 46).clr 47).clr 48).clr 49).clr 50).clr 51).clr 52).clr 53).clr 54).clr 55).clr 56).clr 57).clr 58).clr 59).clr 60).clr 61).sR 43 21 (some 51)).clr 62).clr 63).clr 64).clr 65).clr 66).clr 67).clr 68).clr 69).clr 70).clr 71).clr 72).sR 43 22 (some 62)).clr 73).clr 74).clr 75).clr 76)
  refine q_aload_n (i := 0) dX12_init_133 rfl rfl ?_
  refine q_iconst (v := 4) dX12_init_134 (by decide) ?_
  refine q_newa (at_ := .int) (t := 0) (N := 4) rfl rfl (by decide) (Or.inl ⟨rfl, rfl⟩) ac_int (by decide) (by decide) (by decide) (by decide) (by decide) dX12_init_135 ?_
  show q_W G mi_X12_init _ (d + 4) _ _ _ 34 54145 (true, 78, (q_oP (q_up (q_oP (q_up (q_oP (q_up (q_oP (q_up (q_oP (q_up (q_oP (q_up (q_oP (q_up (q_oP (q_up (q_oP (q_up (q_oP (q_up (q_oP (q_up (q_oP (q_up (q_oP (q_up (q_oP (q_up (q_oP (q_oP (q_up (q_oP (q_up (q_oP (q_up (q_oP (q_up (q_oP (q_up (q_oP (q_up (q_oP (q_up (q_oP (q_up (q_oP (q_up (q_oP (q_up (q_oP (q_oP (q_up (q_oP (q_up (q_oP (q_up (q_oP (q_up (q_oP (q_up (q_oP (q_up (q_oP (q_up (q_oP P 44) 43 1 (some 44)) 45) 43 5 (some 45)) 46) 43 8 (some 46)) 47) 43 10 (some 47)) 48) 43 11 (some 48)) 49) 43 12 (some 49)) 50) 43 16 (some 50)) 51) 52) 51 8 (some 52)) 53) 51 9 (some 53)) 54) 51 10 (some 54)) 55) 51 11 (some 55)) 56) 51 12 (some 56)) 57) 51 13 (some 57)) 58) 51 14 (some 58)) 59) 51 15 (some 59)) 60) 51 16 (some 60)) 61) 51 17 (some 61)) 62) 63) 62 8 (some 63)) 64) 62 9 (some 64)) 65) 62 10 (some 65)) 66) 62 11 (some 66)) 67) 62 12 (some 67)) 68) 62 13 (some 68)) 69) 62 14 (some 69)) 70) 62 15 (some 70)) 71) 62 16 (some 71)) 72) 62 17 (some 72)) 73) 43 24 (some 73)) 74) 43 25 (some 74)) 75) 43 26 (some 75)) 76) 43 28 (some 76)) 77)) 137 [.ref 43] [.ref 77, .ref 43] (((((((((((((((((((((((((((((((((((((h.clr 44).sI 43 4 (-1)).clr 45).clr 46).clr 47).clr 48).clr 49).clr 50).clr 51).clr 52).clr 53).clr 54).clr 55).clr 56).clr 57).clr 58).clr 59).clr 60).clr 61).sR 43 21 (some 51)).clr 62).clr 63).clr 64).clr 65).clr 66).clr 67).clr 68).clr 69).clr 70).clr 71).clr 72).sR 43 22 (some 62)).clr 73).clr 74).clr 75).clr 76).clr 77)
  refine q_putP (v := 77) 13 29 fp_X12_65 (Or.inl rfl) (Nat.le_of_ble_eq_true rfl) rfl rfl (by rfl) (Or.inr ⟨_, rfl⟩) dX12_init_137 ?_
  show q_W G mi_X12_init _ (d + 4) _ _ _ 34 54145 (true, 78, (q_up (q_oP (q_up (q_oP (q_up (q_oP (q_up (q_oP (q_up (q_oP (q_up (q_oP (q_up (q_oP (q_up (q_oP (q_up (q_oP (q_up (q_oP (q_up (q_oP (q_up (q_oP (q_up (q_oP (q_up (q_oP (q_up (q_oP (q_oP (q_up (q_oP (q_up (q_oP (q_up (q_oP (q_up (q_oP (q_up (q_oP (q_up (q_oP (q_up (q_oP (q_up (q_oP (q_up (q_oP (q_up (q_oP (q_oP (q_up (q_oP (q_up (q_oP (q_up (q_oP (q_up (q_oP (q_up (q_oP (q_up (q_oP (q_up (q_oP P 44) 43 1 (some 44)) 45) 43 5 (some 45)) 46) 43 8 (some 46)) 47) 43 10 (some 47)) 48) 43 11 (some 48)) 49) 43 12 (some 49)) 50) 43 16 (some 50)) 51) 52) 51 8 (some 52)) 53) 51 9 (some 53)) 54) 51 10 (some 54)) 55) 51 11 (some 55)) 56) 51 12 (some 56)) 57) 51 13 (some 57)) 58) 51 14 (some 58)) 59) 51 15 (some 59)) 60) 51 16 (some 60)) 61) 51 17 (some 61)) 62) 63) 62 8 (some 63)) 64) 62 9 (some 64)) 65) 62 10 (some 65)) 66) 62 11 (some 66)) 67) 62 12 (some 67)) 68) 62 13 (some 68)) 69) 62 14 (some 69)) 70) 62 15 (some 70)) 71) 62 16 (some 71)) 72) 62 17 (some 72)) 73) 43 24 (some 73)) 74) 43 25 (some 74)) 75) 43 26 (some 75)) 76) 43 28 (some 76)) 77) 43 29 (some 77))) 140 [.ref 43] [] (((((((((((((((((((((((((((((((((((((h.clr 44).sI 43 4 (-1)).clr 45).clr 46).clr 47).clr 48).clr 49).clr 50).clr 51).clr 52).clr 53).clr 54).clr 55).clr 56).clr 57).clr 58).clr 59).clr 60).clr 61).sR 43 21 (some 51)).clr 62).clr 63).clr 64).clr 65).clr 66).clr 67).clr 68).clr 69).clr 70).clr 71).clr 72).sR 43 22 (some 62)).clr 73).clr 74).clr 75).clr 76).clr 77)
  refine q_aload_n (i := 0) dX12_init_140 rfl rfl ?_
  refine q_sipush (v := 2016) dX12_init_141 (by decide) ?_
  refine q_newa (at_ := .int) (t := 0) (N := 2016) rfl rfl (by decide) (Or.inl ⟨rfl, rfl⟩) ac_int (by decide) (by decide) (by decide) (by decide) (by decide) dX12_init_144 ?_
  show q_W G mi_X12_init _ (d + 4) _ _ _ 35 56161 (true, 79, (q_oP (q_up (q_oP (q_up (q_oP (q_up (q_oP (q_up (q_oP (q_up (q_oP (q_up (q_oP (q_up (q_oP (q_up (q_oP (q_up (q_oP (q_up (q_oP (q_up (q_oP (q_up (q_oP (q_up (q_oP (q_up (q_oP (q_up (q_oP (q_oP (q_up (q_oP (q_up (q_oP (q_up (q_oP (q_up (q_oP (q_up (q_oP (q_up (q_oP (q_up (q_oP (q_up (q_oP (q_up (q_oP (q_up (q_oP (q_oP (q_up (q_oP (q_up (q_oP (q_up (q_oP (q_up (q_oP (q_up (q_oP (q_up (q_oP (q_up (q_oP P 44) 43 1 (some 44)) 45) 43 5 (some 45)) 46) 43 8 (some 46)) 47) 43 10 (some 47)) 48) 43 11 (some 48)) 49) 43 12 (some 49)) 50) 43 16 (some 50)) 51) 52) 51 8 (some 52)) 53) 51 9 (some 53)) 54) 51 10 (some 54)) 55) 51 11 (some 55)) 56) 51 12 (some 56)) 57) 51 13 (some 57)) 58) 51 14 (some 58)) 59) 51 15 (some 59)) 60) 51 16 (some 60)) 61) 51 17 (some 61)) 62) 63) 62 8 (some 63)) 64) 62 9 (some 64)) 65) 62 10 (some 65)) 66) 62 11 (some 66)) 67) 62 12 (some 67)) 68) 62 13 (some 68)) 69) 62 14 (some 69)) 70) 62 15 (some 70)) 71) 62 16 (some 71)) 72) 62 17 (some 72)) 73) 43 24 (some 73)) 74) 43 25 (some 74)) 75) 43 26 (some 75)) 76) 43 28 (some 76)) 77) 43 29 (some 77)) 78)) 146 [.ref 43] [.ref 78, .ref 43] ((((((((((((((((((((((((((((((((((((((h.clr 44).sI 43 4 (-1)).clr 45).clr 46).clr 47).clr 48).clr 49).clr 50).clr 51).clr 52).clr 53).clr 54).clr 55).clr 56).clr 57).clr 58).clr 59).clr 60).clr 61).sR 43 21 (some 51)).clr 62).clr 63).clr 64).clr 65).clr 66).clr 67).clr 68).clr 69).clr 70).clr 71).clr 72).sR 43 22 (some 62)).clr 73).clr 74).clr 75).clr 76).clr 77).clr 78)
  refine q_putP (v := 78) 13 30 fp_X12_68 (Or.inl rfl) (Nat.le_of_ble_eq_true rfl) rfl rfl (by rfl) (Or.inr ⟨_, rfl⟩) dX12_init_146 ?_
  show q_W G mi_X12_init _ (d + 4) _ _ _ 35 56161 (true, 79, (q_up (q_oP (q_up (q_oP (q_up (q_oP (q_up (q_oP (q_up (q_oP (q_up (q_oP (q_up (q_oP (q_up (q_oP (q_up (q_oP (q_up (q_oP (q_up (q_oP (q_up (q_oP (q_up (q_oP (q_up (q_oP (q_up (q_oP (q_up (q_oP (q_oP (q_up (q_oP (q_up (q_oP (q_up (q_oP (q_up (q_oP (q_up (q_oP (q_up (q_oP (q_up (q_oP (q_up (q_oP (q_up (q_oP (q_up (q_oP (q_oP (q_up (q_oP (q_up (q_oP (q_up (q_oP (q_up (q_oP (q_up (q_oP (q_up (q_oP (q_up (q_oP P 44) 43 1 (some 44)) 45) 43 5 (some 45)) 46) 43 8 (some 46)) 47) 43 10 (some 47)) 48) 43 11 (some 48)) 49) 43 12 (some 49)) 50) 43 16 (some 50)) 51) 52) 51 8 (some 52)) 53) 51 9 (some 53)) 54) 51 10 (some 54)) 55) 51 11 (some 55)) 56) 51 12 (some 56)) 57) 51 13 (some 57)) 58) 51 14 (some 58)) 59) 51 15 (some 59)) 60) 51 16 (some 60)) 61) 51 17 (some 61)) 62) 63) 62 8 (some 63)) 64) 62 9 (some 64)) 65) 62 10 (some 65)) 66) 62 11 (some 66)) 67) 62 12 (some 67)) 68) 62 13 (some 68)) 69) 62 14 (some 69)) 70) 62 15 (some 70)) 71) 62 16 (some 71)) 72) 62 17 (some 72)) 73) 43 24 (some 73)) 74) 43 25 (some 74)) 75) 43 26 (some 75)) 76) 43 28 (some 76)) 77) 43 29 (some 77)) 78) 43 30 (some 78))) 149 [.ref 43] [] ((((((((((((((((((((((((((((((((((((((h.clr 44).sI 43 4 (-1)).clr 45).clr 46).clr 47).clr 48).clr 49).clr 50).clr 51).clr 52).clr 53).clr 54).clr 55).clr 56).clr 57).clr 58).clr 59).clr 60).clr 61).sR 43 21 (some 51)).clr 62).clr 63).clr 64).clr 65).clr 66).clr 67).clr 68).clr 69).clr 70).clr 71).clr 72).sR 43 22 (some 62)).clr 73).clr 74).clr 75).clr 76).clr 77).clr 78)
  refine q_aload_n (i := 0) dX12_init_149 rfl rfl ?_
  refine q_sipush (v := 600) dX12_init_150 (by decide) ?_
  refine q_newa (at_ := .int) (t := 0) (N := 600) rfl rfl (by decide) (Or.inl ⟨rfl, rfl⟩) ac_int (by decide) (by decide) (by decide) (by decide) (by decide) dX12_init_153 ?_
  show q_W G mi_X12_init _ (d + 4) _ _ _ 36 56761 (true, 80, (q_oP (q_up (q_oP (q_up (q_oP (q_up (q_oP (q_up (q_oP (q_up (q_oP (q_up (q_oP (q_up (q_oP (q_up (q_oP (q_up (q_oP (q_up (q_oP (q_up (q_oP (q_up (q_oP (q_up (q_oP (q_up (q_oP (q_up (q_oP (q_up (q_oP (q_oP (q_up (q_oP (q_up (q_oP (q_up (q_oP (q_up (q_oP (q_up (q_oP (q_up (q_oP (q_up (q_oP (q_up (q_oP (q_up (q_oP (q_up (q_oP (q_oP (q_up (q_oP (q_up (q_oP (q_up (q_oP (q_up (q_oP (q_up (q_oP (q_up (q_oP (q_up (q_oP P 44) 43 1 (some 44)) 45) 43 5 (some 45)) 46) 43 8 (some 46)) 47) 43 10 (some 47)) 48) 43 11 (some 48)) 49) 43 12 (some 49)) 50) 43 16 (some 50)) 51) 52) 51 8 (some 52)) 53) 51 9 (some 53)) 54) 51 10 (some 54)) 55) 51 11 (some 55)) 56) 51 12 (some 56)) 57) 51 13 (some 57)) 58) 51 14 (some 58)) 59) 51 15 (some 59)) 60) 51 16 (some 60)) 61) 51 17 (some 61)) 62) 63) 62 8 (some 63)) 64) 62 9 (some 64)) 65) 62 10 (some 65)) 66) 62 11 (some 66)) 67) 62 12 (some 67)) 68) 62 13 (some 68)) 69) 62 14 (some 69)) 70) 62 15 (some 70)) 71) 62 16 (some 71)) 72) 62 17 (some 72)) 73) 43 24 (some 73)) 74) 43 25 (some 74)) 75) 43 26 (some 75)) 76) 43 28 (some 76)) 77) 43 29 (some 77)) 78) 43 30 (some 78)) 79)) 155 [.ref 43] [.ref 79, .ref 43] (((((((((((((((((((((((((((((((((((((((h.clr 44).sI 43 4 (-1)).clr 45).clr 46).clr 47).clr 48).clr 49).clr 50).clr 51).clr 52).clr 53).clr 54).clr 55).clr 56).clr 57).clr 58).clr 59).clr 60).clr 61).sR 43 21 (some 51)).clr 62).clr 63).clr 64).clr 65).clr 66).clr 67).clr 68).clr 69).clr 70).clr 71).clr 72).sR 43 22 (some 62)).clr 73).clr 74).clr 75).clr 76).clr 77).clr 78).clr 79)
  refine q_putP (v := 79) 13 38 fp_X12_71 (Or.inl rfl) (Nat.le_of_ble_eq_true rfl) rfl rfl (by rfl) (Or.inr ⟨_, rfl⟩) dX12_init_155 ?_
  show q_W G mi_X12_init _ (d + 4) _ _ _ 36 56761 (true, 80, (q_up (q_oP (q_up (q_oP (q_up (q_oP (q_up (q_oP (q_up (q_oP (q_up (q_oP (q_up (q_oP (q_up (q_oP (q_up (q_oP (q_up (q_oP (q_up (q_oP (q_up (q_oP (q_up (q_oP (q_up (q_oP (q_up (q_oP (q_up (q_oP (q_up (q_oP (q_oP (q_up (q_oP (q_up (q_oP (q_up (q_oP (q_up (q_oP (q_up (q_oP (q_up (q_oP (q_up (q_oP (q_up (q_oP (q_up (q_oP (q_up (q_oP (q_oP (q_up (q_oP (q_up (q_oP (q_up (q_oP (q_up (q_oP (q_up (q_oP (q_up (q_oP (q_up (q_oP P 44) 43 1 (some 44)) 45) 43 5 (some 45)) 46) 43 8 (some 46)) 47) 43 10 (some 47)) 48) 43 11 (some 48)) 49) 43 12 (some 49)) 50) 43 16 (some 50)) 51) 52) 51 8 (some 52)) 53) 51 9 (some 53)) 54) 51 10 (some 54)) 55) 51 11 (some 55)) 56) 51 12 (some 56)) 57) 51 13 (some 57)) 58) 51 14 (some 58)) 59) 51 15 (some 59)) 60) 51 16 (some 60)) 61) 51 17 (some 61)) 62) 63) 62 8 (some 63)) 64) 62 9 (some 64)) 65) 62 10 (some 65)) 66) 62 11 (some 66)) 67) 62 12 (some 67)) 68) 62 13 (some 68)) 69) 62 14 (some 69)) 70) 62 15 (some 70)) 71) 62 16 (some 71)) 72) 62 17 (some 72)) 73) 43 24 (some 73)) 74) 43 25 (some 74)) 75) 43 26 (some 75)) 76) 43 28 (some 76)) 77) 43 29 (some 77)) 78) 43 30 (some 78)) 79) 43 38 (some 79))) 158 [.ref 43] [] (((((((((((((((((((((((((((((((((((((((h.clr 44).sI 43 4 (-1)).clr 45).clr 46).clr 47).clr 48).clr 49).clr 50).clr 51).clr 52).clr 53).clr 54).clr 55).clr 56).clr 57).clr 58).clr 59).clr 60).clr 61).sR 43 21 (some 51)).clr 62).clr 63).clr 64).clr 65).clr 66).clr 67).clr 68).clr 69).clr 70).clr 71).clr 72).sR 43 22 (some 62)).clr 73).clr 74).clr 75).clr 76).clr 77).clr 78).clr 79)
  refine q_aload_n (i := 0) dX12_init_158 rfl rfl ?_
  refine q_sipush (v := 2000) dX12_init_159 (by decide) ?_
  refine q_newa (at_ := .int) (t := 0) (N := 2000) rfl rfl (by decide) (Or.inl ⟨rfl, rfl⟩) ac_int (by decide) (by decide) (by decide) (by decide) (by decide) dX12_init_162 ?_
  show q_W G mi_X12_init _ (d + 4) _ _ _ 37 58761 (true, 81, (q_oP (q_up (q_oP (q_up (q_oP (q_up (q_oP (q_up (q_oP (q_up (q_oP (q_up (q_oP (q_up (q_oP (q_up (q_oP (q_up (q_oP (q_up (q_oP (q_up (q_oP (q_up (q_oP (q_up (q_oP (q_up (q_oP (q_up (q_oP (q_up (q_oP (q_up (q_oP (q_oP (q_up (q_oP (q_up (q_oP (q_up (q_oP (q_up (q_oP (q_up (q_oP (q_up (q_oP (q_up (q_oP (q_up (q_oP (q_up (q_oP (q_up (q_oP (q_oP (q_up (q_oP (q_up (q_oP (q_up (q_oP (q_up (q_oP (q_up (q_oP (q_up (q_oP (q_up (q_oP P 44) 43 1 (some 44)) 45) 43 5 (some 45)) 46) 43 8 (some 46)) 47) 43 10 (some 47)) 48) 43 11 (some 48)) 49) 43 12 (some 49)) 50) 43 16 (some 50)) 51) 52) 51 8 (some 52)) 53) 51 9 (some 53)) 54) 51 10 (some 54)) 55) 51 11 (some 55)) 56) 51 12 (some 56)) 57) 51 13 (some 57)) 58) 51 14 (some 58)) 59) 51 15 (some 59)) 60) 51 16 (some 60)) 61) 51 17 (some 61)) 62) 63) 62 8 (some 63)) 64) 62 9 (some 64)) 65) 62 10 (some 65)) 66) 62 11 (some 66)) 67) 62 12 (some 67)) 68) 62 13 (some 68)) 69) 62 14 (some 69)) 70) 62 15 (some 70)) 71) 62 16 (some 71)) 72) 62 17 (some 72)) 73) 43 24 (some 73)) 74) 43 25 (some 74)) 75) 43 26 (some 75)) 76) 43 28 (some 76)) 77) 43 29 (some 77)) 78) 43 30 (some 78)) 79) 43 38 (some 79)) 80)) 164 [.ref 43] [.ref 80, .ref 43] ((((((((((((((((((((((((((((((((((((((((h.clr 44).sI 43 4 (-1)).clr 45).clr 46).clr 47).clr 48).clr 49).clr 50).clr 51).clr 52).clr 53).clr 54).clr 55).clr 56).clr 57).clr 58).clr 59).clr 60).clr 61).sR 43 21 (some 51)).clr 62).clr 63).clr 64).clr 65).clr 66).clr 67).clr 68).clr 69).clr 70).clr 71).clr 72).sR 43 22 (some 62)).clr 73).clr 74).clr 75).clr 76).clr 77).clr 78).clr 79).clr 80)
  refine q_putP (v := 80) 13 39 fp_X12_74 (Or.inl rfl) (Nat.le_of_ble_eq_true rfl) rfl rfl (by rfl) (Or.inr ⟨_, rfl⟩) dX12_init_164 ?_
  show q_W G mi_X12_init _ (d + 4) _ _ _ 37 58761 (true, 81, (q_up (q_oP (q_up (q_oP (q_up (q_oP (q_up (q_oP (q_up (q_oP (q_up (q_oP (q_up (q_oP (q_up (q_oP (q_up (q_oP (q_up (q_oP (q_up (q_oP (q_up (q_oP (q_up (q_oP (q_up (q_oP (q_up (q_oP (q_up (q_oP (q_up (q_oP (q_up (q_oP (q_oP (q_up (q_oP (q_up (q_oP (q_up (q_oP (q_up (q_oP (q_up (q_oP (q_up (q_oP (q_up (q_oP (q_up (q_oP (q_up (q_oP (q_up (q_oP (q_oP (q_up (q_oP (q_up (q_oP (q_up (q_oP (q_up (q_oP (q_up (q_oP (q_up (q_oP (q_up (q_oP P 44) 43 1 (some 44)) 45) 43 5 (some 45)) 46) 43 8 (some 46)) 47) 43 10 (some 47)) 48) 43 11 (some 48)) 49) 43 12 (some 49)) 50) 43 16 (some 50)) 51) 52) 51 8 (some 52)) 53) 51 9 (some 53)) 54) 51 10 (some 54)) 55) 51 11 (some 55)) 56) 51 12 (some 56)) 57) 51 13 (some 57)) 58) 51 14 (some 58)) 59) 51 15 (some 59)) 60) 51 16 (some 60)) 61) 51 17 (some 61)) 62) 63) 62 8 (some 63)) 64) 62 9 (some 64)) 65) 62 10 (some 65)) 66) 62 11 (some 66)) 67) 62 12 (some 67)) 68) 62 13 (some 68)) 69) 62 14 (some 69)) 70) 62 15 (some 70)) 71) 62 16 (some 71)) 72) 62 17 (some 72)) 73) 43 24 (some 73)) 74) 43 25 (some 74)) 75) 43 26 (some 75)) 76) 43 28 (some 76)) 77) 43 29 (some 77)) 78) 43 30 (some 78)) 79) 43 38 (some 79)) 80) 43 39 (some 80))) 167 [.ref 43] [] ((((((((((((((((((((((((((((((((((((((((h.clr 44).sI 43 4 (-1)).clr 45).clr 46).clr 47).clr 48).clr 49).clr 50).clr 51).clr 52).clr 53).clr 54).clr 55).clr 56).clr 57).clr 58).clr 59).clr 60).clr 61).sR 43 21 (some 51)).clr 62).clr 63).clr 64).clr 65).clr 66).clr 67).clr 68).clr 69).clr 70).clr 71).clr 72).sR 43 22 (some 62)).clr 73).clr 74).clr 75).clr 76).clr 77).clr 78).clr 79).clr 80)
  refine q_aload_n (i := 0) dX12_init_167 rfl rfl ?_
  refine q_sipush (v := 2000) dX12_init_168 (by decide) ?_
  refine q_newa (at_ := .int) (t := 0) (N := 2000) rfl rfl (by decide) (Or.inl ⟨rfl, rfl⟩) ac_int (by decide) (by decide) (by decide) (by decide) (by decide) dX12_init_171 ?_
  show q_W G mi_X12_init _ (d + 4) _ _ _ 38 60761 (true, 82, (q_oP (q_up (q_oP (q_up (q_oP (q_up (q_oP (q_up (q_oP (q_up (q_oP (q_up (q_oP (q_up (q_oP (q_up (q_oP (q_up (q_oP (q_up (q_oP (q_up (q_oP (q_up (q_oP (q_up (q_oP (q_up (q_oP (q_up (q_oP (q_up (q_oP (q_up (q_oP (q_up (q_oP (q_oP (q_up (q_oP (q_up (q_oP (q_up (q_oP (q_up (q_oP (q_up (q_oP (q_up (q_oP (q_up (q_oP (q_up (q_oP (q_up (q_oP (q_up (q_oP (q_oP (q_up (q_oP (q_up (q_oP (q_up (q_oP (q_up (q_oP (q_up (q_oP (q_up (q_oP (q_up (q_oP P 44) 43 1 (some 44)) 45) 43 5 (some 45)) 46) 43 8 (some 46)) 47) 43 10 (some 47)) 48) 43 11 (some 48)) 49) 43 12 (some 49)) 50) 43 16 (some 50)) 51) 52) 51 8 (some 52)) 53) 51 9 (some 53)) 54) 51 10 (some 54)) 55) 51 11 (some 55)) 56) 51 12 (some 56)) 57) 51 13 (some 57)) 58) 51 14 (some 58)) 59) 51 15 (some 59)) 60) 51 16 (some 60)) 61) 51 17 (some 61)) 62) 63) 62 8 (some 63)) 64) 62 9 (some 64)) 65) 62 10 (some 65)) 66) 62 11 (some 66)) 67) 62 12 (some 67)) 68) 62 13 (some 68)) 69) 62 14 (some 69)) 70) 62 15 (some 70)) 71) 62 16 (some 71)) 72) 62 17 (some 72)) 73) 43 24 (some 73)) 74) 43 25 (some 74)) 75) 43 26 (some 75)) 76) 43 28 (some 76)) 77) 43 29 (some 77)) 78) 43 30 (some 78)) 79) 43 38 (some 79)) 80) 43 39 (some 80)) 81)) 173 [.ref 43] [.ref 81, .ref 43] (((((((((((((((((((((((((((((((((((((((((h.clr 44).sI 43 4 (-1)).clr 45).clr 46).clr 47).clr 48).clr 49).clr 50).clr 51).clr 52).clr 53).clr 54).clr 55).clr 56).clr 57).clr 58).clr 59).clr 60).clr 61).sR 43 21 (some 51)).clr 62).clr 63).clr 64).clr 65).clr 66).clr 67).clr 68).clr 69).clr 70).clr 71).clr 72).sR 43 22 (some 62)).clr 73).clr 74).clr 75).clr 76).clr 77).clr 78).clr 79).clr 80).clr 81)
  refine q_putR (v := 81) 13 41 fp_X12_77 (Or.inl rfl) (Nat.le_of_ble_eq_true rfl) rfl rfl (by rfl) (Or.inr ⟨_, rfl⟩) dX12_init_173 ?_
  refine q_aload_n (i := 0) dX12_init_176 rfl rfl ?_
  refine q_sipush (v := 2000) dX12_init_177 (by decide) ?_
  refine q_newa (at_ := .int) (t := 0) (N := 2000) rfl rfl (by decide) (Or.inl ⟨rfl, rfl⟩) ac_int (by decide) (by decide) (by decide) (by decide) (by decide) dX12_init_180 ?_
  show q_W G mi_X12_init _ (d + 4) _ _ _ 39 62761 (true, 83, (q_oP (q_oP (q_up (q_oP (q_up (q_oP (q_up (q_oP (q_up (q_oP (q_up (q_oP (q_up (q_oP (q_up (q_oP (q_up (q_oP (q_up (q_oP (q_up (q_oP (q_up (q_oP (q_up (q_oP (q_up (q_oP (q_up (q_oP (q_up (q_oP (q_up (q_oP (q_up (q_oP (q_up (q_oP (q_oP (q_up (q_oP (q_up (q_oP (q_up (q_oP (q_up (q_oP (q_up (q_oP (q_up (q_oP (q_up (q_oP (q_up (q_oP (q_up (q_oP (q_up (q_oP (q_oP (q_up (q_oP (q_up (q_oP (q_up (q_oP (q_up (q_oP (q_up (q_oP (q_up (q_oP (q_up (q_oP P 44) 43 1 (some 44)) 45) 43 5 (some 45)) 46) 43 8 (some 46)) 47) 43 10 (some 47)) 48) 43 11 (some 48)) 49) 43 12 (some 49)) 50) 43 16 (some 50)) 51) 52) 51 8 (some 52)) 53) 51 9 (some 53)) 54) 51 10 (some 54)) 55) 51 11 (some 55)) 56) 51 12 (some 56)) 57) 51 13 (some 57)) 58) 51 14 (some 58)) 59) 51 15 (some 59)) 60) 51 16 (some 60)) 61) 51 17 (some 61)) 62) 63) 62 8 (some 63)) 64) 62 9 (some 64)) 65) 62 10 (some 65)) 66) 62 11 (some 66)) 67) 62 12 (some 67)) 68) 62 13 (some 68)) 69) 62 14 (some 69)) 70) 62 15 (some 70)) 71) 62 16 (some 71)) 72) 62 17 (some 72)) 73) 43 24 (some 73)) 74) 43 25 (some 74)) 75) 43 26 (some 75)) 76) 43 28 (some 76)) 77) 43 29 (some 77)) 78) 43 30 (some 78)) 79) 43 38 (some 79)) 80) 43 39 (some 80)) 81) 82)) 182 [.ref 43] [.ref 82, .ref 43] (((((((((((((((((((((((((((((((((((((((((((h.clr 44).sI 43 4 (-1)).clr 45).clr 46).clr 47).clr 48).clr 49).clr 50).clr 51).clr 52).clr 53).clr 54).clr 55).clr 56).clr 57).clr 58).clr 59).clr 60).clr 61).sR 43 21 (some 51)).clr 62).clr 63).clr 64).clr 65).clr 66).clr 67).clr 68).clr 69).clr 70).clr 71).clr 72).sR 43 22 (some 62)).clr 73).clr 74).clr 75).clr 76).clr 77).clr 78).clr 79).clr 80).clr 81).sR 43 41 (some 81)).clr 82)
  refine q_putR (v := 82) 13 42 fp_X12_80 (Or.inl rfl) (Nat.le_of_ble_eq_true rfl) rfl rfl (by rfl) (Or.inr ⟨_, rfl⟩) dX12_init_182 ?_
  exact q_vret rfl (by decide) (by decide) dX12_init_185 rfl
