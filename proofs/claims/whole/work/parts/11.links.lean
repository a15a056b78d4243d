theorem fl_X0_9 : q_Fl RX0 9 1 0 := ⟨RX0, TX0, 12, rfl, by decide, by decide, Or.inl (q_in 129 (by decide +kernel) rfl)⟩
theorem fp_X0_9 : q_Fp RX0 9 1 0 "[I" := ⟨RX0, TX0, 12, rfl, by decide, by decide, rfl, Or.inr ⟨q_in 129 (by decide +kernel) rfl, rfl, rfl⟩⟩
theorem fl_X9_111 : q_Fl RX9 111 1 0 := ⟨RX0, TX0, 12, rfl, by decide, by decide, Or.inr ⟨"TokenCircuit", List.mem_of_getElem? (i := 130) (by decide +kernel)⟩⟩
theorem fl_X0_15 : q_Fl RX0 15 1 1 := ⟨RX0, TX0, 12, rfl, by decide, by decide, Or.inl (q_in 131 (by decide +kernel) rfl)⟩
theorem fp_X0_15 : q_Fp RX0 15 1 1 "[I" := ⟨RX0, TX0, 12, rfl, by decide, by decide, rfl, Or.inr ⟨q_in 131 (by decide +kernel) rfl, rfl, rfl⟩⟩
theorem fl_X9_95 : q_Fl RX9 95 1 1 := ⟨RX0, TX0, 12, rfl, by decide, by decide, Or.inr ⟨"TokenCircuit", List.mem_of_getElem? (i := 132) (by decide +kernel)⟩⟩
theorem fl_X0_18 : q_Fl RX0 18 1 2 := ⟨RX0, TX0, 12, rfl, by decide, by decide, Or.inl (q_in 133 (by decide +kernel) rfl)⟩
theorem fp_X0_18 : q_Fp RX0 18 1 2 "[I" := ⟨RX0, TX0, 12, rfl, by decide, by decide, rfl, Or.inr ⟨q_in 133 (by decide +kernel) rfl, rfl, rfl⟩⟩
theorem fl_X9_98 : q_Fl RX9 98 1 2 := ⟨RX0, TX0, 12, rfl, by decide, by decide, Or.inr ⟨"TokenCircuit", List.mem_of_getElem? (i := 134) (by decide +kernel)⟩⟩
theorem fl_X0_21 : q_Fl RX0 21 1 3 := ⟨RX0, TX0, 12, rfl, by decide, by decide, Or.inl (q_in 135 (by decide +kernel) rfl)⟩
theorem fp_X0_21 : q_Fp RX0 21 1 3 "[I" := ⟨RX0, TX0, 12, rfl, by decide, by decide, rfl, Or.inr ⟨q_in 135 (by decide +kernel) rfl, rfl, rfl⟩⟩
theorem fl_X9_105 : q_Fl RX9 105 1 3 := ⟨RX0, TX0, 12, rfl, by decide, by decide, Or.inr ⟨"TokenCircuit", List.mem_of_getElem? (i := 136) (by decide +kernel)⟩⟩
theorem fl_X0_24 : q_Fl RX0 24 1 4 := ⟨RX0, TX0, 12, rfl, by decide, by decide, Or.inl (q_in 137 (by decide +kernel) rfl)⟩
theorem fp_X0_24 : q_Fp RX0 24 1 4 "[I" := ⟨RX0, TX0, 12, rfl, by decide, by decide, rfl, Or.inr ⟨q_in 137 (by decide +kernel) rfl, rfl, rfl⟩⟩
theorem fl_X0_27 : q_Fl RX0 27 1 5 := ⟨RX0, TX0, 12, rfl, by decide, by decide, Or.inl (q_in 138 (by decide +kernel) rfl)⟩
theorem fp_X0_27 : q_Fp RX0 27 1 5 "[I" := ⟨RX0, TX0, 12, rfl, by decide, by decide, rfl, Or.inr ⟨q_in 138 (by decide +kernel) rfl, rfl, rfl⟩⟩
theorem fl_X0_30 : q_Fl RX0 30 1 6 := ⟨RX0, TX0, 12, rfl, by decide, by decide, Or.inl (q_in 139 (by decide +kernel) rfl)⟩
theorem fp_X0_30 : q_Fp RX0 30 1 6 "I" := ⟨RX0, TX0, 12, rfl, by decide, by decide, rfl, Or.inl ⟨Or.inl (q_in 139 (by decide +kernel) rfl), rfl⟩⟩
theorem fl_X9_90 : q_Fl RX9 90 1 6 := ⟨RX0, TX0, 12, rfl, by decide, by decide, Or.inr ⟨"TokenCircuit", List.mem_of_getElem? (i := 140) (by decide +kernel)⟩⟩
theorem fp_X9_90 : q_Fp RX9 90 1 6 "I" := ⟨RX0, TX0, 12, rfl, by decide, by decide, rfl, Or.inl ⟨Or.inr ⟨"TokenCircuit", List.mem_of_getElem? (i := 140) (by decide +kernel)⟩, rfl⟩⟩
theorem fl_X0_34 : q_Fl RX0 34 1 7 := ⟨RX0, TX0, 12, rfl, by decide, by decide, Or.inl (q_in 141 (by decide +kernel) rfl)⟩
theorem fp_X0_34 : q_Fp RX0 34 1 7 "I" := ⟨RX0, TX0, 12, rfl, by decide, by decide, rfl, Or.inl ⟨Or.inl (q_in 141 (by decide +kernel) rfl), rfl⟩⟩
theorem fl_X0_37 : q_Fl RX0 37 1 8 := ⟨RX0, TX0, 12, rfl, by decide, by decide, Or.inl (q_in 142 (by decide +kernel) rfl)⟩
theorem fp_X0_37 : q_Fp RX0 37 1 8 "I" := ⟨RX0, TX0, 12, rfl, by decide, by decide, rfl, Or.inl ⟨Or.inl (q_in 142 (by decide +kernel) rfl), rfl⟩⟩
theorem fl_X2_102 : q_Fl RX2 102 1 8 := ⟨RX0, TX0, 12, rfl, by decide, by decide, Or.inr ⟨"TokenCircuit", List.mem_of_getElem? (i := 143) (by decide +kernel)⟩⟩
theorem fp_X2_102 : q_Fp RX2 102 1 8 "I" := ⟨RX0, TX0, 12, rfl, by decide, by decide, rfl, Or.inl ⟨Or.inr ⟨"TokenCircuit", List.mem_of_getElem? (i := 143) (by decide +kernel)⟩, rfl⟩⟩
theorem fl_X10_186 : q_Fl RX10 186 1 8 := ⟨RX0, TX0, 12, rfl, by decide, by decide, Or.inr ⟨"TokenCircuit", List.mem_of_getElem? (i := 144) (by decide +kernel)⟩⟩
theorem fp_X10_186 : q_Fp RX10 186 1 8 "I" := ⟨RX0, TX0, 12, rfl, by decide, by decide, rfl, Or.inl ⟨Or.inr ⟨"TokenCircuit", List.mem_of_getElem? (i := 144) (by decide +kernel)⟩, rfl⟩⟩
theorem fl_X0_40 : q_Fl RX0 40 1 9 := ⟨RX0, TX0, 12, rfl, by decide, by decide, Or.inl (q_in 145 (by decide +kernel) rfl)⟩
theorem fp_X0_40 : q_Fp RX0 40 1 9 "I" := ⟨RX0, TX0, 12, rfl, by decide, by decide, rfl, Or.inl ⟨Or.inl (q_in 145 (by decide +kernel) rfl), rfl⟩⟩
theorem fl_X10_117 : q_Fl RX10 117 1 9 := ⟨RX0, TX0, 12, rfl, by decide, by decide, Or.inr ⟨"TokenCircuit", List.mem_of_getElem? (i := 146) (by decide +kernel)⟩⟩
theorem fp_X10_117 : q_Fp RX10 117 1 9 "I" := ⟨RX0, TX0, 12, rfl, by decide, by decide, rfl, Or.inl ⟨Or.inr ⟨"TokenCircuit", List.mem_of_getElem? (i := 146) (by decide +kernel)⟩, rfl⟩⟩
theorem fl_X2_133 : q_Fl RX2 133 1 9 := ⟨RX0, TX0, 12, rfl, by decide, by decide, Or.inr ⟨"TokenCircuit", List.mem_of_getElem? (i := 147) (by decide +kernel)⟩⟩
theorem fp_X2_133 : q_Fp RX2 133 1 9 "I" := ⟨RX0, TX0, 12, rfl, by decide, by decide, rfl, Or.inl ⟨Or.inr ⟨"TokenCircuit", List.mem_of_getElem? (i := 147) (by decide +kernel)⟩, rfl⟩⟩
theorem fl_X0_43 : q_Fl RX0 43 1 10 := ⟨RX0, TX0, 12, rfl, by decide, by decide, Or.inl (q_in 148 (by decide +kernel) rfl)⟩
theorem fp_X0_43 : q_Fp RX0 43 1 10 "I" := ⟨RX0, TX0, 12, rfl, by decide, by decide, rfl, Or.inl ⟨Or.inl (q_in 148 (by decide +kernel) rfl), rfl⟩⟩
theorem fl_X2_136 : q_Fl RX2 136 1 10 := ⟨RX0, TX0, 12, rfl, by decide, by decide, Or.inr ⟨"TokenCircuit", List.mem_of_getElem? (i := 149) (by decide +kernel)⟩⟩
theorem fp_X2_136 : q_Fp RX2 136 1 10 "I" := ⟨RX0, TX0, 12, rfl, by decide, by decide, rfl, Or.inl ⟨Or.inr ⟨"TokenCircuit", List.mem_of_getElem? (i := 149) (by decide +kernel)⟩, rfl⟩⟩
theorem fl_X10_189 : q_Fl RX10 189 1 10 := ⟨RX0, TX0, 12, rfl, by decide, by decide, Or.inr ⟨"TokenCircuit", List.mem_of_getElem? (i := 150) (by decide +kernel)⟩⟩
theorem fp_X10_189 : q_Fp RX10 189 1 10 "I" := ⟨RX0, TX0, 12, rfl, by decide, by decide, rfl, Or.inl ⟨Or.inr ⟨"TokenCircuit", List.mem_of_getElem? (i := 150) (by decide +kernel)⟩, rfl⟩⟩
theorem fl_X0_46 : q_Fl RX0 46 1 11 := ⟨RX0, TX0, 12, rfl, by decide, by decide, Or.inl (q_in 151 (by decide +kernel) rfl)⟩
theorem fp_X0_46 : q_Fp RX0 46 1 11 "I" := ⟨RX0, TX0, 12, rfl, by decide, by decide, rfl, Or.inl ⟨Or.inl (q_in 151 (by decide +kernel) rfl), rfl⟩⟩
theorem fl_X10_192 : q_Fl RX10 192 1 11 := ⟨RX0, TX0, 12, rfl, by decide, by decide, Or.inr ⟨"TokenCircuit", List.mem_of_getElem? (i := 152) (by decide +kernel)⟩⟩
theorem fp_X10_192 : q_Fp RX10 192 1 11 "I" := ⟨RX0, TX0, 12, rfl, by decide, by decide, rfl, Or.inl ⟨Or.inr ⟨"TokenCircuit", List.mem_of_getElem? (i := 152) (by decide +kernel)⟩, rfl⟩⟩
theorem fl_X2_200 : q_Fl RX2 200 1 11 := ⟨RX0, TX0, 12, rfl, by decide, by decide, Or.inr ⟨"TokenCircuit", List.mem_of_getElem? (i := 153) (by decide +kernel)⟩⟩
theorem fp_X2_200 : q_Fp RX2 200 1 11 "I" := ⟨RX0, TX0, 12, rfl, by decide, by decide, rfl, Or.inl ⟨Or.inr ⟨"TokenCircuit", List.mem_of_getElem? (i := 153) (by decide +kernel)⟩, rfl⟩⟩
theorem fl_X7_9 : q_Fl RX7 9 8 0 := ⟨RX7, TX7, 2, rfl, by decide, by decide, Or.inl (q_in 186 (by decide +kernel) rfl)⟩
theorem fp_X7_9 : q_Fp RX7 9 8 0 "[B" := ⟨RX7, TX7, 2, rfl, by decide, by decide, rfl, Or.inr ⟨q_in 186 (by decide +kernel) rfl, rfl, rfl⟩⟩
theorem fl_X10_28 : q_Fl RX10 28 8 0 := ⟨RX7, TX7, 2, rfl, by decide, by decide, Or.inr ⟨"TokenCircuit", List.mem_of_getElem? (i := 187) (by decide +kernel)⟩⟩
theorem fl_X10_86 : q_Fl RX10 86 8 1 := ⟨RX7, TX7, 2, rfl, by decide, by decide, Or.inr ⟨"TokenCircuit", List.mem_of_getElem? (i := 188) (by decide +kernel)⟩⟩
theorem fp_X10_86 : q_Fp RX10 86 8 1 "I" := ⟨RX7, TX7, 2, rfl, by decide, by decide, rfl, Or.inl ⟨Or.inr ⟨"TokenCircuit", List.mem_of_getElem? (i := 188) (by decide +kernel)⟩, rfl⟩⟩
theorem fl_X7_15 : q_Fl RX7 15 8 1 := ⟨RX7, TX7, 2, rfl, by decide, by decide, Or.inl (q_in 189 (by decide +kernel) rfl)⟩
theorem fp_X7_15 : q_Fp RX7 15 8 1 "I" := ⟨RX7, TX7, 2, rfl, by decide, by decide, rfl, Or.inl ⟨Or.inl (q_in 189 (by decide +kernel) rfl), rfl⟩⟩
theorem fl_X8_9 : q_Fl RX8 9 9 0 := ⟨RX8, TX8, 7, rfl, by decide, by decide, Or.inl (q_in 202 (by decide +kernel) rfl)⟩
theorem fp_X8_9 : q_Fp RX8 9 9 0 "[I" := ⟨RX8, TX8, 7, rfl, by decide, by decide, rfl, Or.inr ⟨q_in 202 (by decide +kernel) rfl, rfl, rfl⟩⟩
theorem fl_X4_36 : q_Fl RX4 36 9 0 := ⟨RX8, TX8, 7, rfl, by decide, by decide, Or.inr ⟨"TokenCircuit", List.mem_of_getElem? (i := 203) (by decide +kernel)⟩⟩
theorem fl_X8_15 : q_Fl RX8 15 9 1 := ⟨RX8, TX8, 7, rfl, by decide, by decide, Or.inl (q_in 204 (by decide +kernel) rfl)⟩
theorem fp_X8_15 : q_Fp RX8 15 9 1 "[I" := ⟨RX8, TX8, 7, rfl, by decide, by decide, rfl, Or.inr ⟨q_in 204 (by decide +kernel) rfl, rfl, rfl⟩⟩
theorem fl_X4_43 : q_Fl RX4 43 9 1 := ⟨RX8, TX8, 7, rfl, by decide, by decide, Or.inr ⟨"TokenCircuit", List.mem_of_getElem? (i := 205) (by decide +kernel)⟩⟩
theorem fl_X8_18 : q_Fl RX8 18 9 2 := ⟨RX8, TX8, 7, rfl, by decide, by decide, Or.inl (q_in 206 (by decide +kernel) rfl)⟩
theorem fp_X8_18 : q_Fp RX8 18 9 2 "[J" := ⟨RX8, TX8, 7, rfl, by decide, by decide, rfl, Or.inr ⟨q_in 206 (by decide +kernel) rfl, rfl, rfl⟩⟩
theorem fl_X4_49 : q_Fl RX4 49 9 2 := ⟨RX8, TX8, 7, rfl, by decide, by decide, Or.inr ⟨"TokenCircuit", List.mem_of_getElem? (i := 207) (by decide +kernel)⟩⟩
theorem fl_X8_22 : q_Fl RX8 22 9 3 := ⟨RX8, TX8, 7, rfl, by decide, by decide, Or.inl (q_in 208 (by decide +kernel) rfl)⟩
theorem fp_X8_22 : q_Fp RX8 22 9 3 "[B" := ⟨RX8, TX8, 7, rfl, by decide, by decide, rfl, Or.inr ⟨q_in 208 (by decide +kernel) rfl, rfl, rfl⟩⟩
theorem fl_X8_26 : q_Fl RX8 26 9 4 := ⟨RX8, TX8, 7, rfl, by decide, by decide, Or.inl (q_in 209 (by decide +kernel) rfl)⟩
theorem fp_X8_26 : q_Fp RX8 26 9 4 "I" := ⟨RX8, TX8, 7, rfl, by decide, by decide, rfl, Or.inl ⟨Or.inl (q_in 209 (by decide +kernel) rfl), rfl⟩⟩
theorem fl_X8_30 : q_Fl RX8 30 9 5 := ⟨RX8, TX8, 7, rfl, by decide, by decide, Or.inl (q_in 210 (by decide +kernel) rfl)⟩
theorem fp_X8_30 : q_Fp RX8 30 9 5 "I" := ⟨RX8, TX8, 7, rfl, by decide, by decide, rfl, Or.inl ⟨Or.inl (q_in 210 (by decide +kernel) rfl), rfl⟩⟩
theorem fl_X8_33 : q_Fl RX8 33 9 6 := ⟨RX8, TX8, 7, rfl, by decide, by decide, Or.inl (q_in 211 (by decide +kernel) rfl)⟩
theorem fp_X8_33 : q_Fp RX8 33 9 6 "I" := ⟨RX8, TX8, 7, rfl, by decide, by decide, rfl, Or.inl ⟨Or.inl (q_in 211 (by decide +kernel) rfl), rfl⟩⟩
theorem fl_X4_31 : q_Fl RX4 31 9 6 := ⟨RX8, TX8, 7, rfl, by decide, by decide, Or.inr ⟨"TokenCircuit", List.mem_of_getElem? (i := 212) (by decide +kernel)⟩⟩
theorem fp_X4_31 : q_Fp RX4 31 9 6 "I" := ⟨RX8, TX8, 7, rfl, by decide, by decide, rfl, Or.inl ⟨Or.inr ⟨"TokenCircuit", List.mem_of_getElem? (i := 212) (by decide +kernel)⟩, rfl⟩⟩
theorem fl_X4_9 : q_Fl RX4 9 5 0 := ⟨RX4, TX4, 8, rfl, by decide, by decide, Or.inl (q_in 241 (by decide +kernel) rfl)⟩
theorem fp_X4_9 : q_Fp RX4 9 5 0 "LTokenCircuit$Tokens;" := ⟨RX4, TX4, 8, rfl, by decide, by decide, rfl, Or.inr ⟨q_in 241 (by decide +kernel) rfl, rfl, rfl⟩⟩
theorem fl_X4_25 : q_Fl RX4 25 5 1 := ⟨RX4, TX4, 8, rfl, by decide, by decide, Or.inl (q_in 242 (by decide +kernel) rfl)⟩
theorem fp_X4_25 : q_Fp RX4 25 5 1 "I" := ⟨RX4, TX4, 8, rfl, by decide, by decide, rfl, Or.inl ⟨Or.inl (q_in 242 (by decide +kernel) rfl), rfl⟩⟩
theorem fl_X4_15 : q_Fl RX4 15 5 2 := ⟨RX4, TX4, 8, rfl, by decide, by decide, Or.inl (q_in 243 (by decide +kernel) rfl)⟩
theorem fp_X4_15 : q_Fp RX4 15 5 2 "I" := ⟨RX4, TX4, 8, rfl, by decide, by decide, rfl, Or.inl ⟨Or.inl (q_in 243 (by decide +kernel) rfl), rfl⟩⟩
theorem fl_X1_54 : q_Fl RX1 54 5 3 := ⟨RX4, TX4, 8, rfl, by decide, by decide, Or.inr ⟨"TokenCircuit", List.mem_of_getElem? (i := 244) (by decide +kernel)⟩⟩
theorem fp_X1_54 : q_Fp RX1 54 5 3 "I" := ⟨RX4, TX4, 8, rfl, by decide, by decide, rfl, Or.inl ⟨Or.inr ⟨"TokenCircuit", List.mem_of_getElem? (i := 244) (by decide +kernel)⟩, rfl⟩⟩
theorem fl_X4_40 : q_Fl RX4 40 5 3 := ⟨RX4, TX4, 8, rfl, by decide, by decide, Or.inl (q_in 245 (by decide +kernel) rfl)⟩
theorem fp_X4_40 : q_Fp RX4 40 5 3 "I" := ⟨RX4, TX4, 8, rfl, by decide, by decide, rfl, Or.inl ⟨Or.inl (q_in 245 (by decide +kernel) rfl), rfl⟩⟩
theorem fl_X2_81 : q_Fl RX2 81 5 3 := ⟨RX4, TX4, 8, rfl, by decide, by decide, Or.inr ⟨"TokenCircuit", List.mem_of_getElem? (i := 246) (by decide +kernel)⟩⟩
theorem fp_X2_81 : q_Fp RX2 81 5 3 "I" := ⟨RX4, TX4, 8, rfl, by decide, by decide, rfl, Or.inl ⟨Or.inr ⟨"TokenCircuit", List.mem_of_getElem? (i := 246) (by decide +kernel)⟩, rfl⟩⟩
theorem fl_X4_46 : q_Fl RX4 46 5 4 := ⟨RX4, TX4, 8, rfl, by decide, by decide, Or.inl (q_in 247 (by decide +kernel) rfl)⟩
theorem fp_X4_46 : q_Fp RX4 46 5 4 "I" := ⟨RX4, TX4, 8, rfl, by decide, by decide, rfl, Or.inl ⟨Or.inl (q_in 247 (by decide +kernel) rfl), rfl⟩⟩
theorem fl_X1_83 : q_Fl RX1 83 5 4 := ⟨RX4, TX4, 8, rfl, by decide, by decide, Or.inr ⟨"TokenCircuit", List.mem_of_getElem? (i := 248) (by decide +kernel)⟩⟩
theorem fp_X1_83 : q_Fp RX1 83 5 4 "I" := ⟨RX4, TX4, 8, rfl, by decide, by decide, rfl, Or.inl ⟨Or.inr ⟨"TokenCircuit", List.mem_of_getElem? (i := 248) (by decide +kernel)⟩, rfl⟩⟩
theorem fl_X2_121 : q_Fl RX2 121 5 4 := ⟨RX4, TX4, 8, rfl, by decide, by decide, Or.inr ⟨"TokenCircuit", List.mem_of_getElem? (i := 249) (by decide +kernel)⟩⟩
theorem fp_X2_121 : q_Fp RX2 121 5 4 "I" := ⟨RX4, TX4, 8, rfl, by decide, by decide, rfl, Or.inl ⟨Or.inr ⟨"TokenCircuit", List.mem_of_getElem? (i := 249) (by decide +kernel)⟩, rfl⟩⟩
theorem fl_X4_53 : q_Fl RX4 53 5 5 := ⟨RX4, TX4, 8, rfl, by decide, by decide, Or.inl (q_in 250 (by decide +kernel) rfl)⟩
theorem fp_X4_53 : q_Fp RX4 53 5 5 "J" := ⟨RX4, TX4, 8, rfl, by decide, by decide, rfl, Or.inl ⟨Or.inl (q_in 250 (by decide +kernel) rfl), rfl⟩⟩
theorem fl_X1_86 : q_Fl RX1 86 5 5 := ⟨RX4, TX4, 8, rfl, by decide, by decide, Or.inr ⟨"TokenCircuit", List.mem_of_getElem? (i := 251) (by decide +kernel)⟩⟩
theorem fp_X1_86 : q_Fp RX1 86 5 5 "J" := ⟨RX4, TX4, 8, rfl, by decide, by decide, rfl, Or.inl ⟨Or.inr ⟨"TokenCircuit", List.mem_of_getElem? (i := 251) (by decide +kernel)⟩, rfl⟩⟩
theorem fl_X2_118 : q_Fl RX2 118 5 5 := ⟨RX4, TX4, 8, rfl, by decide, by decide, Or.inr ⟨"TokenCircuit", List.mem_of_getElem? (i := 252) (by decide +kernel)⟩⟩
theorem fp_X2_118 : q_Fp RX2 118 5 5 "J" := ⟨RX4, TX4, 8, rfl, by decide, by decide, rfl, Or.inl ⟨Or.inr ⟨"TokenCircuit", List.mem_of_getElem? (i := 252) (by decide +kernel)⟩, rfl⟩⟩
theorem fl_X2_40 : q_Fl RX2 40 5 6 := ⟨RX4, TX4, 8, rfl, by decide, by decide, Or.inr ⟨"TokenCircuit", List.mem_of_getElem? (i := 253) (by decide +kernel)⟩⟩
theorem fp_X2_40 : q_Fp RX2 40 5 6 "I" := ⟨RX4, TX4, 8, rfl, by decide, by decide, rfl, Or.inl ⟨Or.inr ⟨"TokenCircuit", List.mem_of_getElem? (i := 253) (by decide +kernel)⟩, rfl⟩⟩
theorem fl_X4_19 : q_Fl RX4 19 5 6 := ⟨RX4, TX4, 8, rfl, by decide, by decide, Or.inl (q_in 254 (by decide +kernel) rfl)⟩
theorem fp_X4_19 : q_Fp RX4 19 5 6 "I" := ⟨RX4, TX4, 8, rfl, by decide, by decide, rfl, Or.inl ⟨Or.inl (q_in 254 (by decide +kernel) rfl), rfl⟩⟩
theorem fl_X4_22 : q_Fl RX4 22 5 7 := ⟨RX4, TX4, 8, rfl, by decide, by decide, Or.inl (q_in 255 (by decide +kernel) rfl)⟩
theorem fp_X4_22 : q_Fp RX4 22 5 7 "I" := ⟨RX4, TX4, 8, rfl, by decide, by decide, rfl, Or.inl ⟨Or.inl (q_in 255 (by decide +kernel) rfl), rfl⟩⟩
theorem fl_X2_44 : q_Fl RX2 44 5 7 := ⟨RX4, TX4, 8, rfl, by decide, by decide, Or.inr ⟨"TokenCircuit", List.mem_of_getElem? (i := 256) (by decide +kernel)⟩⟩
theorem fp_X2_44 : q_Fp RX2 44 5 7 "I" := ⟨RX4, TX4, 8, rfl, by decide, by decide, rfl, Or.inl ⟨Or.inr ⟨"TokenCircuit", List.mem_of_getElem? (i := 256) (by decide +kernel)⟩, rfl⟩⟩
theorem fl_X5_9 : q_Fl RX5 9 6 0 := ⟨RX5, TX5, 4, rfl, by decide, by decide, Or.inl (q_in 280 (by decide +kernel) rfl)⟩
theorem fp_X5_9 : q_Fp RX5 9 6 0 "[J" := ⟨RX5, TX5, 4, rfl, by decide, by decide, rfl, Or.inr ⟨q_in 280 (by decide +kernel) rfl, rfl, rfl⟩⟩
theorem fl_X5_15 : q_Fl RX5 15 6 1 := ⟨RX5, TX5, 4, rfl, by decide, by decide, Or.inl (q_in 281 (by decide +kernel) rfl)⟩
theorem fp_X5_15 : q_Fp RX5 15 6 1 "[I" := ⟨RX5, TX5, 4, rfl, by decide, by decide, rfl, Or.inr ⟨q_in 281 (by decide +kernel) rfl, rfl, rfl⟩⟩
theorem fl_X5_19 : q_Fl RX5 19 6 2 := ⟨RX5, TX5, 4, rfl, by decide, by decide, Or.inl (q_in 282 (by decide +kernel) rfl)⟩
theorem fp_X5_19 : q_Fp RX5 19 6 2 "[I" := ⟨RX5, TX5, 4, rfl, by decide, by decide, rfl, Or.inr ⟨q_in 282 (by decide +kernel) rfl, rfl, rfl⟩⟩
theorem fl_X5_22 : q_Fl RX5 22 6 3 := ⟨RX5, TX5, 4, rfl, by decide, by decide, Or.inl (q_in 283 (by decide +kernel) rfl)⟩
theorem fp_X5_22 : q_Fp RX5 22 6 3 "I" := ⟨RX5, TX5, 4, rfl, by decide, by decide, rfl, Or.inl ⟨Or.inl (q_in 283 (by decide +kernel) rfl), rfl⟩⟩
theorem fl_X2_55 : q_Fl RX2 55 6 3 := ⟨RX5, TX5, 4, rfl, by decide, by decide, Or.inr ⟨"TokenCircuit", List.mem_of_getElem? (i := 284) (by decide +kernel)⟩⟩
theorem fp_X2_55 : q_Fp RX2 55 6 3 "I" := ⟨RX5, TX5, 4, rfl, by decide, by decide, rfl, Or.inl ⟨Or.inr ⟨"TokenCircuit", List.mem_of_getElem? (i := 284) (by decide +kernel)⟩, rfl⟩⟩
theorem fl_X1_21 : q_Fl RX1 21 2 0 := ⟨RX1, TX1, 10, rfl, by decide, by decide, Or.inl (q_in 300 (by decide +kernel) rfl)⟩
theorem fp_X1_21 : q_Fp RX1 21 2 0 "LTokenCircuit$Reading;" := ⟨RX1, TX1, 10, rfl, by decide, by decide, rfl, Or.inr ⟨q_in 300 (by decide +kernel) rfl, rfl, rfl⟩⟩
theorem fl_X1_25 : q_Fl RX1 25 2 1 := ⟨RX1, TX1, 10, rfl, by decide, by decide, Or.inl (q_in 301 (by decide +kernel) rfl)⟩
theorem fp_X1_25 : q_Fp RX1 25 2 1 "LTokenCircuit$Sight;" := ⟨RX1, TX1, 10, rfl, by decide, by decide, rfl, Or.inr ⟨q_in 301 (by decide +kernel) rfl, rfl, rfl⟩⟩
theorem fl_X1_9 : q_Fl RX1 9 2 2 := ⟨RX1, TX1, 10, rfl, by decide, by decide, Or.inl (q_in 302 (by decide +kernel) rfl)⟩
theorem fp_X1_9 : q_Fp RX1 9 2 2 "[I" := ⟨RX1, TX1, 10, rfl, by decide, by decide, rfl, Or.inr ⟨q_in 302 (by decide +kernel) rfl, rfl, rfl⟩⟩
theorem fl_X1_15 : q_Fl RX1 15 2 3 := ⟨RX1, TX1, 10, rfl, by decide, by decide, Or.inl (q_in 303 (by decide +kernel) rfl)⟩
theorem fp_X1_15 : q_Fp RX1 15 2 3 "[I" := ⟨RX1, TX1, 10, rfl, by decide, by decide, rfl, Or.inr ⟨q_in 303 (by decide +kernel) rfl, rfl, rfl⟩⟩
theorem fl_X1_18 : q_Fl RX1 18 2 4 := ⟨RX1, TX1, 10, rfl, by decide, by decide, Or.inl (q_in 304 (by decide +kernel) rfl)⟩
theorem fp_X1_18 : q_Fp RX1 18 2 4 "[I" := ⟨RX1, TX1, 10, rfl, by decide, by decide, rfl, Or.inr ⟨q_in 304 (by decide +kernel) rfl, rfl, rfl⟩⟩
theorem fl_X1_29 : q_Fl RX1 29 2 5 := ⟨RX1, TX1, 10, rfl, by decide, by decide, Or.inl (q_in 305 (by decide +kernel) rfl)⟩
theorem fp_X1_29 : q_Fp RX1 29 2 5 "LTokenCircuit$Circuit;" := ⟨RX1, TX1, 10, rfl, by decide, by decide, rfl, Or.inl ⟨Or.inl (q_in 305 (by decide +kernel) rfl), rfl⟩⟩
theorem fl_X1_37 : q_Fl RX1 37 2 6 := ⟨RX1, TX1, 10, rfl, by decide, by decide, Or.inl (q_in 306 (by decide +kernel) rfl)⟩
theorem fp_X1_37 : q_Fp RX1 37 2 6 "I" := ⟨RX1, TX1, 10, rfl, by decide, by decide, rfl, Or.inl ⟨Or.inl (q_in 306 (by decide +kernel) rfl), rfl⟩⟩
theorem fl_X1_40 : q_Fl RX1 40 2 7 := ⟨RX1, TX1, 10, rfl, by decide, by decide, Or.inl (q_in 307 (by decide +kernel) rfl)⟩
theorem fp_X1_40 : q_Fp RX1 40 2 7 "I" := ⟨RX1, TX1, 10, rfl, by decide, by decide, rfl, Or.inl ⟨Or.inl (q_in 307 (by decide +kernel) rfl), rfl⟩⟩
theorem fl_X1_33 : q_Fl RX1 33 2 8 := ⟨RX1, TX1, 10, rfl, by decide, by decide, Or.inl (q_in 308 (by decide +kernel) rfl)⟩
theorem fp_X1_33 : q_Fp RX1 33 2 8 "I" := ⟨RX1, TX1, 10, rfl, by decide, by decide, rfl, Or.inl ⟨Or.inl (q_in 308 (by decide +kernel) rfl), rfl⟩⟩
theorem fl_X1_43 : q_Fl RX1 43 2 9 := ⟨RX1, TX1, 10, rfl, by decide, by decide, Or.inl (q_in 309 (by decide +kernel) rfl)⟩
theorem fp_X1_43 : q_Fp RX1 43 2 9 "Z" := ⟨RX1, TX1, 10, rfl, by decide, by decide, rfl, Or.inl ⟨Or.inl (q_in 309 (by decide +kernel) rfl), rfl⟩⟩
theorem fl_X2_14 : q_Fl RX2 14 3 0 := ⟨RX2, TX2, 8, rfl, by decide, by decide, Or.inl (q_in 331 (by decide +kernel) rfl)⟩
theorem fp_X2_14 : q_Fp RX2 14 3 0 "LTokenCircuit$Reading;" := ⟨RX2, TX2, 8, rfl, by decide, by decide, rfl, Or.inr ⟨q_in 331 (by decide +kernel) rfl, rfl, rfl⟩⟩
theorem fl_X2_23 : q_Fl RX2 23 3 1 := ⟨RX2, TX2, 8, rfl, by decide, by decide, Or.inl (q_in 332 (by decide +kernel) rfl)⟩
theorem fp_X2_23 : q_Fp RX2 23 3 1 "LTokenCircuit$Sight;" := ⟨RX2, TX2, 8, rfl, by decide, by decide, rfl, Or.inr ⟨q_in 332 (by decide +kernel) rfl, rfl, rfl⟩⟩
theorem fl_X2_32 : q_Fl RX2 32 3 2 := ⟨RX2, TX2, 8, rfl, by decide, by decide, Or.inl (q_in 333 (by decide +kernel) rfl)⟩
theorem fp_X2_32 : q_Fp RX2 32 3 2 "LTokenCircuit$Formula;" := ⟨RX2, TX2, 8, rfl, by decide, by decide, rfl, Or.inr ⟨q_in 333 (by decide +kernel) rfl, rfl, rfl⟩⟩
theorem fl_X2_36 : q_Fl RX2 36 3 3 := ⟨RX2, TX2, 8, rfl, by decide, by decide, Or.inl (q_in 334 (by decide +kernel) rfl)⟩
theorem fp_X2_36 : q_Fp RX2 36 3 3 "LTokenCircuit$Circuit;" := ⟨RX2, TX2, 8, rfl, by decide, by decide, rfl, Or.inl ⟨Or.inl (q_in 334 (by decide +kernel) rfl), rfl⟩⟩
theorem fl_X2_61 : q_Fl RX2 61 3 4 := ⟨RX2, TX2, 8, rfl, by decide, by decide, Or.inl (q_in 335 (by decide +kernel) rfl)⟩
theorem fp_X2_61 : q_Fp RX2 61 3 4 "I" := ⟨RX2, TX2, 8, rfl, by decide, by decide, rfl, Or.inl ⟨Or.inl (q_in 335 (by decide +kernel) rfl), rfl⟩⟩
theorem fl_X2_64 : q_Fl RX2 64 3 5 := ⟨RX2, TX2, 8, rfl, by decide, by decide, Or.inl (q_in 336 (by decide +kernel) rfl)⟩
theorem fp_X2_64 : q_Fp RX2 64 3 5 "I" := ⟨RX2, TX2, 8, rfl, by decide, by decide, rfl, Or.inl ⟨Or.inl (q_in 336 (by decide +kernel) rfl), rfl⟩⟩
theorem fl_X2_94 : q_Fl RX2 94 3 6 := ⟨RX2, TX2, 8, rfl, by decide, by decide, Or.inl (q_in 337 (by decide +kernel) rfl)⟩
theorem fp_X2_94 : q_Fp RX2 94 3 6 "J" := ⟨RX2, TX2, 8, rfl, by decide, by decide, rfl, Or.inl ⟨Or.inl (q_in 337 (by decide +kernel) rfl), rfl⟩⟩
theorem fl_X2_105 : q_Fl RX2 105 3 7 := ⟨RX2, TX2, 8, rfl, by decide, by decide, Or.inl (q_in 338 (by decide +kernel) rfl)⟩
theorem fp_X2_105 : q_Fp RX2 105 3 7 "I" := ⟨RX2, TX2, 8, rfl, by decide, by decide, rfl, Or.inl ⟨Or.inl (q_in 338 (by decide +kernel) rfl), rfl⟩⟩
theorem fl_X3_9 : q_Fl RX3 9 4 0 := ⟨RX3, TX3, 10, rfl, by decide, by decide, Or.inl (q_in 362 (by decide +kernel) rfl)⟩
theorem fp_X3_9 : q_Fp RX3 9 4 0 "[I" := ⟨RX3, TX3, 10, rfl, by decide, by decide, rfl, Or.inr ⟨q_in 362 (by decide +kernel) rfl, rfl, rfl⟩⟩
theorem fl_X3_15 : q_Fl RX3 15 4 1 := ⟨RX3, TX3, 10, rfl, by decide, by decide, Or.inl (q_in 363 (by decide +kernel) rfl)⟩
theorem fp_X3_15 : q_Fp RX3 15 4 1 "[I" := ⟨RX3, TX3, 10, rfl, by decide, by decide, rfl, Or.inr ⟨q_in 363 (by decide +kernel) rfl, rfl, rfl⟩⟩
theorem fl_X3_18 : q_Fl RX3 18 4 2 := ⟨RX3, TX3, 10, rfl, by decide, by decide, Or.inl (q_in 364 (by decide +kernel) rfl)⟩
theorem fp_X3_18 : q_Fp RX3 18 4 2 "[I" := ⟨RX3, TX3, 10, rfl, by decide, by decide, rfl, Or.inr ⟨q_in 364 (by decide +kernel) rfl, rfl, rfl⟩⟩
theorem fl_X10_177 : q_Fl RX10 177 4 2 := ⟨RX3, TX3, 10, rfl, by decide, by decide, Or.inr ⟨"TokenCircuit", List.mem_of_getElem? (i := 365) (by decide +kernel)⟩⟩
theorem fl_X3_21 : q_Fl RX3 21 4 3 := ⟨RX3, TX3, 10, rfl, by decide, by decide, Or.inl (q_in 366 (by decide +kernel) rfl)⟩
theorem fp_X3_21 : q_Fp RX3 21 4 3 "[I" := ⟨RX3, TX3, 10, rfl, by decide, by decide, rfl, Or.inr ⟨q_in 366 (by decide +kernel) rfl, rfl, rfl⟩⟩
theorem fl_X10_180 : q_Fl RX10 180 4 3 := ⟨RX3, TX3, 10, rfl, by decide, by decide, Or.inr ⟨"TokenCircuit", List.mem_of_getElem? (i := 367) (by decide +kernel)⟩⟩
theorem fl_X3_24 : q_Fl RX3 24 4 4 := ⟨RX3, TX3, 10, rfl, by decide, by decide, Or.inl (q_in 368 (by decide +kernel) rfl)⟩
theorem fp_X3_24 : q_Fp RX3 24 4 4 "[I" := ⟨RX3, TX3, 10, rfl, by decide, by decide, rfl, Or.inr ⟨q_in 368 (by decide +kernel) rfl, rfl, rfl⟩⟩
theorem fl_X10_183 : q_Fl RX10 183 4 4 := ⟨RX3, TX3, 10, rfl, by decide, by decide, Or.inr ⟨"TokenCircuit", List.mem_of_getElem? (i := 369) (by decide +kernel)⟩⟩
theorem fl_X3_43 : q_Fl RX3 43 4 5 := ⟨RX3, TX3, 10, rfl, by decide, by decide, Or.inl (q_in 370 (by decide +kernel) rfl)⟩
theorem fp_X3_43 : q_Fp RX3 43 4 5 "I" := ⟨RX3, TX3, 10, rfl, by decide, by decide, rfl, Or.inl ⟨Or.inl (q_in 370 (by decide +kernel) rfl), rfl⟩⟩
theorem fl_X10_141 : q_Fl RX10 141 4 5 := ⟨RX3, TX3, 10, rfl, by decide, by decide, Or.inr ⟨"TokenCircuit", List.mem_of_getElem? (i := 371) (by decide +kernel)⟩⟩
theorem fp_X10_141 : q_Fp RX10 141 4 5 "I" := ⟨RX3, TX3, 10, rfl, by decide, by decide, rfl, Or.inl ⟨Or.inr ⟨"TokenCircuit", List.mem_of_getElem? (i := 371) (by decide +kernel)⟩, rfl⟩⟩
theorem fl_X3_33 : q_Fl RX3 33 4 6 := ⟨RX3, TX3, 10, rfl, by decide, by decide, Or.inl (q_in 372 (by decide +kernel) rfl)⟩
theorem fp_X3_33 : q_Fp RX3 33 4 6 "I" := ⟨RX3, TX3, 10, rfl, by decide, by decide, rfl, Or.inl ⟨Or.inl (q_in 372 (by decide +kernel) rfl), rfl⟩⟩
theorem fl_X10_166 : q_Fl RX10 166 4 6 := ⟨RX3, TX3, 10, rfl, by decide, by decide, Or.inr ⟨"TokenCircuit", List.mem_of_getElem? (i := 373) (by decide +kernel)⟩⟩
theorem fp_X10_166 : q_Fp RX10 166 4 6 "I" := ⟨RX3, TX3, 10, rfl, by decide, by decide, rfl, Or.inl ⟨Or.inr ⟨"TokenCircuit", List.mem_of_getElem? (i := 373) (by decide +kernel)⟩, rfl⟩⟩
theorem fl_X3_37 : q_Fl RX3 37 4 7 := ⟨RX3, TX3, 10, rfl, by decide, by decide, Or.inl (q_in 374 (by decide +kernel) rfl)⟩
theorem fp_X3_37 : q_Fp RX3 37 4 7 "I" := ⟨RX3, TX3, 10, rfl, by decide, by decide, rfl, Or.inl ⟨Or.inl (q_in 374 (by decide +kernel) rfl), rfl⟩⟩
theorem fl_X10_169 : q_Fl RX10 169 4 7 := ⟨RX3, TX3, 10, rfl, by decide, by decide, Or.inr ⟨"TokenCircuit", List.mem_of_getElem? (i := 375) (by decide +kernel)⟩⟩
theorem fp_X10_169 : q_Fp RX10 169 4 7 "I" := ⟨RX3, TX3, 10, rfl, by decide, by decide, rfl, Or.inl ⟨Or.inr ⟨"TokenCircuit", List.mem_of_getElem? (i := 375) (by decide +kernel)⟩, rfl⟩⟩
theorem fl_X3_40 : q_Fl RX3 40 4 8 := ⟨RX3, TX3, 10, rfl, by decide, by decide, Or.inl (q_in 376 (by decide +kernel) rfl)⟩
theorem fp_X3_40 : q_Fp RX3 40 4 8 "I" := ⟨RX3, TX3, 10, rfl, by decide, by decide, rfl, Or.inl ⟨Or.inl (q_in 376 (by decide +kernel) rfl), rfl⟩⟩
theorem fl_X3_58 : q_Fl RX3 58 4 9 := ⟨RX3, TX3, 10, rfl, by decide, by decide, Or.inl (q_in 377 (by decide +kernel) rfl)⟩
theorem fp_X3_58 : q_Fp RX3 58 4 9 "I" := ⟨RX3, TX3, 10, rfl, by decide, by decide, rfl, Or.inl ⟨Or.inl (q_in 377 (by decide +kernel) rfl), rfl⟩⟩
theorem fl_X10_204 : q_Fl RX10 204 4 9 := ⟨RX3, TX3, 10, rfl, by decide, by decide, Or.inr ⟨"TokenCircuit", List.mem_of_getElem? (i := 378) (by decide +kernel)⟩⟩
theorem fp_X10_204 : q_Fp RX10 204 4 9 "I" := ⟨RX3, TX3, 10, rfl, by decide, by decide, rfl, Or.inl ⟨Or.inr ⟨"TokenCircuit", List.mem_of_getElem? (i := 378) (by decide +kernel)⟩, rfl⟩⟩
theorem fl_X6_7 : q_Fl RX6 7 7 0 := ⟨RX6, TX6, 2, rfl, by decide, by decide, Or.inl (q_in 406 (by decide +kernel) rfl)⟩
theorem fp_X6_7 : q_Fp RX6 7 7 0 "J" := ⟨RX6, TX6, 2, rfl, by decide, by decide, rfl, Or.inl ⟨Or.inl (q_in 406 (by decide +kernel) rfl), rfl⟩⟩
theorem fl_X10_147 : q_Fl RX10 147 7 0 := ⟨RX6, TX6, 2, rfl, by decide, by decide, Or.inr ⟨"TokenCircuit", List.mem_of_getElem? (i := 407) (by decide +kernel)⟩⟩
theorem fp_X10_147 : q_Fp RX10 147 7 0 "J" := ⟨RX6, TX6, 2, rfl, by decide, by decide, rfl, Or.inl ⟨Or.inr ⟨"TokenCircuit", List.mem_of_getElem? (i := 407) (by decide +kernel)⟩, rfl⟩⟩
theorem fl_X9_43 : q_Fl RX9 43 7 1 := ⟨RX6, TX6, 2, rfl, by decide, by decide, Or.inr ⟨"TokenCircuit", List.mem_of_getElem? (i := 408) (by decide +kernel)⟩⟩
theorem fp_X9_43 : q_Fp RX9 43 7 1 "I" := ⟨RX6, TX6, 2, rfl, by decide, by decide, rfl, Or.inl ⟨Or.inr ⟨"TokenCircuit", List.mem_of_getElem? (i := 408) (by decide +kernel)⟩, rfl⟩⟩
theorem fl_X6_13 : q_Fl RX6 13 7 1 := ⟨RX6, TX6, 2, rfl, by decide, by decide, Or.inl (q_in 409 (by decide +kernel) rfl)⟩
theorem fp_X6_13 : q_Fp RX6 13 7 1 "I" := ⟨RX6, TX6, 2, rfl, by decide, by decide, rfl, Or.inl ⟨Or.inl (q_in 409 (by decide +kernel) rfl), rfl⟩⟩
theorem fl_X10_172 : q_Fl RX10 172 7 1 := ⟨RX6, TX6, 2, rfl, by decide, by decide, Or.inr ⟨"TokenCircuit", List.mem_of_getElem? (i := 410) (by decide +kernel)⟩⟩
theorem fp_X10_172 : q_Fp RX10 172 7 1 "I" := ⟨RX6, TX6, 2, rfl, by decide, by decide, rfl, Or.inl ⟨Or.inr ⟨"TokenCircuit", List.mem_of_getElem? (i := 410) (by decide +kernel)⟩, rfl⟩⟩
theorem fl_X9_22 : q_Fl RX9 22 10 0 := ⟨RX9, TX9, 15, rfl, by decide, by decide, Or.inl (q_in 422 (by decide +kernel) rfl)⟩
theorem fp_X9_22 : q_Fp RX9 22 10 0 "LTokenCircuit$Memory;" := ⟨RX9, TX9, 15, rfl, by decide, by decide, rfl, Or.inr ⟨q_in 422 (by decide +kernel) rfl, rfl, rfl⟩⟩
theorem fl_X9_26 : q_Fl RX9 26 10 1 := ⟨RX9, TX9, 15, rfl, by decide, by decide, Or.inl (q_in 423 (by decide +kernel) rfl)⟩
theorem fp_X9_26 : q_Fp RX9 26 10 1 "LTokenCircuit$Taker;" := ⟨RX9, TX9, 15, rfl, by decide, by decide, rfl, Or.inr ⟨q_in 423 (by decide +kernel) rfl, rfl, rfl⟩⟩
theorem fl_X9_9 : q_Fl RX9 9 10 2 := ⟨RX9, TX9, 15, rfl, by decide, by decide, Or.inl (q_in 424 (by decide +kernel) rfl)⟩
theorem fp_X9_9 : q_Fp RX9 9 10 2 "[I" := ⟨RX9, TX9, 15, rfl, by decide, by decide, rfl, Or.inr ⟨q_in 424 (by decide +kernel) rfl, rfl, rfl⟩⟩
theorem fl_X9_15 : q_Fl RX9 15 10 3 := ⟨RX9, TX9, 15, rfl, by decide, by decide, Or.inl (q_in 425 (by decide +kernel) rfl)⟩
theorem fp_X9_15 : q_Fp RX9 15 10 3 "[Z" := ⟨RX9, TX9, 15, rfl, by decide, by decide, rfl, Or.inr ⟨q_in 425 (by decide +kernel) rfl, rfl, rfl⟩⟩
theorem fl_X9_19 : q_Fl RX9 19 10 4 := ⟨RX9, TX9, 15, rfl, by decide, by decide, Or.inl (q_in 426 (by decide +kernel) rfl)⟩
theorem fp_X9_19 : q_Fp RX9 19 10 4 "[I" := ⟨RX9, TX9, 15, rfl, by decide, by decide, rfl, Or.inr ⟨q_in 426 (by decide +kernel) rfl, rfl, rfl⟩⟩
theorem fl_X9_30 : q_Fl RX9 30 10 5 := ⟨RX9, TX9, 15, rfl, by decide, by decide, Or.inl (q_in 427 (by decide +kernel) rfl)⟩
theorem fp_X9_30 : q_Fp RX9 30 10 5 "LTokenCircuit$Circuit;" := ⟨RX9, TX9, 15, rfl, by decide, by decide, rfl, Or.inl ⟨Or.inl (q_in 427 (by decide +kernel) rfl), rfl⟩⟩
theorem fl_X9_60 : q_Fl RX9 60 10 6 := ⟨RX9, TX9, 15, rfl, by decide, by decide, Or.inl (q_in 428 (by decide +kernel) rfl)⟩
theorem fp_X9_60 : q_Fp RX9 60 10 6 "I" := ⟨RX9, TX9, 15, rfl, by decide, by decide, rfl, Or.inl ⟨Or.inl (q_in 428 (by decide +kernel) rfl), rfl⟩⟩
theorem fl_X9_87 : q_Fl RX9 87 10 7 := ⟨RX9, TX9, 15, rfl, by decide, by decide, Or.inl (q_in 429 (by decide +kernel) rfl)⟩
theorem fp_X9_87 : q_Fp RX9 87 10 7 "I" := ⟨RX9, TX9, 15, rfl, by decide, by decide, rfl, Or.inl ⟨Or.inl (q_in 429 (by decide +kernel) rfl), rfl⟩⟩
theorem fl_X9_84 : q_Fl RX9 84 10 8 := ⟨RX9, TX9, 15, rfl, by decide, by decide, Or.inl (q_in 430 (by decide +kernel) rfl)⟩
theorem fp_X9_84 : q_Fp RX9 84 10 8 "I" := ⟨RX9, TX9, 15, rfl, by decide, by decide, rfl, Or.inl ⟨Or.inl (q_in 430 (by decide +kernel) rfl), rfl⟩⟩
theorem fl_X9_34 : q_Fl RX9 34 10 9 := ⟨RX9, TX9, 15, rfl, by decide, by decide, Or.inl (q_in 431 (by decide +kernel) rfl)⟩
theorem fp_X9_34 : q_Fp RX9 34 10 9 "I" := ⟨RX9, TX9, 15, rfl, by decide, by decide, rfl, Or.inl ⟨Or.inl (q_in 431 (by decide +kernel) rfl), rfl⟩⟩
theorem fl_X10_157 : q_Fl RX10 157 10 9 := ⟨RX9, TX9, 15, rfl, by decide, by decide, Or.inr ⟨"TokenCircuit", List.mem_of_getElem? (i := 432) (by decide +kernel)⟩⟩
theorem fp_X10_157 : q_Fp RX10 157 10 9 "I" := ⟨RX9, TX9, 15, rfl, by decide, by decide, rfl, Or.inl ⟨Or.inr ⟨"TokenCircuit", List.mem_of_getElem? (i := 432) (by decide +kernel)⟩, rfl⟩⟩
theorem fl_X9_48 : q_Fl RX9 48 10 10 := ⟨RX9, TX9, 15, rfl, by decide, by decide, Or.inl (q_in 433 (by decide +kernel) rfl)⟩
theorem fp_X9_48 : q_Fp RX9 48 10 10 "I" := ⟨RX9, TX9, 15, rfl, by decide, by decide, rfl, Or.inl ⟨Or.inl (q_in 433 (by decide +kernel) rfl), rfl⟩⟩
theorem fl_X10_160 : q_Fl RX10 160 10 10 := ⟨RX9, TX9, 15, rfl, by decide, by decide, Or.inr ⟨"TokenCircuit", List.mem_of_getElem? (i := 434) (by decide +kernel)⟩⟩
theorem fp_X10_160 : q_Fp RX10 160 10 10 "I" := ⟨RX9, TX9, 15, rfl, by decide, by decide, rfl, Or.inl ⟨Or.inr ⟨"TokenCircuit", List.mem_of_getElem? (i := 434) (by decide +kernel)⟩, rfl⟩⟩
theorem fl_X9_51 : q_Fl RX9 51 10 11 := ⟨RX9, TX9, 15, rfl, by decide, by decide, Or.inl (q_in 435 (by decide +kernel) rfl)⟩
theorem fp_X9_51 : q_Fp RX9 51 10 11 "I" := ⟨RX9, TX9, 15, rfl, by decide, by decide, rfl, Or.inl ⟨Or.inl (q_in 435 (by decide +kernel) rfl), rfl⟩⟩
theorem fl_X10_163 : q_Fl RX10 163 10 11 := ⟨RX9, TX9, 15, rfl, by decide, by decide, Or.inr ⟨"TokenCircuit", List.mem_of_getElem? (i := 436) (by decide +kernel)⟩⟩
theorem fp_X10_163 : q_Fp RX10 163 10 11 "I" := ⟨RX9, TX9, 15, rfl, by decide, by decide, rfl, Or.inl ⟨Or.inr ⟨"TokenCircuit", List.mem_of_getElem? (i := 436) (by decide +kernel)⟩, rfl⟩⟩
theorem fl_X9_81 : q_Fl RX9 81 10 12 := ⟨RX9, TX9, 15, rfl, by decide, by decide, Or.inl (q_in 437 (by decide +kernel) rfl)⟩
theorem fp_X9_81 : q_Fp RX9 81 10 12 "I" := ⟨RX9, TX9, 15, rfl, by decide, by decide, rfl, Or.inl ⟨Or.inl (q_in 437 (by decide +kernel) rfl), rfl⟩⟩
theorem fl_X10_195 : q_Fl RX10 195 10 12 := ⟨RX9, TX9, 15, rfl, by decide, by decide, Or.inr ⟨"TokenCircuit", List.mem_of_getElem? (i := 438) (by decide +kernel)⟩⟩
theorem fp_X10_195 : q_Fp RX10 195 10 12 "I" := ⟨RX9, TX9, 15, rfl, by decide, by decide, rfl, Or.inl ⟨Or.inr ⟨"TokenCircuit", List.mem_of_getElem? (i := 438) (by decide +kernel)⟩, rfl⟩⟩
theorem fl_X9_78 : q_Fl RX9 78 10 13 := ⟨RX9, TX9, 15, rfl, by decide, by decide, Or.inl (q_in 439 (by decide +kernel) rfl)⟩
theorem fp_X9_78 : q_Fp RX9 78 10 13 "I" := ⟨RX9, TX9, 15, rfl, by decide, by decide, rfl, Or.inl ⟨Or.inl (q_in 439 (by decide +kernel) rfl), rfl⟩⟩
theorem fl_X10_198 : q_Fl RX10 198 10 13 := ⟨RX9, TX9, 15, rfl, by decide, by decide, Or.inr ⟨"TokenCircuit", List.mem_of_getElem? (i := 440) (by decide +kernel)⟩⟩
theorem fp_X10_198 : q_Fp RX10 198 10 13 "I" := ⟨RX9, TX9, 15, rfl, by decide, by decide, rfl, Or.inl ⟨Or.inr ⟨"TokenCircuit", List.mem_of_getElem? (i := 440) (by decide +kernel)⟩, rfl⟩⟩
theorem fl_X9_153 : q_Fl RX9 153 10 14 := ⟨RX9, TX9, 15, rfl, by decide, by decide, Or.inl (q_in 441 (by decide +kernel) rfl)⟩
theorem fp_X9_153 : q_Fp RX9 153 10 14 "I" := ⟨RX9, TX9, 15, rfl, by decide, by decide, rfl, Or.inl ⟨Or.inl (q_in 441 (by decide +kernel) rfl), rfl⟩⟩
theorem fl_X10_201 : q_Fl RX10 201 10 14 := ⟨RX9, TX9, 15, rfl, by decide, by decide, Or.inr ⟨"TokenCircuit", List.mem_of_getElem? (i := 442) (by decide +kernel)⟩⟩
theorem fp_X10_201 : q_Fp RX10 201 10 14 "I" := ⟨RX9, TX9, 15, rfl, by decide, by decide, rfl, Or.inl ⟨Or.inr ⟨"TokenCircuit", List.mem_of_getElem? (i := 442) (by decide +kernel)⟩, rfl⟩⟩
theorem fl_X10_22 : q_Fl RX10 22 11 0 := ⟨RX10, TX10, 12, rfl, by decide, by decide, Or.inl (q_in 475 (by decide +kernel) rfl)⟩
theorem fp_X10_22 : q_Fp RX10 22 11 0 "LTokenCircuit$Tape;" := ⟨RX10, TX10, 12, rfl, by decide, by decide, rfl, Or.inr ⟨q_in 475 (by decide +kernel) rfl, rfl, rfl⟩⟩
theorem fl_X10_35 : q_Fl RX10 35 11 1 := ⟨RX10, TX10, 12, rfl, by decide, by decide, Or.inl (q_in 476 (by decide +kernel) rfl)⟩
theorem fp_X10_35 : q_Fp RX10 35 11 1 "LTokenCircuit$Tokens;" := ⟨RX10, TX10, 12, rfl, by decide, by decide, rfl, Or.inr ⟨q_in 476 (by decide +kernel) rfl, rfl, rfl⟩⟩
theorem fl_X10_44 : q_Fl RX10 44 11 2 := ⟨RX10, TX10, 12, rfl, by decide, by decide, Or.inl (q_in 477 (by decide +kernel) rfl)⟩
theorem fp_X10_44 : q_Fp RX10 44 11 2 "LTokenCircuit$Maker;" := ⟨RX10, TX10, 12, rfl, by decide, by decide, rfl, Or.inr ⟨q_in 477 (by decide +kernel) rfl, rfl, rfl⟩⟩
theorem fl_X10_51 : q_Fl RX10 51 11 3 := ⟨RX10, TX10, 12, rfl, by decide, by decide, Or.inl (q_in 478 (by decide +kernel) rfl)⟩
theorem fp_X10_51 : q_Fp RX10 51 11 3 "LTokenCircuit$Memory;" := ⟨RX10, TX10, 12, rfl, by decide, by decide, rfl, Or.inr ⟨q_in 478 (by decide +kernel) rfl, rfl, rfl⟩⟩
theorem fl_X10_58 : q_Fl RX10 58 11 4 := ⟨RX10, TX10, 12, rfl, by decide, by decide, Or.inl (q_in 479 (by decide +kernel) rfl)⟩
theorem fp_X10_58 : q_Fp RX10 58 11 4 "LTokenCircuit$Taker;" := ⟨RX10, TX10, 12, rfl, by decide, by decide, rfl, Or.inr ⟨q_in 479 (by decide +kernel) rfl, rfl, rfl⟩⟩
theorem fl_X10_67 : q_Fl RX10 67 11 5 := ⟨RX10, TX10, 12, rfl, by decide, by decide, Or.inl (q_in 480 (by decide +kernel) rfl)⟩
theorem fp_X10_67 : q_Fp RX10 67 11 5 "LTokenCircuit$Work;" := ⟨RX10, TX10, 12, rfl, by decide, by decide, rfl, Or.inr ⟨q_in 480 (by decide +kernel) rfl, rfl, rfl⟩⟩
theorem fl_X10_71 : q_Fl RX10 71 11 6 := ⟨RX10, TX10, 12, rfl, by decide, by decide, Or.inl (q_in 481 (by decide +kernel) rfl)⟩
theorem fp_X10_71 : q_Fp RX10 71 11 6 "[I" := ⟨RX10, TX10, 12, rfl, by decide, by decide, rfl, Or.inr ⟨q_in 481 (by decide +kernel) rfl, rfl, rfl⟩⟩
theorem fl_X10_12 : q_Fl RX10 12 11 7 := ⟨RX10, TX10, 12, rfl, by decide, by decide, Or.inl (q_in 482 (by decide +kernel) rfl)⟩
theorem fp_X10_12 : q_Fp RX10 12 11 7 "LTokenCircuit$Circuit;" := ⟨RX10, TX10, 12, rfl, by decide, by decide, rfl, Or.inl ⟨Or.inl (q_in 482 (by decide +kernel) rfl), rfl⟩⟩
theorem fl_X10_16 : q_Fl RX10 16 11 8 := ⟨RX10, TX10, 12, rfl, by decide, by decide, Or.inl (q_in 483 (by decide +kernel) rfl)⟩
theorem fp_X10_16 : q_Fp RX10 16 11 8 "LTokenCircuit$Circuit;" := ⟨RX10, TX10, 12, rfl, by decide, by decide, rfl, Or.inl ⟨Or.inl (q_in 483 (by decide +kernel) rfl), rfl⟩⟩
theorem fl_X10_75 : q_Fl RX10 75 11 9 := ⟨RX10, TX10, 12, rfl, by decide, by decide, Or.inl (q_in 484 (by decide +kernel) rfl)⟩
theorem fp_X10_75 : q_Fp RX10 75 11 9 "Z" := ⟨RX10, TX10, 12, rfl, by decide, by decide, rfl, Or.inl ⟨Or.inl (q_in 484 (by decide +kernel) rfl), rfl⟩⟩
theorem fl_X10_79 : q_Fl RX10 79 11 10 := ⟨RX10, TX10, 12, rfl, by decide, by decide, Or.inl (q_in 485 (by decide +kernel) rfl)⟩
theorem fp_X10_79 : q_Fp RX10 79 11 10 "I" := ⟨RX10, TX10, 12, rfl, by decide, by decide, rfl, Or.inl ⟨Or.inl (q_in 485 (by decide +kernel) rfl), rfl⟩⟩
theorem fl_X10_83 : q_Fl RX10 83 11 11 := ⟨RX10, TX10, 12, rfl, by decide, by decide, Or.inl (q_in 486 (by decide +kernel) rfl)⟩
theorem fp_X10_83 : q_Fp RX10 83 11 11 "I" := ⟨RX10, TX10, 12, rfl, by decide, by decide, rfl, Or.inl ⟨Or.inl (q_in 486 (by decide +kernel) rfl), rfl⟩⟩
theorem fl_X11_42 : q_Fl RX11 42 12 0 := ⟨RX11, TX11, 18, rfl, by decide, by decide, Or.inl (q_in 1145 (by decide +kernel) rfl)⟩
theorem fp_X11_42 : q_Fp RX11 42 12 0 "I" := ⟨RX11, TX11, 18, rfl, by decide, by decide, rfl, Or.inl ⟨Or.inl (q_in 1145 (by decide +kernel) rfl), rfl⟩⟩
theorem fl_X12_225 : q_Fl RX12 225 12 0 := ⟨RX11, TX11, 18, rfl, by decide, by decide, Or.inr ⟨"TokenCircuitModel", List.mem_of_getElem? (i := 1146) (by decide +kernel)⟩⟩
theorem fp_X12_225 : q_Fp RX12 225 12 0 "I" := ⟨RX11, TX11, 18, rfl, by decide, by decide, rfl, Or.inl ⟨Or.inr ⟨"TokenCircuitModel", List.mem_of_getElem? (i := 1146) (by decide +kernel)⟩, rfl⟩⟩
theorem fl_X11_46 : q_Fl RX11 46 12 1 := ⟨RX11, TX11, 18, rfl, by decide, by decide, Or.inl (q_in 1147 (by decide +kernel) rfl)⟩
theorem fp_X11_46 : q_Fp RX11 46 12 1 "I" := ⟨RX11, TX11, 18, rfl, by decide, by decide, rfl, Or.inl ⟨Or.inl (q_in 1147 (by decide +kernel) rfl), rfl⟩⟩
theorem fl_X12_231 : q_Fl RX12 231 12 1 := ⟨RX11, TX11, 18, rfl, by decide, by decide, Or.inr ⟨"TokenCircuitModel", List.mem_of_getElem? (i := 1148) (by decide +kernel)⟩⟩
theorem fp_X12_231 : q_Fp RX12 231 12 1 "I" := ⟨RX11, TX11, 18, rfl, by decide, by decide, rfl, Or.inl ⟨Or.inr ⟨"TokenCircuitModel", List.mem_of_getElem? (i := 1148) (by decide +kernel)⟩, rfl⟩⟩
theorem fl_X11_49 : q_Fl RX11 49 12 2 := ⟨RX11, TX11, 18, rfl, by decide, by decide, Or.inl (q_in 1149 (by decide +kernel) rfl)⟩
theorem fp_X11_49 : q_Fp RX11 49 12 2 "I" := ⟨RX11, TX11, 18, rfl, by decide, by decide, rfl, Or.inl ⟨Or.inl (q_in 1149 (by decide +kernel) rfl), rfl⟩⟩
theorem fl_X12_237 : q_Fl RX12 237 12 2 := ⟨RX11, TX11, 18, rfl, by decide, by decide, Or.inr ⟨"TokenCircuitModel", List.mem_of_getElem? (i := 1150) (by decide +kernel)⟩⟩
theorem fp_X12_237 : q_Fp RX12 237 12 2 "I" := ⟨RX11, TX11, 18, rfl, by decide, by decide, rfl, Or.inl ⟨Or.inr ⟨"TokenCircuitModel", List.mem_of_getElem? (i := 1150) (by decide +kernel)⟩, rfl⟩⟩
theorem fl_X11_52 : q_Fl RX11 52 12 3 := ⟨RX11, TX11, 18, rfl, by decide, by decide, Or.inl (q_in 1151 (by decide +kernel) rfl)⟩
theorem fp_X11_52 : q_Fp RX11 52 12 3 "I" := ⟨RX11, TX11, 18, rfl, by decide, by decide, rfl, Or.inl ⟨Or.inl (q_in 1151 (by decide +kernel) rfl), rfl⟩⟩
theorem fl_X12_289 : q_Fl RX12 289 12 3 := ⟨RX11, TX11, 18, rfl, by decide, by decide, Or.inr ⟨"TokenCircuitModel", List.mem_of_getElem? (i := 1152) (by decide +kernel)⟩⟩
theorem fp_X12_289 : q_Fp RX12 289 12 3 "I" := ⟨RX11, TX11, 18, rfl, by decide, by decide, rfl, Or.inl ⟨Or.inr ⟨"TokenCircuitModel", List.mem_of_getElem? (i := 1152) (by decide +kernel)⟩, rfl⟩⟩
theorem fl_X11_55 : q_Fl RX11 55 12 4 := ⟨RX11, TX11, 18, rfl, by decide, by decide, Or.inl (q_in 1153 (by decide +kernel) rfl)⟩
theorem fp_X11_55 : q_Fp RX11 55 12 4 "I" := ⟨RX11, TX11, 18, rfl, by decide, by decide, rfl, Or.inl ⟨Or.inl (q_in 1153 (by decide +kernel) rfl), rfl⟩⟩
theorem fl_X12_310 : q_Fl RX12 310 12 4 := ⟨RX11, TX11, 18, rfl, by decide, by decide, Or.inr ⟨"TokenCircuitModel", List.mem_of_getElem? (i := 1154) (by decide +kernel)⟩⟩
theorem fp_X12_310 : q_Fp RX12 310 12 4 "I" := ⟨RX11, TX11, 18, rfl, by decide, by decide, rfl, Or.inl ⟨Or.inr ⟨"TokenCircuitModel", List.mem_of_getElem? (i := 1154) (by decide +kernel)⟩, rfl⟩⟩
theorem fl_X11_58 : q_Fl RX11 58 12 5 := ⟨RX11, TX11, 18, rfl, by decide, by decide, Or.inl (q_in 1155 (by decide +kernel) rfl)⟩
theorem fp_X11_58 : q_Fp RX11 58 12 5 "I" := ⟨RX11, TX11, 18, rfl, by decide, by decide, rfl, Or.inl ⟨Or.inl (q_in 1155 (by decide +kernel) rfl), rfl⟩⟩
theorem fl_X12_246 : q_Fl RX12 246 12 5 := ⟨RX11, TX11, 18, rfl, by decide, by decide, Or.inr ⟨"TokenCircuitModel", List.mem_of_getElem? (i := 1156) (by decide +kernel)⟩⟩
theorem fp_X12_246 : q_Fp RX12 246 12 5 "I" := ⟨RX11, TX11, 18, rfl, by decide, by decide, rfl, Or.inl ⟨Or.inr ⟨"TokenCircuitModel", List.mem_of_getElem? (i := 1156) (by decide +kernel)⟩, rfl⟩⟩
theorem fl_X11_61 : q_Fl RX11 61 12 6 := ⟨RX11, TX11, 18, rfl, by decide, by decide, Or.inl (q_in 1157 (by decide +kernel) rfl)⟩
theorem fp_X11_61 : q_Fp RX11 61 12 6 "I" := ⟨RX11, TX11, 18, rfl, by decide, by decide, rfl, Or.inl ⟨Or.inl (q_in 1157 (by decide +kernel) rfl), rfl⟩⟩
theorem fl_X12_298 : q_Fl RX12 298 12 6 := ⟨RX11, TX11, 18, rfl, by decide, by decide, Or.inr ⟨"TokenCircuitModel", List.mem_of_getElem? (i := 1158) (by decide +kernel)⟩⟩
theorem fp_X12_298 : q_Fp RX12 298 12 6 "I" := ⟨RX11, TX11, 18, rfl, by decide, by decide, rfl, Or.inl ⟨Or.inr ⟨"TokenCircuitModel", List.mem_of_getElem? (i := 1158) (by decide +kernel)⟩, rfl⟩⟩
theorem fl_X11_64 : q_Fl RX11 64 12 7 := ⟨RX11, TX11, 18, rfl, by decide, by decide, Or.inl (q_in 1159 (by decide +kernel) rfl)⟩
theorem fp_X11_64 : q_Fp RX11 64 12 7 "I" := ⟨RX11, TX11, 18, rfl, by decide, by decide, rfl, Or.inl ⟨Or.inl (q_in 1159 (by decide +kernel) rfl), rfl⟩⟩
theorem fl_X12_222 : q_Fl RX12 222 12 7 := ⟨RX11, TX11, 18, rfl, by decide, by decide, Or.inr ⟨"TokenCircuitModel", List.mem_of_getElem? (i := 1160) (by decide +kernel)⟩⟩
theorem fp_X12_222 : q_Fp RX12 222 12 7 "I" := ⟨RX11, TX11, 18, rfl, by decide, by decide, rfl, Or.inl ⟨Or.inr ⟨"TokenCircuitModel", List.mem_of_getElem? (i := 1160) (by decide +kernel)⟩, rfl⟩⟩
theorem fl_X11_9 : q_Fl RX11 9 12 8 := ⟨RX11, TX11, 18, rfl, by decide, by decide, Or.inl (q_in 1161 (by decide +kernel) rfl)⟩
theorem fp_X11_9 : q_Fp RX11 9 12 8 "[I" := ⟨RX11, TX11, 18, rfl, by decide, by decide, rfl, Or.inr ⟨q_in 1161 (by decide +kernel) rfl, rfl, rfl⟩⟩
theorem fl_X12_228 : q_Fl RX12 228 12 8 := ⟨RX11, TX11, 18, rfl, by decide, by decide, Or.inr ⟨"TokenCircuitModel", List.mem_of_getElem? (i := 1162) (by decide +kernel)⟩⟩
theorem fl_X11_15 : q_Fl RX11 15 12 9 := ⟨RX11, TX11, 18, rfl, by decide, by decide, Or.inl (q_in 1163 (by decide +kernel) rfl)⟩
theorem fp_X11_15 : q_Fp RX11 15 12 9 "[I" := ⟨RX11, TX11, 18, rfl, by decide, by decide, rfl, Or.inr ⟨q_in 1163 (by decide +kernel) rfl, rfl, rfl⟩⟩
theorem fl_X12_249 : q_Fl RX12 249 12 9 := ⟨RX11, TX11, 18, rfl, by decide, by decide, Or.inr ⟨"TokenCircuitModel", List.mem_of_getElem? (i := 1164) (by decide +kernel)⟩⟩
theorem fl_X11_18 : q_Fl RX11 18 12 10 := ⟨RX11, TX11, 18, rfl, by decide, by decide, Or.inl (q_in 1165 (by decide +kernel) rfl)⟩
theorem fp_X11_18 : q_Fp RX11 18 12 10 "[I" := ⟨RX11, TX11, 18, rfl, by decide, by decide, rfl, Or.inr ⟨q_in 1165 (by decide +kernel) rfl, rfl, rfl⟩⟩
theorem fl_X12_252 : q_Fl RX12 252 12 10 := ⟨RX11, TX11, 18, rfl, by decide, by decide, Or.inr ⟨"TokenCircuitModel", List.mem_of_getElem? (i := 1166) (by decide +kernel)⟩⟩
theorem fl_X11_21 : q_Fl RX11 21 12 11 := ⟨RX11, TX11, 18, rfl, by decide, by decide, Or.inl (q_in 1167 (by decide +kernel) rfl)⟩
theorem fp_X11_21 : q_Fp RX11 21 12 11 "[I" := ⟨RX11, TX11, 18, rfl, by decide, by decide, rfl, Or.inr ⟨q_in 1167 (by decide +kernel) rfl, rfl, rfl⟩⟩
theorem fl_X12_264 : q_Fl RX12 264 12 11 := ⟨RX11, TX11, 18, rfl, by decide, by decide, Or.inr ⟨"TokenCircuitModel", List.mem_of_getElem? (i := 1168) (by decide +kernel)⟩⟩
theorem fl_X11_24 : q_Fl RX11 24 12 12 := ⟨RX11, TX11, 18, rfl, by decide, by decide, Or.inl (q_in 1169 (by decide +kernel) rfl)⟩
theorem fp_X11_24 : q_Fp RX11 24 12 12 "[I" := ⟨RX11, TX11, 18, rfl, by decide, by decide, rfl, Or.inr ⟨q_in 1169 (by decide +kernel) rfl, rfl, rfl⟩⟩
theorem fl_X12_286 : q_Fl RX12 286 12 12 := ⟨RX11, TX11, 18, rfl, by decide, by decide, Or.inr ⟨"TokenCircuitModel", List.mem_of_getElem? (i := 1170) (by decide +kernel)⟩⟩
theorem fl_X11_27 : q_Fl RX11 27 12 13 := ⟨RX11, TX11, 18, rfl, by decide, by decide, Or.inl (q_in 1171 (by decide +kernel) rfl)⟩
theorem fp_X11_27 : q_Fp RX11 27 12 13 "[I" := ⟨RX11, TX11, 18, rfl, by decide, by decide, rfl, Or.inr ⟨q_in 1171 (by decide +kernel) rfl, rfl, rfl⟩⟩
theorem fl_X12_255 : q_Fl RX12 255 12 13 := ⟨RX11, TX11, 18, rfl, by decide, by decide, Or.inr ⟨"TokenCircuitModel", List.mem_of_getElem? (i := 1172) (by decide +kernel)⟩⟩
theorem fl_X11_30 : q_Fl RX11 30 12 14 := ⟨RX11, TX11, 18, rfl, by decide, by decide, Or.inl (q_in 1173 (by decide +kernel) rfl)⟩
theorem fp_X11_30 : q_Fp RX11 30 12 14 "[I" := ⟨RX11, TX11, 18, rfl, by decide, by decide, rfl, Or.inr ⟨q_in 1173 (by decide +kernel) rfl, rfl, rfl⟩⟩
theorem fl_X12_258 : q_Fl RX12 258 12 14 := ⟨RX11, TX11, 18, rfl, by decide, by decide, Or.inr ⟨"TokenCircuitModel", List.mem_of_getElem? (i := 1174) (by decide +kernel)⟩⟩
theorem fl_X11_33 : q_Fl RX11 33 12 15 := ⟨RX11, TX11, 18, rfl, by decide, by decide, Or.inl (q_in 1175 (by decide +kernel) rfl)⟩
theorem fp_X11_33 : q_Fp RX11 33 12 15 "[I" := ⟨RX11, TX11, 18, rfl, by decide, by decide, rfl, Or.inr ⟨q_in 1175 (by decide +kernel) rfl, rfl, rfl⟩⟩
theorem fl_X12_243 : q_Fl RX12 243 12 15 := ⟨RX11, TX11, 18, rfl, by decide, by decide, Or.inr ⟨"TokenCircuitModel", List.mem_of_getElem? (i := 1176) (by decide +kernel)⟩⟩
theorem fl_X11_36 : q_Fl RX11 36 12 16 := ⟨RX11, TX11, 18, rfl, by decide, by decide, Or.inl (q_in 1177 (by decide +kernel) rfl)⟩
theorem fp_X11_36 : q_Fp RX11 36 12 16 "[I" := ⟨RX11, TX11, 18, rfl, by decide, by decide, rfl, Or.inr ⟨q_in 1177 (by decide +kernel) rfl, rfl, rfl⟩⟩
theorem fl_X12_304 : q_Fl RX12 304 12 16 := ⟨RX11, TX11, 18, rfl, by decide, by decide, Or.inr ⟨"TokenCircuitModel", List.mem_of_getElem? (i := 1178) (by decide +kernel)⟩⟩
theorem fl_X11_39 : q_Fl RX11 39 12 17 := ⟨RX11, TX11, 18, rfl, by decide, by decide, Or.inl (q_in 1179 (by decide +kernel) rfl)⟩
theorem fp_X11_39 : q_Fp RX11 39 12 17 "[I" := ⟨RX11, TX11, 18, rfl, by decide, by decide, rfl, Or.inr ⟨q_in 1179 (by decide +kernel) rfl, rfl, rfl⟩⟩
theorem fl_X12_307 : q_Fl RX12 307 12 17 := ⟨RX11, TX11, 18, rfl, by decide, by decide, Or.inr ⟨"TokenCircuitModel", List.mem_of_getElem? (i := 1180) (by decide +kernel)⟩⟩
theorem fl_X12_83 : q_Fl RX12 83 13 0 := ⟨RX12, TX12, 43, rfl, by decide, by decide, Or.inl (q_in 1218 (by decide +kernel) rfl)⟩
theorem fp_X12_83 : q_Fp RX12 83 13 0 "I" := ⟨RX12, TX12, 43, rfl, by decide, by decide, rfl, Or.inl ⟨Or.inl (q_in 1218 (by decide +kernel) rfl), rfl⟩⟩
theorem fl_X12_9 : q_Fl RX12 9 13 1 := ⟨RX12, TX12, 43, rfl, by decide, by decide, Or.inl (q_in 1219 (by decide +kernel) rfl)⟩
theorem fp_X12_9 : q_Fp RX12 9 13 1 "[B" := ⟨RX12, TX12, 43, rfl, by decide, by decide, rfl, Or.inr ⟨q_in 1219 (by decide +kernel) rfl, rfl, rfl⟩⟩
theorem fl_X12_86 : q_Fl RX12 86 13 2 := ⟨RX12, TX12, 43, rfl, by decide, by decide, Or.inl (q_in 1220 (by decide +kernel) rfl)⟩
theorem fp_X12_86 : q_Fp RX12 86 13 2 "I" := ⟨RX12, TX12, 43, rfl, by decide, by decide, rfl, Or.inl ⟨Or.inl (q_in 1220 (by decide +kernel) rfl), rfl⟩⟩
theorem fl_X12_333 : q_Fl RX12 333 13 3 := ⟨RX12, TX12, 43, rfl, by decide, by decide, Or.inl (q_in 1221 (by decide +kernel) rfl)⟩
theorem fp_X12_333 : q_Fp RX12 333 13 3 "I" := ⟨RX12, TX12, 43, rfl, by decide, by decide, rfl, Or.inl ⟨Or.inl (q_in 1221 (by decide +kernel) rfl), rfl⟩⟩
theorem fl_X12_13 : q_Fl RX12 13 13 4 := ⟨RX12, TX12, 43, rfl, by decide, by decide, Or.inl (q_in 1222 (by decide +kernel) rfl)⟩
theorem fp_X12_13 : q_Fp RX12 13 13 4 "I" := ⟨RX12, TX12, 43, rfl, by decide, by decide, rfl, Or.inl ⟨Or.inl (q_in 1222 (by decide +kernel) rfl), rfl⟩⟩
theorem fl_X12_17 : q_Fl RX12 17 13 5 := ⟨RX12, TX12, 43, rfl, by decide, by decide, Or.inl (q_in 1223 (by decide +kernel) rfl)⟩
theorem fp_X12_17 : q_Fp RX12 17 13 5 "[I" := ⟨RX12, TX12, 43, rfl, by decide, by decide, rfl, Or.inr ⟨q_in 1223 (by decide +kernel) rfl, rfl, rfl⟩⟩
theorem fl_X12_346 : q_Fl RX12 346 13 6 := ⟨RX12, TX12, 43, rfl, by decide, by decide, Or.inl (q_in 1224 (by decide +kernel) rfl)⟩
theorem fp_X12_346 : q_Fp RX12 346 13 6 "I" := ⟨RX12, TX12, 43, rfl, by decide, by decide, rfl, Or.inl ⟨Or.inl (q_in 1224 (by decide +kernel) rfl), rfl⟩⟩
theorem fl_X12_349 : q_Fl RX12 349 13 7 := ⟨RX12, TX12, 43, rfl, by decide, by decide, Or.inl (q_in 1225 (by decide +kernel) rfl)⟩
theorem fp_X12_349 : q_Fp RX12 349 13 7 "J" := ⟨RX12, TX12, 43, rfl, by decide, by decide, rfl, Or.inl ⟨Or.inl (q_in 1225 (by decide +kernel) rfl), rfl⟩⟩
theorem fl_X12_21 : q_Fl RX12 21 13 8 := ⟨RX12, TX12, 43, rfl, by decide, by decide, Or.inl (q_in 1226 (by decide +kernel) rfl)⟩
theorem fp_X12_21 : q_Fp RX12 21 13 8 "[B" := ⟨RX12, TX12, 43, rfl, by decide, by decide, rfl, Or.inr ⟨q_in 1226 (by decide +kernel) rfl, rfl, rfl⟩⟩
theorem fl_X12_93 : q_Fl RX12 93 13 9 := ⟨RX12, TX12, 43, rfl, by decide, by decide, Or.inl (q_in 1227 (by decide +kernel) rfl)⟩
theorem fp_X12_93 : q_Fp RX12 93 13 9 "I" := ⟨RX12, TX12, 43, rfl, by decide, by decide, rfl, Or.inl ⟨Or.inl (q_in 1227 (by decide +kernel) rfl), rfl⟩⟩
theorem fl_X12_24 : q_Fl RX12 24 13 10 := ⟨RX12, TX12, 43, rfl, by decide, by decide, Or.inl (q_in 1228 (by decide +kernel) rfl)⟩
theorem fp_X12_24 : q_Fp RX12 24 13 10 "[I" := ⟨RX12, TX12, 43, rfl, by decide, by decide, rfl, Or.inr ⟨q_in 1228 (by decide +kernel) rfl, rfl, rfl⟩⟩
theorem fl_X12_27 : q_Fl RX12 27 13 11 := ⟨RX12, TX12, 43, rfl, by decide, by decide, Or.inl (q_in 1229 (by decide +kernel) rfl)⟩
theorem fp_X12_27 : q_Fp RX12 27 13 11 "[I" := ⟨RX12, TX12, 43, rfl, by decide, by decide, rfl, Or.inr ⟨q_in 1229 (by decide +kernel) rfl, rfl, rfl⟩⟩
theorem fl_X12_30 : q_Fl RX12 30 13 12 := ⟨RX12, TX12, 43, rfl, by decide, by decide, Or.inl (q_in 1230 (by decide +kernel) rfl)⟩
theorem fp_X12_30 : q_Fp RX12 30 13 12 "[I" := ⟨RX12, TX12, 43, rfl, by decide, by decide, rfl, Or.inr ⟨q_in 1230 (by decide +kernel) rfl, rfl, rfl⟩⟩
theorem fl_X12_96 : q_Fl RX12 96 13 13 := ⟨RX12, TX12, 43, rfl, by decide, by decide, Or.inl (q_in 1231 (by decide +kernel) rfl)⟩
theorem fp_X12_96 : q_Fp RX12 96 13 13 "I" := ⟨RX12, TX12, 43, rfl, by decide, by decide, rfl, Or.inl ⟨Or.inl (q_in 1231 (by decide +kernel) rfl), rfl⟩⟩
theorem fl_X12_156 : q_Fl RX12 156 13 14 := ⟨RX12, TX12, 43, rfl, by decide, by decide, Or.inl (q_in 1232 (by decide +kernel) rfl)⟩
theorem fp_X12_156 : q_Fp RX12 156 13 14 "I" := ⟨RX12, TX12, 43, rfl, by decide, by decide, rfl, Or.inl ⟨Or.inl (q_in 1232 (by decide +kernel) rfl), rfl⟩⟩
theorem fl_X12_174 : q_Fl RX12 174 13 15 := ⟨RX12, TX12, 43, rfl, by decide, by decide, Or.inl (q_in 1233 (by decide +kernel) rfl)⟩
theorem fp_X12_174 : q_Fp RX12 174 13 15 "I" := ⟨RX12, TX12, 43, rfl, by decide, by decide, rfl, Or.inl ⟨Or.inl (q_in 1233 (by decide +kernel) rfl), rfl⟩⟩
theorem fl_X12_40 : q_Fl RX12 40 13 16 := ⟨RX12, TX12, 43, rfl, by decide, by decide, Or.inl (q_in 1234 (by decide +kernel) rfl)⟩
theorem fp_X12_40 : q_Fp RX12 40 13 16 "Ljava/lang/IllegalStateException;" := ⟨RX12, TX12, 43, rfl, by decide, by decide, rfl, Or.inr ⟨q_in 1234 (by decide +kernel) rfl, rfl, rfl⟩⟩
theorem fl_X12_153 : q_Fl RX12 153 13 17 := ⟨RX12, TX12, 43, rfl, by decide, by decide, Or.inl (q_in 1235 (by decide +kernel) rfl)⟩
theorem fp_X12_153 : q_Fp RX12 153 13 17 "I" := ⟨RX12, TX12, 43, rfl, by decide, by decide, rfl, Or.inl ⟨Or.inl (q_in 1235 (by decide +kernel) rfl), rfl⟩⟩
theorem fl_X12_159 : q_Fl RX12 159 13 18 := ⟨RX12, TX12, 43, rfl, by decide, by decide, Or.inl (q_in 1236 (by decide +kernel) rfl)⟩
theorem fp_X12_159 : q_Fp RX12 159 13 18 "I" := ⟨RX12, TX12, 43, rfl, by decide, by decide, rfl, Or.inl ⟨Or.inl (q_in 1236 (by decide +kernel) rfl), rfl⟩⟩
theorem fl_X12_162 : q_Fl RX12 162 13 19 := ⟨RX12, TX12, 43, rfl, by decide, by decide, Or.inl (q_in 1237 (by decide +kernel) rfl)⟩
theorem fp_X12_162 : q_Fp RX12 162 13 19 "I" := ⟨RX12, TX12, 43, rfl, by decide, by decide, rfl, Or.inl ⟨Or.inl (q_in 1237 (by decide +kernel) rfl), rfl⟩⟩
theorem fl_X12_165 : q_Fl RX12 165 13 20 := ⟨RX12, TX12, 43, rfl, by decide, by decide, Or.inl (q_in 1238 (by decide +kernel) rfl)⟩
theorem fp_X12_165 : q_Fp RX12 165 13 20 "I" := ⟨RX12, TX12, 43, rfl, by decide, by decide, rfl, Or.inl ⟨Or.inl (q_in 1238 (by decide +kernel) rfl), rfl⟩⟩
theorem fl_X12_46 : q_Fl RX12 46 13 21 := ⟨RX12, TX12, 43, rfl, by decide, by decide, Or.inl (q_in 1239 (by decide +kernel) rfl)⟩
theorem fp_X12_46 : q_Fp RX12 46 13 21 "LTokenCircuitModel$Program;" := ⟨RX12, TX12, 43, rfl, by decide, by decide, rfl, Or.inl ⟨Or.inl (q_in 1239 (by decide +kernel) rfl), rfl⟩⟩
theorem fl_X12_50 : q_Fl RX12 50 13 22 := ⟨RX12, TX12, 43, rfl, by decide, by decide, Or.inl (q_in 1240 (by decide +kernel) rfl)⟩
theorem fp_X12_50 : q_Fp RX12 50 13 22 "LTokenCircuitModel$Program;" := ⟨RX12, TX12, 43, rfl, by decide, by decide, rfl, Or.inl ⟨Or.inl (q_in 1240 (by decide +kernel) rfl), rfl⟩⟩
theorem fl_X12_336 : q_Fl RX12 336 13 23 := ⟨RX12, TX12, 43, rfl, by decide, by decide, Or.inl (q_in 1241 (by decide +kernel) rfl)⟩
theorem fp_X12_336 : q_Fp RX12 336 13 23 "Z" := ⟨RX12, TX12, 43, rfl, by decide, by decide, rfl, Or.inl ⟨Or.inl (q_in 1241 (by decide +kernel) rfl), rfl⟩⟩
theorem fl_X12_53 : q_Fl RX12 53 13 24 := ⟨RX12, TX12, 43, rfl, by decide, by decide, Or.inl (q_in 1242 (by decide +kernel) rfl)⟩
theorem fp_X12_53 : q_Fp RX12 53 13 24 "[I" := ⟨RX12, TX12, 43, rfl, by decide, by decide, rfl, Or.inr ⟨q_in 1242 (by decide +kernel) rfl, rfl, rfl⟩⟩
theorem fl_X12_56 : q_Fl RX12 56 13 25 := ⟨RX12, TX12, 43, rfl, by decide, by decide, Or.inl (q_in 1243 (by decide +kernel) rfl)⟩
theorem fp_X12_56 : q_Fp RX12 56 13 25 "[I" := ⟨RX12, TX12, 43, rfl, by decide, by decide, rfl, Or.inr ⟨q_in 1243 (by decide +kernel) rfl, rfl, rfl⟩⟩
theorem fl_X12_59 : q_Fl RX12 59 13 26 := ⟨RX12, TX12, 43, rfl, by decide, by decide, Or.inl (q_in 1244 (by decide +kernel) rfl)⟩
theorem fp_X12_59 : q_Fp RX12 59 13 26 "[I" := ⟨RX12, TX12, 43, rfl, by decide, by decide, rfl, Or.inr ⟨q_in 1244 (by decide +kernel) rfl, rfl, rfl⟩⟩
theorem fl_X12_183 : q_Fl RX12 183 13 27 := ⟨RX12, TX12, 43, rfl, by decide, by decide, Or.inl (q_in 1245 (by decide +kernel) rfl)⟩
theorem fp_X12_183 : q_Fp RX12 183 13 27 "I" := ⟨RX12, TX12, 43, rfl, by decide, by decide, rfl, Or.inl ⟨Or.inl (q_in 1245 (by decide +kernel) rfl), rfl⟩⟩
theorem fl_X12_62 : q_Fl RX12 62 13 28 := ⟨RX12, TX12, 43, rfl, by decide, by decide, Or.inl (q_in 1246 (by decide +kernel) rfl)⟩
theorem fp_X12_62 : q_Fp RX12 62 13 28 "[I" := ⟨RX12, TX12, 43, rfl, by decide, by decide, rfl, Or.inr ⟨q_in 1246 (by decide +kernel) rfl, rfl, rfl⟩⟩
theorem fl_X12_65 : q_Fl RX12 65 13 29 := ⟨RX12, TX12, 43, rfl, by decide, by decide, Or.inl (q_in 1247 (by decide +kernel) rfl)⟩
theorem fp_X12_65 : q_Fp RX12 65 13 29 "[I" := ⟨RX12, TX12, 43, rfl, by decide, by decide, rfl, Or.inr ⟨q_in 1247 (by decide +kernel) rfl, rfl, rfl⟩⟩
theorem fl_X12_68 : q_Fl RX12 68 13 30 := ⟨RX12, TX12, 43, rfl, by decide, by decide, Or.inl (q_in 1248 (by decide +kernel) rfl)⟩
theorem fp_X12_68 : q_Fp RX12 68 13 30 "[I" := ⟨RX12, TX12, 43, rfl, by decide, by decide, rfl, Or.inr ⟨q_in 1248 (by decide +kernel) rfl, rfl, rfl⟩⟩
theorem fl_X12_340 : q_Fl RX12 340 13 31 := ⟨RX12, TX12, 43, rfl, by decide, by decide, Or.inl (q_in 1249 (by decide +kernel) rfl)⟩
theorem fp_X12_340 : q_Fp RX12 340 13 31 "Z" := ⟨RX12, TX12, 43, rfl, by decide, by decide, rfl, Or.inl ⟨Or.inl (q_in 1249 (by decide +kernel) rfl), rfl⟩⟩
theorem fl_X12_409 : q_Fl RX12 409 13 32 := ⟨RX12, TX12, 43, rfl, by decide, by decide, Or.inl (q_in 1250 (by decide +kernel) rfl)⟩
theorem fp_X12_409 : q_Fp RX12 409 13 32 "I" := ⟨RX12, TX12, 43, rfl, by decide, by decide, rfl, Or.inl ⟨Or.inl (q_in 1250 (by decide +kernel) rfl), rfl⟩⟩
theorem fl_X12_396 : q_Fl RX12 396 13 33 := ⟨RX12, TX12, 43, rfl, by decide, by decide, Or.inl (q_in 1251 (by decide +kernel) rfl)⟩
theorem fp_X12_396 : q_Fp RX12 396 13 33 "I" := ⟨RX12, TX12, 43, rfl, by decide, by decide, rfl, Or.inl ⟨Or.inl (q_in 1251 (by decide +kernel) rfl), rfl⟩⟩
theorem fl_X12_375 : q_Fl RX12 375 13 34 := ⟨RX12, TX12, 43, rfl, by decide, by decide, Or.inl (q_in 1252 (by decide +kernel) rfl)⟩
theorem fp_X12_375 : q_Fp RX12 375 13 34 "I" := ⟨RX12, TX12, 43, rfl, by decide, by decide, rfl, Or.inl ⟨Or.inl (q_in 1252 (by decide +kernel) rfl), rfl⟩⟩
theorem fl_X12_378 : q_Fl RX12 378 13 35 := ⟨RX12, TX12, 43, rfl, by decide, by decide, Or.inl (q_in 1253 (by decide +kernel) rfl)⟩
theorem fp_X12_378 : q_Fp RX12 378 13 35 "I" := ⟨RX12, TX12, 43, rfl, by decide, by decide, rfl, Or.inl ⟨Or.inl (q_in 1253 (by decide +kernel) rfl), rfl⟩⟩
theorem fl_X12_368 : q_Fl RX12 368 13 36 := ⟨RX12, TX12, 43, rfl, by decide, by decide, Or.inl (q_in 1254 (by decide +kernel) rfl)⟩
theorem fp_X12_368 : q_Fp RX12 368 13 36 "I" := ⟨RX12, TX12, 43, rfl, by decide, by decide, rfl, Or.inl ⟨Or.inl (q_in 1254 (by decide +kernel) rfl), rfl⟩⟩
theorem fl_X12_402 : q_Fl RX12 402 13 37 := ⟨RX12, TX12, 43, rfl, by decide, by decide, Or.inl (q_in 1255 (by decide +kernel) rfl)⟩
theorem fp_X12_402 : q_Fp RX12 402 13 37 "I" := ⟨RX12, TX12, 43, rfl, by decide, by decide, rfl, Or.inl ⟨Or.inl (q_in 1255 (by decide +kernel) rfl), rfl⟩⟩
theorem fl_X12_71 : q_Fl RX12 71 13 38 := ⟨RX12, TX12, 43, rfl, by decide, by decide, Or.inl (q_in 1256 (by decide +kernel) rfl)⟩
theorem fp_X12_71 : q_Fp RX12 71 13 38 "[I" := ⟨RX12, TX12, 43, rfl, by decide, by decide, rfl, Or.inr ⟨q_in 1256 (by decide +kernel) rfl, rfl, rfl⟩⟩
theorem fl_X12_74 : q_Fl RX12 74 13 39 := ⟨RX12, TX12, 43, rfl, by decide, by decide, Or.inl (q_in 1257 (by decide +kernel) rfl)⟩
theorem fp_X12_74 : q_Fp RX12 74 13 39 "[I" := ⟨RX12, TX12, 43, rfl, by decide, by decide, rfl, Or.inr ⟨q_in 1257 (by decide +kernel) rfl, rfl, rfl⟩⟩
theorem fl_X12_279 : q_Fl RX12 279 13 40 := ⟨RX12, TX12, 43, rfl, by decide, by decide, Or.inl (q_in 1258 (by decide +kernel) rfl)⟩
theorem fp_X12_279 : q_Fp RX12 279 13 40 "I" := ⟨RX12, TX12, 43, rfl, by decide, by decide, rfl, Or.inl ⟨Or.inl (q_in 1258 (by decide +kernel) rfl), rfl⟩⟩
theorem fl_X12_77 : q_Fl RX12 77 13 41 := ⟨RX12, TX12, 43, rfl, by decide, by decide, Or.inl (q_in 1259 (by decide +kernel) rfl)⟩
theorem fp_X12_77 : q_Fp RX12 77 13 41 "[I" := ⟨RX12, TX12, 43, rfl, by decide, by decide, rfl, Or.inl ⟨Or.inl (q_in 1259 (by decide +kernel) rfl), rfl⟩⟩
theorem fl_X12_80 : q_Fl RX12 80 13 42 := ⟨RX12, TX12, 43, rfl, by decide, by decide, Or.inl (q_in 1260 (by decide +kernel) rfl)⟩
theorem fp_X12_80 : q_Fp RX12 80 13 42 "[I" := ⟨RX12, TX12, 43, rfl, by decide, by decide, rfl, Or.inl ⟨Or.inl (q_in 1260 (by decide +kernel) rfl), rfl⟩⟩
theorem cv_L_29 : q_Cv RL 29 yX10_feed 5 := ⟨⟨prog_1_method_2_code, 6, (some .int), by decide, q_in 515 (by decide +kernel) rfl, q_in 512 (by decide +kernel) rfl, q_in 90 (by decide +kernel) rfl, by decide, by decide +kernel⟩, q_in 513 (by decide +kernel) rfl, q_in 514 (by decide +kernel) rfl⟩
theorem cv_X10_89 : q_Cv RX10 89 yX7_add 1 := ⟨⟨prog_9_method_2_code, 3, none, by decide, q_in 519 (by decide +kernel) rfl, q_in 516 (by decide +kernel) rfl, q_in 92 (by decide +kernel) rfl, by decide, by decide +kernel⟩, q_in 517 (by decide +kernel) rfl, q_in 518 (by decide +kernel) rfl⟩
theorem cv_L_34 : q_Cv RL 34 yX10_build 1 := ⟨⟨prog_1_method_3_code, 3, (some .int), by decide, q_in 523 (by decide +kernel) rfl, q_in 520 (by decide +kernel) rfl, q_in 90 (by decide +kernel) rfl, by decide, by decide +kernel⟩, q_in 521 (by decide +kernel) rfl, q_in 522 (by decide +kernel) rfl⟩
theorem cv_X10_93 : q_Cv RX10 93 yX8_cut 1 := ⟨⟨prog_10_method_2_code, 3, none, by decide, q_in 527 (by decide +kernel) rfl, q_in 524 (by decide +kernel) rfl, q_in 93 (by decide +kernel) rfl, by decide, by decide +kernel⟩, q_in 525 (by decide +kernel) rfl, q_in 526 (by decide +kernel) rfl⟩
theorem cv_X8_36 : q_Cv RX8 36 yX8_skipBlanks 0 := ⟨⟨prog_10_method_3_code, 1, none, by decide, q_in 531 (by decide +kernel) rfl, q_in 528 (by decide +kernel) rfl, q_in 93 (by decide +kernel) rfl, by decide, by decide +kernel⟩, q_in 530 (by decide +kernel) rfl, q_in 0 (by decide +kernel) rfl⟩
theorem cv_X8_39 : q_Cv RX8 39 yX8_byteAt 1 := ⟨⟨prog_10_method_8_code, 2, (some .int), by decide, q_in 535 (by decide +kernel) rfl, q_in 532 (by decide +kernel) rfl, q_in 93 (by decide +kernel) rfl, by decide, by decide +kernel⟩, q_in 534 (by decide +kernel) rfl, q_in 1 (by decide +kernel) rfl⟩
theorem cv_X8_43 : q_Cv RX8 43 yX8_cutToken 1 := ⟨⟨prog_10_method_4_code, 2, (some .int), by decide, q_in 539 (by decide +kernel) rfl, q_in 536 (by decide +kernel) rfl, q_in 93 (by decide +kernel) rfl, by decide, by decide +kernel⟩, q_in 538 (by decide +kernel) rfl, q_in 2 (by decide +kernel) rfl⟩
theorem cs_X8_46 : q_Cs RX8 46 yX8_isLetter 1 := ⟨⟨prog_10_method_9_code, 1, (some .boolean), by decide, q_in 542 (by decide +kernel) rfl, q_in 540 (by decide +kernel) rfl, q_in 93 (by decide +kernel) rfl, by decide, by decide +kernel⟩, q_in 541 (by decide +kernel) rfl⟩
theorem cv_X8_50 : q_Cv RX8 50 yX8_cutName 0 := ⟨⟨prog_10_method_5_code, 5, (some .int), by decide, q_in 546 (by decide +kernel) rfl, q_in 543 (by decide +kernel) rfl, q_in 93 (by decide +kernel) rfl, by decide, by decide +kernel⟩, q_in 545 (by decide +kernel) rfl, q_in 3 (by decide +kernel) rfl⟩
theorem cs_X8_54 : q_Cs RX8 54 yX8_isDigit 1 := ⟨⟨prog_10_method_10_code, 1, (some .boolean), by decide, q_in 549 (by decide +kernel) rfl, q_in 547 (by decide +kernel) rfl, q_in 93 (by decide +kernel) rfl, by decide, by decide +kernel⟩, q_in 548 (by decide +kernel) rfl⟩
theorem cv_X8_57 : q_Cv RX8 57 yX8_cutNumber 0 := ⟨⟨prog_10_method_6_code, 3, (some .int), by decide, q_in 555 (by decide +kernel) rfl, q_in 552 (by decide +kernel) rfl, q_in 93 (by decide +kernel) rfl, by decide, by decide +kernel⟩, q_in 554 (by decide +kernel) rfl, q_in 4 (by decide +kernel) rfl⟩
theorem cs_X8_72 : q_Cs RX8 72 yJ9_min_f86c9 2 := ⟨⟨prog_18_method_70_code, 4, (some .long), by decide, q_in 561 (by decide +kernel) rfl, q_in 559 (by decide +kernel) rfl, q_in 107 (by decide +kernel) rfl, by decide, by decide +kernel⟩, q_in 560 (by decide +kernel) rfl⟩
theorem cv_X8_60 : q_Cv RX8 60 yX8_cutSign 1 := ⟨⟨prog_10_method_7_code, 5, (some .int), by decide, q_in 566 (by decide +kernel) rfl, q_in 563 (by decide +kernel) rfl, q_in 93 (by decide +kernel) rfl, by decide, by decide +kernel⟩, q_in 565 (by decide +kernel) rfl, q_in 5 (by decide +kernel) rfl⟩
theorem cv_X8_82 : q_Cv RX8 82 yJ0_indexOf_0f7a4 1 := ⟨⟨prog_20_method_79_code, 2, (some .int), by decide, q_in 571 (by decide +kernel) rfl, q_in 568 (by decide +kernel) rfl, q_in 108 (by decide +kernel) rfl, by decide, by decide +kernel⟩, q_in 569 (by decide +kernel) rfl, q_in 570 (by decide +kernel) rfl⟩
theorem cv_J0_633 : q_Cv RJ0 633 yJ0_indexOf_7cf53 2 := ⟨⟨prog_20_method_80_code, 3, (some .int), by decide, q_in 575 (by decide +kernel) rfl, q_in 572 (by decide +kernel) rfl, q_in 108 (by decide +kernel) rfl, by decide, by decide +kernel⟩, q_in 573 (by decide +kernel) rfl, q_in 574 (by decide +kernel) rfl⟩
theorem cv_J0_492 : q_Cv RJ0 492 yJ0_isLatin1_aae02 0 := ⟨⟨prog_20_method_154_code, 1, (some .boolean), by decide, q_in 579 (by decide +kernel) rfl, q_in 576 (by decide +kernel) rfl, q_in 108 (by decide +kernel) rfl, by decide, by decide +kernel⟩, q_in 577 (by decide +kernel) rfl, q_in 578 (by decide +kernel) rfl⟩
theorem cv_J0_505 : q_Cv RJ0 505 yJ0_length_8abf5 0 := ⟨⟨prog_20_method_54_code, 1, (some .int), by decide, q_in 585 (by decide +kernel) rfl, q_in 582 (by decide +kernel) rfl, q_in 108 (by decide +kernel) rfl, by decide, by decide +kernel⟩, q_in 583 (by decide +kernel) rfl, q_in 584 (by decide +kernel) rfl⟩
theorem cs_J0_637 : q_Cs RJ0 637 yJ1_indexOf_4cfef 4 := ⟨⟨prog_21_method_22_code, 4, (some .int), by decide, q_in 592 (by decide +kernel) rfl, q_in 590 (by decide +kernel) rfl, q_in 109 (by decide +kernel) rfl, by decide, by decide +kernel⟩, q_in 591 (by decide +kernel) rfl⟩
theorem cs_J1_88 : q_Cs RJ1 88 yJ1_canEncode_9a6ad 1 := ⟨⟨prog_21_method_4_code, 1, (some .boolean), by decide, q_in 595 (by decide +kernel) rfl, q_in 593 (by decide +kernel) rfl, q_in 109 (by decide +kernel) rfl, by decide, by decide +kernel⟩, q_in 594 (by decide +kernel) rfl⟩
theorem cs_J1_92 : q_Cs RJ1 92 yJ9_max_7cf53 2 := ⟨⟨prog_18_method_65_code, 2, (some .int), by decide, q_in 598 (by decide +kernel) rfl, q_in 596 (by decide +kernel) rfl, q_in 107 (by decide +kernel) rfl, by decide, by decide +kernel⟩, q_in 597 (by decide +kernel) rfl⟩
theorem cs_J1_38 : q_Cs RJ1 38 yJ9_min_7cf53 2 := ⟨⟨prog_18_method_69_code, 2, (some .int), by decide, q_in 601 (by decide +kernel) rfl, q_in 599 (by decide +kernel) rfl, q_in 107 (by decide +kernel) rfl, by decide, by decide +kernel⟩, q_in 600 (by decide +kernel) rfl⟩
theorem cs_J1_95 : q_Cs RJ1 95 yJ1_indexOfChar_4cfef 4 := ⟨⟨prog_21_method_23_code, 6, (some .int), by decide, q_in 604 (by decide +kernel) rfl, q_in 602 (by decide +kernel) rfl, q_in 109 (by decide +kernel) rfl, by decide, by decide +kernel⟩, q_in 603 (by decide +kernel) rfl⟩
theorem cs_J0_640 : q_Cs RJ0 640 yJ2_indexOf_4cfef 4 := ⟨⟨prog_22_method_40_code, 4, (some .int), by decide, q_in 607 (by decide +kernel) rfl, q_in 605 (by decide +kernel) rfl, q_in 110 (by decide +kernel) rfl, by decide, by decide +kernel⟩, q_in 606 (by decide +kernel) rfl⟩
theorem cs_J2_224 : q_Cs RJ2 224 yJ9_max_7cf53 2 := ⟨⟨prog_18_method_65_code, 2, (some .int), by decide, q_in 598 (by decide +kernel) rfl, q_in 608 (by decide +kernel) rfl, q_in 107 (by decide +kernel) rfl, by decide, by decide +kernel⟩, q_in 597 (by decide +kernel) rfl⟩
theorem cs_J2_183 : q_Cs RJ2 183 yJ9_min_7cf53 2 := ⟨⟨prog_18_method_69_code, 2, (some .int), by decide, q_in 601 (by decide +kernel) rfl, q_in 609 (by decide +kernel) rfl, q_in 107 (by decide +kernel) rfl, by decide, by decide +kernel⟩, q_in 600 (by decide +kernel) rfl⟩
theorem cs_J2_228 : q_Cs RJ2 228 yJ2_indexOfChar_4cfef 4 := ⟨⟨prog_22_method_47_code, 4, (some .int), by decide, q_in 613 (by decide +kernel) rfl, q_in 611 (by decide +kernel) rfl, q_in 110 (by decide +kernel) rfl, by decide, by decide +kernel⟩, q_in 612 (by decide +kernel) rfl⟩
theorem cs_J2_96 : q_Cs RJ2 96 yJ2_checkBoundsBeginEnd_d044e 3 := ⟨⟨prog_22_method_93_code, 3, none, by decide, q_in 616 (by decide +kernel) rfl, q_in 614 (by decide +kernel) rfl, q_in 110 (by decide +kernel) rfl, by decide, by decide +kernel⟩, q_in 615 (by decide +kernel) rfl⟩
theorem cs_J2_48 : q_Cs RJ2 48 yJ2_length_9d52b 1 := ⟨⟨prog_22_method_6_code, 1, (some .int), by decide, q_in 619 (by decide +kernel) rfl, q_in 617 (by decide +kernel) rfl, q_in 110 (by decide +kernel) rfl, by decide, by decide +kernel⟩, q_in 618 (by decide +kernel) rfl⟩
theorem cs_J2_241 : q_Cs RJ2 241 yJ0_checkBoundsBeginEnd_23922 3 := ⟨⟨prog_20_method_158_code, 3, none, by decide, q_in 622 (by decide +kernel) rfl, q_in 620 (by decide +kernel) rfl, q_in 108 (by decide +kernel) rfl, by decide, by decide +kernel⟩, q_in 621 (by decide +kernel) rfl⟩
theorem cs_J0_1062 : q_Cs RJ0 1062 yJ3_checkFromToIndex_8c36e 4 := ⟨⟨prog_26_method_12_code, 4, (some .int), by decide, q_in 627 (by decide +kernel) rfl, q_in 625 (by decide +kernel) rfl, q_in 111 (by decide +kernel) rfl, by decide, by decide +kernel⟩, q_in 626 (by decide +kernel) rfl⟩
theorem cs_J2_244 : q_Cs RJ2 244 yJ2_indexOfCharUnsafe_4cfef 4 := ⟨⟨prog_22_method_48_code, 5, (some .int), by decide, q_in 630 (by decide +kernel) rfl, q_in 628 (by decide +kernel) rfl, q_in 110 (by decide +kernel) rfl, by decide, by decide +kernel⟩, q_in 629 (by decide +kernel) rfl⟩
theorem cs_J2_232 : q_Cs RJ2 232 yJ2_indexOfSupplementary_4cfef 4 := ⟨⟨prog_22_method_49_code, 7, (some .int), by decide, q_in 642 (by decide +kernel) rfl, q_in 640 (by decide +kernel) rfl, q_in 110 (by decide +kernel) rfl, by decide, by decide +kernel⟩, q_in 641 (by decide +kernel) rfl⟩
theorem cs_J2_164 : q_Cs RJ2 164 yJ11_isValidCodePoint_9a6ad 1 := ⟨⟨prog_15_method_11_code, 2, (some .boolean), by decide, q_in 645 (by decide +kernel) rfl, q_in 643 (by decide +kernel) rfl, q_in 112 (by decide +kernel) rfl, by decide, by decide +kernel⟩, q_in 644 (by decide +kernel) rfl⟩
theorem cv_X10_96 : q_Cv RX10 96 yX2_make 1 := ⟨⟨prog_4_method_4_code, 2, none, by decide, q_in 659 (by decide +kernel) rfl, q_in 656 (by decide +kernel) rfl, q_in 94 (by decide +kernel) rfl, by decide, by decide +kernel⟩, q_in 657 (by decide +kernel) rfl, q_in 658 (by decide +kernel) rfl⟩
theorem cv_X2_47 : q_Cv RX2 47 yX0_clear 0 := ⟨⟨prog_2_method_2_code, 1, none, by decide, q_in 663 (by decide +kernel) rfl, q_in 660 (by decide +kernel) rfl, q_in 91 (by decide +kernel) rfl, by decide, by decide +kernel⟩, q_in 661 (by decide +kernel) rfl, q_in 662 (by decide +kernel) rfl⟩
theorem cv_X2_52 : q_Cv RX2 52 yX4_begin 0 := ⟨⟨prog_6_method_2_code, 1, none, by decide, q_in 667 (by decide +kernel) rfl, q_in 664 (by decide +kernel) rfl, q_in 95 (by decide +kernel) rfl, by decide, by decide +kernel⟩, q_in 665 (by decide +kernel) rfl, q_in 666 (by decide +kernel) rfl⟩
theorem cv_X4_28 : q_Cv RX4 28 yX4_advance 0 := ⟨⟨prog_6_method_3_code, 1, none, by decide, q_in 671 (by decide +kernel) rfl, q_in 668 (by decide +kernel) rfl, q_in 95 (by decide +kernel) rfl, by decide, by decide +kernel⟩, q_in 669 (by decide +kernel) rfl, q_in 670 (by decide +kernel) rfl⟩
theorem cv_X2_58 : q_Cv RX2 58 yX1_begin 1 := ⟨⟨prog_3_method_2_code, 2, none, by decide, q_in 675 (by decide +kernel) rfl, q_in 672 (by decide +kernel) rfl, q_in 97 (by decide +kernel) rfl, by decide, by decide +kernel⟩, q_in 673 (by decide +kernel) rfl, q_in 674 (by decide +kernel) rfl⟩
theorem cv_X2_67 : q_Cv RX2 67 yX2_readArrays 0 := ⟨⟨prog_4_method_5_code, 2, (some .boolean), by decide, q_in 679 (by decide +kernel) rfl, q_in 676 (by decide +kernel) rfl, q_in 94 (by decide +kernel) rfl, by decide, by decide +kernel⟩, q_in 678 (by decide +kernel) rfl, q_in 6 (by decide +kernel) rfl⟩
theorem cv_X2_87 : q_Cv RX2 87 yX4_pass 1 := ⟨⟨prog_6_method_4_code, 2, (some .boolean), by decide, q_in 683 (by decide +kernel) rfl, q_in 680 (by decide +kernel) rfl, q_in 95 (by decide +kernel) rfl, by decide, by decide +kernel⟩, q_in 681 (by decide +kernel) rfl, q_in 682 (by decide +kernel) rfl⟩
theorem cv_X4_57 : q_Cv RX4 57 yX4_refuse 0 := ⟨⟨prog_6_method_7_code, 1, (some .boolean), by decide, q_in 687 (by decide +kernel) rfl, q_in 684 (by decide +kernel) rfl, q_in 95 (by decide +kernel) rfl, by decide, by decide +kernel⟩, q_in 685 (by decide +kernel) rfl, q_in 686 (by decide +kernel) rfl⟩
theorem cv_X2_91 : q_Cv RX2 91 yX2_readNewName 0 := ⟨⟨prog_4_method_8_code, 1, (some .boolean), by decide, q_in 691 (by decide +kernel) rfl, q_in 688 (by decide +kernel) rfl, q_in 94 (by decide +kernel) rfl, by decide, by decide +kernel⟩, q_in 690 (by decide +kernel) rfl, q_in 7 (by decide +kernel) rfl⟩
theorem cv_X2_142 : q_Cv RX2 142 yX5_faultOfTelling 1 := ⟨⟨prog_7_method_5_code, 3, (some .int), by decide, q_in 695 (by decide +kernel) rfl, q_in 692 (by decide +kernel) rfl, q_in 96 (by decide +kernel) rfl, by decide, by decide +kernel⟩, q_in 693 (by decide +kernel) rfl, q_in 694 (by decide +kernel) rfl⟩
theorem cv_X5_26 : q_Cv RX5 26 yX5_find 1 := ⟨⟨prog_7_method_3_code, 4, (some .int), by decide, q_in 699 (by decide +kernel) rfl, q_in 696 (by decide +kernel) rfl, q_in 96 (by decide +kernel) rfl, by decide, by decide +kernel⟩, q_in 697 (by decide +kernel) rfl, q_in 698 (by decide +kernel) rfl⟩
theorem cv_X2_108 : q_Cv RX2 108 yX4_blame 2 := ⟨⟨prog_6_method_8_code, 3, none, by decide, q_in 703 (by decide +kernel) rfl, q_in 700 (by decide +kernel) rfl, q_in 95 (by decide +kernel) rfl, by decide, by decide +kernel⟩, q_in 701 (by decide +kernel) rfl, q_in 702 (by decide +kernel) rfl⟩
theorem cv_X2_98 : q_Cv RX2 98 yX5_tell 3 := ⟨⟨prog_7_method_2_code, 5, none, by decide, q_in 707 (by decide +kernel) rfl, q_in 704 (by decide +kernel) rfl, q_in 96 (by decide +kernel) rfl, by decide, by decide +kernel⟩, q_in 705 (by decide +kernel) rfl, q_in 706 (by decide +kernel) rfl⟩
theorem cv_X2_112 : q_Cv RX2 112 yX2_readCells 0 := ⟨⟨prog_4_method_6_code, 4, (some .boolean), by decide, q_in 711 (by decide +kernel) rfl, q_in 708 (by decide +kernel) rfl, q_in 94 (by decide +kernel) rfl, by decide, by decide +kernel⟩, q_in 710 (by decide +kernel) rfl, q_in 8 (by decide +kernel) rfl⟩
theorem cv_X2_115 : q_Cv RX2 115 yX4_enter 1 := ⟨⟨prog_6_method_5_code, 2, (some .boolean), by decide, q_in 715 (by decide +kernel) rfl, q_in 712 (by decide +kernel) rfl, q_in 95 (by decide +kernel) rfl, by decide, by decide +kernel⟩, q_in 713 (by decide +kernel) rfl, q_in 714 (by decide +kernel) rfl⟩
theorem cv_X2_126 : q_Cv RX2 126 yX0_addArray 1 := ⟨⟨prog_2_method_7_code, 2, none, by decide, q_in 720 (by decide +kernel) rfl, q_in 717 (by decide +kernel) rfl, q_in 91 (by decide +kernel) rfl, by decide, by decide +kernel⟩, q_in 718 (by decide +kernel) rfl, q_in 719 (by decide +kernel) rfl⟩
theorem cv_X2_130 : q_Cv RX2 130 yX4_leave 0 := ⟨⟨prog_6_method_6_code, 1, none, by decide, q_in 724 (by decide +kernel) rfl, q_in 721 (by decide +kernel) rfl, q_in 95 (by decide +kernel) rfl, by decide, by decide +kernel⟩, q_in 722 (by decide +kernel) rfl, q_in 723 (by decide +kernel) rfl⟩
theorem cv_X2_71 : q_Cv RX2 71 yX2_readParameters 0 := ⟨⟨prog_4_method_7_code, 3, (some .boolean), by decide, q_in 728 (by decide +kernel) rfl, q_in 725 (by decide +kernel) rfl, q_in 94 (by decide +kernel) rfl, by decide, by decide +kernel⟩, q_in 727 (by decide +kernel) rfl, q_in 9 (by decide +kernel) rfl⟩
theorem cv_X2_139 : q_Cv RX2 139 yX4_advance 0 := ⟨⟨prog_6_method_3_code, 1, none, by decide, q_in 671 (by decide +kernel) rfl, q_in 729 (by decide +kernel) rfl, q_in 95 (by decide +kernel) rfl, by decide, by decide +kernel⟩, q_in 669 (by decide +kernel) rfl, q_in 670 (by decide +kernel) rfl⟩
theorem cv_X2_74 : q_Cv RX2 74 yX0_lay 4 := ⟨⟨prog_2_method_3_code, 5, (some .int), by decide, q_in 733 (by decide +kernel) rfl, q_in 730 (by decide +kernel) rfl, q_in 91 (by decide +kernel) rfl, by decide, by decide +kernel⟩, q_in 731 (by decide +kernel) rfl, q_in 732 (by decide +kernel) rfl⟩
theorem cv_X2_78 : q_Cv RX2 78 yX2_readBlock 0 := ⟨⟨prog_4_method_9_code, 3, (some .boolean), by decide, q_in 737 (by decide +kernel) rfl, q_in 734 (by decide +kernel) rfl, q_in 94 (by decide +kernel) rfl, by decide, by decide +kernel⟩, q_in 736 (by decide +kernel) rfl, q_in 10 (by decide +kernel) rfl⟩
theorem cv_X2_146 : q_Cv RX2 146 yX2_readStatement 0 := ⟨⟨prog_4_method_10_code, 1, (some .boolean), by decide, q_in 741 (by decide +kernel) rfl, q_in 738 (by decide +kernel) rfl, q_in 94 (by decide +kernel) rfl, by decide, by decide +kernel⟩, q_in 740 (by decide +kernel) rfl, q_in 11 (by decide +kernel) rfl⟩
theorem cv_X2_149 : q_Cv RX2 149 yX2_readTelling 0 := ⟨⟨prog_4_method_11_code, 2, (some .boolean), by decide, q_in 745 (by decide +kernel) rfl, q_in 742 (by decide +kernel) rfl, q_in 94 (by decide +kernel) rfl, by decide, by decide +kernel⟩, q_in 744 (by decide +kernel) rfl, q_in 12 (by decide +kernel) rfl⟩
theorem cv_X2_167 : q_Cv RX2 167 yX1_read 0 := ⟨⟨prog_3_method_3_code, 3, (some .boolean), by decide, q_in 749 (by decide +kernel) rfl, q_in 746 (by decide +kernel) rfl, q_in 97 (by decide +kernel) rfl, by decide, by decide +kernel⟩, q_in 747 (by decide +kernel) rfl, q_in 748 (by decide +kernel) rfl⟩
theorem cv_X1_47 : q_Cv RX1 47 yX1_readOperand 0 := ⟨⟨prog_3_method_5_code, 7, (some .boolean), by decide, q_in 753 (by decide +kernel) rfl, q_in 750 (by decide +kernel) rfl, q_in 97 (by decide +kernel) rfl, by decide, by decide +kernel⟩, q_in 752 (by decide +kernel) rfl, q_in 13 (by decide +kernel) rfl⟩
theorem cv_X1_90 : q_Cv RX1 90 yX4_enter 1 := ⟨⟨prog_6_method_5_code, 2, (some .boolean), by decide, q_in 715 (by decide +kernel) rfl, q_in 754 (by decide +kernel) rfl, q_in 95 (by decide +kernel) rfl, by decide, by decide +kernel⟩, q_in 713 (by decide +kernel) rfl, q_in 714 (by decide +kernel) rfl⟩
theorem cv_X1_94 : q_Cv RX1 94 yX1_await 2 := ⟨⟨prog_3_method_12_code, 3, (some .boolean), by decide, q_in 758 (by decide +kernel) rfl, q_in 755 (by decide +kernel) rfl, q_in 97 (by decide +kernel) rfl, by decide, by decide +kernel⟩, q_in 757 (by decide +kernel) rfl, q_in 14 (by decide +kernel) rfl⟩
theorem cv_X1_125 : q_Cv RX1 125 yX4_refuse 0 := ⟨⟨prog_6_method_7_code, 1, (some .boolean), by decide, q_in 687 (by decide +kernel) rfl, q_in 759 (by decide +kernel) rfl, q_in 95 (by decide +kernel) rfl, by decide, by decide +kernel⟩, q_in 685 (by decide +kernel) rfl, q_in 686 (by decide +kernel) rfl⟩
theorem cv_X1_98 : q_Cv RX1 98 yX1_countWorked 1 := ⟨⟨prog_3_method_11_code, 2, none, by decide, q_in 763 (by decide +kernel) rfl, q_in 760 (by decide +kernel) rfl, q_in 97 (by decide +kernel) rfl, by decide, by decide +kernel⟩, q_in 762 (by decide +kernel) rfl, q_in 15 (by decide +kernel) rfl⟩
theorem cv_X1_118 : q_Cv RX1 118 yX4_blame 2 := ⟨⟨prog_6_method_8_code, 3, none, by decide, q_in 703 (by decide +kernel) rfl, q_in 764 (by decide +kernel) rfl, q_in 95 (by decide +kernel) rfl, by decide, by decide +kernel⟩, q_in 701 (by decide +kernel) rfl, q_in 702 (by decide +kernel) rfl⟩
theorem cv_X1_101 : q_Cv RX1 101 yX4_advance 0 := ⟨⟨prog_6_method_3_code, 1, none, by decide, q_in 671 (by decide +kernel) rfl, q_in 765 (by decide +kernel) rfl, q_in 95 (by decide +kernel) rfl, by decide, by decide +kernel⟩, q_in 669 (by decide +kernel) rfl, q_in 670 (by decide +kernel) rfl⟩
theorem cv_X1_104 : q_Cv RX1 104 yX1_layOperand 3 := ⟨⟨prog_3_method_8_code, 4, none, by decide, q_in 769 (by decide +kernel) rfl, q_in 766 (by decide +kernel) rfl, q_in 97 (by decide +kernel) rfl, by decide, by decide +kernel⟩, q_in 768 (by decide +kernel) rfl, q_in 16 (by decide +kernel) rfl⟩
theorem cv_X1_137 : q_Cv RX1 137 yX0_lay 4 := ⟨⟨prog_2_method_3_code, 5, (some .int), by decide, q_in 733 (by decide +kernel) rfl, q_in 770 (by decide +kernel) rfl, q_in 91 (by decide +kernel) rfl, by decide, by decide +kernel⟩, q_in 731 (by decide +kernel) rfl, q_in 732 (by decide +kernel) rfl⟩
theorem cv_X1_143 : q_Cv RX1 143 yX1_push 1 := ⟨⟨prog_3_method_14_code, 2, none, by decide, q_in 774 (by decide +kernel) rfl, q_in 771 (by decide +kernel) rfl, q_in 97 (by decide +kernel) rfl, by decide, by decide +kernel⟩, q_in 773 (by decide +kernel) rfl, q_in 17 (by decide +kernel) rfl⟩
theorem cv_X1_108 : q_Cv RX1 108 yX5_find 1 := ⟨⟨prog_7_method_3_code, 4, (some .int), by decide, q_in 699 (by decide +kernel) rfl, q_in 775 (by decide +kernel) rfl, q_in 96 (by decide +kernel) rfl, by decide, by decide +kernel⟩, q_in 697 (by decide +kernel) rfl, q_in 698 (by decide +kernel) rfl⟩
theorem cv_X1_114 : q_Cv RX1 114 yX5_faultOfUse 2 := ⟨⟨prog_7_method_6_code, 3, (some .int), by decide, q_in 779 (by decide +kernel) rfl, q_in 776 (by decide +kernel) rfl, q_in 96 (by decide +kernel) rfl, by decide, by decide +kernel⟩, q_in 777 (by decide +kernel) rfl, q_in 778 (by decide +kernel) rfl⟩
theorem cv_X1_122 : q_Cv RX1 122 yX5_numberOf 1 := ⟨⟨prog_7_method_4_code, 2, (some .int), by decide, q_in 783 (by decide +kernel) rfl, q_in 780 (by decide +kernel) rfl, q_in 96 (by decide +kernel) rfl, by decide, by decide +kernel⟩, q_in 781 (by decide +kernel) rfl, q_in 782 (by decide +kernel) rfl⟩
theorem cv_X1_51 : q_Cv RX1 51 yX1_layOnes 0 := ⟨⟨prog_3_method_9_code, 1, none, by decide, q_in 787 (by decide +kernel) rfl, q_in 784 (by decide +kernel) rfl, q_in 97 (by decide +kernel) rfl, by decide, by decide +kernel⟩, q_in 786 (by decide +kernel) rfl, q_in 18 (by decide +kernel) rfl⟩
theorem cv_X1_128 : q_Cv RX1 128 yX1_lastWaiting 0 := ⟨⟨prog_3_method_13_code, 1, (some .int), by decide, q_in 791 (by decide +kernel) rfl, q_in 788 (by decide +kernel) rfl, q_in 97 (by decide +kernel) rfl, by decide, by decide +kernel⟩, q_in 790 (by decide +kernel) rfl, q_in 19 (by decide +kernel) rfl⟩
theorem cv_X1_79 : q_Cv RX1 79 yX1_pop 0 := ⟨⟨prog_3_method_15_code, 1, (some .int), by decide, q_in 795 (by decide +kernel) rfl, q_in 792 (by decide +kernel) rfl, q_in 97 (by decide +kernel) rfl, by decide, by decide +kernel⟩, q_in 794 (by decide +kernel) rfl, q_in 20 (by decide +kernel) rfl⟩
theorem cv_X1_134 : q_Cv RX1 134 yX4_leave 0 := ⟨⟨prog_6_method_6_code, 1, none, by decide, q_in 724 (by decide +kernel) rfl, q_in 796 (by decide +kernel) rfl, q_in 95 (by decide +kernel) rfl, by decide, by decide +kernel⟩, q_in 722 (by decide +kernel) rfl, q_in 723 (by decide +kernel) rfl⟩
theorem cs_X1_59 : q_Cs RX1 59 yX1_levelOf 1 := ⟨⟨prog_3_method_16_code, 1, (some .int), by decide, q_in 799 (by decide +kernel) rfl, q_in 797 (by decide +kernel) rfl, q_in 97 (by decide +kernel) rfl, by decide, by decide +kernel⟩, q_in 798 (by decide +kernel) rfl⟩
theorem cs_X1_63 : q_Cs RX1 63 yJ9_max_7cf53 2 := ⟨⟨prog_18_method_65_code, 2, (some .int), by decide, q_in 598 (by decide +kernel) rfl, q_in 800 (by decide +kernel) rfl, q_in 107 (by decide +kernel) rfl, by decide, by decide +kernel⟩, q_in 597 (by decide +kernel) rfl⟩
theorem cv_X1_69 : q_Cv RX1 69 yX1_layTwos 1 := ⟨⟨prog_3_method_10_code, 4, none, by decide, q_in 804 (by decide +kernel) rfl, q_in 801 (by decide +kernel) rfl, q_in 97 (by decide +kernel) rfl, by decide, by decide +kernel⟩, q_in 803 (by decide +kernel) rfl, q_in 21 (by decide +kernel) rfl⟩
theorem cv_X1_73 : q_Cv RX1 73 yX1_readTwo 0 := ⟨⟨prog_3_method_6_code, 2, (some .boolean), by decide, q_in 808 (by decide +kernel) rfl, q_in 805 (by decide +kernel) rfl, q_in 97 (by decide +kernel) rfl, by decide, by decide +kernel⟩, q_in 807 (by decide +kernel) rfl, q_in 22 (by decide +kernel) rfl⟩
theorem cv_X1_76 : q_Cv RX1 76 yX1_readClosing 0 := ⟨⟨prog_3_method_7_code, 2, (some .boolean), by decide, q_in 812 (by decide +kernel) rfl, q_in 809 (by decide +kernel) rfl, q_in 97 (by decide +kernel) rfl, by decide, by decide +kernel⟩, q_in 811 (by decide +kernel) rfl, q_in 23 (by decide +kernel) rfl⟩
theorem cv_X1_131 : q_Cv RX1 131 yX4_pass 1 := ⟨⟨prog_6_method_4_code, 2, (some .boolean), by decide, q_in 683 (by decide +kernel) rfl, q_in 813 (by decide +kernel) rfl, q_in 95 (by decide +kernel) rfl, by decide, by decide +kernel⟩, q_in 681 (by decide +kernel) rfl, q_in 682 (by decide +kernel) rfl⟩
theorem cv_X2_170 : q_Cv RX2 170 yX1_result 0 := ⟨⟨prog_3_method_4_code, 1, (some .int), by decide, q_in 817 (by decide +kernel) rfl, q_in 814 (by decide +kernel) rfl, q_in 97 (by decide +kernel) rfl, by decide, by decide +kernel⟩, q_in 815 (by decide +kernel) rfl, q_in 816 (by decide +kernel) rfl⟩
theorem cv_X2_152 : q_Cv RX2 152 yX2_readSetting 0 := ⟨⟨prog_4_method_12_code, 6, (some .boolean), by decide, q_in 821 (by decide +kernel) rfl, q_in 818 (by decide +kernel) rfl, q_in 94 (by decide +kernel) rfl, by decide, by decide +kernel⟩, q_in 820 (by decide +kernel) rfl, q_in 24 (by decide +kernel) rfl⟩
theorem cv_X2_174 : q_Cv RX2 174 yX5_find 1 := ⟨⟨prog_7_method_3_code, 4, (some .int), by decide, q_in 699 (by decide +kernel) rfl, q_in 822 (by decide +kernel) rfl, q_in 96 (by decide +kernel) rfl, by decide, by decide +kernel⟩, q_in 697 (by decide +kernel) rfl, q_in 698 (by decide +kernel) rfl⟩
theorem cv_X2_177 : q_Cv RX2 177 yX5_faultOfUse 2 := ⟨⟨prog_7_method_6_code, 3, (some .int), by decide, q_in 779 (by decide +kernel) rfl, q_in 823 (by decide +kernel) rfl, q_in 96 (by decide +kernel) rfl, by decide, by decide +kernel⟩, q_in 777 (by decide +kernel) rfl, q_in 778 (by decide +kernel) rfl⟩
theorem cv_X2_181 : q_Cv RX2 181 yX5_numberOf 1 := ⟨⟨prog_7_method_4_code, 2, (some .int), by decide, q_in 783 (by decide +kernel) rfl, q_in 824 (by decide +kernel) rfl, q_in 96 (by decide +kernel) rfl, by decide, by decide +kernel⟩, q_in 781 (by decide +kernel) rfl, q_in 782 (by decide +kernel) rfl⟩
theorem cv_X2_155 : q_Cv RX2 155 yX2_readIf 0 := ⟨⟨prog_4_method_13_code, 3, (some .boolean), by decide, q_in 828 (by decide +kernel) rfl, q_in 825 (by decide +kernel) rfl, q_in 94 (by decide +kernel) rfl, by decide, by decide +kernel⟩, q_in 827 (by decide +kernel) rfl, q_in 25 (by decide +kernel) rfl⟩
theorem cv_X2_185 : q_Cv RX2 185 yX2_countBranching 0 := ⟨⟨prog_4_method_15_code, 1, none, by decide, q_in 832 (by decide +kernel) rfl, q_in 829 (by decide +kernel) rfl, q_in 94 (by decide +kernel) rfl, by decide, by decide +kernel⟩, q_in 831 (by decide +kernel) rfl, q_in 26 (by decide +kernel) rfl⟩
theorem cv_X2_188 : q_Cv RX2 188 yX2_readCondition 0 := ⟨⟨prog_4_method_16_code, 1, (some .boolean), by decide, q_in 836 (by decide +kernel) rfl, q_in 833 (by decide +kernel) rfl, q_in 94 (by decide +kernel) rfl, by decide, by decide +kernel⟩, q_in 835 (by decide +kernel) rfl, q_in 27 (by decide +kernel) rfl⟩
theorem cv_X2_191 : q_Cv RX2 191 yX0_junction 0 := ⟨⟨prog_2_method_4_code, 1, (some .int), by decide, q_in 840 (by decide +kernel) rfl, q_in 837 (by decide +kernel) rfl, q_in 91 (by decide +kernel) rfl, by decide, by decide +kernel⟩, q_in 838 (by decide +kernel) rfl, q_in 839 (by decide +kernel) rfl⟩
theorem cv_X2_194 : q_Cv RX2 194 yX2_readBody 0 := ⟨⟨prog_4_method_17_code, 3, (some .boolean), by decide, q_in 844 (by decide +kernel) rfl, q_in 841 (by decide +kernel) rfl, q_in 94 (by decide +kernel) rfl, by decide, by decide +kernel⟩, q_in 843 (by decide +kernel) rfl, q_in 28 (by decide +kernel) rfl⟩
theorem cv_X2_197 : q_Cv RX2 197 yX0_join 1 := ⟨⟨prog_2_method_5_code, 2, none, by decide, q_in 848 (by decide +kernel) rfl, q_in 845 (by decide +kernel) rfl, q_in 91 (by decide +kernel) rfl, by decide, by decide +kernel⟩, q_in 846 (by decide +kernel) rfl, q_in 847 (by decide +kernel) rfl⟩
theorem cv_X0_49 : q_Cv RX0 49 yX0_lay 4 := ⟨⟨prog_2_method_3_code, 5, (some .int), by decide, q_in 733 (by decide +kernel) rfl, q_in 849 (by decide +kernel) rfl, q_in 91 (by decide +kernel) rfl, by decide, by decide +kernel⟩, q_in 731 (by decide +kernel) rfl, q_in 732 (by decide +kernel) rfl⟩
theorem cv_X2_158 : q_Cv RX2 158 yX2_readWhile 0 := ⟨⟨prog_4_method_14_code, 5, (some .boolean), by decide, q_in 853 (by decide +kernel) rfl, q_in 850 (by decide +kernel) rfl, q_in 94 (by decide +kernel) rfl, by decide, by decide +kernel⟩, q_in 852 (by decide +kernel) rfl, q_in 29 (by decide +kernel) rfl⟩
theorem cv_X2_161 : q_Cv RX2 161 yX2_readLeap 1 := ⟨⟨prog_4_method_18_code, 2, (some .boolean), by decide, q_in 857 (by decide +kernel) rfl, q_in 854 (by decide +kernel) rfl, q_in 94 (by decide +kernel) rfl, by decide, by decide +kernel⟩, q_in 856 (by decide +kernel) rfl, q_in 30 (by decide +kernel) rfl⟩
theorem cv_X2_164 : q_Cv RX2 164 yX2_readReturn 0 := ⟨⟨prog_4_method_19_code, 1, (some .boolean), by decide, q_in 861 (by decide +kernel) rfl, q_in 858 (by decide +kernel) rfl, q_in 94 (by decide +kernel) rfl, by decide, by decide +kernel⟩, q_in 860 (by decide +kernel) rfl, q_in 31 (by decide +kernel) rfl⟩
theorem cv_X2_84 : q_Cv RX2 84 yX4_refuse 0 := ⟨⟨prog_6_method_7_code, 1, (some .boolean), by decide, q_in 687 (by decide +kernel) rfl, q_in 862 (by decide +kernel) rfl, q_in 95 (by decide +kernel) rfl, by decide, by decide +kernel⟩, q_in 685 (by decide +kernel) rfl, q_in 686 (by decide +kernel) rfl⟩
theorem cv_X10_100 : q_Cv RX10 100 yX2_faultKind 0 := ⟨⟨prog_4_method_2_code, 1, (some .int), by decide, q_in 866 (by decide +kernel) rfl, q_in 863 (by decide +kernel) rfl, q_in 94 (by decide +kernel) rfl, by decide, by decide +kernel⟩, q_in 864 (by decide +kernel) rfl, q_in 865 (by decide +kernel) rfl⟩
theorem cv_X10_103 : q_Cv RX10 103 yX2_faultPlace 0 := ⟨⟨prog_4_method_3_code, 1, (some .int), by decide, q_in 870 (by decide +kernel) rfl, q_in 867 (by decide +kernel) rfl, q_in 94 (by decide +kernel) rfl, by decide, by decide +kernel⟩, q_in 868 (by decide +kernel) rfl, q_in 869 (by decide +kernel) rfl⟩
theorem cs_X10_105 : q_Cs RX10 105 yJ7_fill_53178 2 := ⟨⟨prog_24_method_103_code, 4, none, by decide, q_in 873 (by decide +kernel) rfl, q_in 871 (by decide +kernel) rfl, q_in 113 (by decide +kernel) rfl, by decide, by decide +kernel⟩, q_in 872 (by decide +kernel) rfl⟩
theorem cv_X10_111 : q_Cv RX10 111 yX3_clear 0 := ⟨⟨prog_5_method_2_code, 1, none, by decide, q_in 877 (by decide +kernel) rfl, q_in 874 (by decide +kernel) rfl, q_in 98 (by decide +kernel) rfl, by decide, by decide +kernel⟩, q_in 875 (by decide +kernel) rfl, q_in 876 (by decide +kernel) rfl⟩
theorem cs_X3_27 : q_Cs RX3 27 yJ7_fill_53178 2 := ⟨⟨prog_24_method_103_code, 4, none, by decide, q_in 873 (by decide +kernel) rfl, q_in 878 (by decide +kernel) rfl, q_in 113 (by decide +kernel) rfl, by decide, by decide +kernel⟩, q_in 872 (by decide +kernel) rfl⟩
theorem cv_X10_114 : q_Cv RX10 114 yX9_forget 0 := ⟨⟨prog_11_method_2_code, 1, none, by decide, q_in 882 (by decide +kernel) rfl, q_in 879 (by decide +kernel) rfl, q_in 100 (by decide +kernel) rfl, by decide, by decide +kernel⟩, q_in 880 (by decide +kernel) rfl, q_in 881 (by decide +kernel) rfl⟩
theorem cv_X9_38 : q_Cv RX9 38 yX3_begin 0 := ⟨⟨prog_5_method_3_code, 1, none, by decide, q_in 886 (by decide +kernel) rfl, q_in 883 (by decide +kernel) rfl, q_in 98 (by decide +kernel) rfl, by decide, by decide +kernel⟩, q_in 884 (by decide +kernel) rfl, q_in 885 (by decide +kernel) rfl⟩
theorem cv_L_39 : q_Cv RL 39 yX10_fault 1 := ⟨⟨prog_1_method_4_code, 2, (some .int), by decide, q_in 890 (by decide +kernel) rfl, q_in 887 (by decide +kernel) rfl, q_in 90 (by decide +kernel) rfl, by decide, by decide +kernel⟩, q_in 888 (by decide +kernel) rfl, q_in 889 (by decide +kernel) rfl⟩
theorem cv_L_60 : q_Cv RL 60 yX10_latency 1 := ⟨⟨prog_1_method_8_code, 2, (some .int), by decide, q_in 894 (by decide +kernel) rfl, q_in 891 (by decide +kernel) rfl, q_in 90 (by decide +kernel) rfl, by decide, by decide +kernel⟩, q_in 892 (by decide +kernel) rfl, q_in 893 (by decide +kernel) rfl⟩
theorem cv_X10_144 : q_Cv RX10 144 yX3_addRow 1 := ⟨⟨prog_5_method_4_code, 2, none, by decide, q_in 898 (by decide +kernel) rfl, q_in 895 (by decide +kernel) rfl, q_in 98 (by decide +kernel) rfl, by decide, by decide +kernel⟩, q_in 896 (by decide +kernel) rfl, q_in 897 (by decide +kernel) rfl⟩
theorem cv_L_64 : q_Cv RL 64 yX10_free 0 := ⟨⟨prog_1_method_9_code, 2, (some .int), by decide, q_in 902 (by decide +kernel) rfl, q_in 899 (by decide +kernel) rfl, q_in 90 (by decide +kernel) rfl, by decide, by decide +kernel⟩, q_in 900 (by decide +kernel) rfl, q_in 901 (by decide +kernel) rfl⟩
theorem cv_L_70 : q_Cv RL 70 yX10_stall 1 := ⟨⟨prog_1_method_10_code, 5, (some .long), by decide, q_in 906 (by decide +kernel) rfl, q_in 903 (by decide +kernel) rfl, q_in 90 (by decide +kernel) rfl, by decide, by decide +kernel⟩, q_in 904 (by decide +kernel) rfl, q_in 905 (by decide +kernel) rfl⟩
theorem cv_L_75 : q_Cv RL 75 yX10_run 1 := ⟨⟨prog_1_method_11_code, 2, (some .int), by decide, q_in 911 (by decide +kernel) rfl, q_in 908 (by decide +kernel) rfl, q_in 90 (by decide +kernel) rfl, by decide, by decide +kernel⟩, q_in 909 (by decide +kernel) rfl, q_in 910 (by decide +kernel) rfl⟩
theorem cv_X10_153 : q_Cv RX10 153 yX9_perform 3 := ⟨⟨prog_11_method_3_code, 6, (some .int), by decide, q_in 915 (by decide +kernel) rfl, q_in 912 (by decide +kernel) rfl, q_in 100 (by decide +kernel) rfl, by decide, by decide +kernel⟩, q_in 913 (by decide +kernel) rfl, q_in 914 (by decide +kernel) rfl⟩
theorem cv_X9_54 : q_Cv RX9 54 yX9_forget 0 := ⟨⟨prog_11_method_2_code, 1, none, by decide, q_in 882 (by decide +kernel) rfl, q_in 916 (by decide +kernel) rfl, q_in 100 (by decide +kernel) rfl, by decide, by decide +kernel⟩, q_in 880 (by decide +kernel) rfl, q_in 881 (by decide +kernel) rfl⟩
theorem cv_X9_57 : q_Cv RX9 57 yX9_begin 3 := ⟨⟨prog_11_method_4_code, 5, none, by decide, q_in 920 (by decide +kernel) rfl, q_in 917 (by decide +kernel) rfl, q_in 100 (by decide +kernel) rfl, by decide, by decide +kernel⟩, q_in 919 (by decide +kernel) rfl, q_in 32 (by decide +kernel) rfl⟩
theorem cv_X9_64 : q_Cv RX9 64 yX9_isReady 0 := ⟨⟨prog_11_method_5_code, 3, (some .boolean), by decide, q_in 925 (by decide +kernel) rfl, q_in 922 (by decide +kernel) rfl, q_in 100 (by decide +kernel) rfl, by decide, by decide +kernel⟩, q_in 924 (by decide +kernel) rfl, q_in 33 (by decide +kernel) rfl⟩
theorem cv_X9_101 : q_Cv RX9 101 yX9_isFull 1 := ⟨⟨prog_11_method_11_code, 2, (some .boolean), by decide, q_in 929 (by decide +kernel) rfl, q_in 926 (by decide +kernel) rfl, q_in 100 (by decide +kernel) rfl, by decide, by decide +kernel⟩, q_in 928 (by decide +kernel) rfl, q_in 34 (by decide +kernel) rfl⟩
theorem cv_X9_68 : q_Cv RX9 68 yX9_work 1 := ⟨⟨prog_11_method_6_code, 7, (some .int), by decide, q_in 933 (by decide +kernel) rfl, q_in 930 (by decide +kernel) rfl, q_in 100 (by decide +kernel) rfl, by decide, by decide +kernel⟩, q_in 932 (by decide +kernel) rfl, q_in 35 (by decide +kernel) rfl⟩
theorem cv_X9_108 : q_Cv RX9 108 yX9_taken 1 := ⟨⟨prog_11_method_10_code, 2, (some .int), by decide, q_in 937 (by decide +kernel) rfl, q_in 934 (by decide +kernel) rfl, q_in 100 (by decide +kernel) rfl, by decide, by decide +kernel⟩, q_in 936 (by decide +kernel) rfl, q_in 36 (by decide +kernel) rfl⟩
theorem cv_X9_114 : q_Cv RX9 114 yX9_hand 2 := ⟨⟨prog_11_method_9_code, 3, none, by decide, q_in 941 (by decide +kernel) rfl, q_in 938 (by decide +kernel) rfl, q_in 100 (by decide +kernel) rfl, by decide, by decide +kernel⟩, q_in 940 (by decide +kernel) rfl, q_in 37 (by decide +kernel) rfl⟩
theorem cs_X9_118 : q_Cs RX9 118 yX9_isVariable 1 := ⟨⟨prog_11_method_12_code, 1, (some .boolean), by decide, q_in 944 (by decide +kernel) rfl, q_in 942 (by decide +kernel) rfl, q_in 100 (by decide +kernel) rfl, by decide, by decide +kernel⟩, q_in 943 (by decide +kernel) rfl⟩
theorem cv_X9_121 : q_Cv RX9 121 yX3_ask 1 := ⟨⟨prog_5_method_9_code, 4, (some .int), by decide, q_in 948 (by decide +kernel) rfl, q_in 945 (by decide +kernel) rfl, q_in 98 (by decide +kernel) rfl, by decide, by decide +kernel⟩, q_in 946 (by decide +kernel) rfl, q_in 947 (by decide +kernel) rfl⟩
theorem cv_X9_124 : q_Cv RX9 124 yX9_cellOf 2 := ⟨⟨prog_11_method_8_code, 4, (some .int), by decide, q_in 952 (by decide +kernel) rfl, q_in 949 (by decide +kernel) rfl, q_in 100 (by decide +kernel) rfl, by decide, by decide +kernel⟩, q_in 951 (by decide +kernel) rfl, q_in 38 (by decide +kernel) rfl⟩
theorem cv_X9_147 : q_Cv RX9 147 yX0_cellsOf 1 := ⟨⟨prog_2_method_8_code, 2, (some .int), by decide, q_in 956 (by decide +kernel) rfl, q_in 953 (by decide +kernel) rfl, q_in 91 (by decide +kernel) rfl, by decide, by decide +kernel⟩, q_in 954 (by decide +kernel) rfl, q_in 955 (by decide +kernel) rfl⟩
theorem cs_X9_150 : q_Cs RX9 150 yJ9_floorMod_7cf53 2 := ⟨⟨prog_18_method_50_code, 3, (some .int), by decide, q_in 959 (by decide +kernel) rfl, q_in 957 (by decide +kernel) rfl, q_in 107 (by decide +kernel) rfl, by decide, by decide +kernel⟩, q_in 958 (by decide +kernel) rfl⟩
theorem cv_X9_127 : q_Cv RX9 127 yX3_fetch 2 := ⟨⟨prog_5_method_7_code, 3, (some .int), by decide, q_in 963 (by decide +kernel) rfl, q_in 960 (by decide +kernel) rfl, q_in 98 (by decide +kernel) rfl, by decide, by decide +kernel⟩, q_in 961 (by decide +kernel) rfl, q_in 962 (by decide +kernel) rfl⟩
theorem cv_X3_50 : q_Cv RX3 50 yX3_look 2 := ⟨⟨prog_5_method_5_code, 3, (some .int), by decide, q_in 967 (by decide +kernel) rfl, q_in 964 (by decide +kernel) rfl, q_in 98 (by decide +kernel) rfl, by decide, by decide +kernel⟩, q_in 965 (by decide +kernel) rfl, q_in 966 (by decide +kernel) rfl⟩
theorem cs_X3_46 : q_Cs RX3 46 yX3_isThere 2 := ⟨⟨prog_5_method_10_code, 2, (some .boolean), by decide, q_in 970 (by decide +kernel) rfl, q_in 968 (by decide +kernel) rfl, q_in 98 (by decide +kernel) rfl, by decide, by decide +kernel⟩, q_in 969 (by decide +kernel) rfl⟩
theorem cv_X9_130 : q_Cv RX9 130 yX3_store 3 := ⟨⟨prog_5_method_8_code, 4, none, by decide, q_in 974 (by decide +kernel) rfl, q_in 971 (by decide +kernel) rfl, q_in 98 (by decide +kernel) rfl, by decide, by decide +kernel⟩, q_in 972 (by decide +kernel) rfl, q_in 973 (by decide +kernel) rfl⟩
theorem cv_X3_54 : q_Cv RX3 54 yX3_put 3 := ⟨⟨prog_5_method_6_code, 4, none, by decide, q_in 978 (by decide +kernel) rfl, q_in 975 (by decide +kernel) rfl, q_in 98 (by decide +kernel) rfl, by decide, by decide +kernel⟩, q_in 976 (by decide +kernel) rfl, q_in 977 (by decide +kernel) rfl⟩
theorem cv_X9_134 : q_Cv RX9 134 yX0_leadsTo 1 := ⟨⟨prog_2_method_6_code, 2, (some .int), by decide, q_in 982 (by decide +kernel) rfl, q_in 979 (by decide +kernel) rfl, q_in 91 (by decide +kernel) rfl, by decide, by decide +kernel⟩, q_in 980 (by decide +kernel) rfl, q_in 981 (by decide +kernel) rfl⟩
theorem cv_X9_137 : q_Cv RX9 137 yX9_beginStep 0 := ⟨⟨prog_11_method_7_code, 1, none, by decide, q_in 986 (by decide +kernel) rfl, q_in 983 (by decide +kernel) rfl, q_in 100 (by decide +kernel) rfl, by decide, by decide +kernel⟩, q_in 985 (by decide +kernel) rfl, q_in 39 (by decide +kernel) rfl⟩
theorem cv_X9_140 : q_Cv RX9 140 yX6_take 1 := ⟨⟨prog_8_method_2_code, 3, (some .int), by decide, q_in 990 (by decide +kernel) rfl, q_in 987 (by decide +kernel) rfl, q_in 99 (by decide +kernel) rfl, by decide, by decide +kernel⟩, q_in 988 (by decide +kernel) rfl, q_in 989 (by decide +kernel) rfl⟩
theorem cs_X9_143 : q_Cs RX9 143 yX9_worked 3 := ⟨⟨prog_11_method_13_code, 3, (some .int), by decide, q_in 993 (by decide +kernel) rfl, q_in 991 (by decide +kernel) rfl, q_in 100 (by decide +kernel) rfl, by decide, by decide +kernel⟩, q_in 992 (by decide +kernel) rfl⟩
theorem cs_X9_156 : q_Cs RX9 156 yX9_truth 1 := ⟨⟨prog_11_method_15_code, 1, (some .int), by decide, q_in 996 (by decide +kernel) rfl, q_in 994 (by decide +kernel) rfl, q_in 100 (by decide +kernel) rfl, by decide, by decide +kernel⟩, q_in 995 (by decide +kernel) rfl⟩
theorem cs_X9_160 : q_Cs RX9 160 yX9_reckoned 3 := ⟨⟨prog_11_method_14_code, 3, (some .int), by decide, q_in 999 (by decide +kernel) rfl, q_in 997 (by decide +kernel) rfl, q_in 100 (by decide +kernel) rfl, by decide, by decide +kernel⟩, q_in 998 (by decide +kernel) rfl⟩
theorem cs_X9_72 : q_Cs RX9 72 yJ9_max_7cf53 2 := ⟨⟨prog_18_method_65_code, 2, (some .int), by decide, q_in 598 (by decide +kernel) rfl, q_in 1000 (by decide +kernel) rfl, q_in 107 (by decide +kernel) rfl, by decide, by decide +kernel⟩, q_in 597 (by decide +kernel) rfl⟩
theorem cv_L_79 : q_Cv RL 79 yX10_told 1 := ⟨⟨prog_1_method_12_code, 2, (some .int), by decide, q_in 1004 (by decide +kernel) rfl, q_in 1001 (by decide +kernel) rfl, q_in 90 (by decide +kernel) rfl, by decide, by decide +kernel⟩, q_in 1002 (by decide +kernel) rfl, q_in 1003 (by decide +kernel) rfl⟩
theorem cv_L_86 : q_Cv RL 86 yX10_count 1 := ⟨⟨prog_1_method_14_code, 2, (some .int), by decide, q_in 1008 (by decide +kernel) rfl, q_in 1005 (by decide +kernel) rfl, q_in 90 (by decide +kernel) rfl, by decide, by decide +kernel⟩, q_in 1006 (by decide +kernel) rfl, q_in 1007 (by decide +kernel) rfl⟩
theorem cv_L_90 : q_Cv RL 90 yX10_size 1 := ⟨⟨prog_1_method_15_code, 2, (some .int), by decide, q_in 1012 (by decide +kernel) rfl, q_in 1009 (by decide +kernel) rfl, q_in 90 (by decide +kernel) rfl, by decide, by decide +kernel⟩, q_in 1010 (by decide +kernel) rfl, q_in 1011 (by decide +kernel) rfl⟩
theorem cv_X10_207 : q_Cv RX10 207 yX0_cellsOf 1 := ⟨⟨prog_2_method_8_code, 2, (some .int), by decide, q_in 956 (by decide +kernel) rfl, q_in 1013 (by decide +kernel) rfl, q_in 91 (by decide +kernel) rfl, by decide, by decide +kernel⟩, q_in 954 (by decide +kernel) rfl, q_in 955 (by decide +kernel) rfl⟩
theorem cv_L_7 : q_Cv RL 7 yX10_give 2 := ⟨⟨prog_1_method_5_code, 4, (some .int), by decide, q_in 1021 (by decide +kernel) rfl, q_in 1018 (by decide +kernel) rfl, q_in 90 (by decide +kernel) rfl, by decide, by decide +kernel⟩, q_in 1019 (by decide +kernel) rfl, q_in 1020 (by decide +kernel) rfl⟩
theorem cv_L_15 : q_Cv RL 15 yX10_poke 3 := ⟨⟨prog_1_method_6_code, 5, (some .int), by decide, q_in 1094 (by decide +kernel) rfl, q_in 1091 (by decide +kernel) rfl, q_in 90 (by decide +kernel) rfl, by decide, by decide +kernel⟩, q_in 1092 (by decide +kernel) rfl, q_in 1093 (by decide +kernel) rfl⟩
theorem cv_X10_127 : q_Cv RX10 127 yX10_isCell 2 := ⟨⟨prog_1_method_16_code, 3, (some .boolean), by decide, q_in 1098 (by decide +kernel) rfl, q_in 1095 (by decide +kernel) rfl, q_in 90 (by decide +kernel) rfl, by decide, by decide +kernel⟩, q_in 1097 (by decide +kernel) rfl, q_in 41 (by decide +kernel) rfl⟩
theorem cv_X10_133 : q_Cv RX10 133 yX3_look 2 := ⟨⟨prog_5_method_5_code, 3, (some .int), by decide, q_in 967 (by decide +kernel) rfl, q_in 1100 (by decide +kernel) rfl, q_in 98 (by decide +kernel) rfl, by decide, by decide +kernel⟩, q_in 965 (by decide +kernel) rfl, q_in 966 (by decide +kernel) rfl⟩
theorem cv_X10_137 : q_Cv RX10 137 yX3_put 3 := ⟨⟨prog_5_method_6_code, 4, none, by decide, q_in 978 (by decide +kernel) rfl, q_in 1101 (by decide +kernel) rfl, q_in 98 (by decide +kernel) rfl, by decide, by decide +kernel⟩, q_in 976 (by decide +kernel) rfl, q_in 977 (by decide +kernel) rfl⟩
theorem cv_L_19 : q_Cv RL 19 yX10_cell 2 := ⟨⟨prog_1_method_7_code, 3, (some .int), by decide, q_in 1108 (by decide +kernel) rfl, q_in 1105 (by decide +kernel) rfl, q_in 90 (by decide +kernel) rfl, by decide, by decide +kernel⟩, q_in 1106 (by decide +kernel) rfl, q_in 1107 (by decide +kernel) rfl⟩
theorem cv_L_22 : q_Cv RL 22 yX10_write 2 := ⟨⟨prog_1_method_13_code, 3, (some .int), by decide, q_in 1115 (by decide +kernel) rfl, q_in 1112 (by decide +kernel) rfl, q_in 90 (by decide +kernel) rfl, by decide, by decide +kernel⟩, q_in 1113 (by decide +kernel) rfl, q_in 1114 (by decide +kernel) rfl⟩
theorem cv_L_49 : q_Cv RL 49 yX12_thrown 0 := ⟨⟨prog_13_method_2_code, 1, (some .int), by decide, q_in 1351 (by decide +kernel) rfl, q_in 1348 (by decide +kernel) rfl, q_in 101 (by decide +kernel) rfl, by decide, by decide +kernel⟩, q_in 1349 (by decide +kernel) rfl, q_in 1350 (by decide +kernel) rfl⟩
theorem cv_L_33 : q_Cv RL 33 yX12_feed 5 := ⟨⟨prog_13_method_3_code, 6, (some .int), by decide, q_in 1355 (by decide +kernel) rfl, q_in 1352 (by decide +kernel) rfl, q_in 101 (by decide +kernel) rfl, by decide, by decide +kernel⟩, q_in 1353 (by decide +kernel) rfl, q_in 1354 (by decide +kernel) rfl⟩
theorem cv_X12_89 : q_Cv RX12 89 yX12_four 1 := ⟨⟨prog_13_method_4_code, 3, none, by decide, q_in 1359 (by decide +kernel) rfl, q_in 1356 (by decide +kernel) rfl, q_in 101 (by decide +kernel) rfl, by decide, by decide +kernel⟩, q_in 1358 (by decide +kernel) rfl, q_in 42 (by decide +kernel) rfl⟩
theorem cv_X12_325 : q_Cv RX12 325 yX12_scans 0 := ⟨⟨prog_13_method_12_code, 6, none, by decide, q_in 1367 (by decide +kernel) rfl, q_in 1364 (by decide +kernel) rfl, q_in 101 (by decide +kernel) rfl, by decide, by decide +kernel⟩, q_in 1366 (by decide +kernel) rfl, q_in 43 (by decide +kernel) rfl⟩
theorem cv_X12_99 : q_Cv RX12 99 yX12_byteAt 1 := ⟨⟨prog_13_method_7_code, 2, (some .int), by decide, q_in 1371 (by decide +kernel) rfl, q_in 1368 (by decide +kernel) rfl, q_in 101 (by decide +kernel) rfl, by decide, by decide +kernel⟩, q_in 1370 (by decide +kernel) rfl, q_in 44 (by decide +kernel) rfl⟩
theorem cs_X12_121 : q_Cs RX12 121 yX12_isSmall 1 := ⟨⟨prog_13_method_5_code, 1, (some .boolean), by decide, q_in 1374 (by decide +kernel) rfl, q_in 1372 (by decide +kernel) rfl, q_in 101 (by decide +kernel) rfl, by decide, by decide +kernel⟩, q_in 1373 (by decide +kernel) rfl⟩
theorem cs_X12_125 : q_Cs RX12 125 yX12_isDigit 1 := ⟨⟨prog_13_method_6_code, 1, (some .boolean), by decide, q_in 1377 (by decide +kernel) rfl, q_in 1375 (by decide +kernel) rfl, q_in 101 (by decide +kernel) rfl, by decide, by decide +kernel⟩, q_in 1376 (by decide +kernel) rfl⟩
theorem cv_X12_128 : q_Cv RX12 128 yX12_wordOf 2 := ⟨⟨prog_13_method_10_code, 3, (some .int), by decide, q_in 1381 (by decide +kernel) rfl, q_in 1378 (by decide +kernel) rfl, q_in 101 (by decide +kernel) rfl, by decide, by decide +kernel⟩, q_in 1380 (by decide +kernel) rfl, q_in 45 (by decide +kernel) rfl⟩
theorem cv_X12_105 : q_Cv RX12 105 yX12_isWord 3 := ⟨⟨prog_13_method_9_code, 8, (some .boolean), by decide, q_in 1386 (by decide +kernel) rfl, q_in 1383 (by decide +kernel) rfl, q_in 101 (by decide +kernel) rfl, by decide, by decide +kernel⟩, q_in 1385 (by decide +kernel) rfl, q_in 46 (by decide +kernel) rfl⟩
theorem cv_X12_132 : q_Cv RX12 132 yX12_token 3 := ⟨⟨prog_13_method_8_code, 4, none, by decide, q_in 1396 (by decide +kernel) rfl, q_in 1393 (by decide +kernel) rfl, q_in 101 (by decide +kernel) rfl, by decide, by decide +kernel⟩, q_in 1395 (by decide +kernel) rfl, q_in 47 (by decide +kernel) rfl⟩
theorem cs_X12_142 : q_Cs RX12 142 yJ9_min_f86c9 2 := ⟨⟨prog_18_method_70_code, 4, (some .long), by decide, q_in 561 (by decide +kernel) rfl, q_in 1400 (by decide +kernel) rfl, q_in 107 (by decide +kernel) rfl, by decide, by decide +kernel⟩, q_in 560 (by decide +kernel) rfl⟩
theorem cv_X12_150 : q_Cv RX12 150 yX12_signAt 1 := ⟨⟨prog_13_method_11_code, 4, (some .int), by decide, q_in 1405 (by decide +kernel) rfl, q_in 1402 (by decide +kernel) rfl, q_in 101 (by decide +kernel) rfl, by decide, by decide +kernel⟩, q_in 1404 (by decide +kernel) rfl, q_in 48 (by decide +kernel) rfl⟩
theorem cv_X12_328 : q_Cv RX12 328 yX11_clear 0 := ⟨⟨prog_14_method_2_code, 1, none, by decide, q_in 1409 (by decide +kernel) rfl, q_in 1406 (by decide +kernel) rfl, q_in 106 (by decide +kernel) rfl, by decide, by decide +kernel⟩, q_in 1407 (by decide +kernel) rfl, q_in 1408 (by decide +kernel) rfl⟩
theorem cv_X12_331 : q_Cv RX12 331 yX12_program 0 := ⟨⟨prog_13_method_25_code, 4, none, by decide, q_in 1413 (by decide +kernel) rfl, q_in 1410 (by decide +kernel) rfl, q_in 101 (by decide +kernel) rfl, by decide, by decide +kernel⟩, q_in 1412 (by decide +kernel) rfl, q_in 49 (by decide +kernel) rfl⟩
theorem cv_X12_197 : q_Cv RX12 197 yX12_wantsKind 1 := ⟨⟨prog_13_method_17_code, 2, (some .int), by decide, q_in 1417 (by decide +kernel) rfl, q_in 1414 (by decide +kernel) rfl, q_in 101 (by decide +kernel) rfl, by decide, by decide +kernel⟩, q_in 1416 (by decide +kernel) rfl, q_in 50 (by decide +kernel) rfl⟩
theorem cv_X12_171 : q_Cv RX12 171 yX12_refuse 1 := ⟨⟨prog_13_method_13_code, 2, none, by decide, q_in 1421 (by decide +kernel) rfl, q_in 1418 (by decide +kernel) rfl, q_in 101 (by decide +kernel) rfl, by decide, by decide +kernel⟩, q_in 1420 (by decide +kernel) rfl, q_in 51 (by decide +kernel) rfl⟩
theorem cv_X12_200 : q_Cv RX12 200 yX12_asksNew 1 := ⟨⟨prog_13_method_24_code, 2, none, by decide, q_in 1425 (by decide +kernel) rfl, q_in 1422 (by decide +kernel) rfl, q_in 101 (by decide +kernel) rfl, by decide, by decide +kernel⟩, q_in 1424 (by decide +kernel) rfl, q_in 52 (by decide +kernel) rfl⟩
theorem cv_X12_190 : q_Cv RX12 190 yX12_meaning 1 := ⟨⟨prog_13_method_22_code, 3, (some .int), by decide, q_in 1429 (by decide +kernel) rfl, q_in 1426 (by decide +kernel) rfl, q_in 101 (by decide +kernel) rfl, by decide, by decide +kernel⟩, q_in 1428 (by decide +kernel) rfl, q_in 53 (by decide +kernel) rfl⟩
theorem cv_X12_186 : q_Cv RX12 186 yX12_areAlike 2 := ⟨⟨prog_13_method_21_code, 4, (some .boolean), by decide, q_in 1433 (by decide +kernel) rfl, q_in 1430 (by decide +kernel) rfl, q_in 101 (by decide +kernel) rfl, by decide, by decide +kernel⟩, q_in 1432 (by decide +kernel) rfl, q_in 54 (by decide +kernel) rfl⟩
theorem cv_X12_193 : q_Cv RX12 193 yX12_wrong 2 := ⟨⟨prog_13_method_14_code, 3, none, by decide, q_in 1437 (by decide +kernel) rfl, q_in 1434 (by decide +kernel) rfl, q_in 101 (by decide +kernel) rfl, by decide, by decide +kernel⟩, q_in 1436 (by decide +kernel) rfl, q_in 55 (by decide +kernel) rfl⟩
theorem cv_X12_168 : q_Cv RX12 168 yX12_is 1 := ⟨⟨prog_13_method_15_code, 2, (some .boolean), by decide, q_in 1441 (by decide +kernel) rfl, q_in 1438 (by decide +kernel) rfl, q_in 101 (by decide +kernel) rfl, by decide, by decide +kernel⟩, q_in 1440 (by decide +kernel) rfl, q_in 56 (by decide +kernel) rfl⟩
theorem cv_X12_203 : q_Cv RX12 203 yX12_told 3 := ⟨⟨prog_13_method_23_code, 4, none, by decide, q_in 1445 (by decide +kernel) rfl, q_in 1442 (by decide +kernel) rfl, q_in 101 (by decide +kernel) rfl, by decide, by decide +kernel⟩, q_in 1444 (by decide +kernel) rfl, q_in 57 (by decide +kernel) rfl⟩
theorem cv_X12_206 : q_Cv RX12 206 yX12_array 1 := ⟨⟨prog_13_method_26_code, 4, none, by decide, q_in 1449 (by decide +kernel) rfl, q_in 1446 (by decide +kernel) rfl, q_in 101 (by decide +kernel) rfl, by decide, by decide +kernel⟩, q_in 1448 (by decide +kernel) rfl, q_in 58 (by decide +kernel) rfl⟩
theorem cv_X12_209 : q_Cv RX12 209 yX12_opens 1 := ⟨⟨prog_13_method_19_code, 2, none, by decide, q_in 1453 (by decide +kernel) rfl, q_in 1450 (by decide +kernel) rfl, q_in 101 (by decide +kernel) rfl, by decide, by decide +kernel⟩, q_in 1452 (by decide +kernel) rfl, q_in 59 (by decide +kernel) rfl⟩
theorem cv_X12_177 : q_Cv RX12 177 yX12_enters 0 := ⟨⟨prog_13_method_18_code, 1, none, by decide, q_in 1457 (by decide +kernel) rfl, q_in 1454 (by decide +kernel) rfl, q_in 101 (by decide +kernel) rfl, by decide, by decide +kernel⟩, q_in 1456 (by decide +kernel) rfl, q_in 60 (by decide +kernel) rfl⟩
theorem cv_X12_215 : q_Cv RX12 215 yX12_closes 1 := ⟨⟨prog_13_method_20_code, 2, none, by decide, q_in 1461 (by decide +kernel) rfl, q_in 1458 (by decide +kernel) rfl, q_in 101 (by decide +kernel) rfl, by decide, by decide +kernel⟩, q_in 1460 (by decide +kernel) rfl, q_in 61 (by decide +kernel) rfl⟩
theorem cv_X12_180 : q_Cv RX12 180 yX12_wants 1 := ⟨⟨prog_13_method_16_code, 2, none, by decide, q_in 1465 (by decide +kernel) rfl, q_in 1462 (by decide +kernel) rfl, q_in 101 (by decide +kernel) rfl, by decide, by decide +kernel⟩, q_in 1464 (by decide +kernel) rfl, q_in 62 (by decide +kernel) rfl⟩
theorem cv_X12_212 : q_Cv RX12 212 yX12_parameter 0 := ⟨⟨prog_13_method_27_code, 3, none, by decide, q_in 1469 (by decide +kernel) rfl, q_in 1466 (by decide +kernel) rfl, q_in 101 (by decide +kernel) rfl, by decide, by decide +kernel⟩, q_in 1468 (by decide +kernel) rfl, q_in 63 (by decide +kernel) rfl⟩
theorem cv_X12_234 : q_Cv RX12 234 yX12_variableTold 1 := ⟨⟨prog_13_method_28_code, 3, none, by decide, q_in 1473 (by decide +kernel) rfl, q_in 1470 (by decide +kernel) rfl, q_in 101 (by decide +kernel) rfl, by decide, by decide +kernel⟩, q_in 1472 (by decide +kernel) rfl, q_in 64 (by decide +kernel) rfl⟩
theorem cv_X12_218 : q_Cv RX12 218 yX12_block 0 := ⟨⟨prog_13_method_29_code, 5, (some .int), by decide, q_in 1477 (by decide +kernel) rfl, q_in 1474 (by decide +kernel) rfl, q_in 101 (by decide +kernel) rfl, by decide, by decide +kernel⟩, q_in 1476 (by decide +kernel) rfl, q_in 65 (by decide +kernel) rfl⟩
theorem cv_X12_240 : q_Cv RX12 240 yX12_statement 0 := ⟨⟨prog_13_method_32_code, 5, (some .int), by decide, q_in 1481 (by decide +kernel) rfl, q_in 1478 (by decide +kernel) rfl, q_in 101 (by decide +kernel) rfl, by decide, by decide +kernel⟩, q_in 1480 (by decide +kernel) rfl, q_in 66 (by decide +kernel) rfl⟩
theorem cv_X12_261 : q_Cv RX12 261 yX12_newStatement 1 := ⟨⟨prog_13_method_30_code, 4, (some .int), by decide, q_in 1485 (by decide +kernel) rfl, q_in 1482 (by decide +kernel) rfl, q_in 101 (by decide +kernel) rfl, by decide, by decide +kernel⟩, q_in 1484 (by decide +kernel) rfl, q_in 67 (by decide +kernel) rfl⟩
theorem cv_X12_267 : q_Cv RX12 267 yX12_expression 0 := ⟨⟨prog_13_method_38_code, 2, (some .int), by decide, q_in 1489 (by decide +kernel) rfl, q_in 1486 (by decide +kernel) rfl, q_in 101 (by decide +kernel) rfl, by decide, by decide +kernel⟩, q_in 1488 (by decide +kernel) rfl, q_in 68 (by decide +kernel) rfl⟩
theorem cv_X12_301 : q_Cv RX12 301 yX12_binary 1 := ⟨⟨prog_13_method_42_code, 3, none, by decide, q_in 1493 (by decide +kernel) rfl, q_in 1490 (by decide +kernel) rfl, q_in 101 (by decide +kernel) rfl, by decide, by decide +kernel⟩, q_in 1492 (by decide +kernel) rfl, q_in 69 (by decide +kernel) rfl⟩
theorem cv_X12_313 : q_Cv RX12 313 yX12_unary 0 := ⟨⟨prog_13_method_43_code, 3, none, by decide, q_in 1497 (by decide +kernel) rfl, q_in 1494 (by decide +kernel) rfl, q_in 101 (by decide +kernel) rfl, by decide, by decide +kernel⟩, q_in 1496 (by decide +kernel) rfl, q_in 70 (by decide +kernel) rfl⟩
theorem cv_X12_319 : q_Cv RX12 319 yX12_part 1 := ⟨⟨prog_13_method_40_code, 2, none, by decide, q_in 1501 (by decide +kernel) rfl, q_in 1498 (by decide +kernel) rfl, q_in 101 (by decide +kernel) rfl, by decide, by decide +kernel⟩, q_in 1500 (by decide +kernel) rfl, q_in 71 (by decide +kernel) rfl⟩
theorem cv_X12_322 : q_Cv RX12 322 yX12_code 2 := ⟨⟨prog_13_method_39_code, 3, none, by decide, q_in 1505 (by decide +kernel) rfl, q_in 1502 (by decide +kernel) rfl, q_in 101 (by decide +kernel) rfl, by decide, by decide +kernel⟩, q_in 1504 (by decide +kernel) rfl, q_in 72 (by decide +kernel) rfl⟩
theorem cv_X12_282 : q_Cv RX12 282 yX12_uses 2 := ⟨⟨prog_13_method_33_code, 4, (some .int), by decide, q_in 1509 (by decide +kernel) rfl, q_in 1506 (by decide +kernel) rfl, q_in 101 (by decide +kernel) rfl, by decide, by decide +kernel⟩, q_in 1508 (by decide +kernel) rfl, q_in 73 (by decide +kernel) rfl⟩
theorem cv_X12_316 : q_Cv RX12 316 yX12_levelOf 0 := ⟨⟨prog_13_method_41_code, 1, (some .int), by decide, q_in 1513 (by decide +kernel) rfl, q_in 1510 (by decide +kernel) rfl, q_in 101 (by decide +kernel) rfl, by decide, by decide +kernel⟩, q_in 1512 (by decide +kernel) rfl, q_in 74 (by decide +kernel) rfl⟩
theorem cv_X12_270 : q_Cv RX12 270 yX12_assigns 0 := ⟨⟨prog_13_method_34_code, 7, (some .int), by decide, q_in 1517 (by decide +kernel) rfl, q_in 1514 (by decide +kernel) rfl, q_in 101 (by decide +kernel) rfl, by decide, by decide +kernel⟩, q_in 1516 (by decide +kernel) rfl, q_in 75 (by decide +kernel) rfl⟩
theorem cv_X12_273 : q_Cv RX12 273 yX12_chooses 0 := ⟨⟨prog_13_method_36_code, 4, (some .int), by decide, q_in 1521 (by decide +kernel) rfl, q_in 1518 (by decide +kernel) rfl, q_in 101 (by decide +kernel) rfl, by decide, by decide +kernel⟩, q_in 1520 (by decide +kernel) rfl, q_in 76 (by decide +kernel) rfl⟩
theorem cv_X12_292 : q_Cv RX12 292 yX12_loop 1 := ⟨⟨prog_13_method_35_code, 2, none, by decide, q_in 1525 (by decide +kernel) rfl, q_in 1522 (by decide +kernel) rfl, q_in 101 (by decide +kernel) rfl, by decide, by decide +kernel⟩, q_in 1524 (by decide +kernel) rfl, q_in 77 (by decide +kernel) rfl⟩
theorem cv_X12_295 : q_Cv RX12 295 yX12_within 0 := ⟨⟨prog_13_method_31_code, 3, (some .int), by decide, q_in 1529 (by decide +kernel) rfl, q_in 1526 (by decide +kernel) rfl, q_in 101 (by decide +kernel) rfl, by decide, by decide +kernel⟩, q_in 1528 (by decide +kernel) rfl, q_in 78 (by decide +kernel) rfl⟩
theorem cv_X12_276 : q_Cv RX12 276 yX12_repeats 0 := ⟨⟨prog_13_method_37_code, 4, (some .int), by decide, q_in 1533 (by decide +kernel) rfl, q_in 1530 (by decide +kernel) rfl, q_in 101 (by decide +kernel) rfl, by decide, by decide +kernel⟩, q_in 1532 (by decide +kernel) rfl, q_in 79 (by decide +kernel) rfl⟩
theorem cv_L_42 : q_Cv RL 42 yX12_fault 1 := ⟨⟨prog_13_method_45_code, 2, (some .int), by decide, q_in 1537 (by decide +kernel) rfl, q_in 1534 (by decide +kernel) rfl, q_in 101 (by decide +kernel) rfl, by decide, by decide +kernel⟩, q_in 1535 (by decide +kernel) rfl, q_in 1536 (by decide +kernel) rfl⟩
theorem cv_L_48 : q_Cv RL 48 yX12_give 2 := ⟨⟨prog_13_method_46_code, 4, (some .int), by decide, q_in 1541 (by decide +kernel) rfl, q_in 1538 (by decide +kernel) rfl, q_in 101 (by decide +kernel) rfl, by decide, by decide +kernel⟩, q_in 1539 (by decide +kernel) rfl, q_in 1540 (by decide +kernel) rfl⟩
theorem cv_L_56 : q_Cv RL 56 yX12_poke 3 := ⟨⟨prog_13_method_48_code, 5, (some .int), by decide, q_in 1545 (by decide +kernel) rfl, q_in 1542 (by decide +kernel) rfl, q_in 101 (by decide +kernel) rfl, by decide, by decide +kernel⟩, q_in 1543 (by decide +kernel) rfl, q_in 1544 (by decide +kernel) rfl⟩
theorem cv_X12_343 : q_Cv RX12 343 yX12_isCell 2 := ⟨⟨prog_13_method_47_code, 3, (some .boolean), by decide, q_in 1549 (by decide +kernel) rfl, q_in 1546 (by decide +kernel) rfl, q_in 101 (by decide +kernel) rfl, by decide, by decide +kernel⟩, q_in 1548 (by decide +kernel) rfl, q_in 80 (by decide +kernel) rfl⟩
theorem cv_L_59 : q_Cv RL 59 yX12_cell 2 := ⟨⟨prog_13_method_49_code, 3, (some .int), by decide, q_in 1553 (by decide +kernel) rfl, q_in 1550 (by decide +kernel) rfl, q_in 101 (by decide +kernel) rfl, by decide, by decide +kernel⟩, q_in 1551 (by decide +kernel) rfl, q_in 1552 (by decide +kernel) rfl⟩
theorem cv_L_63 : q_Cv RL 63 yX12_latency 1 := ⟨⟨prog_13_method_50_code, 2, (some .int), by decide, q_in 1557 (by decide +kernel) rfl, q_in 1554 (by decide +kernel) rfl, q_in 101 (by decide +kernel) rfl, by decide, by decide +kernel⟩, q_in 1555 (by decide +kernel) rfl, q_in 1556 (by decide +kernel) rfl⟩
theorem cv_L_67 : q_Cv RL 67 yX12_free 0 := ⟨⟨prog_13_method_51_code, 2, (some .int), by decide, q_in 1561 (by decide +kernel) rfl, q_in 1558 (by decide +kernel) rfl, q_in 101 (by decide +kernel) rfl, by decide, by decide +kernel⟩, q_in 1559 (by decide +kernel) rfl, q_in 1560 (by decide +kernel) rfl⟩
theorem cv_L_74 : q_Cv RL 74 yX12_stall 1 := ⟨⟨prog_13_method_52_code, 5, (some .long), by decide, q_in 1565 (by decide +kernel) rfl, q_in 1562 (by decide +kernel) rfl, q_in 101 (by decide +kernel) rfl, by decide, by decide +kernel⟩, q_in 1563 (by decide +kernel) rfl, q_in 1564 (by decide +kernel) rfl⟩
theorem cv_L_78 : q_Cv RL 78 yX12_run 1 := ⟨⟨prog_13_method_65_code, 3, (some .int), by decide, q_in 1570 (by decide +kernel) rfl, q_in 1567 (by decide +kernel) rfl, q_in 101 (by decide +kernel) rfl, by decide, by decide +kernel⟩, q_in 1568 (by decide +kernel) rfl, q_in 1569 (by decide +kernel) rfl⟩
theorem cv_X12_405 : q_Cv RX12 405 yX12_begins 0 := ⟨⟨prog_13_method_59_code, 1, (some .boolean), by decide, q_in 1574 (by decide +kernel) rfl, q_in 1571 (by decide +kernel) rfl, q_in 101 (by decide +kernel) rfl, by decide, by decide +kernel⟩, q_in 1573 (by decide +kernel) rfl, q_in 81 (by decide +kernel) rfl⟩
theorem cv_X12_399 : q_Cv RX12 399 yX12_goes 1 := ⟨⟨prog_13_method_60_code, 4, (some .int), by decide, q_in 1578 (by decide +kernel) rfl, q_in 1575 (by decide +kernel) rfl, q_in 101 (by decide +kernel) rfl, by decide, by decide +kernel⟩, q_in 1577 (by decide +kernel) rfl, q_in 82 (by decide +kernel) rfl⟩
theorem cv_X12_381 : q_Cv RX12 381 yX12_goesOne 1 := ⟨⟨prog_13_method_61_code, 2, (some .int), by decide, q_in 1582 (by decide +kernel) rfl, q_in 1579 (by decide +kernel) rfl, q_in 101 (by decide +kernel) rfl, by decide, by decide +kernel⟩, q_in 1581 (by decide +kernel) rfl, q_in 83 (by decide +kernel) rfl⟩
theorem cv_X12_384 : q_Cv RX12 384 yX12_tells 1 := ⟨⟨prog_13_method_58_code, 5, (some .int), by decide, q_in 1586 (by decide +kernel) rfl, q_in 1583 (by decide +kernel) rfl, q_in 101 (by decide +kernel) rfl, by decide, by decide +kernel⟩, q_in 1585 (by decide +kernel) rfl, q_in 84 (by decide +kernel) rfl⟩
theorem cv_X12_365 : q_Cv RX12 365 yX12_placeOf 2 := ⟨⟨prog_13_method_57_code, 4, (some .int), by decide, q_in 1590 (by decide +kernel) rfl, q_in 1587 (by decide +kernel) rfl, q_in 101 (by decide +kernel) rfl, by decide, by decide +kernel⟩, q_in 1589 (by decide +kernel) rfl, q_in 85 (by decide +kernel) rfl⟩
theorem cs_X12_355 : q_Cs RX12 355 yX12_truth 1 := ⟨⟨prog_13_method_55_code, 1, (some .int), by decide, q_in 1593 (by decide +kernel) rfl, q_in 1591 (by decide +kernel) rfl, q_in 101 (by decide +kernel) rfl, by decide, by decide +kernel⟩, q_in 1592 (by decide +kernel) rfl⟩
theorem cs_X12_371 : q_Cs RX12 371 yX12_works 3 := ⟨⟨prog_13_method_56_code, 3, (some .int), by decide, q_in 1596 (by decide +kernel) rfl, q_in 1594 (by decide +kernel) rfl, q_in 101 (by decide +kernel) rfl, by decide, by decide +kernel⟩, q_in 1595 (by decide +kernel) rfl⟩
theorem cs_X12_359 : q_Cs RX12 359 yX12_divided 2 := ⟨⟨prog_13_method_53_code, 2, (some .int), by decide, q_in 1599 (by decide +kernel) rfl, q_in 1597 (by decide +kernel) rfl, q_in 101 (by decide +kernel) rfl, by decide, by decide +kernel⟩, q_in 1598 (by decide +kernel) rfl⟩
theorem cs_X12_362 : q_Cs RX12 362 yX12_rest 2 := ⟨⟨prog_13_method_54_code, 2, (some .int), by decide, q_in 1602 (by decide +kernel) rfl, q_in 1600 (by decide +kernel) rfl, q_in 101 (by decide +kernel) rfl, by decide, by decide +kernel⟩, q_in 1601 (by decide +kernel) rfl⟩
theorem cv_X12_387 : q_Cv RX12 387 yX12_stores 1 := ⟨⟨prog_13_method_62_code, 5, none, by decide, q_in 1606 (by decide +kernel) rfl, q_in 1603 (by decide +kernel) rfl, q_in 101 (by decide +kernel) rfl, by decide, by decide +kernel⟩, q_in 1605 (by decide +kernel) rfl, q_in 86 (by decide +kernel) rfl⟩
theorem cv_X12_390 : q_Cv RX12 390 yX12_goesIf 1 := ⟨⟨prog_13_method_63_code, 4, (some .int), by decide, q_in 1610 (by decide +kernel) rfl, q_in 1607 (by decide +kernel) rfl, q_in 101 (by decide +kernel) rfl, by decide, by decide +kernel⟩, q_in 1609 (by decide +kernel) rfl, q_in 87 (by decide +kernel) rfl⟩
theorem cv_X12_393 : q_Cv RX12 393 yX12_goesWhile 1 := ⟨⟨prog_13_method_64_code, 3, (some .int), by decide, q_in 1614 (by decide +kernel) rfl, q_in 1611 (by decide +kernel) rfl, q_in 101 (by decide +kernel) rfl, by decide, by decide +kernel⟩, q_in 1613 (by decide +kernel) rfl, q_in 88 (by decide +kernel) rfl⟩
theorem cv_L_82 : q_Cv RL 82 yX12_told_ 1 := ⟨⟨prog_13_method_66_code, 2, (some .int), by decide, q_in 1618 (by decide +kernel) rfl, q_in 1615 (by decide +kernel) rfl, q_in 101 (by decide +kernel) rfl, by decide, by decide +kernel⟩, q_in 1616 (by decide +kernel) rfl, q_in 1617 (by decide +kernel) rfl⟩
theorem cv_L_85 : q_Cv RL 85 yX12_write 2 := ⟨⟨prog_13_method_67_code, 3, (some .int), by decide, q_in 1622 (by decide +kernel) rfl, q_in 1619 (by decide +kernel) rfl, q_in 101 (by decide +kernel) rfl, by decide, by decide +kernel⟩, q_in 1620 (by decide +kernel) rfl, q_in 1621 (by decide +kernel) rfl⟩
theorem cs_X12_412 : q_Cs RX12 412 yJ9_min_7cf53 2 := ⟨⟨prog_18_method_69_code, 2, (some .int), by decide, q_in 601 (by decide +kernel) rfl, q_in 1623 (by decide +kernel) rfl, q_in 107 (by decide +kernel) rfl, by decide, by decide +kernel⟩, q_in 600 (by decide +kernel) rfl⟩
theorem cv_L_89 : q_Cv RL 89 yX12_count 1 := ⟨⟨prog_13_method_68_code, 2, (some .int), by decide, q_in 1627 (by decide +kernel) rfl, q_in 1624 (by decide +kernel) rfl, q_in 101 (by decide +kernel) rfl, by decide, by decide +kernel⟩, q_in 1625 (by decide +kernel) rfl, q_in 1626 (by decide +kernel) rfl⟩
theorem cv_L_93 : q_Cv RL 93 yX12_size 1 := ⟨⟨prog_13_method_69_code, 2, (some .int), by decide, q_in 1631 (by decide +kernel) rfl, q_in 1628 (by decide +kernel) rfl, q_in 101 (by decide +kernel) rfl, by decide, by decide +kernel⟩, q_in 1629 (by decide +kernel) rfl, q_in 1630 (by decide +kernel) rfl⟩
theorem cd_X0_init : Cond.code yX0_init cX0_init 1 none ∈ q_tb := q_in 127 (by decide +kernel) rfl
theorem cd_X0_clear : Cond.code yX0_clear cX0_clear 1 none ∈ q_tb := q_in 663 (by decide +kernel) rfl
theorem cd_X0_lay : Cond.code yX0_lay cX0_lay 5 (some .int) ∈ q_tb := q_in 733 (by decide +kernel) rfl
theorem cd_X0_junction : Cond.code yX0_junction cX0_junction 1 (some .int) ∈ q_tb := q_in 840 (by decide +kernel) rfl
theorem cd_X0_join : Cond.code yX0_join cX0_join 2 none ∈ q_tb := q_in 848 (by decide +kernel) rfl
theorem cd_X0_leadsTo : Cond.code yX0_leadsTo cX0_leadsTo 2 (some .int) ∈ q_tb := q_in 982 (by decide +kernel) rfl
theorem cd_X0_addArray : Cond.code yX0_addArray cX0_addArray 2 none ∈ q_tb := q_in 720 (by decide +kernel) rfl
theorem cd_X0_cellsOf : Cond.code yX0_cellsOf cX0_cellsOf 2 (some .int) ∈ q_tb := q_in 956 (by decide +kernel) rfl
theorem cd_X1_init : Cond.code yX1_init cX1_init 4 none ∈ q_tb := q_in 298 (by decide +kernel) rfl
theorem cd_X1_begin : Cond.code yX1_begin cX1_begin 2 none ∈ q_tb := q_in 675 (by decide +kernel) rfl
theorem cd_X1_read : Cond.code yX1_read cX1_read 3 (some .boolean) ∈ q_tb := q_in 749 (by decide +kernel) rfl
theorem cd_X1_result : Cond.code yX1_result cX1_result 1 (some .int) ∈ q_tb := q_in 817 (by decide +kernel) rfl
theorem cd_X1_readOperand : Cond.code yX1_readOperand cX1_readOperand 7 (some .boolean) ∈ q_tb := q_in 753 (by decide +kernel) rfl
theorem cd_X1_readTwo : Cond.code yX1_readTwo cX1_readTwo 2 (some .boolean) ∈ q_tb := q_in 808 (by decide +kernel) rfl
theorem cd_X1_readClosing : Cond.code yX1_readClosing cX1_readClosing 2 (some .boolean) ∈ q_tb := q_in 812 (by decide +kernel) rfl
theorem cd_X1_layOperand : Cond.code yX1_layOperand cX1_layOperand 4 none ∈ q_tb := q_in 769 (by decide +kernel) rfl
theorem cd_X1_layOnes : Cond.code yX1_layOnes cX1_layOnes 1 none ∈ q_tb := q_in 787 (by decide +kernel) rfl
theorem cd_X1_layTwos : Cond.code yX1_layTwos cX1_layTwos 4 none ∈ q_tb := q_in 804 (by decide +kernel) rfl
theorem cd_X1_countWorked : Cond.code yX1_countWorked cX1_countWorked 2 none ∈ q_tb := q_in 763 (by decide +kernel) rfl
theorem cd_X1_await : Cond.code yX1_await cX1_await 3 (some .boolean) ∈ q_tb := q_in 758 (by decide +kernel) rfl
theorem cd_X1_lastWaiting : Cond.code yX1_lastWaiting cX1_lastWaiting 1 (some .int) ∈ q_tb := q_in 791 (by decide +kernel) rfl
theorem cd_X1_push : Cond.code yX1_push cX1_push 2 none ∈ q_tb := q_in 774 (by decide +kernel) rfl
theorem cd_X1_pop : Cond.code yX1_pop cX1_pop 1 (some .int) ∈ q_tb := q_in 795 (by decide +kernel) rfl
theorem cd_X1_levelOf : Cond.code yX1_levelOf cX1_levelOf 1 (some .int) ∈ q_tb := q_in 799 (by decide +kernel) rfl
theorem cd_X2_init : Cond.code yX2_init cX2_init 3 none ∈ q_tb := q_in 233 (by decide +kernel) rfl
theorem cd_X2_faultKind : Cond.code yX2_faultKind cX2_faultKind 1 (some .int) ∈ q_tb := q_in 866 (by decide +kernel) rfl
theorem cd_X2_faultPlace : Cond.code yX2_faultPlace cX2_faultPlace 1 (some .int) ∈ q_tb := q_in 870 (by decide +kernel) rfl
theorem cd_X2_make : Cond.code yX2_make cX2_make 2 none ∈ q_tb := q_in 659 (by decide +kernel) rfl
theorem cd_X2_readArrays : Cond.code yX2_readArrays cX2_readArrays 2 (some .boolean) ∈ q_tb := q_in 679 (by decide +kernel) rfl
theorem cd_X2_readCells : Cond.code yX2_readCells cX2_readCells 4 (some .boolean) ∈ q_tb := q_in 711 (by decide +kernel) rfl
theorem cd_X2_readParameters : Cond.code yX2_readParameters cX2_readParameters 3 (some .boolean) ∈ q_tb := q_in 728 (by decide +kernel) rfl
theorem cd_X2_readNewName : Cond.code yX2_readNewName cX2_readNewName 1 (some .boolean) ∈ q_tb := q_in 691 (by decide +kernel) rfl
theorem cd_X2_readBlock : Cond.code yX2_readBlock cX2_readBlock 3 (some .boolean) ∈ q_tb := q_in 737 (by decide +kernel) rfl
theorem cd_X2_readStatement : Cond.code yX2_readStatement cX2_readStatement 1 (some .boolean) ∈ q_tb := q_in 741 (by decide +kernel) rfl
theorem cd_X2_readTelling : Cond.code yX2_readTelling cX2_readTelling 2 (some .boolean) ∈ q_tb := q_in 745 (by decide +kernel) rfl
theorem cd_X2_readSetting : Cond.code yX2_readSetting cX2_readSetting 6 (some .boolean) ∈ q_tb := q_in 821 (by decide +kernel) rfl
theorem cd_X2_readIf : Cond.code yX2_readIf cX2_readIf 3 (some .boolean) ∈ q_tb := q_in 828 (by decide +kernel) rfl
theorem cd_X2_readWhile : Cond.code yX2_readWhile cX2_readWhile 5 (some .boolean) ∈ q_tb := q_in 853 (by decide +kernel) rfl
theorem cd_X2_countBranching : Cond.code yX2_countBranching cX2_countBranching 1 none ∈ q_tb := q_in 832 (by decide +kernel) rfl
theorem cd_X2_readCondition : Cond.code yX2_readCondition cX2_readCondition 1 (some .boolean) ∈ q_tb := q_in 836 (by decide +kernel) rfl
theorem cd_X2_readBody : Cond.code yX2_readBody cX2_readBody 3 (some .boolean) ∈ q_tb := q_in 844 (by decide +kernel) rfl
theorem cd_X2_readLeap : Cond.code yX2_readLeap cX2_readLeap 2 (some .boolean) ∈ q_tb := q_in 857 (by decide +kernel) rfl
theorem cd_X2_readReturn : Cond.code yX2_readReturn cX2_readReturn 1 (some .boolean) ∈ q_tb := q_in 861 (by decide +kernel) rfl
theorem cd_X3_init : Cond.code yX3_init cX3_init 1 none ∈ q_tb := q_in 360 (by decide +kernel) rfl
theorem cd_X3_clear : Cond.code yX3_clear cX3_clear 1 none ∈ q_tb := q_in 877 (by decide +kernel) rfl
theorem cd_X3_begin : Cond.code yX3_begin cX3_begin 1 none ∈ q_tb := q_in 886 (by decide +kernel) rfl
theorem cd_X3_addRow : Cond.code yX3_addRow cX3_addRow 2 none ∈ q_tb := q_in 898 (by decide +kernel) rfl
theorem cd_X3_look : Cond.code yX3_look cX3_look 3 (some .int) ∈ q_tb := q_in 967 (by decide +kernel) rfl
theorem cd_X3_put : Cond.code yX3_put cX3_put 4 none ∈ q_tb := q_in 978 (by decide +kernel) rfl
theorem cd_X3_fetch : Cond.code yX3_fetch cX3_fetch 3 (some .int) ∈ q_tb := q_in 963 (by decide +kernel) rfl
theorem cd_X3_store : Cond.code yX3_store cX3_store 4 none ∈ q_tb := q_in 974 (by decide +kernel) rfl
theorem cd_X3_ask : Cond.code yX3_ask cX3_ask 4 (some .int) ∈ q_tb := q_in 948 (by decide +kernel) rfl
theorem cd_X3_isThere : Cond.code yX3_isThere cX3_isThere 2 (some .boolean) ∈ q_tb := q_in 970 (by decide +kernel) rfl
theorem cd_X4_init : Cond.code yX4_init cX4_init 2 none ∈ q_tb := q_in 239 (by decide +kernel) rfl
theorem cd_X4_begin : Cond.code yX4_begin cX4_begin 1 none ∈ q_tb := q_in 667 (by decide +kernel) rfl
theorem cd_X4_advance : Cond.code yX4_advance cX4_advance 1 none ∈ q_tb := q_in 671 (by decide +kernel) rfl
theorem cd_X4_pass : Cond.code yX4_pass cX4_pass 2 (some .boolean) ∈ q_tb := q_in 683 (by decide +kernel) rfl
theorem cd_X4_enter : Cond.code yX4_enter cX4_enter 2 (some .boolean) ∈ q_tb := q_in 715 (by decide +kernel) rfl
theorem cd_X4_leave : Cond.code yX4_leave cX4_leave 1 none ∈ q_tb := q_in 724 (by decide +kernel) rfl
theorem cd_X4_refuse : Cond.code yX4_refuse cX4_refuse 1 (some .boolean) ∈ q_tb := q_in 687 (by decide +kernel) rfl
theorem cd_X4_blame : Cond.code yX4_blame cX4_blame 3 none ∈ q_tb := q_in 703 (by decide +kernel) rfl
theorem cd_X5_init : Cond.code yX5_init cX5_init 1 none ∈ q_tb := q_in 278 (by decide +kernel) rfl
theorem cd_X5_tell : Cond.code yX5_tell cX5_tell 5 none ∈ q_tb := q_in 707 (by decide +kernel) rfl
theorem cd_X5_find : Cond.code yX5_find cX5_find 4 (some .int) ∈ q_tb := q_in 699 (by decide +kernel) rfl
theorem cd_X5_numberOf : Cond.code yX5_numberOf cX5_numberOf 2 (some .int) ∈ q_tb := q_in 783 (by decide +kernel) rfl
theorem cd_X5_faultOfTelling : Cond.code yX5_faultOfTelling cX5_faultOfTelling 3 (some .int) ∈ q_tb := q_in 695 (by decide +kernel) rfl
theorem cd_X5_faultOfUse : Cond.code yX5_faultOfUse cX5_faultOfUse 3 (some .int) ∈ q_tb := q_in 779 (by decide +kernel) rfl
theorem cd_X6_init : Cond.code yX6_init cX6_init 1 none ∈ q_tb := q_in 404 (by decide +kernel) rfl
theorem cd_X6_take : Cond.code yX6_take cX6_take 3 (some .int) ∈ q_tb := q_in 990 (by decide +kernel) rfl
theorem cd_X7_init : Cond.code yX7_init cX7_init 1 none ∈ q_tb := q_in 184 (by decide +kernel) rfl
theorem cd_X7_add : Cond.code yX7_add cX7_add 3 none ∈ q_tb := q_in 519 (by decide +kernel) rfl
theorem cd_X8_init : Cond.code yX8_init cX8_init 2 none ∈ q_tb := q_in 200 (by decide +kernel) rfl
theorem cd_X8_cut : Cond.code yX8_cut cX8_cut 3 none ∈ q_tb := q_in 527 (by decide +kernel) rfl
theorem cd_X8_skipBlanks : Cond.code yX8_skipBlanks cX8_skipBlanks 1 none ∈ q_tb := q_in 531 (by decide +kernel) rfl
theorem cd_X8_cutToken : Cond.code yX8_cutToken cX8_cutToken 2 (some .int) ∈ q_tb := q_in 539 (by decide +kernel) rfl
theorem cd_X8_cutName : Cond.code yX8_cutName cX8_cutName 5 (some .int) ∈ q_tb := q_in 546 (by decide +kernel) rfl
theorem cd_X8_cutNumber : Cond.code yX8_cutNumber cX8_cutNumber 3 (some .int) ∈ q_tb := q_in 555 (by decide +kernel) rfl
theorem cd_X8_cutSign : Cond.code yX8_cutSign cX8_cutSign 5 (some .int) ∈ q_tb := q_in 566 (by decide +kernel) rfl
theorem cd_X8_byteAt : Cond.code yX8_byteAt cX8_byteAt 2 (some .int) ∈ q_tb := q_in 535 (by decide +kernel) rfl
theorem cd_X8_isLetter : Cond.code yX8_isLetter cX8_isLetter 1 (some .boolean) ∈ q_tb := q_in 542 (by decide +kernel) rfl
theorem cd_X8_isDigit : Cond.code yX8_isDigit cX8_isDigit 1 (some .boolean) ∈ q_tb := q_in 549 (by decide +kernel) rfl
theorem cd_X9_init : Cond.code yX9_init cX9_init 4 none ∈ q_tb := q_in 420 (by decide +kernel) rfl
theorem cd_X9_forget : Cond.code yX9_forget cX9_forget 1 none ∈ q_tb := q_in 882 (by decide +kernel) rfl
theorem cd_X9_perform : Cond.code yX9_perform cX9_perform 6 (some .int) ∈ q_tb := q_in 915 (by decide +kernel) rfl
theorem cd_X9_begin : Cond.code yX9_begin cX9_begin 5 none ∈ q_tb := q_in 920 (by decide +kernel) rfl
theorem cd_X9_isReady : Cond.code yX9_isReady cX9_isReady 3 (some .boolean) ∈ q_tb := q_in 925 (by decide +kernel) rfl
theorem cd_X9_work : Cond.code yX9_work cX9_work 7 (some .int) ∈ q_tb := q_in 933 (by decide +kernel) rfl
theorem cd_X9_beginStep : Cond.code yX9_beginStep cX9_beginStep 1 none ∈ q_tb := q_in 986 (by decide +kernel) rfl
theorem cd_X9_cellOf : Cond.code yX9_cellOf cX9_cellOf 4 (some .int) ∈ q_tb := q_in 952 (by decide +kernel) rfl
theorem cd_X9_hand : Cond.code yX9_hand cX9_hand 3 none ∈ q_tb := q_in 941 (by decide +kernel) rfl
theorem cd_X9_taken : Cond.code yX9_taken cX9_taken 2 (some .int) ∈ q_tb := q_in 937 (by decide +kernel) rfl
theorem cd_X9_isFull : Cond.code yX9_isFull cX9_isFull 2 (some .boolean) ∈ q_tb := q_in 929 (by decide +kernel) rfl
theorem cd_X9_isVariable : Cond.code yX9_isVariable cX9_isVariable 1 (some .boolean) ∈ q_tb := q_in 944 (by decide +kernel) rfl
theorem cd_X9_worked : Cond.code yX9_worked cX9_worked 3 (some .int) ∈ q_tb := q_in 993 (by decide +kernel) rfl
theorem cd_X9_reckoned : Cond.code yX9_reckoned cX9_reckoned 3 (some .int) ∈ q_tb := q_in 999 (by decide +kernel) rfl
theorem cd_X9_truth : Cond.code yX9_truth cX9_truth 1 (some .int) ∈ q_tb := q_in 996 (by decide +kernel) rfl
theorem cd_X10_init : Cond.code yX10_init cX10_init 1 none ∈ q_tb := q_in 119 (by decide +kernel) rfl
theorem cd_X10_feed : Cond.code yX10_feed cX10_feed 6 (some .int) ∈ q_tb := q_in 515 (by decide +kernel) rfl
theorem cd_X10_build : Cond.code yX10_build cX10_build 3 (some .int) ∈ q_tb := q_in 523 (by decide +kernel) rfl
theorem cd_X10_fault : Cond.code yX10_fault cX10_fault 2 (some .int) ∈ q_tb := q_in 890 (by decide +kernel) rfl
theorem cd_X10_give : Cond.code yX10_give cX10_give 4 (some .int) ∈ q_tb := q_in 1021 (by decide +kernel) rfl
theorem cd_X10_poke : Cond.code yX10_poke cX10_poke 5 (some .int) ∈ q_tb := q_in 1094 (by decide +kernel) rfl
theorem cd_X10_cell : Cond.code yX10_cell cX10_cell 3 (some .int) ∈ q_tb := q_in 1108 (by decide +kernel) rfl
theorem cd_X10_latency : Cond.code yX10_latency cX10_latency 2 (some .int) ∈ q_tb := q_in 894 (by decide +kernel) rfl
theorem cd_X10_free : Cond.code yX10_free cX10_free 2 (some .int) ∈ q_tb := q_in 902 (by decide +kernel) rfl
theorem cd_X10_stall : Cond.code yX10_stall cX10_stall 5 (some .long) ∈ q_tb := q_in 906 (by decide +kernel) rfl
theorem cd_X10_run : Cond.code yX10_run cX10_run 2 (some .int) ∈ q_tb := q_in 911 (by decide +kernel) rfl
theorem cd_X10_told : Cond.code yX10_told cX10_told 2 (some .int) ∈ q_tb := q_in 1004 (by decide +kernel) rfl
theorem cd_X10_write : Cond.code yX10_write cX10_write 3 (some .int) ∈ q_tb := q_in 1115 (by decide +kernel) rfl
theorem cd_X10_count : Cond.code yX10_count cX10_count 2 (some .int) ∈ q_tb := q_in 1008 (by decide +kernel) rfl
theorem cd_X10_size : Cond.code yX10_size cX10_size 2 (some .int) ∈ q_tb := q_in 1012 (by decide +kernel) rfl
theorem cd_X10_isCell : Cond.code yX10_isCell cX10_isCell 3 (some .boolean) ∈ q_tb := q_in 1098 (by decide +kernel) rfl
theorem cd_X11_init : Cond.code yX11_init cX11_init 1 none ∈ q_tb := q_in 1143 (by decide +kernel) rfl
theorem cd_X11_clear : Cond.code yX11_clear cX11_clear 1 none ∈ q_tb := q_in 1409 (by decide +kernel) rfl
theorem cd_X12_init : Cond.code yX12_init cX12_init 1 none ∈ q_tb := q_in 1121 (by decide +kernel) rfl
theorem cd_X12_thrown : Cond.code yX12_thrown cX12_thrown 1 (some .int) ∈ q_tb := q_in 1351 (by decide +kernel) rfl
theorem cd_X12_feed : Cond.code yX12_feed cX12_feed 6 (some .int) ∈ q_tb := q_in 1355 (by decide +kernel) rfl
theorem cd_X12_four : Cond.code yX12_four cX12_four 3 none ∈ q_tb := q_in 1359 (by decide +kernel) rfl
theorem cd_X12_isSmall : Cond.code yX12_isSmall cX12_isSmall 1 (some .boolean) ∈ q_tb := q_in 1374 (by decide +kernel) rfl
theorem cd_X12_isDigit : Cond.code yX12_isDigit cX12_isDigit 1 (some .boolean) ∈ q_tb := q_in 1377 (by decide +kernel) rfl
theorem cd_X12_byteAt : Cond.code yX12_byteAt cX12_byteAt 2 (some .int) ∈ q_tb := q_in 1371 (by decide +kernel) rfl
theorem cd_X12_token : Cond.code yX12_token cX12_token 4 none ∈ q_tb := q_in 1396 (by decide +kernel) rfl
theorem cd_X12_isWord : Cond.code yX12_isWord cX12_isWord 8 (some .boolean) ∈ q_tb := q_in 1386 (by decide +kernel) rfl
theorem cd_X12_wordOf : Cond.code yX12_wordOf cX12_wordOf 3 (some .int) ∈ q_tb := q_in 1381 (by decide +kernel) rfl
theorem cd_X12_signAt : Cond.code yX12_signAt cX12_signAt 4 (some .int) ∈ q_tb := q_in 1405 (by decide +kernel) rfl
theorem cd_X12_scans : Cond.code yX12_scans cX12_scans 6 none ∈ q_tb := q_in 1367 (by decide +kernel) rfl
theorem cd_X12_refuse : Cond.code yX12_refuse cX12_refuse 2 none ∈ q_tb := q_in 1421 (by decide +kernel) rfl
theorem cd_X12_wrong : Cond.code yX12_wrong cX12_wrong 3 none ∈ q_tb := q_in 1437 (by decide +kernel) rfl
theorem cd_X12_is : Cond.code yX12_is cX12_is 2 (some .boolean) ∈ q_tb := q_in 1441 (by decide +kernel) rfl
theorem cd_X12_wants : Cond.code yX12_wants cX12_wants 2 none ∈ q_tb := q_in 1465 (by decide +kernel) rfl
theorem cd_X12_wantsKind : Cond.code yX12_wantsKind cX12_wantsKind 2 (some .int) ∈ q_tb := q_in 1417 (by decide +kernel) rfl
theorem cd_X12_enters : Cond.code yX12_enters cX12_enters 1 none ∈ q_tb := q_in 1457 (by decide +kernel) rfl
theorem cd_X12_opens : Cond.code yX12_opens cX12_opens 2 none ∈ q_tb := q_in 1453 (by decide +kernel) rfl
theorem cd_X12_closes : Cond.code yX12_closes cX12_closes 2 none ∈ q_tb := q_in 1461 (by decide +kernel) rfl
theorem cd_X12_areAlike : Cond.code yX12_areAlike cX12_areAlike 4 (some .boolean) ∈ q_tb := q_in 1433 (by decide +kernel) rfl
theorem cd_X12_meaning : Cond.code yX12_meaning cX12_meaning 3 (some .int) ∈ q_tb := q_in 1429 (by decide +kernel) rfl
theorem cd_X12_told : Cond.code yX12_told cX12_told 4 none ∈ q_tb := q_in 1445 (by decide +kernel) rfl
theorem cd_X12_asksNew : Cond.code yX12_asksNew cX12_asksNew 2 none ∈ q_tb := q_in 1425 (by decide +kernel) rfl
theorem cd_X12_program : Cond.code yX12_program cX12_program 4 none ∈ q_tb := q_in 1413 (by decide +kernel) rfl
theorem cd_X12_array : Cond.code yX12_array cX12_array 4 none ∈ q_tb := q_in 1449 (by decide +kernel) rfl
theorem cd_X12_parameter : Cond.code yX12_parameter cX12_parameter 3 none ∈ q_tb := q_in 1469 (by decide +kernel) rfl
theorem cd_X12_variableTold : Cond.code yX12_variableTold cX12_variableTold 3 none ∈ q_tb := q_in 1473 (by decide +kernel) rfl
theorem cd_X12_block : Cond.code yX12_block cX12_block 5 (some .int) ∈ q_tb := q_in 1477 (by decide +kernel) rfl
theorem cd_X12_newStatement : Cond.code yX12_newStatement cX12_newStatement 4 (some .int) ∈ q_tb := q_in 1485 (by decide +kernel) rfl
theorem cd_X12_within : Cond.code yX12_within cX12_within 3 (some .int) ∈ q_tb := q_in 1529 (by decide +kernel) rfl
theorem cd_X12_statement : Cond.code yX12_statement cX12_statement 5 (some .int) ∈ q_tb := q_in 1481 (by decide +kernel) rfl
theorem cd_X12_uses : Cond.code yX12_uses cX12_uses 4 (some .int) ∈ q_tb := q_in 1509 (by decide +kernel) rfl
theorem cd_X12_assigns : Cond.code yX12_assigns cX12_assigns 7 (some .int) ∈ q_tb := q_in 1517 (by decide +kernel) rfl
theorem cd_X12_loop : Cond.code yX12_loop cX12_loop 2 none ∈ q_tb := q_in 1525 (by decide +kernel) rfl
theorem cd_X12_chooses : Cond.code yX12_chooses cX12_chooses 4 (some .int) ∈ q_tb := q_in 1521 (by decide +kernel) rfl
theorem cd_X12_repeats : Cond.code yX12_repeats cX12_repeats 4 (some .int) ∈ q_tb := q_in 1533 (by decide +kernel) rfl
theorem cd_X12_expression : Cond.code yX12_expression cX12_expression 2 (some .int) ∈ q_tb := q_in 1489 (by decide +kernel) rfl
theorem cd_X12_code : Cond.code yX12_code cX12_code 3 none ∈ q_tb := q_in 1505 (by decide +kernel) rfl
theorem cd_X12_part : Cond.code yX12_part cX12_part 2 none ∈ q_tb := q_in 1501 (by decide +kernel) rfl
theorem cd_X12_levelOf : Cond.code yX12_levelOf cX12_levelOf 1 (some .int) ∈ q_tb := q_in 1513 (by decide +kernel) rfl
theorem cd_X12_binary : Cond.code yX12_binary cX12_binary 3 none ∈ q_tb := q_in 1493 (by decide +kernel) rfl
theorem cd_X12_unary : Cond.code yX12_unary cX12_unary 3 none ∈ q_tb := q_in 1497 (by decide +kernel) rfl
theorem cd_X12_fault : Cond.code yX12_fault cX12_fault 2 (some .int) ∈ q_tb := q_in 1537 (by decide +kernel) rfl
theorem cd_X12_give : Cond.code yX12_give cX12_give 4 (some .int) ∈ q_tb := q_in 1541 (by decide +kernel) rfl
theorem cd_X12_isCell : Cond.code yX12_isCell cX12_isCell 3 (some .boolean) ∈ q_tb := q_in 1549 (by decide +kernel) rfl
theorem cd_X12_poke : Cond.code yX12_poke cX12_poke 5 (some .int) ∈ q_tb := q_in 1545 (by decide +kernel) rfl
theorem cd_X12_cell : Cond.code yX12_cell cX12_cell 3 (some .int) ∈ q_tb := q_in 1553 (by decide +kernel) rfl
theorem cd_X12_latency : Cond.code yX12_latency cX12_latency 2 (some .int) ∈ q_tb := q_in 1557 (by decide +kernel) rfl
theorem cd_X12_free : Cond.code yX12_free cX12_free 2 (some .int) ∈ q_tb := q_in 1561 (by decide +kernel) rfl
theorem cd_X12_stall : Cond.code yX12_stall cX12_stall 5 (some .long) ∈ q_tb := q_in 1565 (by decide +kernel) rfl
theorem cd_X12_divided : Cond.code yX12_divided cX12_divided 2 (some .int) ∈ q_tb := q_in 1599 (by decide +kernel) rfl
theorem cd_X12_rest : Cond.code yX12_rest cX12_rest 2 (some .int) ∈ q_tb := q_in 1602 (by decide +kernel) rfl
theorem cd_X12_truth : Cond.code yX12_truth cX12_truth 1 (some .int) ∈ q_tb := q_in 1593 (by decide +kernel) rfl
theorem cd_X12_works : Cond.code yX12_works cX12_works 3 (some .int) ∈ q_tb := q_in 1596 (by decide +kernel) rfl
theorem cd_X12_placeOf : Cond.code yX12_placeOf cX12_placeOf 4 (some .int) ∈ q_tb := q_in 1590 (by decide +kernel) rfl
theorem cd_X12_tells : Cond.code yX12_tells cX12_tells 5 (some .int) ∈ q_tb := q_in 1586 (by decide +kernel) rfl
theorem cd_X12_begins : Cond.code yX12_begins cX12_begins 1 (some .boolean) ∈ q_tb := q_in 1574 (by decide +kernel) rfl
theorem cd_X12_goes : Cond.code yX12_goes cX12_goes 4 (some .int) ∈ q_tb := q_in 1578 (by decide +kernel) rfl
theorem cd_X12_goesOne : Cond.code yX12_goesOne cX12_goesOne 2 (some .int) ∈ q_tb := q_in 1582 (by decide +kernel) rfl
theorem cd_X12_stores : Cond.code yX12_stores cX12_stores 5 none ∈ q_tb := q_in 1606 (by decide +kernel) rfl
theorem cd_X12_goesIf : Cond.code yX12_goesIf cX12_goesIf 4 (some .int) ∈ q_tb := q_in 1610 (by decide +kernel) rfl
theorem cd_X12_goesWhile : Cond.code yX12_goesWhile cX12_goesWhile 3 (some .int) ∈ q_tb := q_in 1614 (by decide +kernel) rfl
theorem cd_X12_run : Cond.code yX12_run cX12_run 3 (some .int) ∈ q_tb := q_in 1570 (by decide +kernel) rfl
theorem cd_X12_told_ : Cond.code yX12_told_ cX12_told_ 2 (some .int) ∈ q_tb := q_in 1618 (by decide +kernel) rfl
theorem cd_X12_write : Cond.code yX12_write cX12_write 3 (some .int) ∈ q_tb := q_in 1622 (by decide +kernel) rfl
theorem cd_X12_count : Cond.code yX12_count cX12_count 2 (some .int) ∈ q_tb := q_in 1627 (by decide +kernel) rfl
theorem cd_X12_size : Cond.code yX12_size cX12_size 2 (some .int) ∈ q_tb := q_in 1631 (by decide +kernel) rfl
theorem cd_J11_isValidCodePoint_9a6ad : Cond.code yJ11_isValidCodePoint_9a6ad cJ11_isValidCodePoint_9a6ad 2 (some .boolean) ∈ q_tb := q_in 645 (by decide +kernel) rfl
theorem cd_Jxb5711_init_a7421 : Cond.code yJxb5711_init_a7421 cJxb5711_init_a7421 2 none ∈ q_tb := q_in 1135 (by decide +kernel) rfl
theorem cd_J9_floorMod_7cf53 : Cond.code yJ9_floorMod_7cf53 cJ9_floorMod_7cf53 3 (some .int) ∈ q_tb := q_in 959 (by decide +kernel) rfl
theorem cd_J9_max_7cf53 : Cond.code yJ9_max_7cf53 cJ9_max_7cf53 2 (some .int) ∈ q_tb := q_in 598 (by decide +kernel) rfl
theorem cd_J9_min_7cf53 : Cond.code yJ9_min_7cf53 cJ9_min_7cf53 2 (some .int) ∈ q_tb := q_in 601 (by decide +kernel) rfl
theorem cd_J9_min_f86c9 : Cond.code yJ9_min_f86c9 cJ9_min_f86c9 4 (some .long) ∈ q_tb := q_in 561 (by decide +kernel) rfl
theorem cd_J0_length_8abf5 : Cond.code yJ0_length_8abf5 cJ0_length_8abf5 1 (some .int) ∈ q_tb := q_in 585 (by decide +kernel) rfl
theorem cd_J0_indexOf_0f7a4 : Cond.code yJ0_indexOf_0f7a4 cJ0_indexOf_0f7a4 2 (some .int) ∈ q_tb := q_in 571 (by decide +kernel) rfl
theorem cd_J0_indexOf_7cf53 : Cond.code yJ0_indexOf_7cf53 cJ0_indexOf_7cf53 3 (some .int) ∈ q_tb := q_in 575 (by decide +kernel) rfl
theorem cd_J0_isLatin1_aae02 : Cond.code yJ0_isLatin1_aae02 cJ0_isLatin1_aae02 1 (some .boolean) ∈ q_tb := q_in 579 (by decide +kernel) rfl
theorem cd_J0_checkBoundsBeginEnd_23922 : Cond.code yJ0_checkBoundsBeginEnd_23922 cJ0_checkBoundsBeginEnd_23922 3 none ∈ q_tb := q_in 622 (by decide +kernel) rfl
theorem cd_J1_canEncode_9a6ad : Cond.code yJ1_canEncode_9a6ad cJ1_canEncode_9a6ad 1 (some .boolean) ∈ q_tb := q_in 595 (by decide +kernel) rfl
theorem cd_J1_indexOf_4cfef : Cond.code yJ1_indexOf_4cfef cJ1_indexOf_4cfef 4 (some .int) ∈ q_tb := q_in 592 (by decide +kernel) rfl
theorem cd_J1_indexOfChar_4cfef : Cond.code yJ1_indexOfChar_4cfef cJ1_indexOfChar_4cfef 6 (some .int) ∈ q_tb := q_in 604 (by decide +kernel) rfl
theorem cd_J2_length_9d52b : Cond.code yJ2_length_9d52b cJ2_length_9d52b 1 (some .int) ∈ q_tb := q_in 619 (by decide +kernel) rfl
theorem cd_J2_indexOf_4cfef : Cond.code yJ2_indexOf_4cfef cJ2_indexOf_4cfef 4 (some .int) ∈ q_tb := q_in 607 (by decide +kernel) rfl
theorem cd_J2_indexOfChar_4cfef : Cond.code yJ2_indexOfChar_4cfef cJ2_indexOfChar_4cfef 4 (some .int) ∈ q_tb := q_in 613 (by decide +kernel) rfl
theorem cd_J2_indexOfCharUnsafe_4cfef : Cond.code yJ2_indexOfCharUnsafe_4cfef cJ2_indexOfCharUnsafe_4cfef 5 (some .int) ∈ q_tb := q_in 630 (by decide +kernel) rfl
theorem cd_J2_indexOfSupplementary_4cfef : Cond.code yJ2_indexOfSupplementary_4cfef cJ2_indexOfSupplementary_4cfef 7 (some .int) ∈ q_tb := q_in 642 (by decide +kernel) rfl
theorem cd_J2_checkBoundsBeginEnd_d044e : Cond.code yJ2_checkBoundsBeginEnd_d044e cJ2_checkBoundsBeginEnd_d044e 3 none ∈ q_tb := q_in 616 (by decide +kernel) rfl
theorem cd_J7_fill_53178 : Cond.code yJ7_fill_53178 cJ7_fill_53178 4 none ∈ q_tb := q_in 873 (by decide +kernel) rfl
theorem cd_J3_checkFromToIndex_8c36e : Cond.code yJ3_checkFromToIndex_8c36e cJ3_checkFromToIndex_8c36e 4 (some .int) ∈ q_tb := q_in 627 (by decide +kernel) rfl
theorem cl_X8_66 : Cond.constantLong RX8 66 (10) ∈ q_tb := q_in 556 (by decide +kernel) rfl
theorem cl_X8_68 : Cond.constantLong RX8 68 (48) ∈ q_tb := q_in 557 (by decide +kernel) rfl
theorem cl_X8_70 : Cond.constantLong RX8 70 (2147483648) ∈ q_tb := q_in 558 (by decide +kernel) rfl
theorem cl_X8_78 : Cond.constantLong RX8 78 (2147483647) ∈ q_tb := q_in 562 (by decide +kernel) rfl
theorem ci_J2_227 : Cond.constant RJ2 227 (65536) ∈ q_tb := q_in 610 (by decide +kernel) rfl
theorem ci_J11_110 : Cond.constant RJ11 110 (55232) ∈ q_tb := q_in 649 (by decide +kernel) rfl
theorem ci_J11_76 : Cond.constant RJ11 76 (56320) ∈ q_tb := q_in 653 (by decide +kernel) rfl
theorem cl_X2_124 : Cond.constantLong RX2 124 (256) ∈ q_tb := q_in 716 (by decide +kernel) rfl
theorem cl_X10_151 : Cond.constantLong RX10 151 (-1) ∈ q_tb := q_in 907 (by decide +kernel) rfl
theorem ci_X9_63 : Cond.constant RX9 63 (268800000) ∈ q_tb := q_in 921 (by decide +kernel) rfl
theorem cl_X12_103 : Cond.constantLong RX12 103 (6909556) ∈ q_tb := q_in 1382 (by decide +kernel) rfl
theorem cl_X12_109 : Cond.constantLong RX12 109 (26982) ∈ q_tb := q_in 1387 (by decide +kernel) rfl
theorem cl_X12_111 : Cond.constantLong RX12 111 (1701606245) ∈ q_tb := q_in 1388 (by decide +kernel) rfl
theorem cl_X12_113 : Cond.constantLong RX12 113 (512852847717) ∈ q_tb := q_in 1389 (by decide +kernel) rfl
theorem cl_X12_115 : Cond.constantLong RX12 115 (422826041707) ∈ q_tb := q_in 1390 (by decide +kernel) rfl
theorem cl_X12_117 : Cond.constantLong RX12 117 (7165066978433856869) ∈ q_tb := q_in 1391 (by decide +kernel) rfl
theorem cl_X12_119 : Cond.constantLong RX12 119 (125780071117422) ∈ q_tb := q_in 1392 (by decide +kernel) rfl
theorem cl_X12_136 : Cond.constantLong RX12 136 (10) ∈ q_tb := q_in 1397 (by decide +kernel) rfl
theorem cl_X12_138 : Cond.constantLong RX12 138 (48) ∈ q_tb := q_in 1398 (by decide +kernel) rfl
theorem cl_X12_140 : Cond.constantLong RX12 140 (4000000000) ∈ q_tb := q_in 1399 (by decide +kernel) rfl
theorem cl_X12_148 : Cond.constantLong RX12 148 (2147483647) ∈ q_tb := q_in 1401 (by decide +kernel) rfl
theorem cl_X12_353 : Cond.constantLong RX12 353 (-1) ∈ q_tb := q_in 1566 (by decide +kernel) rfl
theorem cl_L_68 : Cond.constantLong RL 68 (4294967295) ∈ q_tb := q_in 1632 (by decide +kernel) rfl
