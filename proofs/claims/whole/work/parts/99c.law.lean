/-! ===== the law: its calls one by one ===== -/
theorem lg_self (r : Int64) : lg_cmp r r = 0 := by unfold lg_cmp; simp
theorem INV.flt {G : qG} {D d : Nat} {hc hm : qh} (x : INV hc hm) (w : Int32) : ∃ r, cR G (D + 1) yX10_fault [.ref 0, .int w] hc (riv r) hc ∧ mR G (d + 1) yX12_fault [.ref 43, .int w] hm (riv r) (hm.sI 43 0 0) := by
  obtain ⟨u, B, c0, c, p0, p, e0, e, t, rc, rm, re, f, _⟩ := x
  exact j_fault w f.1 f.2
theorem csx_43 : q_CsX RL 43 yL_give 4 := ⟨_, _, _, _, by decide, cw_L_give, q_in 1017 (by decide +kernel) rfl, q_in 89 (by decide +kernel) rfl, by decide, by decide +kernel, q_in 1018 (by decide +kernel) rfl⟩
theorem csx_53 : q_CsX RL 53 yL_poke 5 := ⟨_, _, _, _, by decide, cw_L_poke, q_in 1091 (by decide +kernel) rfl, q_in 89 (by decide +kernel) rfl, by decide, by decide +kernel, q_in 1092 (by decide +kernel) rfl⟩
theorem csx_57 : q_CsX RL 57 yL_cell 4 := ⟨_, _, _, _, by decide, cw_L_cell, q_in 1105 (by decide +kernel) rfl, q_in 89 (by decide +kernel) rfl, by decide, by decide +kernel, q_in 1106 (by decide +kernel) rfl⟩
theorem csx_83 : q_CsX RL 83 yL_write 4 := ⟨_, _, _, _, by decide, cw_L_write, q_in 1112 (by decide +kernel) rfl, q_in 89 (by decide +kernel) rfl, by decide, by decide +kernel, q_in 1113 (by decide +kernel) rfl⟩
theorem cvx_38 : q_CvX RL 38 yX12_build 1 := ⟨_, _, _, _, by decide, cw_X12_build, q_in 1363 (by decide +kernel) rfl, q_in 101 (by decide +kernel) rfl, by decide, by decide +kernel, q_in 1364 (by decide +kernel) rfl, q_in 1365 (by decide +kernel) rfl⟩
section LAW
variable {G : qG} {p : Program} {e : Env} {s : State} {m : MethodId} {below : List Frame} {meth : Method} {c : Code} {b L i : Nat} {xs : Nat → Int32} {cells slots : Nat} {hc hm : qh}
def lvS (G : qG) (b i : Nat) : List (Nat × Value) := [(0, .ref b), (1, .ref (G.b + 0)), (2, .ref (G.b + 43)), (3, .ref (G.b + 83)), (4, .int (Int32.ofNat i))]
/-- where each call's check comes to its end -/
def l_K (G : qG) (p : Program) (e : Env) (s : State) (m : MethodId) (below : List Frame) (meth : Method) (c : Code) (b i cells slots : Nat) : Prop := ∀ (hc hm : qh) (cells' slots' : Nat), INV hc hm → cells' ≤ cells + 1 → slots' ≤ slots + 6 → l_W G p e s m below meth c b cells' slots' zN 715 (lvS G b i) [] (mg hc hm)
set_option maxRecDepth 100000 in
theorem lc_feed (C : l_C G p s m meth c b L xs) (hL : L ≤ 3072) (hi : i + 6 ≤ L) (x : INV hc hm) (hcc : cells + 1 ≤ 601024) (hss : slots + 6 ≤ 7293034) (K : l_K G p e s m below meth c b i cells slots) : l_W G p e s m below meth c b cells slots zN 112 (lvS G b i) [] (mg hc hm) := by
  obtain ⟨r, hc1, hm1, A1, M1, I1⟩ := j_feed (G := G) (D := 10) (d := 10) x (xs (i + 1)) (xs (i + 2)) (xs (i + 3)) (xs (i + 4)) (xs (i + 5))
  refine l_aload (j := 1) C dL_law_112 rfl rfl ?_
  refine l_arg (k := 1) (j0 := 0) (j4 := 4) C hL (by omega) dL_law_113 dL_law_114 dL_law_116 rfl dL_law_117 dL_law_118 rfl rfl ?_
  refine l_arg (k := 2) (j0 := 0) (j4 := 4) C hL (by omega) dL_law_119 dL_law_120 dL_law_122 rfl dL_law_123 dL_law_124 rfl rfl ?_
  refine l_arg (k := 3) (j0 := 0) (j4 := 4) C hL (by omega) dL_law_125 dL_law_126 dL_law_128 rfl dL_law_129 dL_law_130 rfl rfl ?_
  refine l_arg (k := 4) (j0 := 0) (j4 := 4) C hL (by omega) dL_law_131 dL_law_132 dL_law_134 rfl dL_law_135 dL_law_136 rfl rfl ?_
  refine l_arg (k := 5) (j0 := 0) (j4 := 4) C hL (by omega) dL_law_137 dL_law_138 dL_law_140 rfl dL_law_141 dL_law_142 rfl rfl ?_
  refine l_callV (ci := 11) (o := 0) (d1 := 12) (As := [.int (xs (i + 1)), .int (xs (i + 2)), .int (xs (i + 3)), .int (xs (i + 4)), .int (xs (i + 5))]) (st := []) (v := .int r) (h' := mg hc1 hm) C cv_L_29 ⟨_, _, rfl⟩ (by decide) rfl rfl (by omega) (by omega) (by omega) (Nat.le_of_ble_eq_true rfl) dL_law_143 rfl (A1 hm _ ⟨rfl, rfl⟩) ?_
  refine l_aload (j := 2) C dL_law_146 rfl rfl ?_
  refine l_arg (k := 1) (j0 := 0) (j4 := 4) C hL (by omega) dL_law_147 dL_law_148 dL_law_150 rfl dL_law_151 dL_law_152 rfl rfl ?_
  refine l_arg (k := 2) (j0 := 0) (j4 := 4) C hL (by omega) dL_law_153 dL_law_154 dL_law_156 rfl dL_law_157 dL_law_158 rfl rfl ?_
  refine l_arg (k := 3) (j0 := 0) (j4 := 4) C hL (by omega) dL_law_159 dL_law_160 dL_law_162 rfl dL_law_163 dL_law_164 rfl rfl ?_
  refine l_arg (k := 4) (j0 := 0) (j4 := 4) C hL (by omega) dL_law_165 dL_law_166 dL_law_168 rfl dL_law_169 dL_law_170 rfl rfl ?_
  refine l_arg (k := 5) (j0 := 0) (j4 := 4) C hL (by omega) dL_law_171 dL_law_172 dL_law_174 rfl dL_law_175 dL_law_176 rfl rfl ?_
  refine l_callV (ci := 13) (o := 43) (d1 := 12) (As := [.int (xs (i + 1)), .int (xs (i + 2)), .int (xs (i + 3)), .int (xs (i + 4)), .int (xs (i + 5))]) (st := [.int r]) (v := .int r) (h' := mg hc1 hm1) C cv_L_33 ⟨_, _, rfl⟩ (by decide) rfl rfl (by omega) (by omega) (by omega) (Nat.le_of_ble_eq_true rfl) dL_law_177 rfl (M1 hc1 _ ⟨rfl, rfl⟩) ?_
  exact l_icmp_eq (x := r) (y := r) C dL_law_180 (by decide) rfl (K _ _ cells slots I1 (by omega) (by omega))
set_option maxRecDepth 100000 in
theorem lc_build (C : l_C G p s m meth c b L xs) (hL : L ≤ 3072) (hi : i + 6 ≤ L) (x : INV hc hm) (hcc : cells + 1 ≤ 601024) (hss : slots + 6 ≤ 7293034) (K : l_K G p e s m below meth c b i cells slots) : l_W G p e s m below meth c b cells slots zN 185 (lvS G b i) [] (mg hc hm) := by
  obtain ⟨r, hc1, hm1, A1, M1, I1⟩ := j_buildI (G := G) (D := 80) (d := 330) (by omega) (by omega) x (xs (i + 1))
  refine l_aload (j := 1) C dL_law_185 rfl rfl ?_
  refine l_arg (k := 1) (j0 := 0) (j4 := 4) C hL (by omega) dL_law_186 dL_law_187 dL_law_189 rfl dL_law_190 dL_law_191 rfl rfl ?_
  refine l_callV (ci := 11) (o := 0) (d1 := 81) (As := [.int (xs (i + 1))]) (st := []) (v := .int r) (h' := mg hc1 hm) C cv_L_34 ⟨_, _, rfl⟩ (by decide) rfl rfl (by omega) (by omega) (by omega) (Nat.le_of_ble_eq_true rfl) dL_law_192 rfl (A1 hm _ ⟨rfl, rfl⟩) ?_
  refine l_aload (j := 2) C dL_law_195 rfl rfl ?_
  refine l_arg (k := 1) (j0 := 0) (j4 := 4) C hL (by omega) dL_law_196 dL_law_197 dL_law_199 rfl dL_law_200 dL_law_201 rfl rfl ?_
  refine l_callVX (ci := 13) (o := 43) (d1 := 331) (As := [.int (xs (i + 1))]) (st := [.int r]) (v := .int r) (h' := mg hc1 hm1) C cvx_38 ⟨_, _, rfl⟩ (by decide) rfl rfl (by omega) (by omega) (by omega) (Nat.le_of_ble_eq_true rfl) dL_law_202 rfl (M1 hc1 _ ⟨rfl, rfl⟩) ?_
  exact l_icmp_eq (x := r) (y := r) C dL_law_205 (by decide) rfl (K _ _ cells slots I1 (by omega) (by omega))
set_option maxRecDepth 100000 in
theorem lc_fault (C : l_C G p s m meth c b L xs) (hL : L ≤ 3072) (hi : i + 6 ≤ L) (x : INV hc hm) (hcc : cells + 1 ≤ 601024) (hss : slots + 6 ≤ 7293034) (K : l_K G p e s m below meth c b i cells slots) : l_W G p e s m below meth c b cells slots zN 210 (lvS G b i) [] (mg hc hm) := by
  obtain ⟨r, A1, M1⟩ := INV.flt (G := G) (D := 10) (d := 10) x (xs (i + 1))
  have I1 := x.thr 0
  refine l_aload (j := 1) C dL_law_210 rfl rfl ?_
  refine l_arg (k := 1) (j0 := 0) (j4 := 4) C hL (by omega) dL_law_211 dL_law_212 dL_law_214 rfl dL_law_215 dL_law_216 rfl rfl ?_
  refine l_callV (ci := 11) (o := 0) (d1 := 11) (As := [.int (xs (i + 1))]) (st := []) (v := .int r) (h' := mg hc hm) C cv_L_39 ⟨_, _, rfl⟩ (by decide) rfl rfl (by omega) (by omega) (by omega) (Nat.le_of_ble_eq_true rfl) dL_law_217 rfl (A1 hm _ ⟨rfl, rfl⟩) ?_
  refine l_aload (j := 2) C dL_law_220 rfl rfl ?_
  refine l_arg (k := 1) (j0 := 0) (j4 := 4) C hL (by omega) dL_law_221 dL_law_222 dL_law_224 rfl dL_law_225 dL_law_226 rfl rfl ?_
  refine l_callV (ci := 13) (o := 43) (d1 := 11) (As := [.int (xs (i + 1))]) (st := [.int r]) (v := .int r) (h' := mg hc (hm.sI 43 0 0)) C cv_L_42 ⟨_, _, rfl⟩ (by decide) rfl rfl (by omega) (by omega) (by omega) (Nat.le_of_ble_eq_true rfl) dL_law_227 rfl (M1 hc _ ⟨rfl, rfl⟩) ?_
  exact l_icmp_eq (x := r) (y := r) C dL_law_230 (by decide) rfl (K _ _ cells slots I1 (by omega) (by omega))
set_option maxRecDepth 100000 in
theorem lc_latency (C : l_C G p s m meth c b L xs) (hL : L ≤ 3072) (hi : i + 6 ≤ L) (x : INV hc hm) (hcc : cells + 1 ≤ 601024) (hss : slots + 6 ≤ 7293034) (K : l_K G p e s m below meth c b i cells slots) : l_W G p e s m below meth c b cells slots zN 451 (lvS G b i) [] (mg hc hm) := by
  obtain ⟨r, hc1, hm1, A1, M1, I1⟩ := j_latency (G := G) (D := 10) (d := 10) x (xs (i + 1))
  refine l_aload (j := 1) C dL_law_451 rfl rfl ?_
  refine l_arg (k := 1) (j0 := 0) (j4 := 4) C hL (by omega) dL_law_452 dL_law_453 dL_law_455 rfl dL_law_456 dL_law_457 rfl rfl ?_
  refine l_callV (ci := 11) (o := 0) (d1 := 12) (As := [.int (xs (i + 1))]) (st := []) (v := .int r) (h' := mg hc1 hm) C cv_L_60 ⟨_, _, rfl⟩ (by decide) rfl rfl (by omega) (by omega) (by omega) (Nat.le_of_ble_eq_true rfl) dL_law_458 rfl (A1 hm _ ⟨rfl, rfl⟩) ?_
  refine l_aload (j := 2) C dL_law_461 rfl rfl ?_
  refine l_arg (k := 1) (j0 := 0) (j4 := 4) C hL (by omega) dL_law_462 dL_law_463 dL_law_465 rfl dL_law_466 dL_law_467 rfl rfl ?_
  refine l_callV (ci := 13) (o := 43) (d1 := 11) (As := [.int (xs (i + 1))]) (st := [.int r]) (v := .int r) (h' := mg hc1 hm1) C cv_L_63 ⟨_, _, rfl⟩ (by decide) rfl rfl (by omega) (by omega) (by omega) (Nat.le_of_ble_eq_true rfl) dL_law_468 rfl (M1 hc1 _ ⟨rfl, rfl⟩) ?_
  exact l_icmp_eq (x := r) (y := r) C dL_law_471 (by decide) rfl (K _ _ cells slots I1 (by omega) (by omega))
set_option maxRecDepth 100000 in
theorem lc_free (C : l_C G p s m meth c b L xs) (hL : L ≤ 3072) (hi : i + 6 ≤ L) (x : INV hc hm) (hcc : cells + 1 ≤ 601024) (hss : slots + 6 ≤ 7293034) (K : l_K G p e s m below meth c b i cells slots) : l_W G p e s m below meth c b cells slots zN 476 (lvS G b i) [] (mg hc hm) := by
  obtain ⟨r, hc1, hm1, A1, M1, I1⟩ := j_free (G := G) (D := 10) (d := 10) x
  refine l_aload (j := 1) C dL_law_476 rfl rfl ?_
  refine l_callV (ci := 11) (o := 0) (d1 := 11) (As := []) (st := []) (v := .int r) (h' := mg hc1 hm) C cv_L_64 ⟨_, _, rfl⟩ (by decide) rfl rfl (by omega) (by omega) (by omega) (Nat.le_of_ble_eq_true rfl) dL_law_477 rfl (A1 hm _ ⟨rfl, rfl⟩) ?_
  refine l_aload (j := 2) C dL_law_480 rfl rfl ?_
  refine l_callV (ci := 13) (o := 43) (d1 := 11) (As := []) (st := [.int r]) (v := .int r) (h' := mg hc1 hm1) C cv_L_67 ⟨_, _, rfl⟩ (by decide) rfl rfl (by omega) (by omega) (by omega) (Nat.le_of_ble_eq_true rfl) dL_law_481 rfl (M1 hc1 _ ⟨rfl, rfl⟩) ?_
  exact l_icmp_eq (x := r) (y := r) C dL_law_484 (by decide) rfl (K _ _ cells slots I1 (by omega) (by omega))
set_option maxRecDepth 100000 in
theorem lc_run (C : l_C G p s m meth c b L xs) (hL : L ≤ 3072) (hi : i + 6 ≤ L) (x : INV hc hm) (hcc : cells + 1 ≤ 601024) (hss : slots + 6 ≤ 7293034) (K : l_K G p e s m below meth c b i cells slots) : l_W G p e s m below meth c b cells slots zN 547 (lvS G b i) [] (mg hc hm) := by
  obtain ⟨r, hc1, hm1, A1, M1, I1⟩ := j_run (G := G) (D := 10) (d := 10) x (xs (i + 1))
  refine l_aload (j := 1) C dL_law_547 rfl rfl ?_
  refine l_arg (k := 1) (j0 := 0) (j4 := 4) C hL (by omega) dL_law_548 dL_law_549 dL_law_551 rfl dL_law_552 dL_law_553 rfl rfl ?_
  refine l_callV (ci := 11) (o := 0) (d1 := 16) (As := [.int (xs (i + 1))]) (st := []) (v := .int r) (h' := mg hc1 hm) C cv_L_75 ⟨_, _, rfl⟩ (by decide) rfl rfl (by omega) (by omega) (by omega) (Nat.le_of_ble_eq_true rfl) dL_law_554 rfl (A1 hm _ ⟨rfl, rfl⟩) ?_
  refine l_aload (j := 2) C dL_law_557 rfl rfl ?_
  refine l_arg (k := 1) (j0 := 0) (j4 := 4) C hL (by omega) dL_law_558 dL_law_559 dL_law_561 rfl dL_law_562 dL_law_563 rfl rfl ?_
  refine l_callV (ci := 13) (o := 43) (d1 := 48) (As := [.int (xs (i + 1))]) (st := [.int r]) (v := .int r) (h' := mg hc1 hm1) C cv_L_78 ⟨_, _, rfl⟩ (by decide) rfl rfl (by omega) (by omega) (by omega) (Nat.le_of_ble_eq_true rfl) dL_law_564 rfl (M1 hc1 _ ⟨rfl, rfl⟩) ?_
  exact l_icmp_eq (x := r) (y := r) C dL_law_567 (by decide) rfl (K _ _ cells slots I1 (by omega) (by omega))
set_option maxRecDepth 100000 in
theorem lc_told (C : l_C G p s m meth c b L xs) (hL : L ≤ 3072) (hi : i + 6 ≤ L) (x : INV hc hm) (hcc : cells + 1 ≤ 601024) (hss : slots + 6 ≤ 7293034) (K : l_K G p e s m below meth c b i cells slots) : l_W G p e s m below meth c b cells slots zN 572 (lvS G b i) [] (mg hc hm) := by
  obtain ⟨r, A1, M1⟩ := j_told (G := G) (D := 10) (d := 10) x (xs (i + 1))
  have I1 := x.thr 0
  refine l_aload (j := 1) C dL_law_572 rfl rfl ?_
  refine l_arg (k := 1) (j0 := 0) (j4 := 4) C hL (by omega) dL_law_573 dL_law_574 dL_law_576 rfl dL_law_577 dL_law_578 rfl rfl ?_
  refine l_callV (ci := 11) (o := 0) (d1 := 11) (As := [.int (xs (i + 1))]) (st := []) (v := .int r) (h' := mg hc hm) C cv_L_79 ⟨_, _, rfl⟩ (by decide) rfl rfl (by omega) (by omega) (by omega) (Nat.le_of_ble_eq_true rfl) dL_law_579 rfl (A1 hm _ ⟨rfl, rfl⟩) ?_
  refine l_aload (j := 2) C dL_law_582 rfl rfl ?_
  refine l_arg (k := 1) (j0 := 0) (j4 := 4) C hL (by omega) dL_law_583 dL_law_584 dL_law_586 rfl dL_law_587 dL_law_588 rfl rfl ?_
  refine l_callV (ci := 13) (o := 43) (d1 := 11) (As := [.int (xs (i + 1))]) (st := [.int r]) (v := .int r) (h' := mg hc (hm.sI 43 0 0)) C cv_L_82 ⟨_, _, rfl⟩ (by decide) rfl rfl (by omega) (by omega) (by omega) (Nat.le_of_ble_eq_true rfl) dL_law_589 rfl (M1 hc _ ⟨rfl, rfl⟩) ?_
  exact l_icmp_eq (x := r) (y := r) C dL_law_592 (by decide) rfl (K _ _ cells slots I1 (by omega) (by omega))
set_option maxRecDepth 100000 in
theorem lc_count (C : l_C G p s m meth c b L xs) (hL : L ≤ 3072) (hi : i + 6 ≤ L) (x : INV hc hm) (hcc : cells + 1 ≤ 601024) (hss : slots + 6 ≤ 7293034) (K : l_K G p e s m below meth c b i cells slots) : l_W G p e s m below meth c b cells slots zN 665 (lvS G b i) [] (mg hc hm) := by
  obtain ⟨r, A1, M1⟩ := j_count (G := G) (D := 10) (d := 10) x (xs (i + 1))
  have I1 := x.thr 0
  refine l_aload (j := 1) C dL_law_665 rfl rfl ?_
  refine l_arg (k := 1) (j0 := 0) (j4 := 4) C hL (by omega) dL_law_666 dL_law_667 dL_law_669 rfl dL_law_670 dL_law_671 rfl rfl ?_
  refine l_callV (ci := 11) (o := 0) (d1 := 11) (As := [.int (xs (i + 1))]) (st := []) (v := .int r) (h' := mg hc hm) C cv_L_86 ⟨_, _, rfl⟩ (by decide) rfl rfl (by omega) (by omega) (by omega) (Nat.le_of_ble_eq_true rfl) dL_law_672 rfl (A1 hm _ ⟨rfl, rfl⟩) ?_
  refine l_aload (j := 2) C dL_law_675 rfl rfl ?_
  refine l_arg (k := 1) (j0 := 0) (j4 := 4) C hL (by omega) dL_law_676 dL_law_677 dL_law_679 rfl dL_law_680 dL_law_681 rfl rfl ?_
  refine l_callV (ci := 13) (o := 43) (d1 := 11) (As := [.int (xs (i + 1))]) (st := [.int r]) (v := .int r) (h' := mg hc (hm.sI 43 0 0)) C cv_L_89 ⟨_, _, rfl⟩ (by decide) rfl rfl (by omega) (by omega) (by omega) (Nat.le_of_ble_eq_true rfl) dL_law_682 rfl (M1 hc _ ⟨rfl, rfl⟩) ?_
  exact l_icmp_eq (x := r) (y := r) C dL_law_685 (by decide) rfl (K _ _ cells slots I1 (by omega) (by omega))
set_option maxRecDepth 100000 in
theorem lc_size (C : l_C G p s m meth c b L xs) (hL : L ≤ 3072) (hi : i + 6 ≤ L) (x : INV hc hm) (hcc : cells + 1 ≤ 601024) (hss : slots + 6 ≤ 7293034) (K : l_K G p e s m below meth c b i cells slots) : l_W G p e s m below meth c b cells slots zN 690 (lvS G b i) [] (mg hc hm) := by
  obtain ⟨r, A1, M1⟩ := j_size (G := G) (D := 10) (d := 10) x (xs (i + 1))
  have I1 := x.thr 0
  refine l_aload (j := 1) C dL_law_690 rfl rfl ?_
  refine l_arg (k := 1) (j0 := 0) (j4 := 4) C hL (by omega) dL_law_691 dL_law_692 dL_law_694 rfl dL_law_695 dL_law_696 rfl rfl ?_
  refine l_callV (ci := 11) (o := 0) (d1 := 12) (As := [.int (xs (i + 1))]) (st := []) (v := .int r) (h' := mg hc hm) C cv_L_90 ⟨_, _, rfl⟩ (by decide) rfl rfl (by omega) (by omega) (by omega) (Nat.le_of_ble_eq_true rfl) dL_law_697 rfl (A1 hm _ ⟨rfl, rfl⟩) ?_
  refine l_aload (j := 2) C dL_law_700 rfl rfl ?_
  refine l_arg (k := 1) (j0 := 0) (j4 := 4) C hL (by omega) dL_law_701 dL_law_702 dL_law_704 rfl dL_law_705 dL_law_706 rfl rfl ?_
  refine l_callV (ci := 13) (o := 43) (d1 := 11) (As := [.int (xs (i + 1))]) (st := [.int r]) (v := .int r) (h' := mg hc (hm.sI 43 0 0)) C cv_L_93 ⟨_, _, rfl⟩ (by decide) rfl rfl (by omega) (by omega) (by omega) (Nat.le_of_ble_eq_true rfl) dL_law_707 rfl (M1 hc _ ⟨rfl, rfl⟩) ?_
  exact l_icmp_eq (x := r) (y := r) C dL_law_710 (by decide) rfl (K _ _ cells slots I1 (by omega) (by omega))
set_option maxRecDepth 100000 in
theorem lc_stall (C : l_C G p s m meth c b L xs) (hL : L ≤ 3072) (hi : i + 6 ≤ L) (x : INV hc hm) (hcc : cells + 1 ≤ 601024) (hss : slots + 6 ≤ 7293034) (K : l_K G p e s m below meth c b i cells slots) : l_W G p e s m below meth c b cells slots zN 489 (lvS G b i) [] (mg hc hm) := by
  obtain ⟨r, hc1, hm1, A1, M1, I1⟩ := j_stall (G := G) (D := 10) (d := 10) x ((((xs (i + 1)).toInt64 <<< ((32 : Int32).toInt64 &&& 63)) ||| ((xs (i + 2)).toInt64 &&& 4294967295)))
  refine l_aload (j := 1) C dL_law_489 rfl rfl ?_
  refine l_arg (k := 1) (j0 := 0) (j4 := 4) C hL (by omega) dL_law_490 dL_law_491 dL_law_493 rfl dL_law_494 dL_law_495 rfl rfl ?_
  refine l_i2l C dL_law_496 ?_
  refine l_bipush (v := 32) C dL_law_497 rfl ?_
  refine l_lshl C dL_law_499 ?_
  refine l_arg (k := 2) (j0 := 0) (j4 := 4) C hL (by omega) dL_law_500 dL_law_501 dL_law_503 rfl dL_law_504 dL_law_505 rfl rfl ?_
  refine l_i2l C dL_law_506 ?_
  refine l_ldc2 C cl_L_68 dL_law_507 ?_
  refine l_land C dL_law_510 ?_
  refine l_lor C dL_law_511 ?_
  refine l_callV (ci := 11) (o := 0) (d1 := 11) (As := [.long ((((xs (i + 1)).toInt64 <<< ((32 : Int32).toInt64 &&& 63)) ||| ((xs (i + 2)).toInt64 &&& 4294967295)))]) (st := []) (v := .long r) (h' := mg hc1 hm) C cv_L_70 ⟨_, _, rfl⟩ (by decide) rfl rfl (by omega) (by omega) (by omega) (Nat.le_of_ble_eq_true rfl) dL_law_512 rfl (A1 hm _ ⟨rfl, rfl⟩) ?_
  refine l_aload (j := 2) C dL_law_515 rfl rfl ?_
  refine l_arg (k := 1) (j0 := 0) (j4 := 4) C hL (by omega) dL_law_516 dL_law_517 dL_law_519 rfl dL_law_520 dL_law_521 rfl rfl ?_
  refine l_i2l C dL_law_522 ?_
  refine l_bipush (v := 32) C dL_law_523 rfl ?_
  refine l_lshl C dL_law_525 ?_
  refine l_arg (k := 2) (j0 := 0) (j4 := 4) C hL (by omega) dL_law_526 dL_law_527 dL_law_529 rfl dL_law_530 dL_law_531 rfl rfl ?_
  refine l_i2l C dL_law_532 ?_
  refine l_ldc2 C cl_L_68 dL_law_533 ?_
  refine l_land C dL_law_536 ?_
  refine l_lor C dL_law_537 ?_
  refine l_callV (ci := 13) (o := 43) (d1 := 11) (As := [.long ((((xs (i + 1)).toInt64 <<< ((32 : Int32).toInt64 &&& 63)) ||| ((xs (i + 2)).toInt64 &&& 4294967295)))]) (st := [.long r]) (v := .long r) (h' := mg hc1 hm1) C cv_L_74 ⟨_, _, rfl⟩ (by decide) rfl rfl (by omega) (by omega) (by omega) (Nat.le_of_ble_eq_true rfl) dL_law_538 rfl (M1 hc1 _ ⟨rfl, rfl⟩) ?_
  refine l_lcmp (x := r) (y := r) C dL_law_541 ?_
  exact l_ifeq C dL_law_542 (by decide) (lg_self r) (K _ _ cells slots I1 (by omega) (by omega))
set_option maxRecDepth 100000 in
theorem lc_give (C : l_C G p s m meth c b L xs) (hL : L ≤ 3072) (hi : i + 6 ≤ L) (x : INV hc hm) (hcc : cells + 1 ≤ 601024) (hss : slots + 6 ≤ 7293034) (K : l_K G p e s m below meth c b i cells slots) : l_W G p e s m below meth c b cells slots zN 235 (lvS G b i) [] (mg hc hm) := by
  rcases j_give (G := G) (D := 10) (d := 10) x (xs (i + 1)) (xs (i + 2)) with ⟨r, hc1, gN1, gM⟩ | ⟨gX1, r, hm1, M1, t1, I1⟩
  · obtain ⟨hm1, M1, t1, o1, I1⟩ := gM r.toInt64
    refine l_aload (j := 1) C dL_law_235 rfl rfl ?_
    refine l_arg (k := 1) (j0 := 0) (j4 := 4) C hL (by omega) dL_law_236 dL_law_237 dL_law_239 rfl dL_law_240 dL_law_241 rfl rfl ?_
    refine l_arg (k := 2) (j0 := 0) (j4 := 4) C hL (by omega) dL_law_242 dL_law_243 dL_law_245 rfl dL_law_246 dL_law_247 rfl rfl ?_
    refine l_aload (j := 3) C dL_law_248 rfl rfl ?_
    refine l_callSX (d1 := 16) (As := [.ref 0, .int (xs (i + 1)), .int (xs (i + 2)), .ref 83]) (st := []) (v := .int 0) (h' := mg hc1 (hm.sL 83 0 r.toInt64)) C csx_43 rfl (by omega) (by omega) (by omega) (Nat.le_of_ble_eq_true rfl) dL_law_249 rfl (gN1 hm _ ⟨rfl, mg_sL_m (by decide) _ _ _ _⟩) ?_
    refine l_istore (x := 0) C dL_law_252 (by decide) rfl ?_
    refine l_sub (lv' := (5, .int 0) :: lvS G b i) [0, 1, 2, 3, 4, 5] rfl ?_
    refine l_aload (j := 3) C dL_law_254 rfl rfl ?_
    refine l_arg (k := 1) (j0 := 1) (j4 := 5) C hL (by omega) dL_law_255 dL_law_256 dL_law_258 rfl dL_law_259 dL_law_260 rfl rfl ?_
    refine l_arg (k := 2) (j0 := 1) (j4 := 5) C hL (by omega) dL_law_261 dL_law_262 dL_law_264 rfl dL_law_265 dL_law_266 rfl rfl ?_
    refine l_callV (ci := 13) (o := 43) (d1 := 11) (As := [.int (xs (i + 1)), .int (xs (i + 2))]) (st := []) (v := .int r) (h' := mg hc1 hm1) C cv_L_48 ⟨_, _, rfl⟩ (by decide) rfl rfl (by omega) (by omega) (by omega) (Nat.le_of_ble_eq_true rfl) dL_law_267 rfl (M1 hc1 _ ⟨rfl, rfl⟩) ?_
    refine l_istore (x := r) C dL_law_270 (by decide) rfl ?_
    refine l_sub (lv' := (6, .int r) :: (5, .int 0) :: lvS G b i) [0, 1, 2, 3, 4, 5, 6] rfl ?_
    refine l_aload (j := 4) C dL_law_272 rfl rfl ?_
    refine l_callV (ci := 13) (o := 43) (d1 := 1) (As := []) (st := []) (v := .int 0) (h' := mg hc1 hm1) C cv_L_49 ⟨_, _, rfl⟩ (by decide) rfl rfl (by omega) (by omega) (by omega) (Nat.le_of_ble_eq_true rfl) dL_law_273 rfl (x_X12_thrown G 0 _ _ ⟨by rw [mI (by decide), t1], rfl⟩) ?_
    refine l_iload (j := 1) C dL_law_276 rfl ?_
    refine l_icmp_eq (x := 0) (y := 0) (tgt := 283) C dL_law_278 (by decide) rfl ?_
    refine l_iload (j := 1) C dL_law_283 rfl ?_
    refine l_ifneF (tgt := 300) C dL_law_285 (by decide) rfl ?_
    refine l_aload (j := 5) C dL_law_288 rfl rfl ?_
    refine l_iconst (v := 0) C dL_law_289 rfl ?_
    refine l_out (v := r.toInt64) C (by rw [mg_L, if_neg (by decide)]; exact o1) dL_law_290 ?_
    refine l_iload (j := 0) C dL_law_291 rfl ?_
    refine l_i2l C dL_law_293 ?_
    refine l_lcmp C dL_law_294 ?_
    refine l_ifeq (tgt := 300) C dL_law_295 (by decide) (lg_self _) ?_
    refine l_goto (tgt := 715) C dL_law_300 (by decide) ?_
    exact l_sub [2, 3, 4, 5, 6] rfl (K _ _ (cells + 1) (slots + 6) I1 (by omega) (by omega))
  · refine l_aload (j := 1) C dL_law_235 rfl rfl ?_
    refine l_arg (k := 1) (j0 := 0) (j4 := 4) C hL (by omega) dL_law_236 dL_law_237 dL_law_239 rfl dL_law_240 dL_law_241 rfl rfl ?_
    refine l_arg (k := 2) (j0 := 0) (j4 := 4) C hL (by omega) dL_law_242 dL_law_243 dL_law_245 rfl dL_law_246 dL_law_247 rfl rfl ?_
    refine l_aload (j := 3) C dL_law_248 rfl rfl ?_
    refine l_callSX (d1 := 16) (As := [.ref 0, .int (xs (i + 1)), .int (xs (i + 2)), .ref 83]) (st := []) (v := .int 1) (h' := mg hc hm) C csx_43 rfl (by omega) (by omega) (by omega) (Nat.le_of_ble_eq_true rfl) dL_law_249 rfl (gX1 hm _ ⟨rfl, rfl⟩) ?_
    refine l_istore (x := 1) C dL_law_252 (by decide) rfl ?_
    refine l_sub (lv' := (5, .int 1) :: lvS G b i) [0, 1, 2, 3, 4, 5] rfl ?_
    refine l_aload (j := 3) C dL_law_254 rfl rfl ?_
    refine l_arg (k := 1) (j0 := 1) (j4 := 5) C hL (by omega) dL_law_255 dL_law_256 dL_law_258 rfl dL_law_259 dL_law_260 rfl rfl ?_
    refine l_arg (k := 2) (j0 := 1) (j4 := 5) C hL (by omega) dL_law_261 dL_law_262 dL_law_264 rfl dL_law_265 dL_law_266 rfl rfl ?_
    refine l_callV (ci := 13) (o := 43) (d1 := 11) (As := [.int (xs (i + 1)), .int (xs (i + 2))]) (st := []) (v := .int r) (h' := mg hc hm1) C cv_L_48 ⟨_, _, rfl⟩ (by decide) rfl rfl (by omega) (by omega) (by omega) (Nat.le_of_ble_eq_true rfl) dL_law_267 rfl (M1 hc _ ⟨rfl, rfl⟩) ?_
    refine l_istore (x := r) C dL_law_270 (by decide) rfl ?_
    refine l_sub (lv' := (6, .int r) :: (5, .int 1) :: lvS G b i) [0, 1, 2, 3, 4, 5, 6] rfl ?_
    refine l_aload (j := 4) C dL_law_272 rfl rfl ?_
    refine l_callV (ci := 13) (o := 43) (d1 := 1) (As := []) (st := []) (v := .int 1) (h' := mg hc hm1) C cv_L_49 ⟨_, _, rfl⟩ (by decide) rfl rfl (by omega) (by omega) (by omega) (Nat.le_of_ble_eq_true rfl) dL_law_273 rfl (x_X12_thrown G 0 _ _ ⟨by rw [mI (by decide), t1], rfl⟩) ?_
    refine l_iload (j := 1) C dL_law_276 rfl ?_
    refine l_icmp_eq (x := 1) (y := 1) (tgt := 283) C dL_law_278 (by decide) rfl ?_
    refine l_iload (j := 1) C dL_law_283 rfl ?_
    refine l_ifneT (tgt := 300) C dL_law_285 (by decide) (by decide) ?_
    refine l_goto (tgt := 715) C dL_law_300 (by decide) ?_
    exact l_sub [2, 3, 4, 5, 6] rfl (K _ _ (cells + 1) (slots + 6) I1 (by omega) (by omega))
set_option maxRecDepth 100000 in
theorem lc_poke (C : l_C G p s m meth c b L xs) (hL : L ≤ 3072) (hi : i + 6 ≤ L) (x : INV hc hm) (hcc : cells + 1 ≤ 601024) (hss : slots + 6 ≤ 7293034) (K : l_K G p e s m below meth c b i cells slots) : l_W G p e s m below meth c b cells slots zN 303 (lvS G b i) [] (mg hc hm) := by
  rcases j_poke (G := G) (D := 10) (d := 10) x (xs (i + 1)) (xs (i + 2)) (xs (i + 3)) with ⟨r, hc1, gN1, gM⟩ | ⟨gX1, r, hm1, M1, t1, I1⟩
  · obtain ⟨hm1, M1, t1, o1, I1⟩ := gM r.toInt64
    refine l_aload (j := 1) C dL_law_303 rfl rfl ?_
    refine l_arg (k := 1) (j0 := 0) (j4 := 4) C hL (by omega) dL_law_304 dL_law_305 dL_law_307 rfl dL_law_308 dL_law_309 rfl rfl ?_
    refine l_arg (k := 2) (j0 := 0) (j4 := 4) C hL (by omega) dL_law_310 dL_law_311 dL_law_313 rfl dL_law_314 dL_law_315 rfl rfl ?_
    refine l_arg (k := 3) (j0 := 0) (j4 := 4) C hL (by omega) dL_law_316 dL_law_317 dL_law_319 rfl dL_law_320 dL_law_321 rfl rfl ?_
    refine l_aload (j := 3) C dL_law_322 rfl rfl ?_
    refine l_callSX (d1 := 16) (As := [.ref 0, .int (xs (i + 1)), .int (xs (i + 2)), .int (xs (i + 3)), .ref 83]) (st := []) (v := .int 0) (h' := mg hc1 (hm.sL 83 0 r.toInt64)) C csx_53 rfl (by omega) (by omega) (by omega) (Nat.le_of_ble_eq_true rfl) dL_law_323 rfl (gN1 hm _ ⟨rfl, mg_sL_m (by decide) _ _ _ _⟩) ?_
    refine l_istore (x := 0) C dL_law_326 (by decide) rfl ?_
    refine l_sub (lv' := (5, .int 0) :: lvS G b i) [0, 1, 2, 3, 4, 5] rfl ?_
    refine l_aload (j := 3) C dL_law_328 rfl rfl ?_
    refine l_arg (k := 1) (j0 := 1) (j4 := 5) C hL (by omega) dL_law_329 dL_law_330 dL_law_332 rfl dL_law_333 dL_law_334 rfl rfl ?_
    refine l_arg (k := 2) (j0 := 1) (j4 := 5) C hL (by omega) dL_law_335 dL_law_336 dL_law_338 rfl dL_law_339 dL_law_340 rfl rfl ?_
    refine l_arg (k := 3) (j0 := 1) (j4 := 5) C hL (by omega) dL_law_341 dL_law_342 dL_law_344 rfl dL_law_345 dL_law_346 rfl rfl ?_
    refine l_callV (ci := 13) (o := 43) (d1 := 12) (As := [.int (xs (i + 1)), .int (xs (i + 2)), .int (xs (i + 3))]) (st := []) (v := .int r) (h' := mg hc1 hm1) C cv_L_56 ⟨_, _, rfl⟩ (by decide) rfl rfl (by omega) (by omega) (by omega) (Nat.le_of_ble_eq_true rfl) dL_law_347 rfl (M1 hc1 _ ⟨rfl, rfl⟩) ?_
    refine l_istore (x := r) C dL_law_350 (by decide) rfl ?_
    refine l_sub (lv' := (6, .int r) :: (5, .int 0) :: lvS G b i) [0, 1, 2, 3, 4, 5, 6] rfl ?_
    refine l_aload (j := 4) C dL_law_352 rfl rfl ?_
    refine l_callV (ci := 13) (o := 43) (d1 := 1) (As := []) (st := []) (v := .int 0) (h' := mg hc1 hm1) C cv_L_49 ⟨_, _, rfl⟩ (by decide) rfl rfl (by omega) (by omega) (by omega) (Nat.le_of_ble_eq_true rfl) dL_law_353 rfl (x_X12_thrown G 0 _ _ ⟨by rw [mI (by decide), t1], rfl⟩) ?_
    refine l_iload (j := 1) C dL_law_356 rfl ?_
    refine l_icmp_eq (x := 0) (y := 0) (tgt := 363) C dL_law_358 (by decide) rfl ?_
    refine l_iload (j := 1) C dL_law_363 rfl ?_
    refine l_ifneF (tgt := 380) C dL_law_365 (by decide) rfl ?_
    refine l_aload (j := 5) C dL_law_368 rfl rfl ?_
    refine l_iconst (v := 0) C dL_law_369 rfl ?_
    refine l_out (v := r.toInt64) C (by rw [mg_L, if_neg (by decide)]; exact o1) dL_law_370 ?_
    refine l_iload (j := 0) C dL_law_371 rfl ?_
    refine l_i2l C dL_law_373 ?_
    refine l_lcmp C dL_law_374 ?_
    refine l_ifeq (tgt := 380) C dL_law_375 (by decide) (lg_self _) ?_
    refine l_goto (tgt := 715) C dL_law_380 (by decide) ?_
    exact l_sub [2, 3, 4, 5, 6] rfl (K _ _ (cells + 1) (slots + 6) I1 (by omega) (by omega))
  · refine l_aload (j := 1) C dL_law_303 rfl rfl ?_
    refine l_arg (k := 1) (j0 := 0) (j4 := 4) C hL (by omega) dL_law_304 dL_law_305 dL_law_307 rfl dL_law_308 dL_law_309 rfl rfl ?_
    refine l_arg (k := 2) (j0 := 0) (j4 := 4) C hL (by omega) dL_law_310 dL_law_311 dL_law_313 rfl dL_law_314 dL_law_315 rfl rfl ?_
    refine l_arg (k := 3) (j0 := 0) (j4 := 4) C hL (by omega) dL_law_316 dL_law_317 dL_law_319 rfl dL_law_320 dL_law_321 rfl rfl ?_
    refine l_aload (j := 3) C dL_law_322 rfl rfl ?_
    refine l_callSX (d1 := 16) (As := [.ref 0, .int (xs (i + 1)), .int (xs (i + 2)), .int (xs (i + 3)), .ref 83]) (st := []) (v := .int 1) (h' := mg hc hm) C csx_53 rfl (by omega) (by omega) (by omega) (Nat.le_of_ble_eq_true rfl) dL_law_323 rfl (gX1 hm _ ⟨rfl, rfl⟩) ?_
    refine l_istore (x := 1) C dL_law_326 (by decide) rfl ?_
    refine l_sub (lv' := (5, .int 1) :: lvS G b i) [0, 1, 2, 3, 4, 5] rfl ?_
    refine l_aload (j := 3) C dL_law_328 rfl rfl ?_
    refine l_arg (k := 1) (j0 := 1) (j4 := 5) C hL (by omega) dL_law_329 dL_law_330 dL_law_332 rfl dL_law_333 dL_law_334 rfl rfl ?_
    refine l_arg (k := 2) (j0 := 1) (j4 := 5) C hL (by omega) dL_law_335 dL_law_336 dL_law_338 rfl dL_law_339 dL_law_340 rfl rfl ?_
    refine l_arg (k := 3) (j0 := 1) (j4 := 5) C hL (by omega) dL_law_341 dL_law_342 dL_law_344 rfl dL_law_345 dL_law_346 rfl rfl ?_
    refine l_callV (ci := 13) (o := 43) (d1 := 12) (As := [.int (xs (i + 1)), .int (xs (i + 2)), .int (xs (i + 3))]) (st := []) (v := .int r) (h' := mg hc hm1) C cv_L_56 ⟨_, _, rfl⟩ (by decide) rfl rfl (by omega) (by omega) (by omega) (Nat.le_of_ble_eq_true rfl) dL_law_347 rfl (M1 hc _ ⟨rfl, rfl⟩) ?_
    refine l_istore (x := r) C dL_law_350 (by decide) rfl ?_
    refine l_sub (lv' := (6, .int r) :: (5, .int 1) :: lvS G b i) [0, 1, 2, 3, 4, 5, 6] rfl ?_
    refine l_aload (j := 4) C dL_law_352 rfl rfl ?_
    refine l_callV (ci := 13) (o := 43) (d1 := 1) (As := []) (st := []) (v := .int 1) (h' := mg hc hm1) C cv_L_49 ⟨_, _, rfl⟩ (by decide) rfl rfl (by omega) (by omega) (by omega) (Nat.le_of_ble_eq_true rfl) dL_law_353 rfl (x_X12_thrown G 0 _ _ ⟨by rw [mI (by decide), t1], rfl⟩) ?_
    refine l_iload (j := 1) C dL_law_356 rfl ?_
    refine l_icmp_eq (x := 1) (y := 1) (tgt := 363) C dL_law_358 (by decide) rfl ?_
    refine l_iload (j := 1) C dL_law_363 rfl ?_
    refine l_ifneT (tgt := 380) C dL_law_365 (by decide) (by decide) ?_
    refine l_goto (tgt := 715) C dL_law_380 (by decide) ?_
    exact l_sub [2, 3, 4, 5, 6] rfl (K _ _ (cells + 1) (slots + 6) I1 (by omega) (by omega))
set_option maxRecDepth 100000 in
theorem lc_cell (C : l_C G p s m meth c b L xs) (hL : L ≤ 3072) (hi : i + 6 ≤ L) (x : INV hc hm) (hcc : cells + 1 ≤ 601024) (hss : slots + 6 ≤ 7293034) (K : l_K G p e s m below meth c b i cells slots) : l_W G p e s m below meth c b cells slots zN 383 (lvS G b i) [] (mg hc hm) := by
  rcases j_cell (G := G) (D := 10) (d := 10) x (xs (i + 1)) (xs (i + 2)) with ⟨r, hc1, gN1, gM⟩ | ⟨gX1, r, hm1, M1, t1, I1⟩
  · obtain ⟨hm1, M1, t1, o1, I1⟩ := gM r.toInt64
    refine l_aload (j := 1) C dL_law_383 rfl rfl ?_
    refine l_arg (k := 1) (j0 := 0) (j4 := 4) C hL (by omega) dL_law_384 dL_law_385 dL_law_387 rfl dL_law_388 dL_law_389 rfl rfl ?_
    refine l_arg (k := 2) (j0 := 0) (j4 := 4) C hL (by omega) dL_law_390 dL_law_391 dL_law_393 rfl dL_law_394 dL_law_395 rfl rfl ?_
    refine l_aload (j := 3) C dL_law_396 rfl rfl ?_
    refine l_callSX (d1 := 16) (As := [.ref 0, .int (xs (i + 1)), .int (xs (i + 2)), .ref 83]) (st := []) (v := .int 0) (h' := mg hc1 (hm.sL 83 0 r.toInt64)) C csx_57 rfl (by omega) (by omega) (by omega) (Nat.le_of_ble_eq_true rfl) dL_law_397 rfl (gN1 hm _ ⟨rfl, mg_sL_m (by decide) _ _ _ _⟩) ?_
    refine l_istore (x := 0) C dL_law_400 (by decide) rfl ?_
    refine l_sub (lv' := (5, .int 0) :: lvS G b i) [0, 1, 2, 3, 4, 5] rfl ?_
    refine l_aload (j := 3) C dL_law_402 rfl rfl ?_
    refine l_arg (k := 1) (j0 := 1) (j4 := 5) C hL (by omega) dL_law_403 dL_law_404 dL_law_406 rfl dL_law_407 dL_law_408 rfl rfl ?_
    refine l_arg (k := 2) (j0 := 1) (j4 := 5) C hL (by omega) dL_law_409 dL_law_410 dL_law_412 rfl dL_law_413 dL_law_414 rfl rfl ?_
    refine l_callV (ci := 13) (o := 43) (d1 := 12) (As := [.int (xs (i + 1)), .int (xs (i + 2))]) (st := []) (v := .int r) (h' := mg hc1 hm1) C cv_L_59 ⟨_, _, rfl⟩ (by decide) rfl rfl (by omega) (by omega) (by omega) (Nat.le_of_ble_eq_true rfl) dL_law_415 rfl (M1 hc1 _ ⟨rfl, rfl⟩) ?_
    refine l_istore (x := r) C dL_law_418 (by decide) rfl ?_
    refine l_sub (lv' := (6, .int r) :: (5, .int 0) :: lvS G b i) [0, 1, 2, 3, 4, 5, 6] rfl ?_
    refine l_aload (j := 4) C dL_law_420 rfl rfl ?_
    refine l_callV (ci := 13) (o := 43) (d1 := 1) (As := []) (st := []) (v := .int 0) (h' := mg hc1 hm1) C cv_L_49 ⟨_, _, rfl⟩ (by decide) rfl rfl (by omega) (by omega) (by omega) (Nat.le_of_ble_eq_true rfl) dL_law_421 rfl (x_X12_thrown G 0 _ _ ⟨by rw [mI (by decide), t1], rfl⟩) ?_
    refine l_iload (j := 1) C dL_law_424 rfl ?_
    refine l_icmp_eq (x := 0) (y := 0) (tgt := 431) C dL_law_426 (by decide) rfl ?_
    refine l_iload (j := 1) C dL_law_431 rfl ?_
    refine l_ifneF (tgt := 448) C dL_law_433 (by decide) rfl ?_
    refine l_aload (j := 5) C dL_law_436 rfl rfl ?_
    refine l_iconst (v := 0) C dL_law_437 rfl ?_
    refine l_out (v := r.toInt64) C (by rw [mg_L, if_neg (by decide)]; exact o1) dL_law_438 ?_
    refine l_iload (j := 0) C dL_law_439 rfl ?_
    refine l_i2l C dL_law_441 ?_
    refine l_lcmp C dL_law_442 ?_
    refine l_ifeq (tgt := 448) C dL_law_443 (by decide) (lg_self _) ?_
    refine l_goto (tgt := 715) C dL_law_448 (by decide) ?_
    exact l_sub [2, 3, 4, 5, 6] rfl (K _ _ (cells + 1) (slots + 6) I1 (by omega) (by omega))
  · refine l_aload (j := 1) C dL_law_383 rfl rfl ?_
    refine l_arg (k := 1) (j0 := 0) (j4 := 4) C hL (by omega) dL_law_384 dL_law_385 dL_law_387 rfl dL_law_388 dL_law_389 rfl rfl ?_
    refine l_arg (k := 2) (j0 := 0) (j4 := 4) C hL (by omega) dL_law_390 dL_law_391 dL_law_393 rfl dL_law_394 dL_law_395 rfl rfl ?_
    refine l_aload (j := 3) C dL_law_396 rfl rfl ?_
    refine l_callSX (d1 := 16) (As := [.ref 0, .int (xs (i + 1)), .int (xs (i + 2)), .ref 83]) (st := []) (v := .int 1) (h' := mg hc hm) C csx_57 rfl (by omega) (by omega) (by omega) (Nat.le_of_ble_eq_true rfl) dL_law_397 rfl (gX1 hm _ ⟨rfl, rfl⟩) ?_
    refine l_istore (x := 1) C dL_law_400 (by decide) rfl ?_
    refine l_sub (lv' := (5, .int 1) :: lvS G b i) [0, 1, 2, 3, 4, 5] rfl ?_
    refine l_aload (j := 3) C dL_law_402 rfl rfl ?_
    refine l_arg (k := 1) (j0 := 1) (j4 := 5) C hL (by omega) dL_law_403 dL_law_404 dL_law_406 rfl dL_law_407 dL_law_408 rfl rfl ?_
    refine l_arg (k := 2) (j0 := 1) (j4 := 5) C hL (by omega) dL_law_409 dL_law_410 dL_law_412 rfl dL_law_413 dL_law_414 rfl rfl ?_
    refine l_callV (ci := 13) (o := 43) (d1 := 12) (As := [.int (xs (i + 1)), .int (xs (i + 2))]) (st := []) (v := .int r) (h' := mg hc hm1) C cv_L_59 ⟨_, _, rfl⟩ (by decide) rfl rfl (by omega) (by omega) (by omega) (Nat.le_of_ble_eq_true rfl) dL_law_415 rfl (M1 hc _ ⟨rfl, rfl⟩) ?_
    refine l_istore (x := r) C dL_law_418 (by decide) rfl ?_
    refine l_sub (lv' := (6, .int r) :: (5, .int 1) :: lvS G b i) [0, 1, 2, 3, 4, 5, 6] rfl ?_
    refine l_aload (j := 4) C dL_law_420 rfl rfl ?_
    refine l_callV (ci := 13) (o := 43) (d1 := 1) (As := []) (st := []) (v := .int 1) (h' := mg hc hm1) C cv_L_49 ⟨_, _, rfl⟩ (by decide) rfl rfl (by omega) (by omega) (by omega) (Nat.le_of_ble_eq_true rfl) dL_law_421 rfl (x_X12_thrown G 0 _ _ ⟨by rw [mI (by decide), t1], rfl⟩) ?_
    refine l_iload (j := 1) C dL_law_424 rfl ?_
    refine l_icmp_eq (x := 1) (y := 1) (tgt := 431) C dL_law_426 (by decide) rfl ?_
    refine l_iload (j := 1) C dL_law_431 rfl ?_
    refine l_ifneT (tgt := 448) C dL_law_433 (by decide) (by decide) ?_
    refine l_goto (tgt := 715) C dL_law_448 (by decide) ?_
    exact l_sub [2, 3, 4, 5, 6] rfl (K _ _ (cells + 1) (slots + 6) I1 (by omega) (by omega))
set_option maxRecDepth 100000 in
theorem lc_write (C : l_C G p s m meth c b L xs) (hL : L ≤ 3072) (hi : i + 6 ≤ L) (x : INV hc hm) (hcc : cells + 1 ≤ 601024) (hss : slots + 6 ≤ 7293034) (K : l_K G p e s m below meth c b i cells slots) : l_W G p e s m below meth c b cells slots zN 597 (lvS G b i) [] (mg hc hm) := by
  rcases j_write (G := G) (D := 10) (d := 10) x (xs (i + 1)) (xs (i + 2)) with ⟨r, hc1, gN1, gM⟩ | ⟨gX1, r, hm1, M1, t1, I1⟩
  · obtain ⟨hm1, M1, t1, o1, I1⟩ := gM r.toInt64
    refine l_aload (j := 1) C dL_law_597 rfl rfl ?_
    refine l_arg (k := 1) (j0 := 0) (j4 := 4) C hL (by omega) dL_law_598 dL_law_599 dL_law_601 rfl dL_law_602 dL_law_603 rfl rfl ?_
    refine l_arg (k := 2) (j0 := 0) (j4 := 4) C hL (by omega) dL_law_604 dL_law_605 dL_law_607 rfl dL_law_608 dL_law_609 rfl rfl ?_
    refine l_aload (j := 3) C dL_law_610 rfl rfl ?_
    refine l_callSX (d1 := 16) (As := [.ref 0, .int (xs (i + 1)), .int (xs (i + 2)), .ref 83]) (st := []) (v := .int 0) (h' := mg hc1 (hm.sL 83 0 r.toInt64)) C csx_83 rfl (by omega) (by omega) (by omega) (Nat.le_of_ble_eq_true rfl) dL_law_611 rfl (gN1 hm _ ⟨rfl, mg_sL_m (by decide) _ _ _ _⟩) ?_
    refine l_istore (x := 0) C dL_law_614 (by decide) rfl ?_
    refine l_sub (lv' := (5, .int 0) :: lvS G b i) [0, 1, 2, 3, 4, 5] rfl ?_
    refine l_aload (j := 3) C dL_law_616 rfl rfl ?_
    refine l_arg (k := 1) (j0 := 1) (j4 := 5) C hL (by omega) dL_law_617 dL_law_618 dL_law_620 rfl dL_law_621 dL_law_622 rfl rfl ?_
    refine l_arg (k := 2) (j0 := 1) (j4 := 5) C hL (by omega) dL_law_623 dL_law_624 dL_law_626 rfl dL_law_627 dL_law_628 rfl rfl ?_
    refine l_callV (ci := 13) (o := 43) (d1 := 12) (As := [.int (xs (i + 1)), .int (xs (i + 2))]) (st := []) (v := .int r) (h' := mg hc1 hm1) C cv_L_85 ⟨_, _, rfl⟩ (by decide) rfl rfl (by omega) (by omega) (by omega) (Nat.le_of_ble_eq_true rfl) dL_law_629 rfl (M1 hc1 _ ⟨rfl, rfl⟩) ?_
    refine l_istore (x := r) C dL_law_632 (by decide) rfl ?_
    refine l_sub (lv' := (6, .int r) :: (5, .int 0) :: lvS G b i) [0, 1, 2, 3, 4, 5, 6] rfl ?_
    refine l_aload (j := 4) C dL_law_634 rfl rfl ?_
    refine l_callV (ci := 13) (o := 43) (d1 := 1) (As := []) (st := []) (v := .int 0) (h' := mg hc1 hm1) C cv_L_49 ⟨_, _, rfl⟩ (by decide) rfl rfl (by omega) (by omega) (by omega) (Nat.le_of_ble_eq_true rfl) dL_law_635 rfl (x_X12_thrown G 0 _ _ ⟨by rw [mI (by decide), t1], rfl⟩) ?_
    refine l_iload (j := 1) C dL_law_638 rfl ?_
    refine l_icmp_eq (x := 0) (y := 0) (tgt := 645) C dL_law_640 (by decide) rfl ?_
    refine l_iload (j := 1) C dL_law_645 rfl ?_
    refine l_ifneF (tgt := 662) C dL_law_647 (by decide) rfl ?_
    refine l_aload (j := 5) C dL_law_650 rfl rfl ?_
    refine l_iconst (v := 0) C dL_law_651 rfl ?_
    refine l_out (v := r.toInt64) C (by rw [mg_L, if_neg (by decide)]; exact o1) dL_law_652 ?_
    refine l_iload (j := 0) C dL_law_653 rfl ?_
    refine l_i2l C dL_law_655 ?_
    refine l_lcmp C dL_law_656 ?_
    refine l_ifeq (tgt := 662) C dL_law_657 (by decide) (lg_self _) ?_
    refine l_goto (tgt := 715) C dL_law_662 (by decide) ?_
    exact l_sub [2, 3, 4, 5, 6] rfl (K _ _ (cells + 1) (slots + 6) I1 (by omega) (by omega))
  · refine l_aload (j := 1) C dL_law_597 rfl rfl ?_
    refine l_arg (k := 1) (j0 := 0) (j4 := 4) C hL (by omega) dL_law_598 dL_law_599 dL_law_601 rfl dL_law_602 dL_law_603 rfl rfl ?_
    refine l_arg (k := 2) (j0 := 0) (j4 := 4) C hL (by omega) dL_law_604 dL_law_605 dL_law_607 rfl dL_law_608 dL_law_609 rfl rfl ?_
    refine l_aload (j := 3) C dL_law_610 rfl rfl ?_
    refine l_callSX (d1 := 16) (As := [.ref 0, .int (xs (i + 1)), .int (xs (i + 2)), .ref 83]) (st := []) (v := .int 1) (h' := mg hc hm) C csx_83 rfl (by omega) (by omega) (by omega) (Nat.le_of_ble_eq_true rfl) dL_law_611 rfl (gX1 hm _ ⟨rfl, rfl⟩) ?_
    refine l_istore (x := 1) C dL_law_614 (by decide) rfl ?_
    refine l_sub (lv' := (5, .int 1) :: lvS G b i) [0, 1, 2, 3, 4, 5] rfl ?_
    refine l_aload (j := 3) C dL_law_616 rfl rfl ?_
    refine l_arg (k := 1) (j0 := 1) (j4 := 5) C hL (by omega) dL_law_617 dL_law_618 dL_law_620 rfl dL_law_621 dL_law_622 rfl rfl ?_
    refine l_arg (k := 2) (j0 := 1) (j4 := 5) C hL (by omega) dL_law_623 dL_law_624 dL_law_626 rfl dL_law_627 dL_law_628 rfl rfl ?_
    refine l_callV (ci := 13) (o := 43) (d1 := 12) (As := [.int (xs (i + 1)), .int (xs (i + 2))]) (st := []) (v := .int r) (h' := mg hc hm1) C cv_L_85 ⟨_, _, rfl⟩ (by decide) rfl rfl (by omega) (by omega) (by omega) (Nat.le_of_ble_eq_true rfl) dL_law_629 rfl (M1 hc _ ⟨rfl, rfl⟩) ?_
    refine l_istore (x := r) C dL_law_632 (by decide) rfl ?_
    refine l_sub (lv' := (6, .int r) :: (5, .int 1) :: lvS G b i) [0, 1, 2, 3, 4, 5, 6] rfl ?_
    refine l_aload (j := 4) C dL_law_634 rfl rfl ?_
    refine l_callV (ci := 13) (o := 43) (d1 := 1) (As := []) (st := []) (v := .int 1) (h' := mg hc hm1) C cv_L_49 ⟨_, _, rfl⟩ (by decide) rfl rfl (by omega) (by omega) (by omega) (Nat.le_of_ble_eq_true rfl) dL_law_635 rfl (x_X12_thrown G 0 _ _ ⟨by rw [mI (by decide), t1], rfl⟩) ?_
    refine l_iload (j := 1) C dL_law_638 rfl ?_
    refine l_icmp_eq (x := 1) (y := 1) (tgt := 645) C dL_law_640 (by decide) rfl ?_
    refine l_iload (j := 1) C dL_law_645 rfl ?_
    refine l_ifneT (tgt := 662) C dL_law_647 (by decide) (by decide) ?_
    refine l_goto (tgt := 715) C dL_law_662 (by decide) ?_
    exact l_sub [2, 3, 4, 5, 6] rfl (K _ _ (cells + 1) (slots + 6) I1 (by omega) (by omega))
end LAW
