def q_sg80 (j : Nat) : Int32 := ([40, 41, 123, 125, 91, 93, 59, 44, 61, 33, 60, 62, 43, 45, 42, 47, 37, 38, 124, 94, 126] : List Int32).getD j 0
set_option maxRecDepth 100000 in
set_option maxHeartbeats 4000000 in
theorem q_sf80 {G : qG} {s : State} {H : Heap} (hSt : q_St G s H) : ∃ a v, vk_R RX8 80 "(){}[];,=!<>+-*/%&|^~" a s ∧ va_O "java/lang/String" a (q_A G) s H ∧ ∀ U : State, s.WarmedH U.vm → (∀ q : Nat, q < G.b → U.heap[q]? = H[q]?) → p_S G a v 21 q_sg80 U := by
  obtain ⟨hK, s0, a0, w1, w2, w3, w4, w5, w6⟩ := hSt
  have hs := flat_of_before _ w4
  have hA0 : ∀ a : Nat, a < s0.heap.size → ¬ q_A G a := fun a ha q => by
    have q : G.b ≤ a := q
    omega
  obtain ⟨adK, adV, hS, he⟩ := vk_Sof (args := a0) (s := s0) (N := 1) (tm := fun _ => .string "TokenCircuit$Tokens" 80) (len := [21]) (byt := [[40, 41, 123, 125, 91, 93, 59, 44, 61, 33, 60, 62, 43, 45, 42, 47, 37, 38, 124, 94, 126]]) (A := q_A G) (fun i hi => by
      match i, hi with
      | 0, _ => decide) (fun i hi => hs _ (by decide +kernel)) (fun i hi => hs _ (by decide +kernel)) (fun i hi => hs _ (by decide +kernel)) (fun i hi => by
      match i, hi with
      | 0, _ => exact hs _ (by decide +kernel)) (fun i hi => by
      match i, hi with
      | 0, _ =>
        intro j hj
        match j, hj with
        | 0, _ => exact hs _ (by decide +kernel)
        | 1, _ => exact hs _ (by decide +kernel)
        | 2, _ => exact hs _ (by decide +kernel)
        | 3, _ => exact hs _ (by decide +kernel)
        | 4, _ => exact hs _ (by decide +kernel)
        | 5, _ => exact hs _ (by decide +kernel)
        | 6, _ => exact hs _ (by decide +kernel)
        | 7, _ => exact hs _ (by decide +kernel)
        | 8, _ => exact hs _ (by decide +kernel)
        | 9, _ => exact hs _ (by decide +kernel)
        | 10, _ => exact hs _ (by decide +kernel)
        | 11, _ => exact hs _ (by decide +kernel)
        | 12, _ => exact hs _ (by decide +kernel)
        | 13, _ => exact hs _ (by decide +kernel)
        | 14, _ => exact hs _ (by decide +kernel)
        | 15, _ => exact hs _ (by decide +kernel)
        | 16, _ => exact hs _ (by decide +kernel)
        | 17, _ => exact hs _ (by decide +kernel)
        | 18, _ => exact hs _ (by decide +kernel)
        | 19, _ => exact hs _ (by decide +kernel)
        | 20, _ => exact hs _ (by decide +kernel)
        | k + 21, hj => exact absurd hj (Nat.not_lt.mpr (Nat.le_add_left _ _))) (fun i j hi hj hne => absurd (show i = j by omega) hne) hA0
  refine ⟨adK 0, adV 0, vk_R.warm w1 (vk_R.of (w5 _ (q_inn 570 (by decide +kernel))) (he 0 (by decide))), va_O.moved w1.alike ((hS.1 0 (by decide)).1.kept (fun a ha _ => w3 a (by omega))), fun U hW hU => ?_⟩
  have hk : ∀ a : Nat, a < s0.heap.size → ¬ q_A G a → U.heap[a]? = s0.heap[a]? := fun a ha _ => (hU a (by omega)).trans (w3 a (by omega))
  have hv := (State.WarmedH.trans w1 hW).alike
  obtain ⟨h1, h2, h3, h4⟩ := hS.1 0 (by decide)
  exact ⟨va_O.moved hv (h1.kept hk), va_OF.moved hv (h2.kept hk), va_OF.moved hv (h3.kept hk), va_T.moved hv (h4.kept hk), va_Z.moved hv ((va_Zof (w5 _ (by decide +kernel)) (w5 _ (by decide +kernel)) (va_eqt (hs _ (by decide +kernel))) hA0).kept hk)⟩
set_option maxRecDepth 100000 in
set_option maxHeartbeats 4000000 in
theorem q_ix80 {G : qG} {M : qm} {z z' : qz} {d mc ms : Nat} {Q : qr → qh → Prop} {cells slots pc : Nat} {l st : List Value} {h : qh} {x : Int32} (hM : M.own = RX8) (hd : 4 ≤ d) (hcc : cells ≤ mc) (hss : slots ≤ ms) (hl : l[1]? = some (.int x)) (hx0 : ¬ (x.toUInt32 % 65536).toInt32 < 0) (hx1 : ¬ 255 < (x.toUInt32 % 65536).toInt32) (hst : (st.map fun v => v.category).sum ≤ 8)
    (d0 : decode M.cc pc = .ok (.ldc 80, 2)) (d2 : decode M.cc (pc + 2) = .ok (.iload_n 1, 1)) (d3 : decode M.cc (pc + 3) = .ok (.i2c, 1)) (d4 : decode M.cc (pc + 4) = .ok (.invokevirtual 82, 3))
    (kk : q_W G M z' d mc ms Q cells slots z (pc + 7) l (.int (p_ix q_sg80 (x.toUInt32 % 65536).toInt32.toInt8.toInt32 21 0) :: st) h) : q_W G M z' d mc ms Q cells slots z pc l st h := by
  intro p e s m args below meth c H locs ls C hR hS hL
  have hSt : q_St G s s.heap := C.2.2.2.2.2.2.2.2.2
  have hStH : q_St G s H := hSt.to (State.WarmedH.refl s) (q_old hSt hSt.b hS)
  have hown : s.vm.findClass RX8 = some m.cls := by rw [← hM]; exact C.2.2.2.1
  have hts := C.2.2.2.2.1
  obtain ⟨a, v, hr, ⟨cB, b1, b2, b3, b4⟩, hp⟩ := q_sf80 hStH
  refine va_ldcS C.1 C.2.1 hown hr d0 ?_
  refine lv_iload_n C.1 C.2.1 d2 rfl (hL.get hl (fun q => by cases q)) ?_
  refine lv_i2c C.1 C.2.1 (v := (x.toUInt32 % 65536).toInt32) d3 rfl ?_
  obtain ⟨⟨bytes, maxL, ret, hm, w1, w2, w3, w4, w5⟩, w6, w7⟩ := cv_X8_82
  obtain ⟨k, rfl⟩ : ∃ k, d = k + 4 := ⟨d - 4, by omega⟩
  have hsum := q_sum G.b st
  refine vp_callSi (post := fun r => r = p_ix q_sg80 (x.toUInt32 % 65536).toInt32.toInt8.toInt32 21 0) (W.runV (Ts := q_tb) (C := "java/lang/String") (b := a) (As := [.int (x.toUInt32 % 65536).toInt32]) (n := 1) (bytes := bytes) (maxL := maxL) (ret := ret) (index := 82) ⟨C.1, C.2.1, C.2.2.1, hown, hts⟩ (j_ix1 G k a v 21 q_sg80 (x.toUInt32 % 65536).toInt32 (by decide) (by decide) hx0 hx1) ?_ ?_ rfl rfl hL.size rfl ?_ d4 ⟨?_, ?_⟩) (fun r hr => ?_)
  · refine ⟨⟨rfl, rfl, by simp [q_rm], by simp [q_rm]; omega, pay_in hts q_tb_good, w1, hts _ w1, hts _ w3, w4, fun sig hsig => ?_, hts _ w2⟩, hts _ w6, hts _ w7⟩
    rw [hsig] at w5
    exact (Option.some.inj w5).symm
  · exact ⟨fun a U g mk ⟨q1, q2, q3⟩ => ⟨q1, q2.to (State.WarmedH.refl U) (fun _ _ => rfl), q3.to2 U _ rfl rfl⟩, ⟨cB, b1, b2, b3⟩, fun U hU hW => ⟨rfl, by rw [hU]; exact hSt.to hW (q_old hSt hSt.b hS), hp U hW (fun q _ => by rw [hU])⟩⟩
  · show 2 * (F0 m (pc + 4) ls _).monitorRoom + _ ≤ 8
    rw [hsum]
    exact lv_room (m := m) (pc := pc) (ls := ls) (rest := []) hst
  · exact hcc
  · exact hss
  · subst hr
    exact kk p e s m args below meth c H locs ls C hR hS hL
def q_sg87 (j : Nat) : Int32 := ([61, 33, 60, 62] : List Int32).getD j 0
set_option maxRecDepth 100000 in
set_option maxHeartbeats 4000000 in
theorem q_sf87 {G : qG} {s : State} {H : Heap} (hSt : q_St G s H) : ∃ a v, vk_R RX8 87 "=!<>" a s ∧ va_O "java/lang/String" a (q_A G) s H ∧ ∀ U : State, s.WarmedH U.vm → (∀ q : Nat, q < G.b → U.heap[q]? = H[q]?) → p_S G a v 4 q_sg87 U := by
  obtain ⟨hK, s0, a0, w1, w2, w3, w4, w5, w6⟩ := hSt
  have hs := flat_of_before _ w4
  have hA0 : ∀ a : Nat, a < s0.heap.size → ¬ q_A G a := fun a ha q => by
    have q : G.b ≤ a := q
    omega
  obtain ⟨adK, adV, hS, he⟩ := vk_Sof (args := a0) (s := s0) (N := 1) (tm := fun _ => .string "TokenCircuit$Tokens" 87) (len := [4]) (byt := [[61, 33, 60, 62]]) (A := q_A G) (fun i hi => by
      match i, hi with
      | 0, _ => decide) (fun i hi => hs _ (by decide +kernel)) (fun i hi => hs _ (by decide +kernel)) (fun i hi => hs _ (by decide +kernel)) (fun i hi => by
      match i, hi with
      | 0, _ => exact hs _ (by decide +kernel)) (fun i hi => by
      match i, hi with
      | 0, _ =>
        intro j hj
        match j, hj with
        | 0, _ => exact hs _ (by decide +kernel)
        | 1, _ => exact hs _ (by decide +kernel)
        | 2, _ => exact hs _ (by decide +kernel)
        | 3, _ => exact hs _ (by decide +kernel)) (fun i j hi hj hne => absurd (show i = j by omega) hne) hA0
  refine ⟨adK 0, adV 0, vk_R.warm w1 (vk_R.of (w5 _ (q_inn 657 (by decide +kernel))) (he 0 (by decide))), va_O.moved w1.alike ((hS.1 0 (by decide)).1.kept (fun a ha _ => w3 a (by omega))), fun U hW hU => ?_⟩
  have hk : ∀ a : Nat, a < s0.heap.size → ¬ q_A G a → U.heap[a]? = s0.heap[a]? := fun a ha _ => (hU a (by omega)).trans (w3 a (by omega))
  have hv := (State.WarmedH.trans w1 hW).alike
  obtain ⟨h1, h2, h3, h4⟩ := hS.1 0 (by decide)
  exact ⟨va_O.moved hv (h1.kept hk), va_OF.moved hv (h2.kept hk), va_OF.moved hv (h3.kept hk), va_T.moved hv (h4.kept hk), va_Z.moved hv ((va_Zof (w5 _ (by decide +kernel)) (w5 _ (by decide +kernel)) (va_eqt (hs _ (by decide +kernel))) hA0).kept hk)⟩
set_option maxRecDepth 100000 in
set_option maxHeartbeats 4000000 in
theorem q_ix87 {G : qG} {M : qm} {z z' : qz} {d mc ms : Nat} {Q : qr → qh → Prop} {cells slots pc : Nat} {l st : List Value} {h : qh} {x : Int32} (hM : M.own = RX8) (hd : 4 ≤ d) (hcc : cells ≤ mc) (hss : slots ≤ ms) (hl : l[1]? = some (.int x)) (hx0 : ¬ (x.toUInt32 % 65536).toInt32 < 0) (hx1 : ¬ 255 < (x.toUInt32 % 65536).toInt32) (hst : (st.map fun v => v.category).sum ≤ 8)
    (d0 : decode M.cc pc = .ok (.ldc 87, 2)) (d2 : decode M.cc (pc + 2) = .ok (.iload_n 1, 1)) (d3 : decode M.cc (pc + 3) = .ok (.i2c, 1)) (d4 : decode M.cc (pc + 4) = .ok (.invokevirtual 82, 3))
    (kk : q_W G M z' d mc ms Q cells slots z (pc + 7) l (.int (p_ix q_sg87 (x.toUInt32 % 65536).toInt32.toInt8.toInt32 4 0) :: st) h) : q_W G M z' d mc ms Q cells slots z pc l st h := by
  intro p e s m args below meth c H locs ls C hR hS hL
  have hSt : q_St G s s.heap := C.2.2.2.2.2.2.2.2.2
  have hStH : q_St G s H := hSt.to (State.WarmedH.refl s) (q_old hSt hSt.b hS)
  have hown : s.vm.findClass RX8 = some m.cls := by rw [← hM]; exact C.2.2.2.1
  have hts := C.2.2.2.2.1
  obtain ⟨a, v, hr, ⟨cB, b1, b2, b3, b4⟩, hp⟩ := q_sf87 hStH
  refine va_ldcS C.1 C.2.1 hown hr d0 ?_
  refine lv_iload_n C.1 C.2.1 d2 rfl (hL.get hl (fun q => by cases q)) ?_
  refine lv_i2c C.1 C.2.1 (v := (x.toUInt32 % 65536).toInt32) d3 rfl ?_
  obtain ⟨⟨bytes, maxL, ret, hm, w1, w2, w3, w4, w5⟩, w6, w7⟩ := cv_X8_82
  obtain ⟨k, rfl⟩ : ∃ k, d = k + 4 := ⟨d - 4, by omega⟩
  have hsum := q_sum G.b st
  refine vp_callSi (post := fun r => r = p_ix q_sg87 (x.toUInt32 % 65536).toInt32.toInt8.toInt32 4 0) (W.runV (Ts := q_tb) (C := "java/lang/String") (b := a) (As := [.int (x.toUInt32 % 65536).toInt32]) (n := 1) (bytes := bytes) (maxL := maxL) (ret := ret) (index := 82) ⟨C.1, C.2.1, C.2.2.1, hown, hts⟩ (j_ix1 G k a v 4 q_sg87 (x.toUInt32 % 65536).toInt32 (by decide) (by decide) hx0 hx1) ?_ ?_ rfl rfl hL.size rfl ?_ d4 ⟨?_, ?_⟩) (fun r hr => ?_)
  · refine ⟨⟨rfl, rfl, by simp [q_rm], by simp [q_rm]; omega, pay_in hts q_tb_good, w1, hts _ w1, hts _ w3, w4, fun sig hsig => ?_, hts _ w2⟩, hts _ w6, hts _ w7⟩
    rw [hsig] at w5
    exact (Option.some.inj w5).symm
  · exact ⟨fun a U g mk ⟨q1, q2, q3⟩ => ⟨q1, q2.to (State.WarmedH.refl U) (fun _ _ => rfl), q3.to2 U _ rfl rfl⟩, ⟨cB, b1, b2, b3⟩, fun U hU hW => ⟨rfl, by rw [hU]; exact hSt.to hW (q_old hSt hSt.b hS), hp U hW (fun q _ => by rw [hU])⟩⟩
  · show 2 * (F0 m (pc + 4) ls _).monitorRoom + _ ≤ 8
    rw [hsum]
    exact lv_room (m := m) (pc := pc) (ls := ls) (rest := []) hst
  · exact hcc
  · exact hss
  · subst hr
    exact kk p e s m args below meth c H locs ls C hR hS hL
def q_sg89 (j : Nat) : Int32 := ([60, 62, 38, 124] : List Int32).getD j 0
set_option maxRecDepth 100000 in
set_option maxHeartbeats 4000000 in
theorem q_sf89 {G : qG} {s : State} {H : Heap} (hSt : q_St G s H) : ∃ a v, vk_R RX8 89 "<>&|" a s ∧ va_O "java/lang/String" a (q_A G) s H ∧ ∀ U : State, s.WarmedH U.vm → (∀ q : Nat, q < G.b → U.heap[q]? = H[q]?) → p_S G a v 4 q_sg89 U := by
  obtain ⟨hK, s0, a0, w1, w2, w3, w4, w5, w6⟩ := hSt
  have hs := flat_of_before _ w4
  have hA0 : ∀ a : Nat, a < s0.heap.size → ¬ q_A G a := fun a ha q => by
    have q : G.b ≤ a := q
    omega
  obtain ⟨adK, adV, hS, he⟩ := vk_Sof (args := a0) (s := s0) (N := 1) (tm := fun _ => .string "TokenCircuit$Tokens" 89) (len := [4]) (byt := [[60, 62, 38, 124]]) (A := q_A G) (fun i hi => by
      match i, hi with
      | 0, _ => decide) (fun i hi => hs _ (by decide +kernel)) (fun i hi => hs _ (by decide +kernel)) (fun i hi => hs _ (by decide +kernel)) (fun i hi => by
      match i, hi with
      | 0, _ => exact hs _ (by decide +kernel)) (fun i hi => by
      match i, hi with
      | 0, _ =>
        intro j hj
        match j, hj with
        | 0, _ => exact hs _ (by decide +kernel)
        | 1, _ => exact hs _ (by decide +kernel)
        | 2, _ => exact hs _ (by decide +kernel)
        | 3, _ => exact hs _ (by decide +kernel)) (fun i j hi hj hne => absurd (show i = j by omega) hne) hA0
  refine ⟨adK 0, adV 0, vk_R.warm w1 (vk_R.of (w5 _ (q_inn 658 (by decide +kernel))) (he 0 (by decide))), va_O.moved w1.alike ((hS.1 0 (by decide)).1.kept (fun a ha _ => w3 a (by omega))), fun U hW hU => ?_⟩
  have hk : ∀ a : Nat, a < s0.heap.size → ¬ q_A G a → U.heap[a]? = s0.heap[a]? := fun a ha _ => (hU a (by omega)).trans (w3 a (by omega))
  have hv := (State.WarmedH.trans w1 hW).alike
  obtain ⟨h1, h2, h3, h4⟩ := hS.1 0 (by decide)
  exact ⟨va_O.moved hv (h1.kept hk), va_OF.moved hv (h2.kept hk), va_OF.moved hv (h3.kept hk), va_T.moved hv (h4.kept hk), va_Z.moved hv ((va_Zof (w5 _ (by decide +kernel)) (w5 _ (by decide +kernel)) (va_eqt (hs _ (by decide +kernel))) hA0).kept hk)⟩
set_option maxRecDepth 100000 in
set_option maxHeartbeats 4000000 in
theorem q_ix89 {G : qG} {M : qm} {z z' : qz} {d mc ms : Nat} {Q : qr → qh → Prop} {cells slots pc : Nat} {l st : List Value} {h : qh} {x : Int32} (hM : M.own = RX8) (hd : 4 ≤ d) (hcc : cells ≤ mc) (hss : slots ≤ ms) (hl : l[1]? = some (.int x)) (hx0 : ¬ (x.toUInt32 % 65536).toInt32 < 0) (hx1 : ¬ 255 < (x.toUInt32 % 65536).toInt32) (hst : (st.map fun v => v.category).sum ≤ 8)
    (d0 : decode M.cc pc = .ok (.ldc 89, 2)) (d2 : decode M.cc (pc + 2) = .ok (.iload_n 1, 1)) (d3 : decode M.cc (pc + 3) = .ok (.i2c, 1)) (d4 : decode M.cc (pc + 4) = .ok (.invokevirtual 82, 3))
    (kk : q_W G M z' d mc ms Q cells slots z (pc + 7) l (.int (p_ix q_sg89 (x.toUInt32 % 65536).toInt32.toInt8.toInt32 4 0) :: st) h) : q_W G M z' d mc ms Q cells slots z pc l st h := by
  intro p e s m args below meth c H locs ls C hR hS hL
  have hSt : q_St G s s.heap := C.2.2.2.2.2.2.2.2.2
  have hStH : q_St G s H := hSt.to (State.WarmedH.refl s) (q_old hSt hSt.b hS)
  have hown : s.vm.findClass RX8 = some m.cls := by rw [← hM]; exact C.2.2.2.1
  have hts := C.2.2.2.2.1
  obtain ⟨a, v, hr, ⟨cB, b1, b2, b3, b4⟩, hp⟩ := q_sf89 hStH
  refine va_ldcS C.1 C.2.1 hown hr d0 ?_
  refine lv_iload_n C.1 C.2.1 d2 rfl (hL.get hl (fun q => by cases q)) ?_
  refine lv_i2c C.1 C.2.1 (v := (x.toUInt32 % 65536).toInt32) d3 rfl ?_
  obtain ⟨⟨bytes, maxL, ret, hm, w1, w2, w3, w4, w5⟩, w6, w7⟩ := cv_X8_82
  obtain ⟨k, rfl⟩ : ∃ k, d = k + 4 := ⟨d - 4, by omega⟩
  have hsum := q_sum G.b st
  refine vp_callSi (post := fun r => r = p_ix q_sg89 (x.toUInt32 % 65536).toInt32.toInt8.toInt32 4 0) (W.runV (Ts := q_tb) (C := "java/lang/String") (b := a) (As := [.int (x.toUInt32 % 65536).toInt32]) (n := 1) (bytes := bytes) (maxL := maxL) (ret := ret) (index := 82) ⟨C.1, C.2.1, C.2.2.1, hown, hts⟩ (j_ix1 G k a v 4 q_sg89 (x.toUInt32 % 65536).toInt32 (by decide) (by decide) hx0 hx1) ?_ ?_ rfl rfl hL.size rfl ?_ d4 ⟨?_, ?_⟩) (fun r hr => ?_)
  · refine ⟨⟨rfl, rfl, by simp [q_rm], by simp [q_rm]; omega, pay_in hts q_tb_good, w1, hts _ w1, hts _ w3, w4, fun sig hsig => ?_, hts _ w2⟩, hts _ w6, hts _ w7⟩
    rw [hsig] at w5
    exact (Option.some.inj w5).symm
  · exact ⟨fun a U g mk ⟨q1, q2, q3⟩ => ⟨q1, q2.to (State.WarmedH.refl U) (fun _ _ => rfl), q3.to2 U _ rfl rfl⟩, ⟨cB, b1, b2, b3⟩, fun U hU hW => ⟨rfl, by rw [hU]; exact hSt.to hW (q_old hSt hSt.b hS), hp U hW (fun q _ => by rw [hU])⟩⟩
  · show 2 * (F0 m (pc + 4) ls _).monitorRoom + _ ≤ 8
    rw [hsum]
    exact lv_room (m := m) (pc := pc) (ls := ls) (rest := []) hst
  · exact hcc
  · exact hss
  · subst hr
    exact kk p e s m args below meth c H locs ls C hR hS hL
