/-! ===== bodies with a table; calls in bodies that may make a cell; what is caught ===== -/
theorem q_L.st0 {b nL : Nat} {ls' : Array Slot} {l : List Value} {lv : List (Nat × Value)} {i : Nat} {w : Value} (h2 : ∀ (j : Nat) (v : Value), l[j]? = some v → v ≠ .null → (j, q_cv b v) ∈ lv) (hok : q_ok l i = true) (h : lv_has ls' nL ((i, w) :: lv.filter (fun q => !(q.1 == i) && !(q.1 + 1 == i && q.2.category == 2)))) : q_L b nL ls' (l.set i .null) := by
  refine ⟨_, h, fun j v hj hv => ?_⟩
  rw [List.getElem?_set] at hj
  by_cases he : i = j
  · subst he
    rw [if_pos rfl] at hj
    split at hj
    · cases hj
      exact absurd rfl hv
    · cases hj
  · rw [if_neg he] at hj
    refine List.mem_cons_of_mem _ (List.mem_filter.mpr ⟨h2 j v hj hv, ?_⟩)
    have h3 : ¬ (j + 1 = i ∧ (q_cv b v).category = 2) := fun q => q_ok_ne hok hj q.1 (by rw [← q_cv_cat b]; exact q.2)
    have h4 : ¬ j = i := fun q => he q.symm
    simp only [Bool.and_eq_true, Bool.not_eq_true', beq_eq_false_iff_ne, Bool.and_eq_false_iff]
    refine ⟨h4, ?_⟩
    by_cases h5 : j + 1 = i
    · exact Or.inr (fun q => h3 ⟨h5, q⟩)
    · exact Or.inl h5
/-- a body with a table -/
theorem q_ofH {G : qG} {M : qm} {z z' : qz} {d mc ms : Nat} {y : MethodName} {av : List Value} {h : qh} {Q : qr → qh → Prop} (hy : plainFor y = true) (ho : y.cls = M.own) (hcode : Cond.codeWith y M.cc M.nL M.rt M.hh ∈ q_tb) (hini : M.ini = true → y.name = "<init>") (hlen : (q_args av).length ≤ M.nL)
    (body : q_W G M z' d mc ms Q 0 0 z 0 (q_l0 M.nL av) [] h) : q_M G z z' d mc ms y av h Q := by
  refine MetFree.of_bodySF (code := M.cc) (maxLocals := M.nL) (ret := M.rt) hy ?_ ?_
  · intro args s m h hn
    obtain ⟨m9, meth, c, hn9, h1, h2, h3, h4, -, h5, h6, -⟩ := Cond.codeWith_spec (atoms_spec (ws := q_tb) h _ hcode)
    cases hn.symm.trans hn9
    exact ⟨meth, c, h1, h2, h3, h4, h5, h6⟩
  · intro p e s m args below meth c s₁ B hml hP _
    have hh0 : s₁.heap = s.heap := by rw [B.state]; rfl
    have hts := atoms_spec (ws := q_tb) B.pre
    have ht : c.exceptionTable.toList = tableOf M.hh := vx_table (x := y) B (hts _ hcode)
    obtain ⟨rfl, hSt, hR⟩ := hP
    have hown : s.vm.findClass M.own = some m.cls := by rw [← ho]; exact findClass_of_methodNamed B.named
    have hl := lv_entry (av.map (q_cv G.b)) (n := M.nL) (by rw [q_sl_len]; exact hlen)
    obtain ⟨t, a1, o, b1, b2, b3⟩ := body p e s m _ below meth c s.heap [] _ ⟨B.exec, B.bytes, hml, hown, hts, B.returns, B.notSynchronized, ht, fun q => (name_of_methodNamed B.named B.method).1.trans (hini q), hSt⟩ hR va_S.rf ⟨_, hl, fun j v hj hv => by
      have := q_args_in G.b av 0 j v _ hj hv
      rwa [Nat.zero_add] at this⟩ s₁ hh0 (Stand.of_body B)
    rw [lg_entry_eq] at *
    exact ⟨t, o, a1, b1, b2, b3⟩
section QH
variable {G : qG} {M : qm} {d mc ms : Nat} {Q : qr → qh → Prop} {pc : Nat} {l st : List Value} {h : qh}
abbrev q_N1 (G : qG) (M : qm) (d mc ms : Nat) (Q : qr → qh → Prop) (pc : Nat) (l st : List Value) (h : qh) : Prop := q_W G M zN d mc ms Q 0 0 zN pc l st h
theorem q_callVi1 {ix n ci o d1 : Nat} {y : MethodName} {As stk : List Value} {F : Int32 → qh → Prop} (hcv : q_Cv M.own ix y n) (hci : ∃ (T : u_T) (N : Nat), vwCl[ci]? = some (y.cls, T, N)) (ho : o < zN.n) (hk : q_K o = (ci, 0)) (hn : As.length = n) (hd1 : d1 + 1 ≤ d) (hw : (st.map fun v => v.category).sum ≤ 8) (hout : ∀ x ∈ tableOf M.hh, covers x pc = false) (hdg : decode M.cc pc = .ok (.invokevirtual ix, 3)) (hstk : stk = As.reverse ++ .ref o :: st)
    (hM : q_M0 G d1 y (.ref o :: As) h (q_ri F (fun E h => Q (.inr E) h))) (kk : ∀ x h1, F x h1 → q_N1 G M d mc ms Q (pc + 3) l (.int x :: st) h1) : q_N1 G M d mc ms Q pc l stk h :=
  q_callV hcv hci ho hk hn hd1 (Nat.zero_le _) (Nat.zero_le _) hw hout hdg hstk hM (fun E h1 q => ⟨rfl, q⟩) (fun r h1 hr => by
    match r, hr with
    | some (.int x), hr => exact kk x h1 hr)
theorem q_callVv1 {ix n ci o d1 : Nat} {y : MethodName} {As stk : List Value} {F : qh → Prop} (hcv : q_Cv M.own ix y n) (hci : ∃ (T : u_T) (N : Nat), vwCl[ci]? = some (y.cls, T, N)) (ho : o < zN.n) (hk : q_K o = (ci, 0)) (hn : As.length = n) (hd1 : d1 + 1 ≤ d) (hw : (st.map fun v => v.category).sum ≤ 8) (hout : ∀ x ∈ tableOf M.hh, covers x pc = false) (hdg : decode M.cc pc = .ok (.invokevirtual ix, 3)) (hstk : stk = As.reverse ++ .ref o :: st)
    (hM : q_M0 G d1 y (.ref o :: As) h (q_rv F (fun E h => Q (.inr E) h))) (kk : ∀ h1, F h1 → q_N1 G M d mc ms Q (pc + 3) l st h1) : q_N1 G M d mc ms Q pc l stk h :=
  q_callV hcv hci ho hk hn hd1 (Nat.zero_le _) (Nat.zero_le _) hw hout hdg hstk hM (fun E h1 q => ⟨rfl, q⟩) (fun r h1 hr => by
    match r, hr with
    | none, hr => exact kk h1 hr)
/-- a call within the range of the one row of the table: what it throws is stored in local i, and the handler goes on -/
theorem q_callC {ix n ci o d1 i hp hl hs1 : Nat} {k : Fin 4} {y : MethodName} {As stk : List Value} {Q1 : qr → qh → Prop} {name : String} {x : Nat × Nat × Nat × Nat} (hcv : q_Cv M.own ix y n) (hci : ∃ (T : u_T) (N : Nat), vwCl[ci]? = some (y.cls, T, N)) (ho : o < zN.n) (hk : q_K o = (ci, 0)) (hn : As.length = n) (hd1 : d1 + 1 ≤ d) (hw : (st.map fun v => v.category).sum ≤ 8)
    (hhh : tableOf M.hh = tableOf [x]) (hcov : ∀ e ∈ tableOf [x], covers e pc = true ∧ e.catchType = hl ∧ e.handlerPc = hp ∧ e.catchType ≠ 0) (hlk : Cond.classLink M.own hl name ∈ q_tb) (hcast : Cond.castable name name ∈ lw_tbl)
    (hdg : decode M.cc pc = .ok (.invokevirtual ix, 3)) (hds : (decode M.cc hp = .ok (.astore_n k, 1) ∧ (k : Nat) = i ∧ hs1 = 1) ∨ (decode M.cc hp = .ok (.astore i, 2) ∧ hs1 = 2)) (hi : i < M.nL) (hok : q_ok l i = true) (hstk : stk = As.reverse ++ .ref o :: st) {mc1 ms1 : Nat} (hc : mc1 ≤ mc) (hs : ms1 ≤ ms)
    (hM : q_M G zN zN d1 mc1 ms1 y (.ref o :: As) h Q1) (kx : ∀ E h1, Q1 (.inr E) h1 → E = name ∧ q_W G M zN d mc ms Q mc1 ms1 zN (hp + hs1) (l.set i .null) [] h1) (kk : ∀ r h1, Q1 (.inl r) h1 → q_W G M zN d mc ms Q mc1 ms1 zN (pc + 3) l (r.toList ++ st) h1) : q_N1 G M d mc ms Q pc l stk h := by
  intro p e s m args below meth c H locs ls C hR hS hL
  subst hstk
  obtain ⟨⟨bytes, maxL, ret, hm, w1, w2, w3, w4, w5⟩, w6, w7⟩ := hcv
  obtain ⟨T, N, hT⟩ := hci
  have hts := C.2.2.2.2.1
  have hSt : q_St G s s.heap := C.2.2.2.2.2.2.2.2.2
  have hr : vx_Run p G.l e (q_rm d mc ms) s m args below meth c H locs 0 0 mc1 ms1 (F0 m pc ls ((As.reverse ++ .ref o :: st).map (q_cv G.b))) (st.map (q_cv G.b)) (q_Q G zN Q1 (Value.ref (G.b + o) :: As.map (q_cv G.b)).toArray) (q_X G zN Q1) (q_A G) := by
    refine vx_runV (Ts := q_tb) (C := y.cls) (b := G.b + o) (As := As.map (q_cv G.b)) (n := n) (bytes := bytes) (maxL := maxL) (ret := ret) (index := ix) ⟨C.1, C.2.1, C.2.2.1, C.2.2.2.1, hts⟩ hM ?_ ?_ rfl (by rw [List.length_map]; exact hn) hL.size ?_ ?_ hdg ⟨by rw [Nat.zero_add]; exact hc, by rw [Nat.zero_add]; exact hs⟩
    · refine ⟨⟨rfl, rfl, by simp [q_rm]; omega, by simp [q_rm]; omega, pay_in hts q_tb_good, w1, hts _ w1, hts _ w3, w4, fun sig hsig => ?_, hts _ w2⟩, hts _ w6, hts _ w7⟩
      rw [hsig] at w5
      exact (Option.some.inj w5).symm
    · exact ⟨q_blind _ _ _ _, q_rcv hSt.1 hR hT ho hk, fun U hU hW => q_pre (av := .ref o :: As) hSt hS hR U hU hW⟩
    · show List.map (q_cv G.b) (As.reverse ++ .ref o :: st) = _
      rw [List.map_append, List.map_reverse]
      rfl
    · have := q_sum G.b st
      show 2 * (F0 m pc ls _).monitorRoom + _ ≤ 8
      rw [this]
      exact lv_room (m := m) (pc := pc) (ls := ls) (rest := []) hw
  intro T0 hT0 X
  rcases hr T0 hT0 X with ⟨v, st₀, t, T', L, h0, X', hL', e1, e2, ⟨⟨r, h1, hv, hq, hR1⟩, hF⟩, stp⟩ | ⟨q, st₀, t, T', L, E, ce, h0, X', hL', e1, e2, ⟨⟨h1, hq, hR1⟩, hF⟩, hce, hcv, hcl, stp⟩
  · cases hv
    obtain ⟨k1, k2, k3⟩ := vx_keep h0 e1 hS (fun q _ hq => hq) (fun q hq => hq) hL' hF
    rw [Nat.zero_add, Nat.zero_add] at X'
    obtain ⟨t2, a1, b1⟩ := kk r h1 hq p e s m args below meth c T'.heap (locs ++ L) ls C (e1 ▸ hR1) k3 hL T' rfl X'
    refine ⟨t2, stp t2 ?_, b1⟩
    cases r with
    | none => exact a1
    | some w => exact a1
  · obtain ⟨k1, k2, k3⟩ := vx_keep h0 e1 hS (fun q _ hq => hq) (fun q hq => hq) hL' hF
    rw [Nat.zero_add, Nat.zero_add] at X'
    obtain ⟨hEn, kx2⟩ := kx E h1 hq
    subst hEn
    obtain ⟨lv, hlv1, hlv2⟩ := hL
    obtain ⟨-, s0, a0, v1, v2, v3, v4, v5, v6⟩ := hSt
    obtain ⟨ex, htab⟩ : ∃ ex, tableOf [x] = [ex] := ⟨_, rfl⟩
    have hc1 := hcov ex (by rw [htab]; exact List.mem_singleton.mpr rfl)
    have key : vx_W p G.l e (q_rm d mc ms) s m args below meth c T'.heap (locs ++ L) mc1 ms1 (vx_MQ below (q_Q G zN Q) (q_X G zN Q) args s mc ms (q_A G)) (F0 m pc ls (st.map (q_cv G.b))) q := by
      refine vx_catch C.2.2.2.1 ex [] (by rw [C.2.2.2.2.2.2.2.1, hhh, htab]) hc1.1 hc1.2.2.2 (by rw [hc1.2.1]; exact hts _ hlk) (q_mv v1 rfl (v5 _ hcast)) (by rw [e1]; exact hce) hcv hcl ?_
      rw [hc1.2.2.1]
      rcases hds with ⟨hds, hki, rfl⟩ | ⟨hds, rfl⟩
      · exact lv_astore_n C.1 C.2.1 hds hki hlv1 hi rfl (fun ls' h' => kx2 p e s m args below meth c T'.heap (locs ++ L) ls' C (e1 ▸ hR1) k3 (q_L.st0 hlv2 hok h'))
      · exact lv_astore C.1 C.2.1 hds hlv1 hi rfl (fun ls' h' => kx2 p e s m args below meth c T'.heap (locs ++ L) ls' C (e1 ▸ hR1) k3 (q_L.st0 hlv2 hok h'))
    obtain ⟨t2, a1, b1⟩ := key T' rfl X'
    exact ⟨t2, stp.trans a1, b1⟩
end QH
theorem q_ri_inv {F : Int32 → qh → Prop} {X : String → qh → Prop} {r : Option Value} {h : qh} (hr : q_ri F X (.inl r) h) : ∃ x, r = some (.int x) ∧ F x h := by
  match r, hr with
  | some (.int x), hr => exact ⟨x, rfl, hr⟩
theorem q_rv_inv {F : qh → Prop} {X : String → qh → Prop} {r : Option Value} {h : qh} (hr : q_rv F X (.inl r) h) : r = none ∧ F h := by
  match r, hr with
  | none, hr => exact ⟨rfl, hr⟩
