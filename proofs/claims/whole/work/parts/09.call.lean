/-! ===== calls ===== -/
def q_ri (F : Int32 → qh → Prop) (X : String → qh → Prop) : qr → qh → Prop := fun r h => match r with
  | .inl (some (.int x)) => F x h
  | .inr E => X E h
  | _ => False
def q_rl (F : Int64 → qh → Prop) (X : String → qh → Prop) : qr → qh → Prop := fun r h => match r with
  | .inl (some (.long x)) => F x h
  | .inr E => X E h
  | _ => False
def q_rv (F : qh → Prop) (X : String → qh → Prop) : qr → qh → Prop := fun r h => match r with
  | .inl none => F h
  | .inr E => X E h
  | _ => False
/-- what the tables say of a call by the entry ix of own -/
def q_Cb (own : String) (ix : Nat) (y : MethodName) (n : Nat) : Prop := ∃ (bytes : ByteArray) (maxL : Nat) (ret : Option FieldType), maxL ≤ 21 ∧ Cond.code y bytes maxL ret ∈ q_tb ∧ Cond.methodLink own ix y ∈ q_tb ∧ Cond.initialized y.cls ∈ q_tb ∧ (y.cls ≠ "java/lang/invoke/MethodHandle" ∧ y.cls ≠ "java/lang/invoke/VarHandle") ∧ (parseMethodDescriptor y.desc).map (fun d => d.parameters.length) = some n
def q_Cv (own : String) (ix : Nat) (y : MethodName) (n : Nat) : Prop := q_Cb own ix y n ∧ Cond.instanceMethod y ∈ q_tb ∧ Cond.selects y.cls y y ∈ q_tb
def q_Cs (own : String) (ix : Nat) (y : MethodName) (n : Nat) : Prop := q_Cb own ix y n ∧ Cond.static y ∈ q_tb
theorem q_blind (G : qG) (z : qz) (av : List Value) (h : qh) : FrameBlind (q_P G z av h) := fun a U g mk ⟨h1, ⟨hK, s0, a0, r1, r2⟩, h3⟩ => ⟨h1, ⟨va_K.moved (u := U) (U := U.calling g mk a) (Vm.Alike.refl U.vm) hK, s0, a0, r1, r2⟩, h3⟩
theorem q_old {G : qG} {s : State} {H : Heap} {locs : List Loc} (hSt : q_St G s s.heap) (hR : G.b ≤ s.heap.size) (hS : va_S (q_A G) s.heap H locs) : ∀ q : Nat, q < G.b → H[q]? = s.heap[q]? := fun q hq => hS.2.1 q (Nat.lt_of_lt_of_le hq hR) (fun w => Nat.not_le.mpr hq w)
theorem q_St.b {G : qG} {s : State} {H : Heap} (h : q_St G s H) : G.b ≤ H.size := by
  obtain ⟨hK, s0, a0, h1, h2, h3, h4⟩ := h
  rcases Nat.lt_or_ge H.size G.b with q | q
  · have := h3 H.size q
    rw [Array.getElem?_eq_none (Nat.le_refl _)] at this
    have h5 : s0.heap[H.size]? ≠ none := by rw [Array.getElem?_eq_getElem (by rw [h2]; exact q)]; exact fun w => by cases w
    exact absurd this.symm h5
  · exact q
theorem q_pre {G : qG} {z : qz} {av : List Value} {h : qh} {s : State} {H : Heap} {locs : List Loc} (hSt : q_St G s s.heap) (hS : va_S (q_A G) s.heap H locs) (hR : q_R G z h H) (U : State) (hU : U.heap = H) (hW : s.WarmedH U.vm) : q_P G z av h (av.map (q_cv G.b)).toArray U :=
  ⟨rfl, by rw [hU]; exact hSt.to hW (q_old hSt hSt.b hS), by rw [hU]; exact hR⟩
theorem q_sum (b : Nat) (st : List Value) : ((st.map (q_cv b)).map fun v => v.category).sum = (st.map fun v => v.category).sum := by
  rw [List.map_map]
  congr 1
  exact List.map_congr_left (fun v _ => q_cv_cat b v)
theorem q_rcv {G : qG} {z : qz} {h : qh} {H : Heap} {s : State} (hK : va_K G.D vwCl (q_tys G) s) (hR : q_R G z h H) {o ci N : Nat} {C : String} {T : u_T} (hc : vwCl[ci]? = some (C, T, N)) (ho : o < z.n) (hk : q_K o = (ci, 0)) : ∃ cellB : Cell, H[G.b + o]? = some cellB ∧ cellB.vm.isStatics = false ∧ s.vm.findClass C = some cellB.cls :=
  va_recv hK (q_P1 hR ho (q_ent_obj G z h hk (q_vw_lt hc))) (ci := ci) (q0 := 0) hc rfl
section QC
variable {G : qG} {M : qm} {z z' : qz} {d mc ms : Nat} {Q : qr → qh → Prop} {cells slots pc : Nat} {l st : List Value} {h : qh}
/-- behind a call: it came back, or what it threw goes on to the caller -/
theorem q_behind {z1 : qz} {mc1 ms1 : Nat} {Q1 : qr → qh → Prop} {a : Array Value} {p : Program} {e : Env} {s : State} {m : MethodId} {args : Array Value} {below : List Frame} {meth : Method} {c : Code} {H : Heap} {locs : List Loc} {ls : Array Slot} {st0 : List Value}
    (hr : vx_Run p G.l e (q_rm d mc ms) s m args below meth c H locs cells slots mc1 ms1 (F0 m pc ls st0) (st.map (q_cv G.b)) (q_Q G z1 Q1 a) (q_X G z1 Q1) (q_A G))
    (C : q_C G M p s m args meth c) (hS : va_S (q_A G) s.heap H locs) (hL : q_L G.b M.nL ls l) (hc : cells + mc1 ≤ mc) (hs : slots + ms1 ≤ ms) (hout : ∀ x ∈ tableOf M.hh, covers x pc = false)
    (kx : ∀ E h1, Q1 (.inr E) h1 → z1 = z' ∧ Q (.inr E) h1) (kk : ∀ r h1, Q1 (.inl r) h1 → q_W G M z' d mc ms Q (cells + mc1) (slots + ms1) z1 (pc + 3) l (r.toList ++ st) h1) :
    W p G.l e (q_rm d mc ms) s m args below meth c H locs cells slots (vx_MQ below (q_Q G z' Q) (q_X G z' Q) args s mc ms (q_A G)) (F0 m pc ls st0) := by
  intro T hT X
  rcases hr T hT X with ⟨v, st₀, t, T', L, h0, X', hL', e1, e2, ⟨⟨r, h1, hv, hq, hR1⟩, hF⟩, stp⟩ | ⟨q, st₀, t, T', L, E, ce, h0, X', hL', e1, e2, ⟨⟨h1, hq, hR1⟩, hF⟩, hce, hcv, hcl, stp⟩
  · cases hv
    obtain ⟨k1, k2, k3⟩ := vx_keep h0 e1 hS (fun q _ hq => hq) (fun q hq => hq) hL' hF
    obtain ⟨t2, a1, b1⟩ := kk r h1 hq p e s m args below meth c T'.heap (locs ++ L) ls C (e1 ▸ hR1) k3 hL T' rfl X'
    refine ⟨t2, stp t2 ?_, b1⟩
    cases r with
    | none => exact a1
    | some w => exact a1
  · obtain ⟨k1, k2, k3⟩ := vx_keep h0 e1 hS (fun q _ hq => hq) (fun q hq => hq) hL' hF
    obtain ⟨rfl, hq'⟩ := kx E h1 hq
    obtain ⟨t2, a1, b1⟩ := vx_out (Qc := q_Q G z1 Q) (XC := q_X G z1 Q) (mc := mc) (ms := ms) (free := q_A G) (pc := pc) (ls := ls) (rest := st.map (q_cv G.b)) (by rw [C.2.2.2.2.2.2.2.1]; exact hout) C.2.2.2.2.2.2.1 (H := T'.heap) (by rw [e1]; exact hce) hcv hcl (fun t' ht' _ => ⟨⟨h1, hq', by rw [ht', e1]; exact hR1⟩, q_F k3 ht'⟩) k3.2.2 hc hs T' rfl X'
    exact ⟨t2, stp.trans a1, b1⟩
theorem q_callV {ix n ci o d1 mc1 ms1 : Nat} {y : MethodName} {As stk : List Value} {z1 : qz} {Q1 : qr → qh → Prop} (hcv : q_Cv M.own ix y n) (hci : ∃ (T : u_T) (N : Nat), vwCl[ci]? = some (y.cls, T, N)) (ho : o < z.n) (hk : q_K o = (ci, 0)) (hn : As.length = n) (hd1 : d1 + 1 ≤ d) (hc : cells + mc1 ≤ mc) (hs : slots + ms1 ≤ ms) (hw : (st.map fun v => v.category).sum ≤ 8) (hout : ∀ x ∈ tableOf M.hh, covers x pc = false) (hdg : decode M.cc pc = .ok (.invokevirtual ix, 3)) (hstk : stk = As.reverse ++ .ref o :: st)
    (hM : q_M G z z1 d1 mc1 ms1 y (.ref o :: As) h Q1) (kx : ∀ E h1, Q1 (.inr E) h1 → z1 = z' ∧ Q (.inr E) h1) (kk : ∀ r h1, Q1 (.inl r) h1 → q_W G M z' d mc ms Q (cells + mc1) (slots + ms1) z1 (pc + 3) l (r.toList ++ st) h1) : q_W G M z' d mc ms Q cells slots z pc l stk h := by
  intro p e s m args below meth c H locs ls C hR hS hL
  subst hstk
  obtain ⟨⟨bytes, maxL, ret, hm, w1, w2, w3, w4, w5⟩, w6, w7⟩ := hcv
  obtain ⟨T, N, hT⟩ := hci
  have hts := C.2.2.2.2.1
  have hSt : q_St G s s.heap := C.2.2.2.2.2.2.2.2.2
  refine q_behind (vx_runV (Ts := q_tb) (C := y.cls) (b := G.b + o) (As := As.map (q_cv G.b)) (n := n) (bytes := bytes) (maxL := maxL) (ret := ret) (index := ix) ⟨C.1, C.2.1, C.2.2.1, C.2.2.2.1, hts⟩ hM ?_ ?_ rfl (by rw [List.length_map]; exact hn) hL.size ?_ ?_ hdg ⟨hc, hs⟩) C hS hL hc hs hout kx kk
  · refine ⟨⟨rfl, rfl, by simp [q_rm]; omega, by simp [q_rm]; omega, pay_in hts q_tb_good, w1, hts _ w1, hts _ w3, w4, fun sig hsig => ?_, hts _ w2⟩, hts _ w6, hts _ w7⟩
    rw [hsig] at w5
    exact (Option.some.inj w5).symm
  · exact ⟨q_blind _ _ _ _, q_rcv hSt.1 hR hT ho hk, fun U hU hW => q_pre (av := .ref o :: As) hSt hS hR U hU hW⟩
  · show List.map (q_cv G.b) (As.reverse ++ .ref o :: st) = _
    rw [List.map_append, List.map_reverse]
    rfl
  · have := q_sum G.b st
    show 2 * (F0 m pc ls _).monitorRoom + _ ≤ 8
    rw [this]
    exact lv_room (m := m) (pc := pc) (ls := ls) (rest := []) hw
theorem q_callS {ix n d1 mc1 ms1 : Nat} {y : MethodName} {As stk : List Value} {z1 : qz} {Q1 : qr → qh → Prop} (hcv : q_Cs M.own ix y n) (hn : As.length = n) (hd1 : d1 + 1 ≤ d) (hc : cells + mc1 ≤ mc) (hs : slots + ms1 ≤ ms) (hw : (st.map fun v => v.category).sum ≤ 8) (hout : ∀ x ∈ tableOf M.hh, covers x pc = false) (hdg : decode M.cc pc = .ok (.invokestatic ix, 3)) (hstk : stk = As.reverse ++ st)
    (hM : q_M G z z1 d1 mc1 ms1 y As h Q1) (kx : ∀ E h1, Q1 (.inr E) h1 → z1 = z' ∧ Q (.inr E) h1) (kk : ∀ r h1, Q1 (.inl r) h1 → q_W G M z' d mc ms Q (cells + mc1) (slots + ms1) z1 (pc + 3) l (r.toList ++ st) h1) : q_W G M z' d mc ms Q cells slots z pc l stk h := by
  intro p e s m args below meth c H locs ls C hR hS hL
  subst hstk
  obtain ⟨⟨bytes, maxL, ret, hm, w1, w2, w3, w4, w5⟩, w6⟩ := hcv
  have hts := C.2.2.2.2.1
  have hSt : q_St G s s.heap := C.2.2.2.2.2.2.2.2.2
  refine q_behind (vx_runS (Ts := q_tb) (As := As.map (q_cv G.b)) (n := n) (bytes := bytes) (maxL := maxL) (ret := ret) (index := ix) ⟨C.1, C.2.1, C.2.2.1, C.2.2.2.1, hts⟩ hM ?_ ?_ rfl (by rw [List.length_map]; exact hn) hL.size ?_ ?_ hdg ⟨hc, hs⟩) C hS hL hc hs hout kx kk
  · refine ⟨⟨rfl, rfl, by simp [q_rm]; omega, by simp [q_rm]; omega, pay_in hts q_tb_good, w1, hts _ w1, hts _ w3, w4, fun sig hsig => ?_, hts _ w2⟩, hts _ w6⟩
    rw [hsig] at w5
    exact (Option.some.inj w5).symm
  · exact ⟨q_blind _ _ _ _, fun U hU hW => q_pre hSt hS hR U hU hW⟩
  · show List.map (q_cv G.b) (As.reverse ++ st) = _
    rw [List.map_append, List.map_reverse]
  · have := q_sum G.b st
    show 2 * (F0 m pc ls _).monitorRoom + _ ≤ 8
    rw [this]
    exact lv_room (m := m) (pc := pc) (ls := ls) (rest := []) hw
end QC
