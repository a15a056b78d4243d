/-! what is read behind what was written -/
theorem q_I_same (h : qh) (o k : Nat) (v : Int32) : (h.sI o k v).I o k = v := q_up_same _ _ _ _
theorem q_I_neo {h : qh} {o k : Nat} {v : Int32} {o' k' : Nat} (hne : o' ≠ o) : (h.sI o k v).I o' k' = h.I o' k' := q_up_ne _ _ (fun q => hne q.1)
theorem q_I_nek {h : qh} {o k : Nat} {v : Int32} {o' k' : Nat} (hne : k' ≠ k) : (h.sI o k v).I o' k' = h.I o' k' := q_up_ne _ _ (fun q => hne q.2)
theorem q_I_L {h : qh} {o k : Nat} {v : Int64} {o' k' : Nat} : (h.sL o k v).I o' k' = h.I o' k' := rfl
theorem q_I_R {h : qh} {o k : Nat} {v : Option Nat} {o' k' : Nat} : (h.sR o k v).I o' k' = h.I o' k' := rfl
theorem q_L_same (h : qh) (o k : Nat) (v : Int64) : (h.sL o k v).L o k = v := q_up_same _ _ _ _
theorem q_L_neo {h : qh} {o k : Nat} {v : Int64} {o' k' : Nat} (hne : o' ≠ o) : (h.sL o k v).L o' k' = h.L o' k' := q_up_ne _ _ (fun q => hne q.1)
theorem q_L_nek {h : qh} {o k : Nat} {v : Int64} {o' k' : Nat} (hne : k' ≠ k) : (h.sL o k v).L o' k' = h.L o' k' := q_up_ne _ _ (fun q => hne q.2)
theorem q_L_I {h : qh} {o k : Nat} {v : Int32} {o' k' : Nat} : (h.sI o k v).L o' k' = h.L o' k' := rfl
theorem q_L_R {h : qh} {o k : Nat} {v : Option Nat} {o' k' : Nat} : (h.sR o k v).L o' k' = h.L o' k' := rfl
theorem q_R_same (h : qh) (o k : Nat) (v : Option Nat) : (h.sR o k v).R o k = v := q_up_same _ _ _ _
theorem q_R_neo {h : qh} {o k : Nat} {v : Option Nat} {o' k' : Nat} (hne : o' ≠ o) : (h.sR o k v).R o' k' = h.R o' k' := q_up_ne _ _ (fun q => hne q.1)
theorem q_R_nek {h : qh} {o k : Nat} {v : Option Nat} {o' k' : Nat} (hne : k' ≠ k) : (h.sR o k v).R o' k' = h.R o' k' := q_up_ne _ _ (fun q => hne q.2)
theorem q_R_I {h : qh} {o k : Nat} {v : Int32} {o' k' : Nat} : (h.sI o k v).R o' k' = h.R o' k' := rfl
theorem q_R_L {h : qh} {o k : Nat} {v : Int64} {o' k' : Nat} : (h.sL o k v).R o' k' = h.R o' k' := rfl
section QV
variable {G : qG} {M : qm} {z z' : qz} {d mc ms : Nat} {Q : qr → qh → Prop} {cells slots pc : Nat} {l st : List Value} {h : qh}
theorem q_getIv {ix o : Nat} {v : Int32} (ci j : Nat) (hf : q_Fl M.own ix ci j) (ho : o < z.n) (hk : q_K o = (ci, 0)) (hft : q_ft ci j = 0) (hv : h.I o j = v) (hdg : decode M.cc pc = .ok (.getfield ix, 3)) (kk : q_W G M z' d mc ms Q cells slots z (pc + 3) l (.int v :: st) h) : q_W G M z' d mc ms Q cells slots z pc l (.ref o :: st) h := q_getI ci j hf ho hk hft hdg (hv ▸ kk)
theorem q_getLv {ix o : Nat} {v : Int64} (ci j : Nat) (hf : q_Fl M.own ix ci j) (ho : o < z.n) (hk : q_K o = (ci, 0)) (hft : q_ft ci j = 1) (hv : h.L o j = v) (hdg : decode M.cc pc = .ok (.getfield ix, 3)) (kk : q_W G M z' d mc ms Q cells slots z (pc + 3) l (.long v :: st) h) : q_W G M z' d mc ms Q cells slots z pc l (.ref o :: st) h := q_getL ci j hf ho hk hft hdg (hv ▸ kk)
theorem q_ialoadv {o n : Nat} {i v : Int32} (ho : o < z.n) (hk : q_K o = (100, n)) (hin : vp_in i n) (hv : h.I o i.toNatClampNeg = v) (hdg : decode M.cc pc = .ok (.iaload, 1)) (kk : q_W G M z' d mc ms Q cells slots z (pc + 1) l (.int v :: st) h) : q_W G M z' d mc ms Q cells slots z pc l (.int i :: .ref o :: st) h := q_iaload ho hk hin hdg (hv ▸ kk)
theorem q_baloadv {o n : Nat} {i v : Int32} (ho : o < z.n) (hk : q_K o = (101, n)) (hin : vp_in i n) (hv : h.I o i.toNatClampNeg = v) (hdg : decode M.cc pc = .ok (.baload, 1)) (kk : q_W G M z' d mc ms Q cells slots z (pc + 1) l (.int v :: st) h) : q_W G M z' d mc ms Q cells slots z pc l (.int i :: .ref o :: st) h := q_baload ho hk hin hdg (hv ▸ kk)
theorem q_zaloadv {o n : Nat} {i v : Int32} (ho : o < z.n) (hk : q_K o = (102, n)) (hin : vp_in i n) (hv : h.I o i.toNatClampNeg = v) (hdg : decode M.cc pc = .ok (.baload, 1)) (kk : q_W G M z' d mc ms Q cells slots z (pc + 1) l (.int v :: st) h) : q_W G M z' d mc ms Q cells slots z pc l (.int i :: .ref o :: st) h := q_zaload ho hk hin hdg (hv ▸ kk)
theorem q_laloadv {o n : Nat} {i : Int32} {v : Int64} (ho : o < z.n) (hk : q_K o = (103, n)) (hin : vp_in i n) (hv : h.L o i.toNatClampNeg = v) (hdg : decode M.cc pc = .ok (.laload, 1)) (kk : q_W G M z' d mc ms Q cells slots z (pc + 1) l (.long v :: st) h) : q_W G M z' d mc ms Q cells slots z pc l (.int i :: .ref o :: st) h := q_laload ho hk hin hdg (hv ▸ kk)
/-- a held thing that is thrown, and leaves -/
theorem q_thrown {o : Nat} (ci : Nat) {E : String} {T : u_T} {N : Nat} (hc : vwCl[ci]? = some (E, T, N)) (ho : o < z.n) (hk : q_K o = (ci, 0)) (hout : ∀ x ∈ tableOf M.hh, covers x pc = false) (hcs : cells ≤ mc) (hss : slots ≤ ms) (hdg : decode M.cc pc = .ok (.athrow, 1)) (hq : Q (.inr E) h) : q_W G M z d mc ms Q cells slots z pc l (.ref o :: st) h := by
  intro p e s m args below meth c H locs ls C hR hS hL T0 hT X
  have hK : va_K G.D vwCl (q_tys G) s := C.2.2.2.2.2.2.2.2.2.1
  obtain ⟨r, hr1, cell, q1, q2, q3, q4⟩ := hR.at ho (q_ent_obj G z h hk (q_vw_lt hc))
  obtain ⟨hSl, hfc, -⟩ := hK.1 ci _ hc
  obtain ⟨st1, hrun, hend, hW, hsm⟩ := X.athrowLeaves C.1 (g := F0 m pc ls ((Value.ref o :: st).map (q_cv G.b))) rfl rfl rfl (by rw [C.2.2.2.2.2.2.2.1]; exact hout) (a := G.b + o) (rest := st.map (q_cv G.b)) rfl (by rw [C.2.1]; exact hdg) C.2.2.2.2.2.2.1
  refine ⟨_, st1, .threw (G.b + o), hrun, hend, Or.inr ⟨G.b + o, rfl, E, cell, locs, ⟨⟨h, hq, ?_⟩, q_F hS ?_⟩, ?_, q3, by rw [q2]; exact hfc, hW, hsm.mono hcs hss, hS.2.2⟩⟩
  · show q_R G z h T0.heap
    rw [hT]; exact hR
  · exact hT
  · show T0.heap[G.b + o]? = some cell
    rw [hT]; exact q1
end QV
