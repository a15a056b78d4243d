section QL
variable {G : qG} {M : qm} {z z' : qz} {d mc ms : Nat} {Q : qr → qh → Prop} {cells slots pc : Nat} {l st : List Value} {h : qh}
theorem q_iload_n {k : Fin 4} {i : Nat} {x : Int32} (hdg : decode M.cc pc = .ok (.iload_n k, 1)) (hi : (k : Nat) = i) (hl : l[i]? = some (.int x)) (kk : q_W G M z' d mc ms Q cells slots z (pc + 1) l (.int x :: st) h) : q_W G M z' d mc ms Q cells slots z pc l st h :=
  fun p e s m args below meth c H locs ls C hR hS hL => lv_iload_n C.1 C.2.1 hdg hi (hL.get hl (fun q => by cases q)) (kk p e s m args below meth c H locs ls C hR hS hL)
theorem q_iload {i : Nat} {x : Int32} (hdg : decode M.cc pc = .ok (.iload i, 2)) (hl : l[i]? = some (.int x)) (kk : q_W G M z' d mc ms Q cells slots z (pc + 2) l (.int x :: st) h) : q_W G M z' d mc ms Q cells slots z pc l st h :=
  fun p e s m args below meth c H locs ls C hR hS hL => lv_iload C.1 C.2.1 hdg (hL.get hl (fun q => by cases q)) (kk p e s m args below meth c H locs ls C hR hS hL)
theorem q_lload_n {k : Fin 4} {i : Nat} {x : Int64} (hdg : decode M.cc pc = .ok (.lload_n k, 1)) (hi : (k : Nat) = i) (hl : l[i]? = some (.long x)) (kk : q_W G M z' d mc ms Q cells slots z (pc + 1) l (.long x :: st) h) : q_W G M z' d mc ms Q cells slots z pc l st h :=
  fun p e s m args below meth c H locs ls C hR hS hL => lv_lload_n C.1 C.2.1 hdg hi (hL.get hl (fun q => by cases q)) (kk p e s m args below meth c H locs ls C hR hS hL)
theorem q_lload {i : Nat} {x : Int64} (hdg : decode M.cc pc = .ok (.lload i, 2)) (hl : l[i]? = some (.long x)) (kk : q_W G M z' d mc ms Q cells slots z (pc + 2) l (.long x :: st) h) : q_W G M z' d mc ms Q cells slots z pc l st h :=
  fun p e s m args below meth c H locs ls C hR hS hL => lv_lload C.1 C.2.1 hdg (hL.get hl (fun q => by cases q)) (kk p e s m args below meth c H locs ls C hR hS hL)
theorem q_aload_n {k : Fin 4} {i : Nat} {x : Nat} (hdg : decode M.cc pc = .ok (.aload_n k, 1)) (hi : (k : Nat) = i) (hl : l[i]? = some (.ref x)) (kk : q_W G M z' d mc ms Q cells slots z (pc + 1) l (.ref x :: st) h) : q_W G M z' d mc ms Q cells slots z pc l st h :=
  fun p e s m args below meth c H locs ls C hR hS hL => lv_aload_n C.1 C.2.1 hdg hi (hL.get hl (fun q => by cases q)) (kk p e s m args below meth c H locs ls C hR hS hL)
theorem q_aload {i : Nat} {x : Nat} (hdg : decode M.cc pc = .ok (.aload i, 2)) (hl : l[i]? = some (.ref x)) (kk : q_W G M z' d mc ms Q cells slots z (pc + 2) l (.ref x :: st) h) : q_W G M z' d mc ms Q cells slots z pc l st h :=
  fun p e s m args below meth c H locs ls C hR hS hL => lv_aload C.1 C.2.1 hdg (hL.get hl (fun q => by cases q)) (kk p e s m args below meth c H locs ls C hR hS hL)
theorem q_istore_n {k : Fin 4} {i : Nat} {x : Int32} (hdg : decode M.cc pc = .ok (.istore_n k, 1)) (hi : (k : Nat) = i) (hn : i < M.nL) (hok : q_ok l i = true) (kk : q_W G M z' d mc ms Q cells slots z (pc + 1) (l.set i (.int x)) st h) : q_W G M z' d mc ms Q cells slots z pc l (.int x :: st) h :=
  fun p e s m args below meth c H locs ls C hR hS ⟨lv, h1, h2⟩ => lv_istore_n C.1 C.2.1 hdg hi h1 hn rfl (fun ls' h' => kk p e s m args below meth c H locs ls' C hR hS (q_L.st1 (v := .int x) h2 hok h'))
theorem q_istore {i : Nat} {x : Int32} (hdg : decode M.cc pc = .ok (.istore i, 2)) (hn : i < M.nL) (hok : q_ok l i = true) (kk : q_W G M z' d mc ms Q cells slots z (pc + 2) (l.set i (.int x)) st h) : q_W G M z' d mc ms Q cells slots z pc l (.int x :: st) h :=
  fun p e s m args below meth c H locs ls C hR hS ⟨lv, h1, h2⟩ => lv_istore C.1 C.2.1 hdg h1 hn rfl (fun ls' h' => kk p e s m args below meth c H locs ls' C hR hS (q_L.st1 (v := .int x) h2 hok h'))
theorem q_astore_n {k : Fin 4} {i : Nat} {x : Nat} (hdg : decode M.cc pc = .ok (.astore_n k, 1)) (hi : (k : Nat) = i) (hn : i < M.nL) (hok : q_ok l i = true) (kk : q_W G M z' d mc ms Q cells slots z (pc + 1) (l.set i (.ref x)) st h) : q_W G M z' d mc ms Q cells slots z pc l (.ref x :: st) h :=
  fun p e s m args below meth c H locs ls C hR hS ⟨lv, h1, h2⟩ => lv_astore_n C.1 C.2.1 hdg hi h1 hn rfl (fun ls' h' => kk p e s m args below meth c H locs ls' C hR hS (q_L.st1 (v := .ref x) h2 hok h'))
theorem q_astore {i : Nat} {x : Nat} (hdg : decode M.cc pc = .ok (.astore i, 2)) (hn : i < M.nL) (hok : q_ok l i = true) (kk : q_W G M z' d mc ms Q cells slots z (pc + 2) (l.set i (.ref x)) st h) : q_W G M z' d mc ms Q cells slots z pc l (.ref x :: st) h :=
  fun p e s m args below meth c H locs ls C hR hS ⟨lv, h1, h2⟩ => lv_astore C.1 C.2.1 hdg h1 hn rfl (fun ls' h' => kk p e s m args below meth c H locs ls' C hR hS (q_L.st1 (v := .ref x) h2 hok h'))
theorem q_lstore_n {k : Fin 4} {i : Nat} {x : Int64} (hdg : decode M.cc pc = .ok (.lstore_n k, 1)) (hi : (k : Nat) = i) (hn : i + 1 < M.nL) (hok : q_ok l i = true) (kk : q_W G M z' d mc ms Q cells slots z (pc + 1) ((l.set i (.long x)).set (i + 1) .null) st h) : q_W G M z' d mc ms Q cells slots z pc l (.long x :: st) h :=
  fun p e s m args below meth c H locs ls C hR hS ⟨lv, h1, h2⟩ => lv_lstore_n C.1 C.2.1 hdg hi h1 hn rfl (fun ls' h' => kk p e s m args below meth c H locs ls' C hR hS (q_L.st2 (v := .long x) h2 hok h'))
theorem q_lstore {i : Nat} {x : Int64} (hdg : decode M.cc pc = .ok (.lstore i, 2)) (hn : i + 1 < M.nL) (hok : q_ok l i = true) (kk : q_W G M z' d mc ms Q cells slots z (pc + 2) ((l.set i (.long x)).set (i + 1) .null) st h) : q_W G M z' d mc ms Q cells slots z pc l (.long x :: st) h :=
  fun p e s m args below meth c H locs ls C hR hS ⟨lv, h1, h2⟩ => lv_lstore C.1 C.2.1 hdg h1 hn rfl (fun ls' h' => kk p e s m args below meth c H locs ls' C hR hS (q_L.st2 (v := .long x) h2 hok h'))
theorem q_iinc {i : Nat} {n : Int} {x v : Int32} (hdg : decode M.cc pc = .ok (.iinc i n, 3)) (hl : l[i]? = some (.int x)) (hv : x + Int32.ofInt n = v) (hn : i < M.nL) (hok : q_ok l i = true) (kk : q_W G M z' d mc ms Q cells slots z (pc + 3) (l.set i (.int v)) st h) : q_W G M z' d mc ms Q cells slots z pc l st h :=
  fun p e s m args below meth c H locs ls C hR hS ⟨lv, h1, h2⟩ => by
    obtain ⟨k, hk⟩ := List.getElem?_of_mem (h2 i _ hl (fun q => by cases q))
    exact lv_iinc C.1 C.2.1 hdg h1 hk hv hn rfl (fun ls' h' => kk p e s m args below meth c H locs ls' C hR hS (q_L.st1 (v := .int v) h2 hok h'))
theorem q_ldc2 {ix : Nat} {v : Int64} (hw : Cond.constantLong M.own ix v ∈ q_tb) (hdg : decode M.cc pc = .ok (.ldc2_w ix, 3)) (kk : q_W G M z' d mc ms Q cells slots z (pc + 3) l (.long v :: st) h) : q_W G M z' d mc ms Q cells slots z pc l st h :=
  fun p e s m args below meth c H locs ls C hR hS hL => lv_ldc2 C.1 C.2.1 C.2.2.2.1 (C.2.2.2.2.1 _ hw) hdg (kk p e s m args below meth c H locs ls C hR hS hL)
theorem q_ldci {ix : Nat} {v : Int32} (hw : Cond.constant M.own ix v ∈ q_tb) (hdg : decode M.cc pc = .ok (.ldc ix, 2)) (kk : q_W G M z' d mc ms Q cells slots z (pc + 2) l (.int v :: st) h) : q_W G M z' d mc ms Q cells slots z pc l st h :=
  fun p e s m args below meth c H locs ls C hR hS hL => lv_ldc C.1 C.2.1 C.2.2.2.1 (C.2.2.2.2.1 _ hw) hdg (kk p e s m args below meth c H locs ls C hR hS hL)
/-- a split by cases -/
theorem q_by (c : Prop) {X : Prop} (h1 : c → X) (h2 : ¬ c → X) : X := (Classical.em c).elim h1 h2
end QL
/-! fields -/
theorem q_nestF {G : qG} {s : State} {H : Heap} {args : Array Value} (h : q_St G s H) {a : String} {i : Nat} {b n d hs : String} (hw : Cond.fieldLinkNest a i b n d hs ∈ lw_tbl) : (Cond.fieldLinkNest a i b n d hs).before args s = true := by
  obtain ⟨hK, s0, a0, h1, h2, h3, h4, h5, h6⟩ := h
  exact va_Nw.use rfl (va_Nw.warmF h1 (va_Nw.of rfl (h5 _ hw)))
def q_Fl (own : String) (ix ci j : Nat) : Prop := ∃ (C : String) (T : u_T) (N : Nat), vwCl[ci]? = some (C, T, N) ∧ j < N ∧ j < q_N ci ∧ (Cond.fieldLink own ix (T j).1 (T j).2.1 (T j).2.2.1 ∈ q_tb ∨ ∃ host, Cond.fieldLinkNest own ix (T j).1 (T j).2.1 (T j).2.2.1 host ∈ lw_tbl)
def q_Fp (own : String) (ix ci j : Nat) (ds : String) : Prop := ∃ (C : String) (T : u_T) (N : Nat), vwCl[ci]? = some (C, T, N) ∧ j < N ∧ j < q_N ci ∧ (T j).2.2.1 = ds ∧ (((Cond.fieldLink own ix (T j).1 (T j).2.1 (T j).2.2.1 ∈ q_tb ∨ ∃ host, Cond.fieldLinkNest own ix (T j).1 (T j).2.1 (T j).2.2.1 host ∈ lw_tbl) ∧ (T j).2.2.2 = false) ∨ (Cond.fieldLink own ix (T j).1 (T j).2.1 (T j).2.2.1 ∈ q_tb ∧ (T j).2.2.2 = true ∧ (T j).1 = own))
theorem q_vw_lt {ci : Nat} {x : vw_C} (hc : vwCl[ci]? = some x) : ci < 100 := by
  have := (List.getElem?_eq_some_iff.mp hc).1
  have h2 : vwCl.length = 14 := rfl
  omega
theorem q_R.at {G : qG} {z : qz} {h : qh} {H : Heap} (hR : q_R G z h H) {o : Nat} (ho : o < z.n) {e : va_E} (he : q_ent G z h o = e) : va_at G.D vwCl (G.b + o, e) H := by
  have := hR.1 o _ (q_wl_get G z h ho)
  rwa [he] at this
theorem q_R.put {G : qG} {z z1 : qz} {h h1 : qh} {H H1 : Heap} {o : Nat} (hR : q_R G z h H) (hz : H1.size = H.size) (hq : ∀ q : Nat, q ≠ G.b + o → H1[q]? = H[q]?) (hn : z1.n = z.n) (hx : z1.ex = z.ex) (hat : va_at G.D vwCl (G.b + o, q_ent G z1 h1 o) H1) (hne : ∀ o', o' ≠ o → q_ent G z1 h1 o' = q_ent G z h o') : q_R G z1 h1 H1 := by
  refine ⟨fun k q hk => ?_, by rw [hz, hn]; exact hR.2.1, fun q => by rw [hz, hn]; exact hR.2.2 (hx ▸ q)⟩
  obtain ⟨h1, rfl⟩ := q_wl_inv hk
  by_cases ho : k = o
  · subst ho; exact hat
  · rw [hne k ho]
    have h2 := hR.at (o := k) (by rw [← hn]; exact h1) rfl
    have h3 : H1[G.b + k]? = H[G.b + k]? := hq _ (by omega)
    exact h2.kept h3
theorem q_S_put {G : qG} {H0 H H1 : Heap} {locs : List Loc} {o k : Nat} (h : va_S (q_A G) H0 H locs) (z : H1.size = H.size) (oq : ∀ q : Nat, q ≠ G.b + o → H1[q]? = H[q]?) : va_S (q_A G) H0 H1 (locs ++ [⟨G.b + o, k⟩]) := h.put z oq (Nat.le_add_right _ _)
theorem q_fvI {b : Nat} {z : qz} {h : qh} {o c j : Nat} (hft : q_ft c j = 0) : q_fv b z h o c j = q_cv b (.int (h.I o j)) := by
  unfold q_fv; rw [hft]; rfl
theorem q_fvL {b : Nat} {z : qz} {h : qh} {o c j : Nat} (hft : q_ft c j = 1) : q_fv b z h o c j = q_cv b (.long (h.L o j)) := by
  unfold q_fv; rw [hft]; rfl
theorem q_fvR {b : Nat} {z : qz} {h : qh} {o c j k : Nat} (hft : q_ft c j = 2) (hr : h.R o j = some k) : q_fv b z h o c j = q_cv b (.ref k) := by
  unfold q_fv; rw [hft]; show va_rf ((h.R o j).map (b + ·)) = _; rw [hr]; rfl
theorem q_fvP {b : Nat} {z : qz} {h : qh} {o c j k : Nat} (hft : q_ft c j = 3) (hr : z.P o j = some k) : q_fv b z h o c j = q_cv b (.ref k) := by
  unfold q_fv; rw [hft]; show va_rf ((z.P o j).map (b + ·)) = _; rw [hr]; rfl
section QF
variable {G : qG} {M : qm} {z z' : qz} {d mc ms : Nat} {Q : qr → qh → Prop} {cells slots pc : Nat} {l st : List Value} {h : qh}
theorem q_get {ix ci j o : Nat} (hf : q_Fl M.own ix ci j) (ho : o < z.n) (hk : q_K o = (ci, 0)) {v : Value} (hv : q_fv G.b z h o ci j = q_cv G.b v) (hdg : decode M.cc pc = .ok (.getfield ix, 3)) (kk : q_W G M z' d mc ms Q cells slots z (pc + 3) l (v :: st) h) : q_W G M z' d mc ms Q cells slots z pc l (.ref o :: st) h := by
  intro p e s m args below meth c H locs ls C hR hS hL
  obtain ⟨CN, T, N, hc, hN, hj, hw⟩ := hf
  obtain ⟨hin, -⟩ := q_cl hc
  have hP : va_P G.D vwCl [(G.b + o, .inr (ci, q_fs G.b z h o ci))] H := by
    intro k q hq
    match k, hq with
    | 0, hq => cases hq; exact hR.at ho (q_ent_obj G z h hk (q_vw_lt hc))
    | k + 1, hq => simp at hq
  have hK : va_K G.D vwCl (q_tys G) s := C.2.2.2.2.2.2.2.2.2.1
  have kk' := kk p e s m args below meth c H locs ls C hR hS hL
  rcases hw with hw | ⟨host, hw⟩
  · exact va_get C.1 C.2.1 C.2.2.2.2.1 hin C.2.2.2.1 hK hP 0 rfl hc j hN (C.2.2.2.2.1 _ hw) (fun x hx => hx) (by rw [q_fs_get _ _ _ _ hj, hv]) hdg kk'
  · exact va_getN C.1 C.2.1 C.2.2.2.2.1 hin C.2.2.2.1 hK hP 0 rfl hc j hN (q_nestF C.2.2.2.2.2.2.2.2.2 hw) (fun x hx => hx) (by rw [q_fs_get _ _ _ _ hj, hv]) hdg kk'
theorem q_getI {ix o : Nat} (ci j : Nat) (hf : q_Fl M.own ix ci j) (ho : o < z.n) (hk : q_K o = (ci, 0)) (hft : q_ft ci j = 0) (hdg : decode M.cc pc = .ok (.getfield ix, 3)) (kk : q_W G M z' d mc ms Q cells slots z (pc + 3) l (.int (h.I o j) :: st) h) : q_W G M z' d mc ms Q cells slots z pc l (.ref o :: st) h := q_get hf ho hk (q_fvI hft) hdg kk
theorem q_getL {ix o : Nat} (ci j : Nat) (hf : q_Fl M.own ix ci j) (ho : o < z.n) (hk : q_K o = (ci, 0)) (hft : q_ft ci j = 1) (hdg : decode M.cc pc = .ok (.getfield ix, 3)) (kk : q_W G M z' d mc ms Q cells slots z (pc + 3) l (.long (h.L o j) :: st) h) : q_W G M z' d mc ms Q cells slots z pc l (.ref o :: st) h := q_get hf ho hk (q_fvL hft) hdg kk
theorem q_getR {ix o k : Nat} (ci j : Nat) (hf : q_Fl M.own ix ci j) (ho : o < z.n) (hk : q_K o = (ci, 0)) (hft : q_ft ci j = 2) (hr : h.R o j = some k) (hdg : decode M.cc pc = .ok (.getfield ix, 3)) (kk : q_W G M z' d mc ms Q cells slots z (pc + 3) l (.ref k :: st) h) : q_W G M z' d mc ms Q cells slots z pc l (.ref o :: st) h := q_get hf ho hk (q_fvR hft hr) hdg kk
theorem q_getP {ix o : Nat} (ci j k : Nat) (hf : q_Fl M.own ix ci j) (ho : o < z.n) (hk : q_K o = (ci, 0)) (hft : q_ft ci j = 3) (hr : z.P o j = some k) (hdg : decode M.cc pc = .ok (.getfield ix, 3)) (kk : q_W G M z' d mc ms Q cells slots z (pc + 3) l (.ref k :: st) h) : q_W G M z' d mc ms Q cells slots z pc l (.ref o :: st) h := q_get hf ho hk (q_fvP hft hr) hdg kk
theorem q_put {ix ci j o : Nat} {ds : String} {ty : FieldType} {v : Value} (z1 : qz) (h1 : qh) (hf : q_Fp M.own ix ci j ds) (hini : M.ini = true ∨ ∃ (C : String) (T : u_T) (N : Nat), vwCl[ci]? = some (C, T, N) ∧ (T j).2.2.2 = false) (ho : o < z.n) (hk : q_K o = (ci, 0)) (hd : parseFieldDescriptor ds = some ty) (hnr : narrow ty (q_cv G.b v) = q_cv G.b v) (hfit : fits ty (q_cv G.b v) = true)
    (hn : z1.n = z.n) (hx : z1.ex = z.ex) (hv : q_fv G.b z1 h1 o ci j = q_cv G.b v) (hj' : ∀ j', j' ≠ j → q_fv G.b z1 h1 o ci j' = q_fv G.b z h o ci j') (ho' : ∀ o', o' ≠ o → q_ent G z1 h1 o' = q_ent G z h o') (hdg : decode M.cc pc = .ok (.putfield ix, 3)) (kk : q_W G M z' d mc ms Q cells slots z1 (pc + 3) l st h1) : q_W G M z' d mc ms Q cells slots z pc l (v :: .ref o :: st) h := by
  intro p e s m args below meth c H locs ls C hR hS hL
  obtain ⟨CN, T, N, hc, hN, hj, hds, hw⟩ := hf
  subst hds
  obtain ⟨hin, ty0, hty, hnm⟩ := q_cl hc
  have hK : va_K G.D vwCl (q_tys G) s := C.2.2.2.2.2.2.2.2.2.1
  have hts := C.2.2.2.2.1
  have hap := va_apart (own := M.own) hts hin ty0 hty hnm hK hc
  obtain ⟨r, hr1, cell, q1, q2, q3, q4⟩ := hR.at ho (q_ent_obj G z h hk (q_vw_lt hc))
  have hr : r = (CN, T, N) := Option.some.inj (hr1.symm.trans hc)
  subst hr
  obtain ⟨hSl, hfc, kC, hkC, hkind⟩ := hK.1 ci _ hc
  obtain ⟨cf, kf, fi, f, hi, hsl⟩ := hSl j hN
  have hst := (u_facts hfc hkC (u_lays hts hin hN) hi).1
  have fin : ∀ H' : Heap, H'[G.b + o]? = some (cell.setSlot f.slot (q_cv G.b v)) → H'.size = H.size → (∀ q, q ≠ G.b + o → H'[q]? = H[q]?) → W p G.l e (q_rm d mc ms) s m args below meth c H' (locs ++ [⟨G.b + o, f.slot⟩]) cells slots (vx_MQ below (q_Q G z' Q) (q_X G z' Q) args s mc ms (q_A G)) (F0 m (pc + 3) ls (st.map (q_cv G.b))) := by
    intro H' e1 e2 e3
    refine kk p e s m args below meth c H' _ ls C (hR.put e2 e3 hn hx ?_ ho') (q_S_put hS e2 e3) hL
    rw [q_ent_obj G z1 h1 hk (q_vw_lt hc)]
    rw [hsl] at e1
    refine ⟨_, hc, t_OB.to (V := updV (vp_V (q_fs G.b z h o ci)) j (q_cv G.b v)) ⟨_, e1, q2, q3, t_set q4 hap hN (q_cv G.b v)⟩ (fun j' _ => ?_)⟩
    rw [vp_updV_set (by rw [q_fs_len]; exact hj), q_fs_set hv hj']
  rcases hw with ⟨hw, hfin⟩ | ⟨hw, hfin, hdecl⟩
  · have hlay := hts _ (hin _ (u_in_lay hN))
    unfold u_lay at hlay
    rw [if_neg (by rw [hfin]; decide)] at hlay
    have h6 := u_store hfc hkC hkind hlay hi hd hnr hfit
    rcases hw with hw | ⟨host, hw⟩
    · exact W.putK C.1 C.2.1 (f := f) ⟨C.2.2.2.1, hts _ hw, ⟨_, _, _, hi⟩, hst⟩ (by rw [q2]; exact h6) q1 q3 (by rw [hsl]; exact k2_hasslot (q4 j hN)) rfl rfl hdg fin
    · exact va_WputK C.1 C.2.1 (f := f) C.2.2.2.1 (q_nestF C.2.2.2.2.2.2.2.2.2 hw) hi hst (by rw [q2]; exact h6) q1 q3 (by rw [hsl]; exact k2_hasslot (q4 j hN)) rfl rfl hdg fin
  · have hini' : M.ini = true := by
      rcases hini with q | ⟨C', T', N', q1', q2'⟩
      · exact q
      · cases q1'.symm.trans hc
        rw [hfin] at q2'
        cases q2'
    have hlay := hts _ (hin _ (u_in_lay hN))
    unfold u_lay at hlay
    rw [if_pos hfin] at hlay
    have hcf : m.cls = cf := by
      obtain ⟨_, _, c', _, _, _, -, -, hf', -, -, -, hown2, -⟩ := Cond.laysFinal_spec hlay
      have e1 : c' = cf := by have := hi.symm.trans hf'; simp at this; exact this.1.symm
      rw [hdecl] at hown2
      rw [← e1]; exact Option.some.inj (C.2.2.2.1.symm.trans hown2)
    have h6 := u_fits hfc hkC hkind (Or.inr hlay) hi hd hnr hfit
    exact W.putFinK C.1 C.2.1 C.2.2.2.1 (hts _ hw) hi hst hcf (C.2.2.2.2.2.2.2.2.1 hini') (by rw [q2]; exact h6) q1 q3 (by rw [hsl]; exact k2_hasslot (q4 j hN)) rfl rfl hdg fin
theorem q_putI {ix o : Nat} {v : Int32} (ci j : Nat) (hf : q_Fp M.own ix ci j "I") (hini : M.ini = true ∨ ∃ (C : String) (T : u_T) (N : Nat), vwCl[ci]? = some (C, T, N) ∧ (T j).2.2.2 = false) (ho : o < z.n) (hk : q_K o = (ci, 0)) (hft : q_ft ci j = 0) (hdg : decode M.cc pc = .ok (.putfield ix, 3)) (kk : q_W G M z' d mc ms Q cells slots z (pc + 3) l st (h.sI o j v)) : q_W G M z' d mc ms Q cells slots z pc l (.int v :: .ref o :: st) h :=
  q_put (ds := "I") (ty := .int) z (h.sI o j v) hf hini ho hk rfl rfl rfl rfl rfl ((q_fvI hft).trans (congrArg (fun x => Value.int x) (q_up_same h.I o j v))) (fun j' q => q_fv_I _ _ _ _ _ _ (fun w => q w.2)) (fun o' q => q_ent_I _ _ _ q) hdg kk
theorem q_putZ {ix o : Nat} {v : Int32} (ci j : Nat) (hf : q_Fp M.own ix ci j "Z") (hini : M.ini = true ∨ ∃ (C : String) (T : u_T) (N : Nat), vwCl[ci]? = some (C, T, N) ∧ (T j).2.2.2 = false) (ho : o < z.n) (hk : q_K o = (ci, 0)) (hft : q_ft ci j = 0) (hv : v = 0 ∨ v = 1) (hdg : decode M.cc pc = .ok (.putfield ix, 3)) (kk : q_W G M z' d mc ms Q cells slots z (pc + 3) l st (h.sI o j v)) : q_W G M z' d mc ms Q cells slots z pc l (.int v :: .ref o :: st) h :=
  q_put (ds := "Z") (ty := .boolean) z (h.sI o j v) hf hini ho hk rfl (by rcases hv with rfl | rfl <;> rfl) (by rcases hv with rfl | rfl <;> rfl) rfl rfl ((q_fvI hft).trans (congrArg (fun x => Value.int x) (q_up_same h.I o j v))) (fun j' q => q_fv_I _ _ _ _ _ _ (fun w => q w.2)) (fun o' q => q_ent_I _ _ _ q) hdg kk
theorem q_putL {ix o : Nat} {v : Int64} (ci j : Nat) (hf : q_Fp M.own ix ci j "J") (hini : M.ini = true ∨ ∃ (C : String) (T : u_T) (N : Nat), vwCl[ci]? = some (C, T, N) ∧ (T j).2.2.2 = false) (ho : o < z.n) (hk : q_K o = (ci, 0)) (hft : q_ft ci j = 1) (hdg : decode M.cc pc = .ok (.putfield ix, 3)) (kk : q_W G M z' d mc ms Q cells slots z (pc + 3) l st (h.sL o j v)) : q_W G M z' d mc ms Q cells slots z pc l (.long v :: .ref o :: st) h :=
  q_put (ds := "J") (ty := .long) z (h.sL o j v) hf hini ho hk rfl rfl rfl rfl rfl ((q_fvL hft).trans (congrArg (fun x => Value.long x) (q_up_same h.L o j v))) (fun j' q => q_fv_L _ _ _ _ _ _ (fun w => q w.2)) (fun o' q => q_ent_L _ _ _ q) hdg kk
theorem q_putR {ix o v : Nat} {ds : String} {ty : FieldType} (ci j : Nat) (hf : q_Fp M.own ix ci j ds) (hini : M.ini = true ∨ ∃ (C : String) (T : u_T) (N : Nat), vwCl[ci]? = some (C, T, N) ∧ (T j).2.2.2 = false) (ho : o < z.n) (hk : q_K o = (ci, 0)) (hft : q_ft ci j = 2) (hty : parseFieldDescriptor ds = some ty) (hr : (∃ n, ty = .object n) ∨ ∃ t, ty = .array t) (hdg : decode M.cc pc = .ok (.putfield ix, 3)) (kk : q_W G M z' d mc ms Q cells slots z (pc + 3) l st (h.sR o j (some v))) : q_W G M z' d mc ms Q cells slots z pc l (.ref v :: .ref o :: st) h :=
  q_put (ds := ds) (ty := ty) z (h.sR o j (some v)) hf hini ho hk hty (by rcases hr with ⟨n, rfl⟩ | ⟨t, rfl⟩ <;> rfl) (by rcases hr with ⟨n, rfl⟩ | ⟨t, rfl⟩ <;> rfl) rfl rfl (q_fvR hft (q_up_same h.R o j (some v))) (fun j' q => q_fv_R _ _ _ _ _ _ (fun w => q w.2)) (fun o' q => q_ent_R _ _ _ q) hdg kk
theorem q_putP {ix o v : Nat} {ds : String} {ty : FieldType} (ci j : Nat) (hf : q_Fp M.own ix ci j ds) (hini : M.ini = true ∨ ∃ (C : String) (T : u_T) (N : Nat), vwCl[ci]? = some (C, T, N) ∧ (T j).2.2.2 = false) (ho : o < z.n) (hk : q_K o = (ci, 0)) (hft : q_ft ci j = 3) (hty : parseFieldDescriptor ds = some ty) (hr : (∃ n, ty = .object n) ∨ ∃ t, ty = .array t) (hdg : decode M.cc pc = .ok (.putfield ix, 3)) (kk : q_W G M z' d mc ms Q cells slots (z.sP o j (some v)) (pc + 3) l st h) : q_W G M z' d mc ms Q cells slots z pc l (.ref v :: .ref o :: st) h :=
  q_put (ds := ds) (ty := ty) (z.sP o j (some v)) h hf hini ho hk hty (by rcases hr with ⟨n, rfl⟩ | ⟨t, rfl⟩ <;> rfl) (by rcases hr with ⟨n, rfl⟩ | ⟨t, rfl⟩ <;> rfl) rfl rfl (q_fvP hft (q_up_same z.P o j (some v))) (fun j' q => q_fv_P _ _ _ _ _ _ (fun w => q w.2)) (fun o' q => q_ent_P _ _ _ q) hdg kk
/-! arrays -/
theorem q_P1 {G : qG} {z : qz} {h : qh} {H : Heap} (hR : q_R G z h H) {o : Nat} (ho : o < z.n) {e : va_E} (he : q_ent G z h o = e) : va_P G.D vwCl [(G.b + o, e)] H := by
  intro k q hq
  match k, hq with
  | 0, hq => cases hq; exact hR.at ho he
  | k + 1, hq => simp at hq
theorem q_iaload {o n : Nat} {i : Int32} (ho : o < z.n) (hk : q_K o = (100, n)) (hin : vp_in i n) (hdg : decode M.cc pc = .ok (.iaload, 1)) (kk : q_W G M z' d mc ms Q cells slots z (pc + 1) l (.int (h.I o i.toNatClampNeg) :: st) h) : q_W G M z' d mc ms Q cells slots z pc l (.int i :: .ref o :: st) h :=
  fun p e s m args below meth c H locs ls C hR hS hL => va_iald C.1 C.2.1 C.2.2.2.2.2.2.2.2.2.1 (q_P1 hR ho (q_ent_int (t := 0) G z h hk (by decide))) 0 0 rfl rfl hin hdg (kk p e s m args below meth c H locs ls C hR hS hL)
theorem q_baload {o n : Nat} {i : Int32} (ho : o < z.n) (hk : q_K o = (101, n)) (hin : vp_in i n) (hdg : decode M.cc pc = .ok (.baload, 1)) (kk : q_W G M z' d mc ms Q cells slots z (pc + 1) l (.int (h.I o i.toNatClampNeg) :: st) h) : q_W G M z' d mc ms Q cells slots z pc l (.int i :: .ref o :: st) h :=
  fun p e s m args below meth c H locs ls C hR hS hL => va_bald C.1 C.2.1 C.2.2.2.2.2.2.2.2.2.1 (q_P1 hR ho (q_ent_int (t := 1) G z h hk (by decide))) 0 1 rfl rfl hin hdg (kk p e s m args below meth c H locs ls C hR hS hL)
theorem q_zaload {o n : Nat} {i : Int32} (ho : o < z.n) (hk : q_K o = (102, n)) (hin : vp_in i n) (hdg : decode M.cc pc = .ok (.baload, 1)) (kk : q_W G M z' d mc ms Q cells slots z (pc + 1) l (.int (h.I o i.toNatClampNeg) :: st) h) : q_W G M z' d mc ms Q cells slots z pc l (.int i :: .ref o :: st) h :=
  fun p e s m args below meth c H locs ls C hR hS hL => va_zald C.1 C.2.1 C.2.2.2.2.2.2.2.2.2.1 (q_P1 hR ho (q_ent_int (t := 2) G z h hk (by decide))) 0 2 rfl rfl hin hdg (kk p e s m args below meth c H locs ls C hR hS hL)
theorem q_laload {o n : Nat} {i : Int32} (ho : o < z.n) (hk : q_K o = (103, n)) (hin : vp_in i n) (hdg : decode M.cc pc = .ok (.laload, 1)) (kk : q_W G M z' d mc ms Q cells slots z (pc + 1) l (.long (h.L o i.toNatClampNeg) :: st) h) : q_W G M z' d mc ms Q cells slots z pc l (.int i :: .ref o :: st) h :=
  fun p e s m args below meth c H locs ls C hR hS hL => va_lald C.1 C.2.1 C.2.2.2.2.2.2.2.2.2.1 (q_P1 hR ho (q_ent_long G z h hk)) 0 3 rfl rfl hin hdg (kk p e s m args below meth c H locs ls C hR hS hL)
theorem q_alen {o t n : Nat} {v : Int32} (ho : o < z.n) (hk : q_K o = (100 + t, n)) (ht : t < 3) (hv : Int32.ofNat n = v) (hdg : decode M.cc pc = .ok (.arraylength, 1)) (kk : q_W G M z' d mc ms Q cells slots z (pc + 1) l (.int v :: st) h) : q_W G M z' d mc ms Q cells slots z pc l (.ref o :: st) h :=
  fun p e s m args below meth c H locs ls C hR hS hL => va_alen (ty := match t with | 0 => .int | 1 => .byte | _ => .boolean) C.1 C.2.1 C.2.2.2.2.2.2.2.2.2.1 (q_P1 hR ho (q_ent_int (t := t) G z h hk ht)) 0 t rfl (by match t, ht with
    | 0, _ => rfl
    | 1, _ => rfl
    | 2, _ => rfl) hv hdg (kk p e s m args below meth c H locs ls C hR hS hL)
theorem q_up_row {α : Type} (f : Nat → Nat → α) (o k : Nat) (v : α) : q_up f o k v o = fun j => if j = k then v else f o j := by
  funext j
  by_cases hj : j = k
  · subst hj; rw [q_up_same, if_pos rfl]
  · rw [q_up_ne _ _ (fun q => hj q.2), if_neg hj]
theorem q_iastore {o n : Nat} {i x : Int32} (ho : o < z.n) (hk : q_K o = (100, n)) (hin : vp_in i n) (hdg : decode M.cc pc = .ok (.iastore, 1)) (kk : q_W G M z' d mc ms Q cells slots z (pc + 1) l st (h.sI o i.toNatClampNeg x)) : q_W G M z' d mc ms Q cells slots z pc l (.int x :: .int i :: .ref o :: st) h := by
  intro p e s m args below meth c H locs ls C hR hS hL
  have hK : va_K G.D vwCl (q_tys G) s := C.2.2.2.2.2.2.2.2.2.1
  have hat := hR.at ho (q_ent_int (t := 0) G z h hk (by decide))
  refine W.iast C.1 C.2.1 hat ((hK.2 0 _ rfl).1 n (fun j => .int (h.I o j))) (fun q => by cases q) (by show ¬ (i < 0 ∨ (arrV _ _ _).slots.size ≤ _); rw [arrV_size]; exact hin) rfl rfl hdg fun H1 e1 e2 e3 => ?_
  refine kk p e s m args below meth c H1 _ ls C (hR.put e2 e3 rfl rfl ?_ (fun o' q => q_ent_I _ _ _ q)) (q_S_put hS e2 e3) hL
  rw [q_ent_int (t := 0) G z _ hk (by decide)]
  show H1[_]? = some (vp_cell _ _)
  rw [e1, vp_cell_i, vp_cell_i, arrV_store]
  congr 2
  funext q
  show updV _ _ _ _ = Value.int (q_up h.I o _ x o q)
  rw [q_up_row]
  by_cases hq : q = i.toNatClampNeg
  · subst hq; simp [updV]
  · simp [updV, hq]
theorem q_bastore {o n : Nat} {i x : Int32} (ho : o < z.n) (hk : q_K o = (101, n)) (hin : vp_in i n) (hdg : decode M.cc pc = .ok (.bastore, 1)) (kk : q_W G M z' d mc ms Q cells slots z (pc + 1) l st (h.sI o i.toNatClampNeg x.toInt8.toInt32)) : q_W G M z' d mc ms Q cells slots z pc l (.int x :: .int i :: .ref o :: st) h := by
  intro p e s m args below meth c H locs ls C hR hS hL
  have hK : va_K G.D vwCl (q_tys G) s := C.2.2.2.2.2.2.2.2.2.1
  have hat := hR.at ho (q_ent_int (t := 1) G z h hk (by decide))
  refine W.bast C.1 C.2.1 hat ((hK.2 1 _ rfl).1 n (fun j => .int (h.I o j))) (fun q => by cases q) (by show ¬ (i < 0 ∨ (arrV _ _ _).slots.size ≤ _); rw [arrV_size]; exact hin) rfl rfl hdg fun H1 e1 e2 e3 => ?_
  refine kk p e s m args below meth c H1 _ ls C (hR.put e2 e3 rfl rfl ?_ (fun o' q => q_ent_I _ _ _ q)) (q_S_put hS e2 e3) hL
  rw [q_ent_int (t := 1) G z _ hk (by decide)]
  show H1[_]? = some (vp_cell _ _)
  rw [e1, vp_cell_i, vp_cell_i, arrV_store]
  congr 2
  funext q
  show updV _ _ _ _ = Value.int (q_up h.I o _ _ o q)
  rw [q_up_row]
  by_cases hq : q = i.toNatClampNeg
  · subst hq; simp [updV, narrow]
  · simp [updV, hq]
theorem q_zastore {o n : Nat} {i x : Int32} (ho : o < z.n) (hk : q_K o = (102, n)) (hin : vp_in i n) (hx : x = 0 ∨ x = 1) (hdg : decode M.cc pc = .ok (.bastore, 1)) (kk : q_W G M z' d mc ms Q cells slots z (pc + 1) l st (h.sI o i.toNatClampNeg x)) : q_W G M z' d mc ms Q cells slots z pc l (.int x :: .int i :: .ref o :: st) h := by
  intro p e s m args below meth c H locs ls C hR hS hL
  have hK : va_K G.D vwCl (q_tys G) s := C.2.2.2.2.2.2.2.2.2.1
  have hat := hR.at ho (q_ent_int (t := 2) G z h hk (by decide))
  refine W.zast C.1 C.2.1 hat ((hK.2 2 _ rfl).1 n (fun j => .int (h.I o j))) (fun q => by cases q) (by show ¬ (i < 0 ∨ (arrV _ _ _).slots.size ≤ _); rw [arrV_size]; exact hin) rfl rfl hdg fun H1 e1 e2 e3 => ?_
  refine kk p e s m args below meth c H1 _ ls C (hR.put e2 e3 rfl rfl ?_ (fun o' q => q_ent_I _ _ _ q)) (q_S_put hS e2 e3) hL
  rw [q_ent_int (t := 2) G z _ hk (by decide)]
  show H1[_]? = some (vp_cell _ _)
  rw [e1, vp_cell_i, vp_cell_i, arrV_store]
  congr 2
  funext q
  show updV _ _ _ _ = Value.int (q_up h.I o _ _ o q)
  rw [q_up_row]
  by_cases hq : q = i.toNatClampNeg
  · subst hq
    rcases hx with rfl | rfl <;> simp [updV, narrow]
  · simp [updV, hq]
theorem q_lastore {o n : Nat} {i : Int32} {x : Int64} (ho : o < z.n) (hk : q_K o = (103, n)) (hin : vp_in i n) (hdg : decode M.cc pc = .ok (.lastore, 1)) (kk : q_W G M z' d mc ms Q cells slots z (pc + 1) l st (h.sL o i.toNatClampNeg x)) : q_W G M z' d mc ms Q cells slots z pc l (.long x :: .int i :: .ref o :: st) h := by
  intro p e s m args below meth c H locs ls C hR hS hL
  have hK : va_K G.D vwCl (q_tys G) s := C.2.2.2.2.2.2.2.2.2.1
  have hat := hR.at ho (q_ent_long G z h hk)
  refine W.last C.1 C.2.1 hat ((hK.2 3 _ rfl).1 n (fun j => .long (h.L o j))) (fun q => by cases q) (by show ¬ (i < 0 ∨ (arrV _ _ _).slots.size ≤ _); rw [arrV_size]; exact hin) rfl rfl hdg fun H1 e1 e2 e3 => ?_
  refine kk p e s m args below meth c H1 _ ls C (hR.put e2 e3 rfl rfl ?_ (fun o' q => q_ent_L _ _ _ q)) (q_S_put hS e2 e3) hL
  rw [q_ent_long G z _ hk]
  show H1[_]? = some (vp_cell _ _)
  rw [e1, vp_cell_l, vp_cell_l, arrV_store]
  congr 2
  funext q
  show updV _ _ _ _ = Value.long (q_up h.L o _ x o q)
  rw [q_up_row]
  by_cases hq : q = i.toNatClampNeg
  · subst hq; simp [updV]
  · simp [updV, hq]
/-! ends -/
theorem q_F {G : qG} {s t : State} {H : Heap} {locs : List Loc} (hS : va_S (q_A G) s.heap H locs) (ht : t.heap = H) : va_F (q_A G) s t := by
  subst ht
  exact ⟨hS.1, hS.2.1⟩
theorem q_iret {v : Int32} (hrt : M.rt = some .int) (hc : cells ≤ mc) (hs : slots ≤ ms) (hdg : decode M.cc pc = .ok (.ireturn, 1)) (hq : Q (.inl (some (.int v))) h) : q_W G M z d mc ms Q cells slots z pc l [.int v] h :=
  fun p e s m args below meth c H locs ls C hR hS hL => W.widen (k := mc) (n := ms) hc hs (vx_ret (W.iret C.1 C.2.1 (C.2.2.2.2.2.1.trans hrt) (fun t ht hW => ⟨⟨some (.int v), h, rfl, hq, ht ▸ hR⟩, q_F hS ht⟩) hS.2.2 hdg C.2.2.2.2.2.2.1))
theorem q_zret {v : Int32} (hrt : M.rt = some .boolean) (hv : v = 0 ∨ v = 1) (hc : cells ≤ mc) (hs : slots ≤ ms) (hdg : decode M.cc pc = .ok (.ireturn, 1)) (hq : Q (.inl (some (.int v))) h) : q_W G M z d mc ms Q cells slots z pc l [.int v] h :=
  fun p e s m args below meth c H locs ls C hR hS hL => W.widen (k := mc) (n := ms) hc hs (vx_ret (W.zret C.1 C.2.1 (C.2.2.2.2.2.1.trans hrt) (by rcases hv with rfl | rfl <;> rfl) (fun t ht hW => ⟨⟨some (.int v), h, rfl, hq, ht ▸ hR⟩, q_F hS ht⟩) hS.2.2 hdg C.2.2.2.2.2.2.1))
theorem q_lret {v : Int64} (hrt : M.rt = some .long) (hc : cells ≤ mc) (hs : slots ≤ ms) (hdg : decode M.cc pc = .ok (.lreturn, 1)) (hq : Q (.inl (some (.long v))) h) : q_W G M z d mc ms Q cells slots z pc l [.long v] h :=
  fun p e s m args below meth c H locs ls C hR hS hL => W.widen (k := mc) (n := ms) hc hs (vx_ret (W.lret C.1 C.2.1 (C.2.2.2.2.2.1.trans hrt) (fun t ht hW => ⟨⟨some (.long v), h, rfl, hq, ht ▸ hR⟩, q_F hS ht⟩) hS.2.2 hdg C.2.2.2.2.2.2.1))
theorem q_vret (hrt : M.rt = none) (hc : cells ≤ mc) (hs : slots ≤ ms) (hdg : decode M.cc pc = .ok (.return_, 1)) (hq : Q (.inl none) h) : q_W G M z d mc ms Q cells slots z pc l [] h :=
  fun p e s m args below meth c H locs ls C hR hS hL => W.widen (k := mc) (n := ms) hc hs (vx_ret (W.vret C.1 C.2.1 (C.2.2.2.2.2.1.trans hrt) (fun t ht hW => ⟨⟨none, h, rfl, hq, ht ▸ hR⟩, q_F hS ht⟩) hS.2.2 hdg C.2.2.2.2.2.2.1))
end QF
