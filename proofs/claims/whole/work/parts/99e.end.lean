/-! ===== the law from its entry ===== -/
theorem q_inst {k : Nat} {q : vw_C} (h : vwCl[k]? = some q) : ∃ n, Cond.instantiable q.1 n ∈ lw_tbl := by
  match k, h with
  | 0, h => cases h; exact ⟨6, q_inn 1127 (by decide +kernel)⟩
  | 1, h => cases h; exact ⟨12, q_inn 124 (by decide +kernel)⟩
  | 2, h => cases h; exact ⟨10, q_inn 295 (by decide +kernel)⟩
  | 3, h => cases h; exact ⟨8, q_inn 230 (by decide +kernel)⟩
  | 4, h => cases h; exact ⟨10, q_inn 357 (by decide +kernel)⟩
  | 5, h => cases h; exact ⟨8, q_inn 236 (by decide +kernel)⟩
  | 6, h => cases h; exact ⟨4, q_inn 275 (by decide +kernel)⟩
  | 7, h => cases h; exact ⟨2, q_inn 401 (by decide +kernel)⟩
  | 8, h => cases h; exact ⟨2, q_inn 181 (by decide +kernel)⟩
  | 9, h => cases h; exact ⟨7, q_inn 197 (by decide +kernel)⟩
  | 10, h => cases h; exact ⟨16, q_inn 417 (by decide +kernel)⟩
  | 11, h => cases h; exact ⟨12, q_inn 116 (by decide +kernel)⟩
  | 12, h => cases h; exact ⟨18, q_inn 1143 (by decide +kernel)⟩
  | 13, h => cases h; exact ⟨43, q_inn 1121 (by decide +kernel)⟩
  | k + 14, h => simp [vwCl] at h
theorem q_N43 (c : Nat) : q_N c ≤ 43 := by
  match c with
  | 0 => decide
  | 1 => decide
  | 2 => decide
  | 3 => decide
  | 4 => decide
  | 5 => decide
  | 6 => decide
  | 7 => decide
  | 8 => decide
  | 9 => decide
  | 10 => decide
  | 11 => decide
  | 12 => decide
  | 13 => decide
  | n + 14 => exact Nat.zero_le _
/-- all is made: the references stand as they stay -/
theorem q_R.toN {G : qG} {P : Nat → Nat → Option Nat} {h : qh} {H : Heap} (hR : q_R G (true, 84, P) h H) (hP : ∀ o, o < 84 → ∀ j, j < 43 → P o j = q_rh o j) : q_R G zN h H := by
  have e : q_wl G zN h = q_wl G (true, 84, P) h := by
    refine List.map_congr_left (fun o ho => ?_)
    have ho' : o < 84 := List.mem_range.mp ho
    have hf : q_fs G.b zN h o (q_K o).1 = q_fs G.b (true, 84, P) h o (q_K o).1 := by
      refine List.map_congr_left (fun j hj => ?_)
      have hj' : j < 43 := Nat.lt_of_lt_of_le (List.mem_range.mp hj) (q_N43 _)
      unfold q_fv
      split
      · rfl
      · rfl
      · rfl
      · show va_rf ((q_rh o j).map _) = va_rf ((P o j).map _)
        rw [hP o ho' j hj']
    unfold q_ent
    rw [hf]
  refine ⟨by rw [e]; exact hR.1, hR.2.1, fun q => by cases q⟩
def P00 : Nat → Nat → Option Nat := fun _ _ => none
def h00 : qh := (fun _ _ => 0, fun _ _ => 0, fun _ _ => none)
def P84 : Nat → Nat → Option Nat := q_oP (zk13_36 (q_oP (zk1_24 (q_oP P00 0)) 43)) 83
def h84 : qh := (hk13_26 ((hk1_22 (h00.clr 0)).clr 43)).clr 83
set_option maxRecDepth 100000 in
theorem P84_ok : ∀ o, o < 84 → ∀ j, j < 43 → P84 o j = q_rh o j := by decide +kernel
set_option maxRecDepth 100000 in
set_option maxHeartbeats 4000000 in
theorem INV0 : INV h84 h84 := by
  refine ⟨0, fun _ => 0, 1, 8, 51, 62, 81, 82, ⟨rfl, rfl, by omega, fun x hx => by omega⟩, ⟨rfl, rfl, Or.inl rfl, Or.inr rfl, by omega⟩, ⟨rfl, rfl, Or.inl rfl, Or.inr rfl, by omega⟩, ⟨rfl, rfl, Or.inl rfl, Or.inr rfl, by omega⟩, ⟨rfl, rfl⟩, ⟨⟨0, rfl, by omega, fun i hi => by omega⟩, rfl⟩, rfl, ⟨rfl, rfl, rfl, rfl⟩, Or.inl ⟨rfl, rfl, rfl, rfl, rfl, rfl⟩, fun i _ => rfl, fun i _ => rfl, Or.inl ⟨rfl, rfl, rfl, rfl, rfl, rfl, rfl⟩, fun y _ => rfl⟩
theorem ki_L_25 : q_Ci RL 25 yX10_init 0 := ⟨cX10_init, 1, by decide, kd_X10_init, Or.inl (q_in 117 (by decide +kernel) rfl), wi_X10, by decide, by decide +kernel, rfl, by decide +kernel⟩
theorem ki_L_28 : q_Ci RL 28 yX12_init 0 := ⟨cX12_init, 1, by decide, kd_X12_init, Or.inl (q_in 1122 (by decide +kernel) rfl), wi_X12, by decide, by decide +kernel, rfl, by decide +kernel⟩
section START
variable {G : qG} {p : Program} {e : Env} {s : State} {m : MethodId} {below : List Frame} {meth : Method} {c : Code} {b L : Nat} {xs : Nat → Int32} {cells slots : Nat}
theorem l_toN {pc : Nat} {lv : List (Nat × Value)} {st : List Value} {h : qh} (kk : l_W G p e s m below meth c b cells slots zN pc lv st h) : l_W G p e s m below meth c b cells slots (true, 84, P84) pc lv st h := fun H locs ls hR hS hl => kk H locs ls (hR.toN P84_ok) hS hl
set_option maxRecDepth 100000 in
set_option maxHeartbeats 4000000 in
theorem l_start (C : l_C G p s m meth c b L xs) (hL : L ≤ 3072) : l_W G p e s m below meth c b 0 0 (true, 0, P00) 0 [(0, .ref b)] [] h00 := by
  refine l_new (ci := 11) C rfl rfl rfl (q_in 115 (by decide +kernel) rfl) (q_in 116 (by decide +kernel) rfl) wi_X10 (by omega) (by omega) dL_law_0 ?_
  show l_W G p e s m below meth c b 1 12 (true, 1, q_oP P00 0) 3 [(0, .ref b)] [.ref (G.b + 0)] (h00.clr 0)
  refine l_dup C dL_law_3 rfl ?_
  refine l_callI (o := 0) (As := []) (st := [.ref (G.b + 0)]) C ki_L_25 rfl (d1 := 16) (by omega) (by omega) (by omega) (Nat.le_of_ble_eq_true rfl) dL_law_4 rfl (k_12 G 10 _ _) ?_
  show l_W G p e s m below meth c b 43 25616 (true, 43, zk1_24 (q_oP P00 0)) 7 [(0, .ref b)] [.ref (G.b + 0)] (hk1_22 (h00.clr 0))
  refine l_astore C dL_law_7 rfl (by decide) rfl ?_
  refine l_new (ci := 13) C rfl rfl rfl (q_in 1120 (by decide +kernel) rfl) (q_in 1121 (by decide +kernel) rfl) wi_X12 (by omega) (by omega) dL_law_8 ?_
  show l_W G p e s m below meth c b 44 25659 (true, 44, q_oP (zk1_24 (q_oP P00 0)) 43) 11 [(1, .ref (G.b + 0)), (0, .ref b)] [.ref (G.b + 43)] ((hk1_22 (h00.clr 0)).clr 43)
  refine l_dup C dL_law_11 rfl ?_
  refine l_callI (o := 43) (As := []) (st := [.ref (G.b + 43)]) C ki_L_28 rfl (d1 := 15) (by omega) (by omega) (by omega) (Nat.le_of_ble_eq_true rfl) dL_law_12 rfl (k_15 G 10 _ _ (by omega)) ?_
  show l_W G p e s m below meth c b 83 88420 (true, 83, zk13_36 (q_oP (zk1_24 (q_oP P00 0)) 43)) 15 [(1, .ref (G.b + 0)), (0, .ref b)] [.ref (G.b + 43)] (hk13_26 ((hk1_22 (h00.clr 0)).clr 43))
  refine l_astore C dL_law_15 rfl (by decide) rfl ?_
  refine l_iconst (v := 1) C dL_law_16 rfl ?_
  refine l_newl (at_ := .long) (N := 1) C rfl rfl rfl ac_long (by decide) (by decide) (by decide) (by omega) (by omega) dL_law_17 ?_
  show l_W G p e s m below meth c b 84 88421 (true, 84, P84) 19 [(2, .ref (G.b + 43)), (1, .ref (G.b + 0)), (0, .ref b)] [.ref (G.b + 83)] h84
  refine l_toN ?_
  refine l_astore C dL_law_19 rfl (by decide) rfl ?_
  refine l_iconst (v := 0) C dL_law_20 rfl ?_
  refine l_istore C dL_law_21 (by decide) rfl ?_
  refine l_sub (lv' := lvS G b 0) [4, 3, 2, 1, 0] rfl ?_
  have := law_loop (e := e) (below := below) C hL 600 0 84 88421 h84 h84 (by omega) (by omega) (by omega) (by omega) INV0
  rw [mg_self] at this
  exact this
end START
theorem l_arr {s : State} {args : Array Value} {ty : FieldType} (h : (Cond.arrayClass ty).before args s = true) : ∃ cA : ClassId, ArrOfT s cA ty ∧ s.vm.findClass ("[" ++ ty.toString) = some cA := by
  obtain ⟨cA, kA, comp, hfind, hk, hkind⟩ := Cond.arrayClass_spec h
  exact ⟨cA, fun n z => ⟨fun k h => (by cases h), kA, hk, comp, hkind⟩, hfind⟩
set_option maxHeartbeats 4000000 in
set_option maxRecDepth 100000 in
/-- THE LAW, from its entry -/
theorem whole_start {p : Program} {e : Env} {s : State} {m : MethodId} {below : List Frame} {meth : Method} {c : Code} (l : Launch) (hst : l.stackTraces = false) {b L : Nat} {xs : Nat → Int32} (hL : L ≤ 3072) (C0 : lw_At p s m meth c b L xs) : W p l e room_1 s m #[Value.ref b] below meth c s.heap [] 0 0 (lw_Z below #[Value.ref b] s) (entryFrame m ([Value.ref b] : List Value).toArray 7) := by
  obtain ⟨hx, hb, hr, hml, hown, hts, hX, hbl, hlocks, hgv⟩ := id C0
  have hK0 : ∀ k : Nat, ∃ r : ClassId × (Nat → Nat), ∀ q, vwCl[k]? = some q → u_Kn s q.1 q.2.1 q.2.2 r.1 r.2 := fun k => by
    by_cases h : ∃ q, vwCl[k]? = some q
    · obtain ⟨q, hq⟩ := h
      obtain ⟨n, hn⟩ := q_inst hq
      obtain ⟨cC, iS, hk⟩ := u_known (C := q.1) (T := q.2.1) (N := q.2.2) (n := n) hts (fun w hw => (List.mem_filter.mp ((q_cl hq).1 w hw)).1) (hts _ hn)
      exact ⟨(cC, iS), fun q' hq' => by rw [hq] at hq'; cases hq'; exact hk⟩
    · exact ⟨(default, fun _ => 0), fun q hq => absurd ⟨q, hq⟩ h⟩
  obtain ⟨f, hf⟩ := Classical.axiomOfChoice hK0
  have hq : ∀ w ∈ q_tb, w.before #[Value.ref b] s = true := fun w hw => hts w (List.mem_filter.mp hw).1
  obtain ⟨a0, u0, v0⟩ := l_arr (hq _ ac_int)
  obtain ⟨a1, u1, v1⟩ := l_arr (hq _ ac_byte)
  obtain ⟨a2, u2, v2⟩ := l_arr (hq _ ac_boolean)
  obtain ⟨a3, u3, v3⟩ := l_arr (hq _ ac_long)
  obtain ⟨G, eG⟩ : ∃ G : qG, G = (l, ((fun k => (f k).1, fun k => (f k).2) : va_G), (fun t => if t = 0 then a0 else if t = 1 then a1 else if t = 2 then a2 else a3), s.heap.size) := ⟨_, rfl⟩
  have hKK : va_K G.D vwCl (q_tys G) s := by
    rw [eG]
    refine ⟨fun k q hk => hf k q hk, fun k q hk => ?_⟩
    match k, hk with
    | 0, hk => cases hk; exact ⟨u0, v0⟩
    | 1, hk => cases hk; exact ⟨u1, v1⟩
    | 2, hk => cases hk; exact ⟨u2, v2⟩
    | 3, hk => cases hk; exact ⟨u3, v3⟩
    | k + 4, hk => simp [q_tys] at hk
  have hb0 : G.b = s.heap.size := by rw [eG]
  have hSt : q_St G s s.heap := ⟨hKK, s, #[Value.ref b], State.WarmedH.refl s, hb0.symm, fun _ _ => rfl, hgv, hts, by rw [eG]; exact hst⟩
  have C : l_C G p s m meth c b L xs := ⟨C0, hb0, hSt⟩
  have hl := lv_entry ([.ref b]) (n := 7) (Nat.le_of_ble_eq_true rfl)
  rw [lg_entry_eq]
  generalize (lg_sl ([.ref b]) ++ List.replicate (7 - (lg_sl ([.ref b])).length) Slot.unset).toArray = ls at hl ⊢
  have hl : lv_has ls 7 [(0, .ref b)] := hl
  have hR : q_R G (true, 0, P00) h00 s.heap := ⟨fun k q hk => absurd (q_wl_inv hk).1 (Nat.not_lt_zero k), by show G.b + 0 ≤ _; omega, fun _ => by show _ = G.b + 0; omega⟩
  have key := l_start (e := e) (below := below) C hL s.heap [] ls hR va_S.rf hl
  have el : G.l = l := by rw [eG]
  rw [el] at key
  exact key
set_option maxHeartbeats 4000000 in
theorem lw_walk (l : Launch) (hst : l.stackTraces = false) (b : Addr) (xs : List Int32) : MetFree l x (headSpec (Jvm.Cond.code x code maxLocals ret :: tables_1) room_1) (lw_P b xs) (fun _ _ _ _ _ => True) lw_Q := by
  refine MetFree.of_bodyS (code := code) (maxLocals := maxLocals) (ret := ret) (by decide) ?_ ?_
  · intro args s m h hn
    obtain ⟨meth, c, h1, h2, h3, h4, h5, h6, -, -⟩ := Cond.code_spec hn (atoms_spec (ws := Jvm.Cond.code x code maxLocals ret :: tables_1) h _ List.mem_cons_self)
    exact ⟨meth, c, h1, h2, h3, h4, h5, h6⟩
  · intro p e s m args below meth c s₁ B hml0 hP _
    obtain ⟨rfl, hx, hbd, hgv⟩ := hP
    obtain ⟨scr, harrAt, hlist, hof, hsmall⟩ := hx
    obtain ⟨hcb, hkn, -, -⟩ := State.arrayAt?_spec harrAt
    have hown : s.vm.findClass R_law = some m.cls := findClass_of_methodNamed B.named
    have hts0 : ∀ c ∈ (Jvm.Cond.code x code maxLocals ret :: tables_1), c.before #[Value.ref b] s = true := atoms_spec (ws := Jvm.Cond.code x code maxLocals ret :: tables_1) B.pre
    have hts : ∀ w ∈ lw_tbl, w.before #[Value.ref b] s = true := k2_hts_sels lw_privs (fun w hw => hts0 w (List.mem_cons_of_mem _ hw)) lw_privs_ok
    have hml : c.maxLocals = 7 := B.maxLocals_eq (hts0 _ List.mem_cons_self)
    have X₀ : Stand p l e room_1 s m #[Value.ref b] below meth c s₁ [] 0 0 := Stand.of_body B
    have hh0 : s₁.heap = s.heap := by rw [B.state]; rfl
    have hsz : scr.slots.size = xs.length := by rw [← Array.length_toList, hlist, List.length_map]
    have hval : ∀ j : Nat, j < xs.length → scr.slots[j]? = some (.int (xs.getD j 0)) := fun j hj => by
      rw [← Array.getElem?_toList, hlist]
      simp [hj]
    have hbl : b < s.heap.size := (Array.getElem?_eq_some_iff.mp hcb).1
    have hX : va_X b xs.length (fun j => xs.getD j 0) s s.heap := ⟨scr, hcb, hof, hkn, hsz, hval⟩
    have K : W p l e room_1 s m #[Value.ref b] below meth c s₁.heap [] 0 0 (lw_Z below #[Value.ref b] s) (entryFrame m ([Value.ref b] : List Value).toArray 7) := by
      rw [hh0]
      exact whole_start l hst hbd ⟨B.exec, B.bytes, B.returns, hml, hown, hts, hX, hbl, B.notSynchronized, hgv⟩
    obtain ⟨t, a1, o, b1, b2, b3⟩ := K s₁ rfl X₀
    exact ⟨t, o, a1, b1, b2, b3⟩
theorem lw_pre_spec {args : Array Value} {s : State} (h : (Jvm.Cond.and given_1 narrow_1).before args s = true) (hr : rest_1_c.before args s = true) : ∃ (b : Addr) (xs : List Int32), lw_P b xs args s := by
  have hs := flat_of_before _ h
  have hq := flat_of_before _ hr
  have hc : (Cond.count 1).before args s = true := hs _ (by decide +kernel)
  have harr : (Cond.arrayOf (.arg 0) .int).before args s = true := hs _ (by decide +kernel)
  have hle : (Cond.le (.length (.arg 0)) (.int 3072)).before args s = true := hs _ (by decide +kernel)
  have hlen : (Cond.isInt (.length (.arg 0))).before args s = true := hq _ (by decide +kernel)
  have hall : (Cond.all (.arg 0) (.isInt (.elem (.arg 0) (.index 0)))).before args s = true := hq _ (by decide +kernel)
  obtain ⟨b, xs, hb, hx⟩ := State.ints_of_pre rfl harr hlen hall
  have hsm : xs.length < 2 ^ 31 := hx.choose_spec.2.2.2
  have hev : (Term.length (.arg 0)).eval args s none [] s = some (.int xs.length.toInt32) := hx.length_eval hb
  have hv := Cond.le_ints hev (show (Term.int 3072).eval args s none [] s = some (.int 3072) from rfl)
  have hd : xs.length.toInt32 ≤ 3072 := by
    simpa [Cond.before, Cond.holds, hv] using hle
  have hN : xs.length ≤ 3072 := (Int32.ofNat_le_ofNat hsm (by decide)).mp (show Int32.ofNat xs.length ≤ Int32.ofNat 3072 from hd)
  exact ⟨b, xs, Cond.one_arg hc (show args[0]? = some (.ref b) from hb), hx, hN, h⟩
theorem lw_comes (l : Launch) (hst : l.stackTraces = false) : Comes l x (Jvm.Cond.code x code maxLocals ret :: tables_1) room_1 (fun tb e args s => Calls_1 tb e args s ∧ rest_1 tb e args s ∧ Pre_1 tb e args s)
    (fun _ _ args s o t => lw_Q args s o t) := by
  intro p e ha hc hk s m args below hf hfit hheap happ hpre
  obtain ⟨b, xs, hP⟩ := lw_pre_spec hpre.2.2 hpre.2.1
  obtain ⟨k, o, h1, h2, h3, hQ⟩ := lw_walk l hst b xs p e ha hc hk s m args below hf ((Spec.applies_iff_loose hf).mp happ).1 hP trivial
  exact ⟨k, o, h1, h2, h3, hQ⟩
theorem lw_frame {s t : State} {o : Outcome} {args : Array Value} (h : Framed s o t [] 601024 7293034) :
    Framed s o t (fieldLocs frame_1_writes args s ++ arrayLocs frame_1_arrays args s ++ staticLocs frame_1_statics s) 601024 7293034 := h
theorem lw_limb (L : Cond) (hL : ∀ (args : Array Value) (s t : State), L.after args s (.returned (some (.int 1))) t = true) :
    ArmFor flags0 classFile x code maxLocals ret World_1 tables_1 room_1 Calls_1 rest_1 Pre_1
      (fun tb e a s o t => postC L tb e a s o t ∧ Framed s o t (fieldLocs frame_1_writes a s ++ arrayLocs frame_1_arrays a s ++ staticLocs frame_1_statics s) 601024 7293034) := by
  intro l hfl _ _ p e ha hc hk s m args below hf hfit hheap happ hpre
  have hst : l.stackTraces = false := by unfold Launch.stackTraces; rw [hfl]; decide
  obtain ⟨k, o, h1, h2, h3, rfl, hF⟩ := lw_comes l hst p e ha hc hk s m args below hf hfit hheap happ hpre
  exact ⟨k, _, h1, h2, h3, hL args s _, lw_frame hF⟩
theorem i_vc : Claimed_1_1 ∧ Claimed_1_2 := ⟨lw_limb limb_1_1 (fun args s t => by simp [limb_1_1, Cond.after, Cond.holds, Cond.value]), lw_limb limb_1_2 (fun args s t => Cond.after_iff.mpr (by
  first | (rw [show limb_1_2 = Cond.eq .result (.int 1) from rfl, Cond.eq_ints (x := 1) (y := 1) rfl rfl]; simp; done) | (simp [limb_1_2, Cond.value, Term.eval]; done)))⟩

