/-! ===== what holds at the law's entry, carried to where a body stands; a new exception that is made ===== -/
def q_mvb (w : Cond) : Bool := goodWord w || match w with
  | .castable .. => true
  | .declares _ => true
  | _ => false
theorem q_mv {s0 s : State} {a0 args : Array Value} {w : Cond} (hW : s0.WarmedH s.vm) (hb : q_mvb w = true) (h : w.before a0 s0 = true) : w.before args s = true := by
  by_cases hg : goodWord w = true
  · exact word_at hW (good_of_word hg) h
  · cases w <;> first | exact absurd hb (by simp only [q_mvb, hg, Bool.false_or]; decide) | skip
    · exact va_Nw.use rfl (va_Nw.warmD hW (va_Nw.of rfl h))
    · exact va_Nw.use rfl (va_Nw.warmC hW (va_Nw.of rfl h))
/-- the words of an exception's own constructor that hands its text on to RuntimeException's -/
def q_ca (own : String) (ic : Nat) (cls : String) (ix : Nat) (bytes : ByteArray) : List Cond :=
  Bundle.throwableAtoms ++ Bundle.throwableSAtoms ++ Bundle.passSAtoms cls "java/lang/RuntimeException" ix bytes ++ Bundle.chainSAtoms "java/lang/RuntimeException" ["java/lang/Exception"] ++
  [.methodLink own ic (Bundle.initS cls), .instantiable cls 6, .castable cls cls, .selects cls Bundle.tFill0 Bundle.tFill0, .selects cls Bundle.tFill Bundle.tFill,
   .lays cls Bundle.tN "cause" "Ljava/lang/Throwable;", .lays cls Bundle.tN "stackTrace" Bundle.steD, .lays cls Bundle.tN "suppressedExceptions" Bundle.listD, .lays cls Bundle.tN "detailMessage" "Ljava/lang/String;",
   .isRef (.static Bundle.tN "UNASSIGNED_STACK" Bundle.steD), .isRef (.static Bundle.tN "SUPPRESSED_SENTINEL" Bundle.listD),
   .fieldLink Bundle.tN 198 Bundle.tN "backtrace" "Ljava/lang/Object;", .lays Bundle.tN Bundle.tN "backtrace" "Ljava/lang/Object;", .lays cls Bundle.tN "backtrace" "Ljava/lang/Object;"]
set_option maxHeartbeats 4000000 in
/-- the constructor's call comes back: of the cells that were there none has changed, the new one is of its class -/
theorem q_ctor {p : Program} {l : Launch} {e : Env} {R : Room} {s : State} {m : MethodId} {args : Array Value} {below : List Frame} {meth : Method} {c : Code} {V : State} {locs : List Loc} {cells slots : Nat}
    (X : Stand p l e R s m args below meth c V locs cells slots) (hexec : p.tables.exec = Jvm.exec) (htr : e.platform.stackTraces = false) {own cls : String} {ic ix : Nat} {bytes : ByteArray}
    (hown : s.vm.findClass own = some m.cls) (hcls : Bundle.fit cls = true)
    (b0 : decode bytes 0 = .ok (.aload_n 0, 1)) (b1 : decode bytes 1 = .ok (.aload_n 1, 1)) (b2 : decode bytes 2 = .ok (.invokespecial ix, 3)) (b5 : decode bytes 5 = .ok (.return_, 1))
    (h : ∀ w ∈ q_ca own ic cls ix bytes, w.before args s = true) (hlocs : ∀ x ∈ locs, ∀ cell, V.heap[x.base]? = some cell → cell.vm.isStatics = false)
    {a : Addr} {cX : ClassId} {kX : Class} (hfoundX : s.vm.findClass cls = some cX) (hkX : s.vm.classes[cX]? = some kX) (hcell : V.heap[a]? = some (freshCell cX kX))
    {msg : Value} (hmsg : msg.isRef = true) {g : JFrame} (hg : g.method = m) (hsize : g.locals.size = c.maxLocals) {rest : List Value} (hstack : g.stack = msg :: .ref a :: rest)
    (hd : decode c.code g.pc = .ok (.invokespecial ic, 3)) (hRframes : 5 < R.frames) (hRlocals : 2 * g.monitorRoom + (rest.map fun v => v.category).sum + 81 ≤ R.locals) :
    ∃ (V' : State) (locs' : List Loc) (ce : Cell), Stand p l e R s m args below meth c V' locs' cells slots ∧ (∀ x ∈ locs', x ∈ locs ∨ x.base = a) ∧ V'.heap[a]? = some ce ∧ ce.cls = cX ∧ ce.vm = .none ∧ V'.heap.size = V.heap.size ∧ (∀ q, q ≠ a → V'.heap[q]? = V.heap[q]?) ∧
      ∀ target, Steps p.tables e below (V'.setTop { g with pc := g.pc + 3, stack := rest }) target → Steps p.tables e below (V.setTop g) target := by
  have howns : e.platform.frameOwnsMonitors = true := by rw [X.admits.platform]
  have hfin : e.platform.finalization = false := by rw [X.admits.platform]
  have hpl : e.platform.magicAccessors = ({} : Platform).magicAccessors := by rw [X.admits.platform]
  obtain ⟨T, Z0, L, -, Y⟩ := ThrowableC.of_atoms (args := args) howns hfin hpl (fun x hx => h x (by simp [q_ca, hx]))
  obtain ⟨Z, M, LZ, LM, hnZ⟩ := Init0T.ofS_atoms (args := args) hpl L Y (fun x hx => h x (by simp [q_ca, hx]))
  obtain ⟨P, LP, hPm, hPs⟩ := PassC.ofS_atoms (args := args) (s := s) hpl (X := cls) (Y := "java/lang/RuntimeException") (Bundle.fit_spec hcls).1 (by decide) b0 b1 b2 b5 (fun x hx => h x (by simp [q_ca, hx]))
  obtain ⟨P1, Ps, hlen, L1, hL, hP1m, hlink1, hlink⟩ := Bundle.chainS (args := args) hpl hnZ ["java/lang/Exception"] "java/lang/RuntimeException" (by decide +kernel) (by decide +kernel) (fun x hx => h x (by simp [q_ca, hx]))
  have hfound : s.vm.findClass cls = some P.m.cls := findClass_of_methodNamed hPm
  cases Option.some.inj (hfoundX.symm.trans hfound)
  obtain ⟨c1, kX', hc1, hk, hord, -, -, hn6⟩ := Cond.instantiable_spec (h (.instantiable cls 6) (by simp [q_ca]))
  cases Option.some.inj (hc1.symm.trans hfound)
  cases Option.some.inj (hkX.symm.trans hk)
  have hsel0 : selectMethod e.platform s.vm P.m.cls T.fill0 = .method T.fill0 := by
    obtain ⟨c2, r2, m2, q1, q2, q3, q4, -⟩ := Cond.selects_spec (h (.selects cls Bundle.tFill0 Bundle.tFill0) (by simp [q_ca]))
    cases Option.some.inj (q1.symm.trans hfound)
    cases Option.some.inj (q2.symm.trans (State.methodFound?_of_named Y.fill0 (by decide)))
    cases Option.some.inj (q3.symm.trans Y.fill0)
    rw [Launch.admits_selectMethod X.admits]; exact q4
  have hselF : selectMethod e.platform s.vm P.m.cls T.fill = .method T.fill := by
    obtain ⟨c2, r2, m2, q1, q2, q3, q4, -⟩ := Cond.selects_spec (h (.selects cls Bundle.tFill Bundle.tFill) (by simp [q_ca]))
    cases Option.some.inj (q1.symm.trans hfound)
    cases Option.some.inj (q2.symm.trans (State.methodFound?_of_named Y.fill (by decide)))
    cases Option.some.inj (q3.symm.trans Y.fill)
    rw [Launch.admits_selectMethod X.admits]; exact q4
  obtain ⟨cellS0, hcS0, hiss⟩ := Y.statics
  obtain ⟨u0, hu0⟩ := Cond.staticRefV Y.unassigned L.unassignedStatic L.statics hcS0 hiss (h (.isRef (.static Bundle.tN "UNASSIGNED_STACK" Bundle.steD)) (by simp [q_ca]))
  obtain ⟨sen, hsen⟩ := Cond.staticRefV Y.sentinel L.sentinelStatic L.statics hcS0 hiss (h (.isRef (.static Bundle.tN "SUPPRESSED_SENTINEL" Bundle.listD)) (by simp [q_ca]))
  obtain ⟨ci198, i198, fB, hk198, hg198, ha198, hsB, -, hnB, htB, hffB⟩ := Cond.ownField (t := .object "java/lang/Object") Y.found L.cls (by decide +kernel) (h (.fieldLink Bundle.tN 198 Bundle.tN "backtrace" "Ljava/lang/Object;") (by simp [q_ca])) (h (.lays Bundle.tN Bundle.tN "backtrace" "Ljava/lang/Object;") (by simp [q_ca])) e.platform hpl
  obtain ⟨cellS, hcellS, heS, -, hkeep⟩ := X.same.2.2.2.2.2 T.aS cellS0 hcS0
  have hcellS : V.heap[T.aS]? = some cellS := hcellS
  have hout' : ∀ i, (⟨T.aS, i⟩ : Loc) ∉ locs := fun i hmem => by
    have := hlocs _ hmem cellS hcellS
    rw [heS, hiss] at this; cases this
  have hknownS : cellS.vm ≠ .unknown := by
    rw [heS]; intro hu
    rw [show cellS0.vm = .unknown from hu] at hiss
    cases hiss
  have hneS : T.aS ≠ a := fun q => by
    rw [q, hcell] at hcellS
    cases hcellS
    have h9 : (freshCell P.m.cls kX).vm = cellS0.vm := by rw [heS]
    rw [← h9] at hiss
    cases hiss
  obtain ⟨iM, hffM⟩ := Y.msg
  obtain ⟨tyC, dC, hdC, hdnC⟩ := Cond.laysAt hfound hk Y.cause (h (.lays cls Bundle.tN "cause" "Ljava/lang/Throwable;") (by simp [q_ca]))
  obtain ⟨tyS, dS, hdS, hdnS⟩ := Cond.laysAt hfound hk Y.stack (h (.lays cls Bundle.tN "stackTrace" Bundle.steD) (by simp [q_ca]))
  obtain ⟨tyP, dP, hdP, hdnP⟩ := Cond.laysAt hfound hk Y.supp (h (.lays cls Bundle.tN "suppressedExceptions" Bundle.listD) (by simp [q_ca]))
  obtain ⟨tyM, dM, hdM, hdnM⟩ := Cond.laysAt hfound hk hffM (h (.lays cls Bundle.tN "detailMessage" "Ljava/lang/String;") (by simp [q_ca]))
  obtain ⟨tyB, dB, hdB, hdnB⟩ := Cond.laysAt hfound hk hffB (h (.lays cls Bundle.tN "backtrace" "Ljava/lang/Object;") (by simp [q_ca]))
  have bC := Cond.laysApart hdB hdC hdnB hdnC (by rw [hnB, Y.causeName]; decide)
  have bS := Cond.laysApart hdB hdS hdnB hdnS (by rw [hnB, Y.stackName]; decide)
  have bP := Cond.laysApart hdB hdP hdnB hdnP (by rw [hnB, Y.suppName]; decide)
  have hskip : SkipFacts T e.platform s (fun u => u) u0 ((preparedCellV T.toThrowableT (freshCell P.m.cls kX) a u0 sen).withEntry V.cur) :=
    ⟨{ ci198 := ci198, i198 := i198, fBack := fB }, ⟨hk198, hg198, ha198, hsB⟩, by
      have := fresh_default (c := P.m.cls) tyB
      rw [htB] at this
      simpa [preparedCellV, Cell.setSlot, Cell.withEntry, Array.getElem?_setIfInBounds, bC, bS, bP, bC.symm, bS.symm, bP.symm, defaultValue] using this, fun _ _ => rfl⟩
  obtain ⟨tm, methC, cdC, kC, vm₁, hnC, -, -, -, -, -, -, -, hW₁, st1⟩ := Steps.initColdS (tb := p.tables) (e := e) (below := below) (s := s) (U := V) X.here hexec X.warmed hpl hown (t := Bundle.initS cls) rfl rfl (Bundle.fit_spec hcls).2
    (h (.methodLink own ic (Bundle.initS cls)) (by simp [q_ca])) (h (.instanceMethod (Bundle.initS cls)) (by simp [q_ca, Bundle.passSAtoms])) (bytes := bytes) (maxL := 2) (h (.code (Bundle.initS cls) bytes 2 none) (by simp [q_ca, Bundle.passSAtoms]))
    (f := g) hg (a := a) (msg := msg) (rest := rest) hstack hd
  cases Option.some.inj (hnC.symm.trans hPm)
  have X₁ := X.noted hW₁
  have hln : Ps.length = 1 := hlen
  obtain ⟨vm₂, X₂, st2⟩ := X₁.ctorMessageOffV hexec (g := { g with stack := rest }) hg hsize T L Z LZ M LM (P :: P1 :: Ps)
    (fun q hq => by
      rcases List.mem_cons.mp hq with rfl | hq
      · exact LP
      rcases List.mem_cons.mp hq with rfl | hq
      · exact L1
      · exact hL q hq) ⟨Option.some.inj (hPs.symm.trans hP1m), hlink1, hlink⟩ (u0 := u0) (sen := sen) (self := a) hmsg (cell := freshCell P.m.cls kX) (cellS := cellS)
    hcell (fun _ => by simp) (by simp) rfl rfl hsel0 hselF hcellS hneS hknownS (by rw [hkeep _ (hout' _)]; exact hu0) (by rw [hkeep _ (hout' _)]; exact hsen)
    (Takes.of_laid hk hord tyC (by rw [Y.causeType]; rfl)) (Takes.of_laid hk hord tyS (by rw [Y.stackType]; exact fits_refV_array _ u0)) (Takes.of_laid hk hord tyP (by rw [Y.suppType]; exact fits_refV_object _ sen))
    (Takes.of_laid hk hord tyM (by rw [Y.msgType]; exact fits_refV_object _ ⟨msg, hmsg⟩)) Y.objLocals hskip htr [] hd
    (by simp only [List.length_cons, hln]; omega) (by simp only [List.length_cons, hln]; exact hRlocals)
  have hlt : a < ((V.setVm vm₁).setVm vm₂).heap.size := (Array.getElem?_eq_some_iff.mp hcell).1
  refine ⟨_, _, _, X₂, ?_, heapAt_setCell_self (s := (V.setVm vm₁).setVm vm₂) (plainBareV T.toThrowableT (freshCell P.m.cls kX) a u0 sen msg) hlt, rfl, rfl, ?_, ?_, ?_⟩
  · intro x hx
    rcases List.mem_append.mp hx with h1 | h1
    · exact Or.inl h1
    · refine Or.inr ?_
      simp only [List.mem_cons, List.not_mem_nil, or_false] at h1
      rcases h1 with rfl | rfl | rfl | rfl | rfl <;> rfl
  · simp [State.setCell, State.setVm]
  · intro q hq
    simp only [State.setCell, State.setVm, Array.getElem?_setIfInBounds]
    rw [if_neg (fun w => hq w.symm)]
  · intro target ht
    exact st1 _ (fun acts => by rw [doInvoke_state]; exact st2 _ ht)
theorem q_nseeA : ∀ w ∈ (q_ca RX10 124 "java/util/NoSuchElementException" 13 prog_25_method_4_code).filter vx_no, w ∈ lw_tbl ∧ q_mvb w = true := by decide +kernel
theorem q_iseA : ∀ w ∈ (q_ca RX12 37 "java/lang/IllegalStateException" 7 prog_17_method_2_code).filter vx_no, w ∈ lw_tbl ∧ q_mvb w = true := by decide +kernel
/-- the statics that an exception's making reads -/
theorem q_thS {G : qG} {s : State} {args : Array Value} {H : Heap} {own cls : String} {ic ix : Nat} {bytes : ByteArray} (hSt : q_St G s H) (hH : s.heap = H) (hA : ∀ w ∈ (q_ca own ic cls ix bytes).filter vx_no, w ∈ lw_tbl ∧ q_mvb w = true) : ∀ w ∈ q_ca own ic cls ix bytes, w.before args s = true := by
  obtain ⟨hK, s0, a0, w1, w2, w3, w4, w5, w6⟩ := hSt
  have hs := flat_of_before _ w4
  have hA0 : ∀ a : Nat, a < s0.heap.size → ¬ q_A G a := fun a ha q => by
    have q : G.b ≤ a := q
    omega
  have hk : ∀ a : Nat, a < s0.heap.size → ¬ q_A G a → H[a]? = s0.heap[a]? := fun a ha _ => w3 a (by omega)
  have hU : vx_Zq Bundle.tN "UNASSIGNED_STACK" Bundle.steD (q_A G) s s.heap := by
    rw [hH]
    exact vx_Zq.moved w1.alike ((vx_Zqof (w5 _ (by decide +kernel)) (w5 _ (by decide +kernel)) (hs _ (by decide +kernel)) hA0).kept hk)
  have hN : vx_Zq Bundle.tN "SUPPRESSED_SENTINEL" Bundle.listD (q_A G) s s.heap := by
    rw [hH]
    exact vx_Zq.moved w1.alike ((vx_Zqof (w5 _ (by decide +kernel)) (w5 _ (by decide +kernel)) (hs _ (by decide +kernel)) hA0).kept hk)
  exact vx_own (fun w hw => q_mv w1 (hA w hw).2 (w5 w (hA w hw).1)) (vx_isRefq hU.1) (vx_isRefq hN.1) hU.2.word hN.2.word
theorem q_str {G : qG} {s : State} {H : Heap} {own text : String} {is : Nat} (hSt : q_St G s H) (hw : Cond.stringRef own is text ∈ lw_tbl) (hx : ∀ (a0 : Array Value) (s0 : State), (Jvm.Cond.and given_1 narrow_1).before a0 s0 = true → (Cond.exactly (.string own is) "java/lang/String").before a0 s0 = true) : ∃ sa, vk_R own is text sa s := by
  obtain ⟨hK, s0, a0, w1, w2, w3, w4, w5, w6⟩ := hSt
  obtain ⟨a, c, cell, k, h1, -⟩ := Cond.exactly_spec (hx a0 s0 w4)
  exact ⟨a, vk_R.warm w1 (vk_R.of (w5 _ hw) h1)⟩
