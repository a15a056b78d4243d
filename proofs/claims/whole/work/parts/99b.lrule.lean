def R_law : String := "TokenCircuitLaw"
def lw_P (b : Addr) (xs : List Int32) (args : Array Value) (s : State) : Prop := args = #[.ref b] ∧ s.IntsAt b xs ∧ xs.length ≤ 3072 ∧ (Jvm.Cond.and given_1 narrow_1).before args s = true
def lw_Q (_ : Array Value) (s : State) (o : Outcome) (t : State) : Prop := o = .returned (some (.int 1)) ∧ Framed s o t [] 601024 7293034
def lw_Z (below : List Frame) (a : Array Value) (s : State) : State → Prop := fun t => ∃ o, t.status = .running ∧ Ended t below o ∧ lw_Q a s o t
/-- the law's own end, with 1 on the stack, nothing written that was there before, its room as the claim has it -/
theorem lw_ret {p : Program} {l : Launch} {e : Env} {s : State} {m : MethodId} {below : List Frame} {meth : Method} {c : Code} {b : Nat} (hx : p.tables.exec = Jvm.exec) (hb : c.code = code) (hr : meth.sig.returnType = ret) (hlocks : meth.locks = false) {pc : Nat} {H : Heap} {ls : Array Slot} (hdg : decode code pc = .ok (.ireturn, 1)) : W p l e room_1 s m #[Value.ref b] below meth c H [] 601024 7293034 (lw_Z below #[Value.ref b] s) (F0 m pc ls [.int 1]) := by
  intro T hT X
  obtain ⟨fs, hret, hrun, hended, hW, hframe⟩ := X.leave (v := some (.int 1)) (hlocks := hlocks) (fun h => by rw [hr] at h; cases h)
  have hmeth' : T.vm.method? m = some meth := X.method'
  refine ⟨T.setFrames fs, ?_, .returned (some (.int 1)), hrun, hended, rfl, ⟨_, rfl⟩, hW, hframe⟩
  jvm_step X.here [X.here.top, hx, hb, hdg, hmeth', hr, ret, narrow_b1]
  (try refine ⟨rfl, ?_⟩); (try refine ⟨rfl, ?_⟩)
  first | (intro acts; rw [hret _ acts rfl rfl rfl]) | rw [hret _ _ rfl rfl rfl]
  exact Steps.refl _
/-- what holds at the law's entry: the machine, the code, the tables' words (any of lw_tbl by 'hts w (by decide +kernel)'), the script of L ints xs at the cell b, what the Statement gives of the start (any of its parts by flat_of_before) -/
def lw_At (p : Program) (s : State) (m : MethodId) (meth : Method) (c : Code) (b L : Nat) (xs : Nat → Int32) : Prop :=
  p.tables.exec = Jvm.exec ∧ c.code = code ∧ meth.sig.returnType = ret ∧ c.maxLocals = 7 ∧ s.vm.findClass R_law = some m.cls ∧ (∀ w ∈ lw_tbl, w.before #[Value.ref b] s = true) ∧ va_X b L xs s s.heap ∧ b < s.heap.size ∧ meth.locks = false ∧ (Jvm.Cond.and given_1 narrow_1).before #[Value.ref b] s = true
/-! ===== the law's own walk: a rule an instruction ===== -/
def l_C (G : qG) (p : Program) (s : State) (m : MethodId) (meth : Method) (c : Code) (b L : Nat) (xs : Nat → Int32) : Prop := lw_At p s m meth c b L xs ∧ G.b = s.heap.size ∧ q_St G s s.heap
def l_W (G : qG) (p : Program) (e : Env) (s : State) (m : MethodId) (below : List Frame) (meth : Method) (c : Code) (b cells slots : Nat) (z : qz) (pc : Nat) (lv : List (Nat × Value)) (st : List Value) (h : qh) : Prop :=
  ∀ (H : Heap) (locs : List Loc) (ls : Array Slot), q_R G z h H → va_S (q_A G) s.heap H locs → lv_has ls 7 lv → W p G.l e room_1 s m #[Value.ref b] below meth c H locs cells slots (lw_Z below #[Value.ref b] s) (F0 m pc ls st)
def q_CvX (own : String) (ix : Nat) (y : MethodName) (n : Nat) : Prop := ∃ (bytes : ByteArray) (maxL : Nat) (ret : Option FieldType) (hh : List (Nat × Nat × Nat × Nat)), maxL ≤ 21 ∧ Cond.codeWith y bytes maxL ret hh ∈ q_tb ∧ Cond.methodLink own ix y ∈ q_tb ∧ Cond.initialized y.cls ∈ q_tb ∧ (y.cls ≠ "java/lang/invoke/MethodHandle" ∧ y.cls ≠ "java/lang/invoke/VarHandle") ∧ (parseMethodDescriptor y.desc).map (fun d => d.parameters.length) = some n ∧ Cond.instanceMethod y ∈ q_tb ∧ Cond.selects y.cls y y ∈ q_tb
def q_CsX (own : String) (ix : Nat) (y : MethodName) (n : Nat) : Prop := ∃ (bytes : ByteArray) (maxL : Nat) (ret : Option FieldType) (hh : List (Nat × Nat × Nat × Nat)), maxL ≤ 21 ∧ Cond.codeWith y bytes maxL ret hh ∈ q_tb ∧ Cond.methodLink own ix y ∈ q_tb ∧ Cond.initialized y.cls ∈ q_tb ∧ (y.cls ≠ "java/lang/invoke/MethodHandle" ∧ y.cls ≠ "java/lang/invoke/VarHandle") ∧ (parseMethodDescriptor y.desc).map (fun d => d.parameters.length) = some n ∧ Cond.static y ∈ q_tb
section LR
variable {G : qG} {p : Program} {e : Env} {s : State} {m : MethodId} {below : List Frame} {meth : Method} {c : Code} {b L : Nat} {xs : Nat → Int32} {cells slots : Nat} {z : qz} {pc : Nat} {lv : List (Nat × Value)} {st : List Value} {h : qh}
theorem l_C.ts (C : l_C G p s m meth c b L xs) : ∀ w ∈ q_tb, w.before #[Value.ref b] s = true := fun w hw => C.1.2.2.2.2.2.1 w (List.mem_filter.mp hw).1
theorem l_C.fix (C : l_C G p s m meth c b L xs) : CallFix p m c code 7 s #[Value.ref b] q_tb RL := ⟨C.1.1, C.1.2.1, C.1.2.2.2.1, C.1.2.2.2.2.1, C.ts⟩
theorem l_aload {k : Fin 4} {i x j : Nat} (C : l_C G p s m meth c b L xs) (hdg : decode code pc = .ok (.aload_n k, 1)) (hi : (k : Nat) = i) (hj : lv[j]? = some (i, .ref x)) (kk : l_W G p e s m below meth c b cells slots z (pc + 1) lv (.ref x :: st) h) : l_W G p e s m below meth c b cells slots z pc lv st h :=
  fun H locs ls hR hS hl => lv_aload_n C.1.1 C.1.2.1 hdg hi (lv_at hl j hj) (kk H locs ls hR hS hl)
theorem l_iload {i j : Nat} {x : Int32} (C : l_C G p s m meth c b L xs) (hdg : decode code pc = .ok (.iload i, 2)) (hj : lv[j]? = some (i, .int x)) (kk : l_W G p e s m below meth c b cells slots z (pc + 2) lv (.int x :: st) h) : l_W G p e s m below meth c b cells slots z pc lv st h :=
  fun H locs ls hR hS hl => lv_iload C.1.1 C.1.2.1 hdg (lv_at hl j hj) (kk H locs ls hR hS hl)
theorem l_iconst {n : Int} {v : Int32} (C : l_C G p s m meth c b L xs) (hdg : decode code pc = .ok (.iconst n, 1)) (hv : Int32.ofInt n = v) (kk : l_W G p e s m below meth c b cells slots z (pc + 1) lv (.int v :: st) h) : l_W G p e s m below meth c b cells slots z pc lv st h :=
  fun H locs ls hR hS hl => lv_iconst C.1.1 C.1.2.1 hdg hv (kk H locs ls hR hS hl)
theorem l_bipush {n : Int} {v : Int32} (C : l_C G p s m meth c b L xs) (hdg : decode code pc = .ok (.bipush n, 2)) (hv : (Int8.ofInt n).toInt32 = v) (kk : l_W G p e s m below meth c b cells slots z (pc + 2) lv (.int v :: st) h) : l_W G p e s m below meth c b cells slots z pc lv st h :=
  fun H locs ls hR hS hl => lv_bipush C.1.1 C.1.2.1 hdg hv (kk H locs ls hR hS hl)
theorem l_iadd {x y : Int32} (C : l_C G p s m meth c b L xs) (hdg : decode code pc = .ok (.iadd, 1)) (kk : l_W G p e s m below meth c b cells slots z (pc + 1) lv (.int (x + y) :: st) h) : l_W G p e s m below meth c b cells slots z pc lv (.int y :: .int x :: st) h :=
  fun H locs ls hR hS hl => lv_iadd C.1.1 C.1.2.1 hdg (kk H locs ls hR hS hl)
theorem l_isub {x y : Int32} (C : l_C G p s m meth c b L xs) (hdg : decode code pc = .ok (.isub, 1)) (kk : l_W G p e s m below meth c b cells slots z (pc + 1) lv (.int (x - y) :: st) h) : l_W G p e s m below meth c b cells slots z pc lv (.int y :: .int x :: st) h :=
  fun H locs ls hR hS hl => lv_isub C.1.1 C.1.2.1 hdg (kk H locs ls hR hS hl)
theorem l_iand {x y : Int32} (C : l_C G p s m meth c b L xs) (hdg : decode code pc = .ok (.iand, 1)) (kk : l_W G p e s m below meth c b cells slots z (pc + 1) lv (.int (x &&& y) :: st) h) : l_W G p e s m below meth c b cells slots z pc lv (.int y :: .int x :: st) h :=
  fun H locs ls hR hS hl => lv_iand C.1.1 C.1.2.1 hdg (kk H locs ls hR hS hl)
theorem l_land {x y : Int64} (C : l_C G p s m meth c b L xs) (hdg : decode code pc = .ok (.land, 1)) (kk : l_W G p e s m below meth c b cells slots z (pc + 1) lv (.long (x &&& y) :: st) h) : l_W G p e s m below meth c b cells slots z pc lv (.long y :: .long x :: st) h :=
  fun H locs ls hR hS hl => lv_land C.1.1 C.1.2.1 hdg (kk H locs ls hR hS hl)
theorem l_lor {x y : Int64} (C : l_C G p s m meth c b L xs) (hdg : decode code pc = .ok (.lor, 1)) (kk : l_W G p e s m below meth c b cells slots z (pc + 1) lv (.long (x ||| y) :: st) h) : l_W G p e s m below meth c b cells slots z pc lv (.long y :: .long x :: st) h :=
  fun H locs ls hR hS hl => lv_lor C.1.1 C.1.2.1 hdg (kk H locs ls hR hS hl)
theorem l_lshl {x : Int64} {y : Int32} (C : l_C G p s m meth c b L xs) (hdg : decode code pc = .ok (.lshl, 1)) (kk : l_W G p e s m below meth c b cells slots z (pc + 1) lv (.long (x <<< (y.toInt64 &&& 63)) :: st) h) : l_W G p e s m below meth c b cells slots z pc lv (.int y :: .long x :: st) h :=
  fun H locs ls hR hS hl => lv_lshl C.1.1 C.1.2.1 hdg rfl (kk H locs ls hR hS hl)
theorem l_i2l {x : Int32} (C : l_C G p s m meth c b L xs) (hdg : decode code pc = .ok (.i2l, 1)) (kk : l_W G p e s m below meth c b cells slots z (pc + 1) lv (.long x.toInt64 :: st) h) : l_W G p e s m below meth c b cells slots z pc lv (.int x :: st) h :=
  fun H locs ls hR hS hl => lv_i2l C.1.1 C.1.2.1 hdg rfl (kk H locs ls hR hS hl)
theorem l_ldc2 {ix : Nat} {v : Int64} (C : l_C G p s m meth c b L xs) (hw : Cond.constantLong RL ix v ∈ q_tb) (hdg : decode code pc = .ok (.ldc2_w ix, 3)) (kk : l_W G p e s m below meth c b cells slots z (pc + 3) lv (.long v :: st) h) : l_W G p e s m below meth c b cells slots z pc lv st h :=
  fun H locs ls hR hS hl => lv_ldc2 C.1.1 C.1.2.1 C.1.2.2.2.2.1 (C.ts _ hw) hdg (kk H locs ls hR hS hl)
theorem l_lcmp {x y : Int64} (C : l_C G p s m meth c b L xs) (hdg : decode code pc = .ok (.lcmp, 1)) (kk : l_W G p e s m below meth c b cells slots z (pc + 1) lv (.int (lg_cmp x y) :: st) h) : l_W G p e s m below meth c b cells slots z pc lv (.long y :: .long x :: st) h :=
  fun H locs ls hR hS hl => W.lcmp C.1.1 C.1.2.1 hdg (kk H locs ls hR hS hl)
theorem l_goto {off : Int} {tgt : Nat} (C : l_C G p s m meth c b L xs) (hdg : decode code pc = .ok (.goto off, 3)) (ht : (pc : Int) + off = (tgt : Int)) (kk : l_W G p e s m below meth c b cells slots z tgt lv st h) : l_W G p e s m below meth c b cells slots z pc lv st h :=
  fun H locs ls hR hS hl => lv_goto C.1.1 C.1.2.1 hdg ht (kk H locs ls hR hS hl)
theorem l_icmp_eq {x y : Int32} {off : Int} {tgt : Nat} (C : l_C G p s m meth c b L xs) (hdg : decode code pc = .ok (.if_icmp .eq off, 3)) (ht : (pc : Int) + off = (tgt : Int)) (hxy : x = y) (kk : l_W G p e s m below meth c b cells slots z tgt lv st h) : l_W G p e s m below meth c b cells slots z pc lv (.int y :: .int x :: st) h :=
  fun H locs ls hR hS hl => lv_icmp_eq C.1.1 C.1.2.1 hdg ht (fun _ => kk H locs ls hR hS hl) (fun q => absurd hxy q)
theorem l_icmp_gt {x y : Int32} {off : Int} {tgt : Nat} (C : l_C G p s m meth c b L xs) (hdg : decode code pc = .ok (.if_icmp .gt off, 3)) (ht : (pc : Int) + off = (tgt : Int)) (kt : y < x → l_W G p e s m below meth c b cells slots z tgt lv st h) (kf : ¬ y < x → l_W G p e s m below meth c b cells slots z (pc + 3) lv st h) : l_W G p e s m below meth c b cells slots z pc lv (.int y :: .int x :: st) h :=
  fun H locs ls hR hS hl => lv_icmp_gt C.1.1 C.1.2.1 hdg ht (fun q => kt q H locs ls hR hS hl) (fun q => kf q H locs ls hR hS hl)
theorem l_ifeq {x : Int32} {off : Int} {tgt : Nat} (C : l_C G p s m meth c b L xs) (hdg : decode code pc = .ok (.ifCond .eq off, 3)) (ht : (pc : Int) + off = (tgt : Int)) (hx : x = 0) (kk : l_W G p e s m below meth c b cells slots z tgt lv st h) : l_W G p e s m below meth c b cells slots z pc lv (.int x :: st) h :=
  fun H locs ls hR hS hl => lv_if_eq C.1.1 C.1.2.1 hdg ht (fun _ => kk H locs ls hR hS hl) (fun q => absurd hx q)
theorem l_ifneT {x : Int32} {off : Int} {tgt : Nat} (C : l_C G p s m meth c b L xs) (hdg : decode code pc = .ok (.ifCond .ne off, 3)) (ht : (pc : Int) + off = (tgt : Int)) (hx : ¬ x = 0) (kk : l_W G p e s m below meth c b cells slots z tgt lv st h) : l_W G p e s m below meth c b cells slots z pc lv (.int x :: st) h :=
  fun H locs ls hR hS hl => lv_if_ne C.1.1 C.1.2.1 hdg ht (fun _ => kk H locs ls hR hS hl) (fun q => absurd q hx)
theorem l_ifneF {x : Int32} {off : Int} {tgt : Nat} (C : l_C G p s m meth c b L xs) (hdg : decode code pc = .ok (.ifCond .ne off, 3)) (ht : (pc : Int) + off = (tgt : Int)) (hx : x = 0) (kk : l_W G p e s m below meth c b cells slots z (pc + 3) lv st h) : l_W G p e s m below meth c b cells slots z pc lv (.int x :: st) h :=
  fun H locs ls hR hS hl => lv_if_ne C.1.1 C.1.2.1 hdg ht (fun q => absurd hx q) (fun _ => kk H locs ls hR hS hl)
theorem l_iinc {i j : Nat} {n : Int} {x v : Int32} {lv' : List (Nat × Value)} (C : l_C G p s m meth c b L xs) (hdg : decode code pc = .ok (.iinc i n, 3)) (hj : lv[j]? = some (i, .int x)) (hv : x + Int32.ofInt n = v) (hn : i < 7) (hl' : (i, Value.int v) :: lv.filter (fun q => !(q.1 == i) && !(q.1 + 1 == i && q.2.category == 2)) = lv') (kk : l_W G p e s m below meth c b cells slots z (pc + 3) lv' st h) : l_W G p e s m below meth c b cells slots z pc lv st h :=
  fun H locs ls hR hS hl => lv_iinc C.1.1 C.1.2.1 hdg hl hj hv hn hl' (fun ls' h' => kk H locs ls' hR hS h')
theorem l_istore {i : Nat} {x : Int32} {lv' : List (Nat × Value)} (C : l_C G p s m meth c b L xs) (hdg : decode code pc = .ok (.istore i, 2)) (hn : i < 7) (hl' : (i, Value.int x) :: lv.filter (fun q => !(q.1 == i) && !(q.1 + 1 == i && q.2.category == 2)) = lv') (kk : l_W G p e s m below meth c b cells slots z (pc + 2) lv' st h) : l_W G p e s m below meth c b cells slots z pc lv (.int x :: st) h :=
  fun H locs ls hR hS hl => lv_istore C.1.1 C.1.2.1 hdg hl hn hl' (fun ls' h' => kk H locs ls' hR hS h')
theorem l_astore {k : Fin 4} {i x : Nat} {lv' : List (Nat × Value)} (C : l_C G p s m meth c b L xs) (hdg : decode code pc = .ok (.astore_n k, 1)) (hi : (k : Nat) = i) (hn : i < 7) (hl' : (i, Value.ref x) :: lv.filter (fun q => !(q.1 == i) && !(q.1 + 1 == i && q.2.category == 2)) = lv') (kk : l_W G p e s m below meth c b cells slots z (pc + 1) lv' st h) : l_W G p e s m below meth c b cells slots z pc lv (.ref x :: st) h :=
  fun H locs ls hR hS hl => lv_astore_n C.1.1 C.1.2.1 hdg hi hl hn hl' (fun ls' h' => kk H locs ls' hR hS h')
theorem l_dup {v : Value} (C : l_C G p s m meth c b L xs) (hdg : decode code pc = .ok (.dup, 1)) (hv : v.category = 1) (kk : l_W G p e s m below meth c b cells slots z (pc + 1) lv (v :: v :: st) h) : l_W G p e s m below meth c b cells slots z pc lv (v :: st) h :=
  fun H locs ls hR hS hl => lv_dup C.1.1 C.1.2.1 hdg hv (kk H locs ls hR hS hl)
theorem l_sub {lv' : List (Nat × Value)} (ks : List Nat) (hk : lv_pick lv ks = lv') (kk : l_W G p e s m below meth c b cells slots z pc lv' st h) : l_W G p e s m below meth c b cells slots z pc lv st h :=
  fun H locs ls hR hS hl => kk H locs ls hR hS (lv_sub hl ks hk)
theorem l_tabIn {dflt lo hi : Int} {offs : Array Int} {len : Nat} {x : Int32} {off : Int} {tgt : Nat} (C : l_C G p s m meth c b L xs) (hdg : decode code pc = .ok (.tableswitch dflt lo hi offs, len)) (h1 : ¬ x.toInt < lo) (h2 : ¬ hi < x.toInt) (ho : offs[(x.toInt - lo).toNat]? = some off) (ht : (pc : Int) + off = (tgt : Int)) (kk : l_W G p e s m below meth c b cells slots z tgt lv st h) : l_W G p e s m below meth c b cells slots z pc lv (.int x :: st) h :=
  fun H locs ls hR hS hl => lv_tableIn C.1.1 C.1.2.1 hdg h1 h2 ho ht (kk H locs ls hR hS hl)
theorem l_tabOut {dflt lo hi : Int} {offs : Array Int} {len : Nat} {x : Int32} {tgt : Nat} (C : l_C G p s m meth c b L xs) (hdg : decode code pc = .ok (.tableswitch dflt lo hi offs, len)) (h1 : x.toInt < lo ∨ hi < x.toInt) (ht : (pc : Int) + dflt = (tgt : Int)) (kk : l_W G p e s m below meth c b cells slots z tgt lv st h) : l_W G p e s m below meth c b cells slots z pc lv (.int x :: st) h :=
  fun H locs ls hR hS hl => lv_tableOut C.1.1 C.1.2.1 hdg h1 ht (kk H locs ls hR hS hl)
theorem l_notA (C : l_C G p s m meth c b L xs) : ¬ q_A G b := fun q => by
  have h1 := C.1.2.2.2.2.2.2.2.1
  have h2 := C.2.1
  have q' : G.b ≤ b := q
  omega
theorem l_sld {i : Int32} (C : l_C G p s m meth c b L xs) (hin : vp_in i L) (hdg : decode code pc = .ok (.iaload, 1)) (kk : l_W G p e s m below meth c b cells slots z (pc + 1) lv (.int (xs i.toNatClampNeg) :: st) h) : l_W G p e s m below meth c b cells slots z pc lv (.int i :: .ref b :: st) h :=
  fun H locs ls hR hS hl => va_sld C.1.1 C.1.2.1 C.1.2.2.2.2.2.2.1 C.1.2.2.2.2.2.2.2.1 (l_notA C) hS hin hdg (kk H locs ls hR hS hl)
theorem l_slen (C : l_C G p s m meth c b L xs) (hdg : decode code pc = .ok (.arraylength, 1)) (kk : l_W G p e s m below meth c b cells slots z (pc + 1) lv (.int (Int32.ofNat L) :: st) h) : l_W G p e s m below meth c b cells slots z pc lv (.ref b :: st) h :=
  fun H locs ls hR hS hl => va_slen C.1.1 C.1.2.1 C.1.2.2.2.2.2.2.1 C.1.2.2.2.2.2.2.2.1 (l_notA C) hS hdg (kk H locs ls hR hS hl)
/-- an int of the script: five instructions -/
theorem l_arg {i k j0 j4 : Nat} {n : Int} (C : l_C G p s m meth c b L xs) (hL : L ≤ 3072) (hi : i + k < L) (d0 : decode code pc = .ok (.aload_n 0, 1)) (d1 : decode code (pc + 1) = .ok (.iload 4, 2)) (d2 : decode code (pc + 3) = .ok (.iconst n, 1)) (hv : Int32.ofInt n = Int32.ofNat k) (d3 : decode code (pc + 4) = .ok (.iadd, 1)) (d4 : decode code (pc + 5) = .ok (.iaload, 1)) (h0 : lv[j0]? = some (0, .ref b)) (h4 : lv[j4]? = some (4, .int (Int32.ofNat i))) (kk : l_W G p e s m below meth c b cells slots z (pc + 6) lv (.int (xs (i + k)) :: st) h) : l_W G p e s m below meth c b cells slots z pc lv st h := by
  refine l_aload C d0 rfl h0 (l_iload C d1 h4 (l_iconst C d2 hv (l_iadd C d3 ?_)))
  rw [n_add]
  refine l_sld C (n_in (by omega) hi) d4 ?_
  rw [n_N (by omega)]
  exact kk
theorem l_callV {ix n ci o d1 : Nat} {y : MethodName} {As stk : List Value} {v : Value} {h' : qh} (C : l_C G p s m meth c b L xs) (hcv : q_Cv RL ix y n) (hci : ∃ (T : u_T) (N : Nat), vwCl[ci]? = some (y.cls, T, N)) (ho : o < zN.n) (hk : q_K o = (ci, 0)) (hn : As.length = n) (hd1 : d1 ≤ 2000) (hcc : cells ≤ 601024) (hss : slots ≤ 7293034) (hw : (st.map fun v => v.category).sum ≤ 8) (hdg : decode code pc = .ok (.invokevirtual ix, 3)) (hstk : stk = (As.map (q_cv G.b)).reverse ++ .ref (G.b + o) :: st)
    (hM : q_M G zN zN d1 0 0 y (.ref o :: As) h (fun r h1 => r = .inl (some v) ∧ h1 = h')) (kk : l_W G p e s m below meth c b cells slots zN (pc + 3) lv (q_cv G.b v :: st) h') : l_W G p e s m below meth c b cells slots zN pc lv stk h := by
  intro H locs ls hR hS hl
  subst hstk
  obtain ⟨⟨bytes, maxL, ret, hm, w1, w2, w3, w4, w5⟩, w6, w7⟩ := hcv
  obtain ⟨T, N, hT⟩ := hci
  have hts := C.ts
  have hSt := C.2.2
  have hr := vx_runV (R := room_1) (Ts := q_tb) (C := y.cls) (b := G.b + o) (As := As.map (q_cv G.b)) (n := n) (bytes := bytes) (maxL := maxL) (ret := ret) (index := ix) (rest := st) (g := F0 m pc ls ((As.map (q_cv G.b)).reverse ++ .ref (G.b + o) :: st)) (cells := cells) (slots := slots) (locs := locs) (below := below) (meth := meth) (e := e) C.fix hM ⟨⟨rfl, rfl, by show d1 + 1 + 1 ≤ 2048; omega, by show 8 + (maxL + 11) + (60 + 40 * d1) ≤ 84000; omega, pay_in hts q_tb_good, w1, hts _ w1, hts _ w3, w4, fun sig hsig => by rw [hsig] at w5; exact (Option.some.inj w5).symm, hts _ w2⟩, hts _ w6, hts _ w7⟩ ⟨q_blind _ _ _ _, q_rcv hSt.1 hR hT ho hk, fun U hU hW => q_pre (av := .ref o :: As) hSt hS hR U hU hW⟩ rfl (by rw [List.length_map]; exact hn) hl.1 rfl (lv_room (m := m) (pc := pc) (ls := ls) (rest := []) hw) hdg ⟨hcc, hss⟩
  intro T0 hT0 X
  rcases hr T0 hT0 X with ⟨v', st₀, t, T', Lc, h0, X', hL', e1, e2, ⟨⟨r, h1, hv, ⟨q1, q2⟩, hR1⟩, hF⟩, stp⟩ | ⟨q, st₀, t, T', Lc, E, ce, h0, X', hL', e1, e2, ⟨⟨h1, ⟨q1, q2⟩, hR1⟩, hF⟩, hce, hcv', hcl, stp⟩
  · cases hv
    cases q1
    subst q2
    obtain ⟨k1, k2, k3⟩ := vx_keep h0 e1 hS (fun q _ hq => hq) (fun q hq => hq) hL' hF
    obtain ⟨t2, a1, b1⟩ := kk T'.heap (locs ++ Lc) ls (e1 ▸ hR1) k3 hl T' rfl X'
    exact ⟨t2, stp t2 a1, b1⟩
  · cases q1
theorem l_callVX {ix n ci o d1 : Nat} {y : MethodName} {As stk : List Value} {v : Value} {h' : qh} (C : l_C G p s m meth c b L xs) (hcv : q_CvX RL ix y n) (hci : ∃ (T : u_T) (N : Nat), vwCl[ci]? = some (y.cls, T, N)) (ho : o < zN.n) (hk : q_K o = (ci, 0)) (hn : As.length = n) (hd1 : d1 ≤ 2000) (hcc : cells ≤ 601024) (hss : slots ≤ 7293034) (hw : (st.map fun v => v.category).sum ≤ 8) (hdg : decode code pc = .ok (.invokevirtual ix, 3)) (hstk : stk = (As.map (q_cv G.b)).reverse ++ .ref (G.b + o) :: st)
    (hM : q_M G zN zN d1 0 0 y (.ref o :: As) h (fun r h1 => r = .inl (some v) ∧ h1 = h')) (kk : l_W G p e s m below meth c b cells slots zN (pc + 3) lv (q_cv G.b v :: st) h') : l_W G p e s m below meth c b cells slots zN pc lv stk h := by
  intro H locs ls hR hS hl
  subst hstk
  obtain ⟨bytes, maxL, ret, hh, hm, w1, w2, w3, w4, w5, w6, w7⟩ := hcv
  obtain ⟨T, N, hT⟩ := hci
  have hts := C.ts
  have hSt := C.2.2
  have hr := vx_runVX (R := room_1) (Ts := q_tb) (C := y.cls) (b := G.b + o) (As := As.map (q_cv G.b)) (n := n) (bytes := bytes) (maxL := maxL) (ret := ret) (index := ix) (hh := hh) (rest := st) (g := F0 m pc ls ((As.map (q_cv G.b)).reverse ++ .ref (G.b + o) :: st)) (cells := cells) (slots := slots) (locs := locs) (below := below) (meth := meth) (e := e) C.fix hM ⟨⟨rfl, rfl, by show d1 + 1 + 1 ≤ 2048; omega, by show 8 + (maxL + 11) + (60 + 40 * d1) ≤ 84000; omega, pay_in hts q_tb_good, w1⟩, hts _ w1, hts _ w3, w4, fun sig hsig => by rw [hsig] at w5; exact (Option.some.inj w5).symm, hts _ w2, hts _ w6, hts _ w7⟩ ⟨q_blind _ _ _ _, q_rcv hSt.1 hR hT ho hk, fun U hU hW => q_pre (av := .ref o :: As) hSt hS hR U hU hW⟩ rfl (by rw [List.length_map]; exact hn) hl.1 rfl (lv_room (m := m) (pc := pc) (ls := ls) (rest := []) hw) hdg ⟨hcc, hss⟩
  intro T0 hT0 X
  rcases hr T0 hT0 X with ⟨v', st₀, t, T', Lc, h0, X', hL', e1, e2, ⟨⟨r, h1, hv, ⟨q1, q2⟩, hR1⟩, hF⟩, stp⟩ | ⟨q, st₀, t, T', Lc, E, ce, h0, X', hL', e1, e2, ⟨⟨h1, ⟨q1, q2⟩, hR1⟩, hF⟩, hce, hcv', hcl, stp⟩
  · cases hv
    cases q1
    subst q2
    obtain ⟨k1, k2, k3⟩ := vx_keep h0 e1 hS (fun q _ hq => hq) (fun q hq => hq) hL' hF
    obtain ⟨t2, a1, b1⟩ := kk T'.heap (locs ++ Lc) ls (e1 ▸ hR1) k3 hl T' rfl X'
    exact ⟨t2, stp t2 a1, b1⟩
  · cases q1
theorem l_callSX {ix n d1 : Nat} {y : MethodName} {As stk : List Value} {v : Value} {h' : qh} (C : l_C G p s m meth c b L xs) (hcv : q_CsX RL ix y n) (hn : As.length = n) (hd1 : d1 ≤ 2000) (hcc : cells + 1 ≤ 601024) (hss : slots + 6 ≤ 7293034) (hw : (st.map fun v => v.category).sum ≤ 8) (hdg : decode code pc = .ok (.invokestatic ix, 3)) (hstk : stk = (As.map (q_cv G.b)).reverse ++ st)
    (hM : q_M G zN zN d1 1 6 y As h (fun r h1 => r = .inl (some v) ∧ h1 = h')) (kk : l_W G p e s m below meth c b (cells + 1) (slots + 6) zN (pc + 3) lv (q_cv G.b v :: st) h') : l_W G p e s m below meth c b cells slots zN pc lv stk h := by
  intro H locs ls hR hS hl
  subst hstk
  obtain ⟨bytes, maxL, ret, hh, hm, w1, w2, w3, w4, w5, w6⟩ := hcv
  have hts := C.ts
  have hSt := C.2.2
  have hr := vx_runSX (R := room_1) (Ts := q_tb) (As := As.map (q_cv G.b)) (n := n) (bytes := bytes) (maxL := maxL) (ret := ret) (index := ix) (hh := hh) (rest := st) (g := F0 m pc ls ((As.map (q_cv G.b)).reverse ++ st)) (cells := cells) (slots := slots) (locs := locs) (below := below) (meth := meth) (e := e) C.fix hM ⟨⟨rfl, rfl, by show d1 + 1 + 1 ≤ 2048; omega, by show 8 + (maxL + 11) + (60 + 40 * d1) ≤ 84000; omega, pay_in hts q_tb_good, w1⟩, hts _ w1, hts _ w3, w4, fun sig hsig => by rw [hsig] at w5; exact (Option.some.inj w5).symm, hts _ w2, hts _ w6⟩ ⟨q_blind _ _ _ _, fun U hU hW => q_pre (av := As) hSt hS hR U hU hW⟩ rfl (by rw [List.length_map]; exact hn) hl.1 rfl (lv_room (m := m) (pc := pc) (ls := ls) (rest := []) hw) hdg ⟨hcc, hss⟩
  intro T0 hT0 X
  rcases hr T0 hT0 X with ⟨v', st₀, t, T', Lc, h0, X', hL', e1, e2, ⟨⟨r, h1, hv, ⟨q1, q2⟩, hR1⟩, hF⟩, stp⟩ | ⟨q, st₀, t, T', Lc, E, ce, h0, X', hL', e1, e2, ⟨⟨h1, ⟨q1, q2⟩, hR1⟩, hF⟩, hce, hcv', hcl, stp⟩
  · cases hv
    cases q1
    subst q2
    obtain ⟨k1, k2, k3⟩ := vx_keep h0 e1 hS (fun q _ hq => hq) (fun q hq => hq) hL' hF
    obtain ⟨t2, a1, b1⟩ := kk T'.heap (locs ++ Lc) ls (e1 ▸ hR1) k3 hl T' rfl X'
    exact ⟨t2, stp t2 a1, b1⟩
  · cases q1
/-- the long in the law's own cell 83 -/
theorem l_out {v : Int64} (C : l_C G p s m meth c b L xs) (hv : h.L 83 0 = v) (hdg : decode code pc = .ok (.laload, 1)) (kk : l_W G p e s m below meth c b cells slots zN (pc + 1) lv (.long v :: st) h) : l_W G p e s m below meth c b cells slots zN pc lv (.int 0 :: .ref (G.b + 83) :: st) h := by
  intro H locs ls hR hS hl
  have hP := q_P1 hR (o := 83) (by decide) (q_ent_long G zN h (n := 1) rfl)
  have key := kk H locs ls hR hS hl
  subst hv
  exact va_lald C.1.1 C.1.2.1 C.2.2.1 hP 0 3 rfl rfl (n_in (a := 0) (by omega) (by omega)) hdg key
end LR
