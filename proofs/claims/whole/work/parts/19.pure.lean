/-! ===== pure methods of the JDK: addresses as they are, the heap as it was ===== -/
def p_M (G : qG) (d : Nat) (y : MethodName) (av : List Value) (P : State → Prop) (post : Int32 → Prop) : Prop := Met G.l y q_tb (q_rm d 0 0) (fun v U => v = av.toArray ∧ q_St G U U.heap ∧ P U) (vp_Si post) 0 0 (fun _ => False)
def p_L (nL : Nat) (ls : Array Slot) (l : List Value) : Prop := ∃ lv : List (Nat × Value), lv_has ls nL lv ∧ ∀ (j : Nat) (v : Value), l[j]? = some v → v ≠ .null → (j, v) ∈ lv
def p_W (G : qG) (M : qm) (d : Nat) (P : State → Prop) (post : Int32 → Prop) (pc : Nat) (l st : List Value) : Prop :=
  ∀ (p : Program) (e : Env) (s : State) (m : MethodId) (args : Array Value) (below : List Frame) (meth : Method) (c : Code) (ls : Array Slot), q_C G M p s m args meth c → P s → p_L M.nL ls l →
    W p G.l e (q_rm d 0 0) s m args below meth c s.heap [] 0 0 (MQ below (vp_Si post) args s 0 0 (fun _ => False)) (F0 m pc ls st)
theorem p_L.get {nL : Nat} {ls : Array Slot} {l : List Value} (h : p_L nL ls l) {i : Nat} {v : Value} (hl : l[i]? = some v) (hv : v ≠ .null) : ls[i]? = some (.val v) := by
  obtain ⟨lv, h1, h2⟩ := h
  exact h1.2.2 _ (h2 i v hl hv)
theorem p_L.size {nL : Nat} {ls : Array Slot} {l : List Value} (h : p_L nL ls l) : ls.size = nL := by
  obtain ⟨lv, h1, h2⟩ := h
  exact h1.1
theorem p_L.st1 {nL : Nat} {ls' : Array Slot} {l : List Value} {lv : List (Nat × Value)} {i : Nat} {v : Value} (h2 : ∀ (j : Nat) (v : Value), l[j]? = some v → v ≠ .null → (j, v) ∈ lv) (hok : q_ok l i = true) (h : lv_has ls' nL ((i, v) :: lv.filter (fun q => !(q.1 == i) && !(q.1 + 1 == i && q.2.category == 2)))) : p_L nL ls' (l.set i v) := by
  refine ⟨_, h, fun j w hj hw => ?_⟩
  rw [List.getElem?_set] at hj
  by_cases he : i = j
  · subst he
    rw [if_pos rfl] at hj
    split at hj
    · cases hj
      exact List.mem_cons_self
    · cases hj
  · rw [if_neg he] at hj
    refine List.mem_cons_of_mem _ (List.mem_filter.mpr ⟨h2 j w hj hw, ?_⟩)
    have h3 : ¬ (j + 1 = i ∧ w.category = 2) := fun q => q_ok_ne hok hj q.1 q.2
    have h4 : ¬ j = i := fun q => he q.symm
    simp only [Bool.and_eq_true, Bool.not_eq_true', beq_eq_false_iff_ne, Bool.and_eq_false_iff]
    refine ⟨h4, ?_⟩
    by_cases h5 : j + 1 = i
    · exact Or.inr (fun q => h3 ⟨h5, q⟩)
    · exact Or.inl h5
theorem p_args_in : ∀ (av : List Value) (i j : Nat) (v : Value) (n : Nat), (q_args av ++ List.replicate n Value.null)[j]? = some v → v ≠ .null → (i + j, v) ∈ lv_args i av
  | [], i, j, v, n, h, hv => by
    simp only [q_args, List.nil_append, List.getElem?_replicate] at h
    split at h
    · cases h
      exact absurd rfl hv
    · cases h
  | a :: r, i, j, v, n, h, hv => by
    have hl : lv_args i (a :: r) = (i, a) :: lv_args (if a.category = 2 then i + 2 else i + 1) r := rfl
    rw [hl]
    unfold q_args at h
    by_cases hc : a.category = 2
    · rw [if_pos hc] at h ⊢
      match j, h with
      | 0, h => cases h; exact List.mem_cons_self
      | 1, h => cases h; exact absurd rfl hv
      | j + 2, h =>
        have := p_args_in r (i + 2) j v n (by simpa using h) hv
        exact List.mem_cons_of_mem _ (by rw [show i + (j + 2) = i + 2 + j by omega]; exact this)
    · rw [if_neg hc] at h ⊢
      match j, h with
      | 0, h => cases h; exact List.mem_cons_self
      | j + 1, h =>
        have := p_args_in r (i + 1) j v n (by simpa using h) hv
        exact List.mem_cons_of_mem _ (by rw [show i + (j + 1) = i + 1 + j by omega]; exact this)
theorem p_sl_len : ∀ av : List Value, (lg_sl av).length = (q_args av).length
  | [] => rfl
  | a :: r => by
    have ih := p_sl_len r
    simp only [lg_sl] at ih ⊢
    simp only [List.flatMap_cons, List.length_append, q_args, ih]
    by_cases hc : a.category = 2
    · simp [hc]; omega
    · simp [hc]; omega
theorem p_of {G : qG} {M : qm} {d : Nat} {y : MethodName} {av : List Value} {P : State → Prop} {post : Int32 → Prop} (hy : plainFor y = true) (hh : M.hh = []) (ho : y.cls = M.own) (hini : M.ini = false) (hcode : Cond.code y M.cc M.nL M.rt ∈ q_tb) (hlen : (q_args av).length ≤ M.nL)
    (body : p_W G M d P post 0 (q_l0 M.nL av) []) : p_M G d y av P post := by
  unfold p_M Met
  refine MetFree.of_bodySF (code := M.cc) (maxLocals := M.nL) (ret := M.rt) hy ?_ ?_
  · intro args s m h hn
    obtain ⟨meth, c, h1, h2, h3, h4, h5, h6, -, -⟩ := Cond.code_spec hn (atoms_spec (ws := q_tb) h _ hcode)
    exact ⟨meth, c, h1, h2, h3, h4, h5, h6⟩
  · intro p e s m args below meth c s₁ B hml hP _
    have hh0 : s₁.heap = s.heap := by rw [B.state]; rfl
    have hts := atoms_spec (ws := q_tb) B.pre
    have ht : c.exceptionTable.toList = tableOf M.hh := by
      obtain ⟨meth9, c9, h1, h2, -, -, -, -, h7, -⟩ := Cond.code_spec B.named (hts _ hcode)
      cases Option.some.inj (h1.symm.trans B.method)
      cases Option.some.inj (h2.symm.trans (Stand.of_body B).code)
      rw [Array.isEmpty_iff.mp h7, hh]
      rfl
    obtain ⟨rfl, hSt, hP⟩ := hP
    have hown : s.vm.findClass M.own = some m.cls := by rw [← ho]; exact findClass_of_methodNamed B.named
    have hl := lv_entry av (n := M.nL) (by rw [p_sl_len]; exact hlen)
    obtain ⟨t, a1, o, b1, b2, b3⟩ := body p e s m _ below meth c _ ⟨B.exec, B.bytes, hml, hown, hts, B.returns, B.notSynchronized, ht, (fun q => by rw [hini] at q; cases q), hSt⟩ hP ⟨_, hl, fun j v hj hv => by
      have := p_args_in av 0 j v _ hj hv
      rwa [Nat.zero_add] at this⟩ s₁ hh0 (Stand.of_body B)
    rw [lg_entry_eq] at *
    exact ⟨t, o, a1, b1, b2, b3⟩
section PR
variable {G : qG} {M : qm} {d : Nat} {P : State → Prop} {post : Int32 → Prop} {pc : Nat} {l st : List Value}
theorem p_iconst {n : Int} {v : Int32} (hdg : decode M.cc pc = .ok (.iconst n, 1)) (hv : Int32.ofInt n = v) (k : p_W G M d P post (pc + 1) l (.int v :: st)) : p_W G M d P post pc l (st) :=
  fun p e s m args below meth c ls C hP hL => lv_iconst C.1 C.2.1 hdg hv (k p e s m args below meth c ls C hP hL)
theorem p_sipush {n : Int} {v : Int32} (hdg : decode M.cc pc = .ok (.sipush n, 3)) (hv : (Int16.ofInt n).toInt32 = v) (k : p_W G M d P post (pc + 3) l (.int v :: st)) : p_W G M d P post pc l (st) :=
  fun p e s m args below meth c ls C hP hL => lv_sipush C.1 C.2.1 hdg hv (k p e s m args below meth c ls C hP hL)
theorem p_i2b {x : Int32} {v : Int32} (hdg : decode M.cc pc = .ok (.i2b, 1)) (hv : x.toInt8.toInt32 = v) (k : p_W G M d P post (pc + 1) l (.int v :: st)) : p_W G M d P post pc l (.int x :: st) :=
  fun p e s m args below meth c ls C hP hL => lv_i2b C.1 C.2.1 hdg hv (k p e s m args below meth c ls C hP hL)
theorem p_i2c {x : Int32} {v : Int32} (hdg : decode M.cc pc = .ok (.i2c, 1)) (hv : (x.toUInt32 % 65536).toInt32 = v) (k : p_W G M d P post (pc + 1) l (.int v :: st)) : p_W G M d P post pc l (.int x :: st) :=
  fun p e s m args below meth c ls C hP hL => lv_i2c C.1 C.2.1 hdg hv (k p e s m args below meth c ls C hP hL)
theorem p_ishr {x y : Int32} (hdg : decode M.cc pc = .ok (.ishr, 1))  (k : p_W G M d P post (pc + 1) l (.int (x >>> (y &&& 31)) :: st)) : p_W G M d P post pc l (.int y :: .int x :: st) :=
  fun p e s m args below meth c ls C hP hL => lv_ishr C.1 C.2.1 hdg (k p e s m args below meth c ls C hP hL)
theorem p_goto {off : Int} {tgt : Nat} (hdg : decode M.cc pc = .ok (.goto off, 3)) (ht : (pc : Int) + off = (tgt : Int)) (k : p_W G M d P post tgt l st) : p_W G M d P post pc l st :=
  fun p e s m args below meth c ls C hP hL => lv_goto C.1 C.2.1 hdg ht (k p e s m args below meth c ls C hP hL)
theorem p_if_eq {x : Int32} {off : Int} {tgt : Nat} (hdg : decode M.cc pc = .ok (.ifCond .eq off, 3)) (ht : (pc : Int) + off = (tgt : Int)) (kt : x = 0 → p_W G M d P post tgt l st) (kf : ¬ x = 0 → p_W G M d P post (pc + 3) l st) : p_W G M d P post pc l (.int x :: st) :=
  fun p e s m args below meth c ls C hP hL => lv_if_eq C.1 C.2.1 hdg ht (fun q => kt q p e s m args below meth c ls C hP hL) (fun q => kf q p e s m args below meth c ls C hP hL)
theorem p_if_ne {x : Int32} {off : Int} {tgt : Nat} (hdg : decode M.cc pc = .ok (.ifCond .ne off, 3)) (ht : (pc : Int) + off = (tgt : Int)) (kt : ¬ x = 0 → p_W G M d P post tgt l st) (kf : x = 0 → p_W G M d P post (pc + 3) l st) : p_W G M d P post pc l (.int x :: st) :=
  fun p e s m args below meth c ls C hP hL => lv_if_ne C.1 C.2.1 hdg ht (fun q => kt q p e s m args below meth c ls C hP hL) (fun q => kf q p e s m args below meth c ls C hP hL)
theorem p_if_lt {x : Int32} {off : Int} {tgt : Nat} (hdg : decode M.cc pc = .ok (.ifCond .lt off, 3)) (ht : (pc : Int) + off = (tgt : Int)) (kt : x < 0 → p_W G M d P post tgt l st) (kf : ¬ x < 0 → p_W G M d P post (pc + 3) l st) : p_W G M d P post pc l (.int x :: st) :=
  fun p e s m args below meth c ls C hP hL => lv_if_lt C.1 C.2.1 hdg ht (fun q => kt q p e s m args below meth c ls C hP hL) (fun q => kf q p e s m args below meth c ls C hP hL)
theorem p_if_ge {x : Int32} {off : Int} {tgt : Nat} (hdg : decode M.cc pc = .ok (.ifCond .ge off, 3)) (ht : (pc : Int) + off = (tgt : Int)) (kt : 0 ≤ x → p_W G M d P post tgt l st) (kf : ¬ 0 ≤ x → p_W G M d P post (pc + 3) l st) : p_W G M d P post pc l (.int x :: st) :=
  fun p e s m args below meth c ls C hP hL => lv_if_ge C.1 C.2.1 hdg ht (fun q => kt q p e s m args below meth c ls C hP hL) (fun q => kf q p e s m args below meth c ls C hP hL)
theorem p_icmp_ne {x y : Int32} {off : Int} {tgt : Nat} (hdg : decode M.cc pc = .ok (.if_icmp .ne off, 3)) (ht : (pc : Int) + off = (tgt : Int)) (kt : ¬ x = y → p_W G M d P post tgt l st) (kf : x = y → p_W G M d P post (pc + 3) l st) : p_W G M d P post pc l (.int y :: .int x :: st) :=
  fun p e s m args below meth c ls C hP hL => lv_icmp_ne C.1 C.2.1 hdg ht (fun q => kt q p e s m args below meth c ls C hP hL) (fun q => kf q p e s m args below meth c ls C hP hL)
theorem p_icmp_lt {x y : Int32} {off : Int} {tgt : Nat} (hdg : decode M.cc pc = .ok (.if_icmp .lt off, 3)) (ht : (pc : Int) + off = (tgt : Int)) (kt : x < y → p_W G M d P post tgt l st) (kf : ¬ x < y → p_W G M d P post (pc + 3) l st) : p_W G M d P post pc l (.int y :: .int x :: st) :=
  fun p e s m args below meth c ls C hP hL => lv_icmp_lt C.1 C.2.1 hdg ht (fun q => kt q p e s m args below meth c ls C hP hL) (fun q => kf q p e s m args below meth c ls C hP hL)
theorem p_icmp_ge {x y : Int32} {off : Int} {tgt : Nat} (hdg : decode M.cc pc = .ok (.if_icmp .ge off, 3)) (ht : (pc : Int) + off = (tgt : Int)) (kt : y ≤ x → p_W G M d P post tgt l st) (kf : ¬ y ≤ x → p_W G M d P post (pc + 3) l st) : p_W G M d P post pc l (.int y :: .int x :: st) :=
  fun p e s m args below meth c ls C hP hL => lv_icmp_ge C.1 C.2.1 hdg ht (fun q => kt q p e s m args below meth c ls C hP hL) (fun q => kf q p e s m args below meth c ls C hP hL)
theorem p_icmp_gt {x y : Int32} {off : Int} {tgt : Nat} (hdg : decode M.cc pc = .ok (.if_icmp .gt off, 3)) (ht : (pc : Int) + off = (tgt : Int)) (kt : y < x → p_W G M d P post tgt l st) (kf : ¬ y < x → p_W G M d P post (pc + 3) l st) : p_W G M d P post pc l (.int y :: .int x :: st) :=
  fun p e s m args below meth c ls C hP hL => lv_icmp_gt C.1 C.2.1 hdg ht (fun q => kt q p e s m args below meth c ls C hP hL) (fun q => kf q p e s m args below meth c ls C hP hL)
theorem p_iload_n {k : Fin 4} {i : Nat} {x : Int32} (hdg : decode M.cc pc = .ok (.iload_n k, 1)) (hi : (k : Nat) = i) (hl : l[i]? = some (.int x)) (kk : p_W G M d P post (pc + 1) l (.int x :: st)) : p_W G M d P post pc l st :=
  fun p e s m args below meth c ls C hP hL => lv_iload_n C.1 C.2.1 hdg hi (hL.get hl (fun q => by cases q)) (kk p e s m args below meth c ls C hP hL)
theorem p_iload {i : Nat} {x : Int32} (hdg : decode M.cc pc = .ok (.iload i, 2)) (hl : l[i]? = some (.int x)) (kk : p_W G M d P post (pc + 2) l (.int x :: st)) : p_W G M d P post pc l st :=
  fun p e s m args below meth c ls C hP hL => lv_iload C.1 C.2.1 hdg (hL.get hl (fun q => by cases q)) (kk p e s m args below meth c ls C hP hL)
theorem p_aload_n {k : Fin 4} {i : Nat} {x : Nat} (hdg : decode M.cc pc = .ok (.aload_n k, 1)) (hi : (k : Nat) = i) (hl : l[i]? = some (.ref x)) (kk : p_W G M d P post (pc + 1) l (.ref x :: st)) : p_W G M d P post pc l st :=
  fun p e s m args below meth c ls C hP hL => lv_aload_n C.1 C.2.1 hdg hi (hL.get hl (fun q => by cases q)) (kk p e s m args below meth c ls C hP hL)
theorem p_istore_n {k : Fin 4} {i : Nat} {x : Int32} (hdg : decode M.cc pc = .ok (.istore_n k, 1)) (hi : (k : Nat) = i) (hn : i < M.nL) (hok : q_ok l i = true) (kk : p_W G M d P post (pc + 1) (l.set i (.int x)) st) : p_W G M d P post pc l (.int x :: st) :=
  fun p e s m args below meth c ls C hP ⟨lv, h1, h2⟩ => lv_istore_n C.1 C.2.1 hdg hi h1 hn rfl (fun ls' h' => kk p e s m args below meth c ls' C hP (p_L.st1 h2 hok h'))
theorem p_istore {i : Nat} {x : Int32} (hdg : decode M.cc pc = .ok (.istore i, 2)) (hn : i < M.nL) (hok : q_ok l i = true) (kk : p_W G M d P post (pc + 2) (l.set i (.int x)) st) : p_W G M d P post pc l (.int x :: st) :=
  fun p e s m args below meth c ls C hP ⟨lv, h1, h2⟩ => lv_istore C.1 C.2.1 hdg h1 hn rfl (fun ls' h' => kk p e s m args below meth c ls' C hP (p_L.st1 h2 hok h'))
theorem p_iinc {i : Nat} {n : Int} {x v : Int32} (hdg : decode M.cc pc = .ok (.iinc i n, 3)) (hl : l[i]? = some (.int x)) (hv : x + Int32.ofInt n = v) (hn : i < M.nL) (hok : q_ok l i = true) (kk : p_W G M d P post (pc + 3) (l.set i (.int v)) st) : p_W G M d P post pc l st :=
  fun p e s m args below meth c ls C hP ⟨lv, h1, h2⟩ => by
    obtain ⟨k, hk⟩ := List.getElem?_of_mem (h2 i _ hl (fun q => by cases q))
    exact lv_iinc C.1 C.2.1 hdg h1 hk hv hn rfl (fun ls' h' => kk p e s m args below meth c ls' C hP (p_L.st1 h2 hok h'))
theorem p_ret {v : Int32} {ty : FieldType} (hrt : M.rt = some ty) (hn : narrow ty (.int v) = .int v) (hdg : decode M.cc pc = .ok (.ireturn, 1)) (hq : post v) : p_W G M d P post pc l [.int v] :=
  fun p e s m args below meth c ls C hP hL => W.zret C.1 C.2.1 (C.2.2.2.2.2.1.trans hrt) hn (fun t ht hW => ⟨v, rfl, hq, ht⟩) (fun q hq => by cases hq) hdg C.2.2.2.2.2.2.1
theorem p_gets {C' n ds : String} {ix : Nat} {v : Value} (hZ : ∀ s, P s → va_Z C' n ds v (q_A G) s s.heap) (hw : Cond.fieldLink M.own ix C' n ds ∈ q_tb) (hdg : decode M.cc pc = .ok (.getstatic ix, 3)) (kk : p_W G M d P post (pc + 3) l (v :: st)) : p_W G M d P post pc l st :=
  fun p e s m args below meth c ls C hP hL => va_gets C.1 C.2.1 (hZ s hP) va_S.rf C.2.2.2.1 (C.2.2.2.2.1 _ hw) (fun x hx => hx) hdg (kk p e s m args below meth c ls C hP hL)
theorem p_getf {o n ds : String} {ix q : Nat} {v : Value} (hE : ∀ s, P s → va_OF o n ds v q (q_A G) s s.heap) (hw : Cond.fieldLink M.own ix o n ds ∈ q_tb) (hdg : decode M.cc pc = .ok (.getfield ix, 3)) (kk : p_W G M d P post (pc + 3) l (v :: st)) : p_W G M d P post pc l (.ref q :: st) :=
  fun p e s m args below meth c ls C hP hL => vk_getf C.1 C.2.1 (hE s hP) va_S.rf C.2.2.2.1 (C.2.2.2.2.1 _ hw) (fun x hx => hx) hdg (kk p e s m args below meth c ls C hP hL)
theorem p_bald {t N : Nat} {f : Nat → Int32} {i : Int32} (hT : ∀ s, P s → va_T .byte t N (fun j => .int (f j)) (q_A G) s s.heap) (hin : vp_in i N) (hdg : decode M.cc pc = .ok (.baload, 1)) (kk : p_W G M d P post (pc + 1) l (.int (f i.toNatClampNeg) :: st)) : p_W G M d P post pc l (.int i :: .ref t :: st) :=
  fun p e s m args below meth c ls C hP hL => va_tb C.1 C.2.1 (hT s hP) va_S.rf hin (v := .int (f i.toNatClampNeg)) rfl hdg (kk p e s m args below meth c ls C hP hL)
theorem p_alen {t N : Nat} {f : Nat → Int32} (hT : ∀ s, P s → va_T .byte t N (fun j => .int (f j)) (q_A G) s s.heap) (hdg : decode M.cc pc = .ok (.arraylength, 1)) (kk : p_W G M d P post (pc + 1) l (.int (Int32.ofNat N) :: st)) : p_W G M d P post pc l (.ref t :: st) :=
  fun p e s m args below meth c ls C hP hL => va_tlen C.1 C.2.1 (hT s hP) va_S.rf rfl hdg (kk p e s m args below meth c ls C hP hL)
theorem p_callV {ix n d1 a : Nat} {y : MethodName} {As stk : List Value} {P1 : State → Prop} {post1 : Int32 → Prop} (hcv : q_Cv M.own ix y n) (hP1 : ∀ s U : State, U.heap = s.heap → s.vm.Alike U.vm → P s → P1 U) (hP1b : ∀ (U U' : State), U'.heap = U.heap → U'.vm = U.vm → P1 U → P1 U') (hrc : ∀ s, P s → va_O y.cls a (q_A G) s s.heap) (hn : As.length = n) (hd1 : d1 + 1 ≤ d) (hw : (st.map fun v => v.category).sum ≤ 8) (hdg : decode M.cc pc = .ok (.invokevirtual ix, 3)) (hstk : stk = As.reverse ++ .ref a :: st)
    (hM : p_M G d1 y (.ref a :: As) P1 post1) (kk : ∀ r, post1 r → p_W G M d P post (pc + 3) l (.int r :: st)) : p_W G M d P post pc l stk := by
  intro p e s m args below meth c ls C hP hL
  subst hstk
  obtain ⟨⟨bytes, maxL, ret, hm, w1, w2, w3, w4, w5⟩, w6, w7⟩ := hcv
  have hts := C.2.2.2.2.1
  have hSt : q_St G s s.heap := C.2.2.2.2.2.2.2.2.2
  refine vp_callSi (W.runV (Ts := q_tb) (C := y.cls) (b := a) (As := As) (n := n) (bytes := bytes) (maxL := maxL) (ret := ret) (index := ix) ⟨C.1, C.2.1, C.2.2.1, C.2.2.2.1, hts⟩ hM ?_ ?_ rfl hn hL.size rfl (lv_room (m := m) (pc := pc) (ls := ls) (rest := []) hw) hdg ⟨Nat.le_refl _, Nat.le_refl _⟩) (fun r hr => kk r hr p e s m args below meth c ls C hP hL)
  · refine ⟨⟨rfl, rfl, by simp [q_rm]; omega, by simp [q_rm]; omega, pay_in hts q_tb_good, w1, hts _ w1, hts _ w3, w4, fun sig hsig => ?_, hts _ w2⟩, hts _ w6, hts _ w7⟩
    rw [hsig] at w5
    exact (Option.some.inj w5).symm
  · obtain ⟨cell, h1, h2, h3, h4⟩ := hrc s hP
    exact ⟨fun a U g mk ⟨q1, q2, q3⟩ => ⟨q1, q2.to (State.WarmedH.refl U) (fun _ _ => rfl), hP1b U _ rfl rfl q3⟩, ⟨cell, h1, h2, h3⟩, fun U hU hW => ⟨rfl, by rw [hU]; exact hSt.to hW (fun _ _ => rfl), hP1 s U hU hW.alike hP⟩⟩
theorem p_callS {ix n d1 : Nat} {y : MethodName} {As stk : List Value} {P1 : State → Prop} {post1 : Int32 → Prop} (hcv : q_Cs M.own ix y n) (hP1 : ∀ s U : State, U.heap = s.heap → s.vm.Alike U.vm → P s → P1 U) (hP1b : ∀ (U U' : State), U'.heap = U.heap → U'.vm = U.vm → P1 U → P1 U') (hn : As.length = n) (hd1 : d1 + 1 ≤ d) (hw : (st.map fun v => v.category).sum ≤ 8) (hdg : decode M.cc pc = .ok (.invokestatic ix, 3)) (hstk : stk = As.reverse ++ st)
    (hM : p_M G d1 y As P1 post1) (kk : ∀ r, post1 r → p_W G M d P post (pc + 3) l (.int r :: st)) : p_W G M d P post pc l stk := by
  intro p e s m args below meth c ls C hP hL
  subst hstk
  obtain ⟨⟨bytes, maxL, ret, hm, w1, w2, w3, w4, w5⟩, w6⟩ := hcv
  have hts := C.2.2.2.2.1
  have hSt : q_St G s s.heap := C.2.2.2.2.2.2.2.2.2
  refine vp_callSi (W.runS (Ts := q_tb) (As := As) (n := n) (bytes := bytes) (maxL := maxL) (ret := ret) (index := ix) ⟨C.1, C.2.1, C.2.2.1, C.2.2.2.1, hts⟩ hM ?_ ?_ rfl hn hL.size rfl (lv_room (m := m) (pc := pc) (ls := ls) (rest := []) hw) hdg ⟨Nat.le_refl _, Nat.le_refl _⟩) (fun r hr => kk r hr p e s m args below meth c ls C hP hL)
  · refine ⟨⟨rfl, rfl, by simp [q_rm]; omega, by simp [q_rm]; omega, pay_in hts q_tb_good, w1, hts _ w1, hts _ w3, w4, fun sig hsig => ?_, hts _ w2⟩, hts _ w6⟩
    rw [hsig] at w5
    exact (Option.some.inj w5).symm
  · exact ⟨fun a U g mk ⟨q1, q2, q3⟩ => ⟨q1, q2.to (State.WarmedH.refl U) (fun _ _ => rfl), hP1b U _ rfl rfl q3⟩, fun U hU hW => ⟨rfl, by rw [hU]; exact hSt.to hW (fun _ _ => rfl), hP1 s U hU hW.alike hP⟩⟩
end PR
