/-- what stays as it was at the law's entry: the tables, the cells that were there, what the Statement gives -/
def q_St (G : qG) (U : State) (H : Heap) : Prop := va_K G.D vwCl (q_tys G) U ∧ ∃ (s0 : State) (a0 : Array Value), s0.WarmedH U.vm ∧ s0.heap.size = G.b ∧ (∀ q : Nat, q < G.b → H[q]? = s0.heap[q]?) ∧ (Jvm.Cond.and given_1 narrow_1).before a0 s0 = true ∧ (∀ w ∈ lw_tbl, w.before a0 s0 = true) ∧ G.l.stackTraces = false
theorem q_St.to {G : qG} {s U : State} {H H' : Heap} (h : q_St G s H) (hW : s.WarmedH U.vm) (hH : ∀ q : Nat, q < G.b → H'[q]? = H[q]?) : q_St G U H' := by
  obtain ⟨hK, s0, a0, h1, h2, h3, h4⟩ := h
  exact ⟨va_K.moved hW.alike hK, s0, a0, State.WarmedH.trans h1 hW, h2, fun q hq => (hH q hq).trans (h3 q hq), h4⟩
def q_rm (d mc ms : Nat) : Room := { frames := d + 1, cells := mc, slots := ms, locals := 60 + 40 * d }
/-- how a method starts, ends, throws -/
def q_P (G : qG) (z : qz) (av : List Value) (h : qh) : Array Value → State → Prop := fun v U => v = (av.map (q_cv G.b)).toArray ∧ q_St G U U.heap ∧ q_R G z h U.heap
def q_Q (G : qG) (z : qz) (Q : qr → qh → Prop) : Array Value → State → Outcome → State → Prop := fun _ st oc t => (∃ (r : Option Value) (h : qh), oc = .returned (r.map (q_cv G.b)) ∧ Q (.inl r) h ∧ q_R G z h t.heap) ∧ va_F (q_A G) st t
def q_X (G : qG) (z : qz) (Q : qr → qh → Prop) : String → State → State → Prop := fun E st t => (∃ h : qh, Q (.inr E) h ∧ q_R G z h t.heap) ∧ va_F (q_A G) st t
/-- METHOD y, begun with av over the heap h, ends so that Q: d calls deep at the most, mc new cells of ms slots -/
def q_M (G : qG) (z z' : qz) (d mc ms : Nat) (y : MethodName) (av : List Value) (h : qh) (Q : qr → qh → Prop) : Prop :=
  vx_Met G.l y q_tb (q_rm d mc ms) (q_P G z av h) (q_Q G z' Q) (q_X G z' Q) mc ms (q_A G)
/-- the locals: those that are known; null stands for what isn't -/
def q_L (b nL : Nat) (ls : Array Slot) (l : List Value) : Prop := ∃ lv : List (Nat × Value), lv_has ls nL lv ∧ ∀ (j : Nat) (v : Value), l[j]? = some v → v ≠ .null → (j, q_cv b v) ∈ lv
/-- where a body stands -/
def q_C (G : qG) (M : qm) (p : Program) (s : State) (m : MethodId) (args : Array Value) (meth : Method) (c : Code) : Prop :=
  p.tables.exec = Jvm.exec ∧ c.code = M.cc ∧ c.maxLocals = M.nL ∧ s.vm.findClass M.own = some m.cls ∧ (∀ w ∈ q_tb, w.before args s = true) ∧ meth.sig.returnType = M.rt ∧ meth.locks = false ∧ c.exceptionTable.toList = tableOf M.hh ∧ (M.ini = true → meth.name = "<init>") ∧ q_St G s s.heap
/-- THE BODY M, at pc, with locals, stack and heap, comes to its end so that Q -/
def q_W (G : qG) (M : qm) (z' : qz) (d mc ms : Nat) (Q : qr → qh → Prop) (cells slots : Nat) (z : qz) (pc : Nat) (l st : List Value) (h : qh) : Prop :=
  ∀ (p : Program) (e : Env) (s : State) (m : MethodId) (args : Array Value) (below : List Frame) (meth : Method) (c : Code) (H : Heap) (locs : List Loc) (ls : Array Slot), q_C G M p s m args meth c → q_R G z h H → va_S (q_A G) s.heap H locs → q_L G.b M.nL ls l →
    W p G.l e (q_rm d mc ms) s m args below meth c H locs cells slots (vx_MQ below (q_Q G z' Q) (q_X G z' Q) args s mc ms (q_A G)) (F0 m pc ls (st.map (q_cv G.b)))
theorem q_L.get {b nL : Nat} {ls : Array Slot} {l : List Value} (h : q_L b nL ls l) {i : Nat} {v : Value} (hl : l[i]? = some v) (hv : v ≠ .null) : ls[i]? = some (.val (q_cv b v)) := by
  obtain ⟨lv, h1, h2⟩ := h
  exact h1.2.2 _ (h2 i v hl hv)
theorem q_L.size {b nL : Nat} {ls : Array Slot} {l : List Value} (h : q_L b nL ls l) : ls.size = nL := by
  obtain ⟨lv, h1, h2⟩ := h
  exact h1.1
theorem q_cv_cat (b : Nat) (v : Value) : (q_cv b v).category = v.category := by cases v <;> rfl
/-- place i may be written without hurting a long that begins ahead of it -/
def q_ok (l : List Value) : Nat → Bool
  | 0 => true
  | i + 1 => match l[i]? with
    | some v => v.category != 2
    | none => true
theorem q_ok_ne {l : List Value} {i j : Nat} {v : Value} (h : q_ok l i = true) (hl : l[j]? = some v) (hj : j + 1 = i) : ¬ v.category = 2 := by
  subst hj
  simp only [q_ok, hl] at h
  simpa using h
theorem q_L.st1 {b nL : Nat} {ls' : Array Slot} {l : List Value} {lv : List (Nat × Value)} {i : Nat} {v : Value} (h2 : ∀ (j : Nat) (v : Value), l[j]? = some v → v ≠ .null → (j, q_cv b v) ∈ lv) (hok : q_ok l i = true) (h : lv_has ls' nL ((i, q_cv b v) :: lv.filter (fun q => !(q.1 == i) && !(q.1 + 1 == i && q.2.category == 2)))) : q_L b nL ls' (l.set i v) := by
  refine ⟨_, h, fun j w hj hw => ?_⟩
  rw [List.getElem?_set] at hj
  by_cases he : i = j
  · subst he
    rw [if_pos rfl] at hj
    split at hj
    · cases hj
      exact List.mem_cons_self
    · cases hj
  · rw [if_neg he] at hj
    refine List.mem_cons_of_mem _ (List.mem_filter.mpr ⟨h2 j w hj hw, ?_⟩)
    have h3 : ¬ (j + 1 = i ∧ (q_cv b w).category = 2) := fun q => q_ok_ne hok hj q.1 (by rw [← q_cv_cat b]; exact q.2)
    have h4 : ¬ j = i := fun q => he q.symm
    simp only [Bool.and_eq_true, Bool.not_eq_true', beq_eq_false_iff_ne, Bool.and_eq_false_iff]
    refine ⟨h4, ?_⟩
    by_cases h5 : j + 1 = i
    · exact Or.inr (fun q => h3 ⟨h5, q⟩)
    · exact Or.inl h5
theorem q_L.st2 {b nL : Nat} {ls' : Array Slot} {l : List Value} {lv : List (Nat × Value)} {i : Nat} {v : Value} (h2 : ∀ (j : Nat) (v : Value), l[j]? = some v → v ≠ .null → (j, q_cv b v) ∈ lv) (hok : q_ok l i = true) (h : lv_has ls' nL ((i, q_cv b v) :: lv.filter (fun q => !(q.1 == i) && (!(q.1 == i + 1) && !(q.1 + 1 == i && q.2.category == 2))))) : q_L b nL ls' ((l.set i v).set (i + 1) .null) := by
  refine ⟨_, h, fun j w hj hw => ?_⟩
  rw [List.getElem?_set] at hj
  by_cases he : i + 1 = j
  · rw [if_pos he] at hj
    split at hj
    · cases hj
      exact absurd rfl hw
    · cases hj
  rw [if_neg he, List.getElem?_set] at hj
  by_cases he2 : i = j
  · subst he2
    rw [if_pos rfl] at hj
    split at hj
    · cases hj
      exact List.mem_cons_self
    · cases hj
  · rw [if_neg he2] at hj
    refine List.mem_cons_of_mem _ (List.mem_filter.mpr ⟨h2 j w hj hw, ?_⟩)
    have h3 : ¬ (j + 1 = i ∧ (q_cv b w).category = 2) := fun q => q_ok_ne hok hj q.1 (by rw [← q_cv_cat b]; exact q.2)
    have h4 : ¬ j = i := fun q => he2 q.symm
    have h6 : ¬ j = i + 1 := fun q => he q.symm
    simp only [Bool.and_eq_true, Bool.not_eq_true', beq_eq_false_iff_ne, Bool.and_eq_false_iff]
    refine ⟨h4, h6, ?_⟩
    by_cases h5 : j + 1 = i
    · exact Or.inr (fun q => h3 ⟨h5, q⟩)
    · exact Or.inl h5
def q_args : List Value → List Value
  | [] => []
  | v :: r => if v.category = 2 then v :: .null :: q_args r else v :: q_args r
theorem q_args_in (b : Nat) : ∀ (av : List Value) (i j : Nat) (v : Value) (n : Nat), (q_args av ++ List.replicate n Value.null)[j]? = some v → v ≠ .null → (i + j, q_cv b v) ∈ lv_args i (av.map (q_cv b))
  | [], i, j, v, n, h, hv => by
    simp only [q_args, List.nil_append, List.getElem?_replicate] at h
    split at h
    · cases h
      exact absurd rfl hv
    · cases h
  | a :: r, i, j, v, n, h, hv => by
    have hl : lv_args i ((a :: r).map (q_cv b)) = (i, q_cv b a) :: lv_args (if a.category = 2 then i + 2 else i + 1) (r.map (q_cv b)) := by
      show (i, q_cv b a) :: lv_args (if (q_cv b a).category = 2 then i + 2 else i + 1) (r.map (q_cv b)) = _
      rw [q_cv_cat]
    rw [hl]
    unfold q_args at h
    by_cases hc : a.category = 2
    · rw [if_pos hc] at h ⊢
      match j, h with
      | 0, h => cases h; exact List.mem_cons_self
      | 1, h => cases h; exact absurd rfl hv
      | j + 2, h =>
        have := q_args_in b r (i + 2) j v n (by simpa using h) hv
        exact List.mem_cons_of_mem _ (by rw [show i + (j + 2) = i + 2 + j by omega]; exact this)
    · rw [if_neg hc] at h ⊢
      match j, h with
      | 0, h => cases h; exact List.mem_cons_self
      | j + 1, h =>
        have := q_args_in b r (i + 1) j v n (by simpa using h) hv
        exact List.mem_cons_of_mem _ (by rw [show i + (j + 1) = i + 1 + j by omega]; exact this)
theorem q_sl_len (b : Nat) : ∀ av : List Value, (lg_sl (av.map (q_cv b))).length = (q_args av).length
  | [] => rfl
  | a :: r => by
    have ih := q_sl_len b r
    simp only [lg_sl] at ih ⊢
    simp only [List.map_cons, List.flatMap_cons, List.length_append, q_cv_cat, q_args, ih]
    by_cases hc : a.category = 2
    · simp [hc]; omega
    · simp [hc]; omega
def q_l0 (nL : Nat) (av : List Value) : List Value := q_args av ++ List.replicate (nL - (q_args av).length) Value.null
/-- a body without a table -/
theorem q_of {G : qG} {M : qm} {z z' : qz} {d mc ms : Nat} {y : MethodName} {av : List Value} {h : qh} {Q : qr → qh → Prop} (hy : plainFor y = true) (hh : M.hh = []) (ho : y.cls = M.own) (hcode : Cond.code y M.cc M.nL M.rt ∈ q_tb) (hini : M.ini = true → y.name = "<init>") (hlen : (q_args av).length ≤ M.nL)
    (body : q_W G M z' d mc ms Q 0 0 z 0 (q_l0 M.nL av) [] h) : q_M G z z' d mc ms y av h Q := by
  refine MetFree.of_bodySF (code := M.cc) (maxLocals := M.nL) (ret := M.rt) hy ?_ ?_
  · intro args s m h hn
    obtain ⟨meth, c, h1, h2, h3, h4, h5, h6, -, -⟩ := Cond.code_spec hn (atoms_spec (ws := q_tb) h _ hcode)
    exact ⟨meth, c, h1, h2, h3, h4, h5, h6⟩
  · intro p e s m args below meth c s₁ B hml hP _
    have hh0 : s₁.heap = s.heap := by rw [B.state]; rfl
    have hts := atoms_spec (ws := q_tb) B.pre
    have ht : c.exceptionTable.toList = tableOf M.hh := by
      obtain ⟨meth9, c9, h1, h2, -, -, -, -, h7, -⟩ := Cond.code_spec B.named (hts _ hcode)
      cases Option.some.inj (h1.symm.trans B.method)
      cases Option.some.inj (h2.symm.trans (Stand.of_body B).code)
      rw [Array.isEmpty_iff.mp h7, hh]
      rfl
    obtain ⟨rfl, hSt, hR⟩ := hP
    have hown : s.vm.findClass M.own = some m.cls := by rw [← ho]; exact findClass_of_methodNamed B.named
    have hl := lv_entry (av.map (q_cv G.b)) (n := M.nL) (by rw [q_sl_len]; exact hlen)
    obtain ⟨t, a1, o, b1, b2, b3⟩ := body p e s m _ below meth c s.heap [] _ ⟨B.exec, B.bytes, hml, hown, hts, B.returns, B.notSynchronized, ht, fun q => (name_of_methodNamed B.named B.method).1.trans (hini q), hSt⟩ hR va_S.rf ⟨_, hl, fun j v hj hv => by
      have := q_args_in G.b av 0 j v _ hj hv
      rwa [Nat.zero_add] at this⟩ s₁ hh0 (Stand.of_body B)
    rw [lg_entry_eq] at *
    exact ⟨t, o, a1, b1, b2, b3⟩
