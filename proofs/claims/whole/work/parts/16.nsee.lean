/-! ===== 'throw new NoSuchElementException(text)' of TokenCircuit's own methods ===== -/
set_option maxHeartbeats 4000000 in
theorem q_nsee {G : qG} {M : qm} {z : qz} {d mc ms : Nat} {Q : qr → qh → Prop} {cells slots pc is : Nat} {l st : List Value} {h : qh} {text : String} (hM : M.own = RX10) (hex : z.ex = false)
    (hw : Cond.stringRef RX10 is text ∈ lw_tbl) (hx : ∀ (a0 : Array Value) (s0 : State), (Jvm.Cond.and given_1 narrow_1).before a0 s0 = true → (Cond.exactly (.string RX10 is) "java/lang/String").before a0 s0 = true)
    (hlk : Cond.classLink RX10 120 "java/util/NoSuchElementException" ∈ q_tb) (hin : Cond.initialized "java/util/NoSuchElementException" ∈ q_tb)
    (d0 : decode M.cc pc = .ok (.new 120, 3)) (d3 : decode M.cc (pc + 3) = .ok (.dup, 1)) (d4 : decode M.cc (pc + 4) = .ok (.ldc is, 2)) (d6 : decode M.cc (pc + 6) = .ok (.invokespecial 124, 3)) (d9 : decode M.cc (pc + 9) = .ok (.athrow, 1))
    (hout : ∀ x ∈ tableOf M.hh, covers x (pc + 9) = false) (hd : 5 ≤ d) (hc : cells + 1 ≤ mc) (hs : slots + 6 ≤ ms) (hst : (st.map fun v => v.category).sum ≤ 8) (hq : Q (.inr "java/util/NoSuchElementException") h) : q_W G M z d mc ms Q cells slots z pc l st h := by
  intro p e s m args below meth c H locs ls C hR hS hL T hT X
  have hSt : q_St G s s.heap := C.2.2.2.2.2.2.2.2.2
  have hStH : q_St G s H := hSt.to (State.WarmedH.refl s) (q_old hSt hSt.b hS)
  have htr : e.platform.stackTraces = false := (show e.platform.stackTraces = G.l.stackTraces by rw [X.admits.platform]).trans hSt.2.choose_spec.choose_spec.2.2.2.2.2
  have hb := C.2.1
  have hown : s.vm.findClass RX10 = some m.cls := by rw [← hM]; exact C.2.2.2.1
  have Y := vx_rebase X (R' := { frames := d + 1, locals := 60 + 40 * d, cells := 1, slots := 6 }) (Nat.le_refl _) (Nat.le_refl _) hc hs
  obtain ⟨s', hA⟩ : ∃ w, w = (T.setVm s.vm).setFrames (.invoking m args :: below) := ⟨_, rfl⟩
  rw [← hA] at Y
  have hvm : s'.vm = s.vm := by rw [hA]; rfl
  have hhp : s'.heap = H := by rw [hA]; exact hT
  have hW0 : s.WarmedH s'.vm := by rw [hvm]; exact State.WarmedH.refl s
  have hSt' : q_St G s' H := hStH.to hW0 (fun q _ => rfl)
  have hca := q_thS (args := args) hSt' hhp q_nseeA
  have hown' : s'.vm.findClass RX10 = some m.cls := by rw [hvm]; exact hown
  have hts : ∀ w ∈ q_tb, w.before args s' = true := fun w hw => word_at hW0 (q_tb_good w hw).2 (C.2.2.2.2.1 w hw)
  have hins : (Cond.instantiable "java/util/NoSuchElementException" 6).before args s' = true := hca _ (by simp [q_ca])
  obtain ⟨vm₁, cX, kX, hfX, hkX, -, -, X₁, st1⟩ := Y.newCold C.1 (own := RX10) (C := "java/util/NoSuchElementException") (index := 120) (n := 6) hown' (hts _ hlk) hins (hts _ hin)
    (g := F0 m pc ls (st.map (q_cv G.b))) rfl (by rw [hb]; exact d0) (Nat.le_refl _) (Nat.le_refl _)
  generalize hT1 : (T.setVm vm₁).pushCell { cls := cX, slots := kX.instanceTypes.map defaultValue, vm := .none } = T1 at X₁ st1
  have hcellA : T1.heap[T.heap.size]? = some (freshCell cX kX) := by rw [← hT1]; exact State.heap_pushCell_size _ _
  obtain ⟨sa, hstr⟩ := q_str hSt' hw hx
  have hcat : (Value.ref T.heap.size).category = 1 := rfl
  have hsum := q_sum G.b st
  obtain ⟨V', locs', ce, X₂, hl', hce, hcc, hcv, hsz, hkeep, st2⟩ := q_ctor X₁ C.1 htr (own := RX10) (cls := "java/util/NoSuchElementException") (ic := 124) (ix := 13) (bytes := prog_25_method_4_code) hown' (by decide +kernel) (by decide +kernel) (by decide +kernel) (by decide +kernel) (by decide +kernel)
    hca (fun x hx => nomatch hx) hfX hkX hcellA (msg := .ref sa) rfl
    (g := { method := m, pc := pc + 6, locals := ls, stack := .ref sa :: .ref T.heap.size :: .ref T.heap.size :: st.map (q_cv G.b), locked := none }) rfl (hL.size.trans C.2.2.1.symm) (rest := .ref T.heap.size :: st.map (q_cv G.b)) rfl
    (by rw [hb]; exact d6) (by show 5 < d + 1; omega) (by
      simp only [List.map_cons, List.sum_cons, hcat]
      rw [hsum]
      show 2 * 0 + (1 + (List.map (fun v => v.category) st).sum) + 81 ≤ 60 + 40 * d
      omega)
  obtain ⟨hwalk, hrun, hend, hWU, hsame⟩ := X₂.athrowLeaves C.1 (g := { method := m, pc := pc + 9, locals := ls, stack := .ref T.heap.size :: st.map (q_cv G.b), locked := none }) rfl rfl rfl (by rw [C.2.2.2.2.2.2.2.1]; exact hout) (a := T.heap.size) (rest := st.map (q_cv G.b)) rfl (by rw [hb]; exact d9) C.2.2.2.2.2.2.1
  have hWs : s.WarmedH (V'.setFrames (.throwing T.heap.size :: below)).vm := State.WarmedH.trans hW0 hWU
  have hT1h : ∀ q, q < H.size → T1.heap[q]? = H[q]? := by
    intro q hq
    rw [← hT1, ← hT]
    show (T.heap.push _)[q]? = T.heap[q]?
    rw [Array.getElem?_push, if_neg (by rw [← hT] at hq; omega)]
  have hT1s : T1.heap.size = H.size + 1 := by
    rw [← hT1, ← hT]
    show (T.heap.push _).size = _
    simp
  have hV : ∀ q, q < H.size → V'.heap[q]? = H[q]? := fun q hq => by
    rw [hkeep q (fun w => by rw [w, hT] at hq; exact absurd hq (Nat.lt_irrefl _))]
    exact hT1h q hq
  have hRV : q_R G z h V'.heap := by
    refine ⟨fun k q hk => ?_, by rw [hsz, hT1s]; have := hR.2.1; omega, fun q => by rw [hex] at q; cases q⟩
    have h1 := hR.1 k q hk
    exact h1.kept (hV _ h1.lt)
  have hSV : va_S (q_A G) s.heap V'.heap locs := ⟨by rw [hsz, hT1s]; have := hS.1; omega, fun q h1 h2 => by rw [hV q (Nat.lt_of_lt_of_le h1 hS.1)]; exact hS.2.1 q h1 h2, hS.2.2⟩
  have hall : s.sameButNew ({ V'.setFrames (.throwing T.heap.size :: below) with vm := s.vm } : State) locs mc ms := by
    have hs2 := hsame.weaken (l' := []) (fun y hy hlt' => by
      rcases hl' y hy with h1 | h1
      · exact h1
      · rw [h1, hhp, ← hT] at hlt'
        exact absurd hlt' (Nat.lt_irrefl _)) (Nat.le_refl _) (Nat.le_refl _)
    subst hA
    obtain ⟨e1, e2⟩ := hs2
    rw [State.setFrames_setFrames] at e1
    have h2 : (T.setVm s.vm).sameButNew ({ V'.setFrames (.throwing T.heap.size :: below) with vm := s.vm } : State) [] (0 + 1) (0 + 6) := ⟨e1, e2⟩
    have h3 := X.same.trans h2
    rw [List.append_nil] at h3
    exact h3.mono hc hs
  refine ⟨_, ?_, .threw T.heap.size, hrun, hend, Or.inr ⟨T.heap.size, rfl, "java/util/NoSuchElementException", ce, locs, ⟨⟨h, hq, hRV⟩, q_F (H := V'.heap) hSV rfl⟩, hce, hcv, by rw [hcc, ← hvm]; exact hfX, hWs, hall, hS.2.2⟩⟩
  refine st1 _ ?_
  show Steps p.tables e below (T1.setTop { method := m, pc := pc + 3, locals := ls, stack := .ref T.heap.size :: st.map (q_cv G.b), locked := none }) _
  have d3' : decode c.code (pc + 3) = .ok (.dup, 1) := by rw [hb]; exact d3
  have d4' : decode c.code (pc + 4) = .ok (.ldc is, 2) := by rw [hb]; exact d4
  jvm_step X₁.here [X₁.here.top, C.1, d3', Value.category]
  exact X₁.ldcString C.1 (own := RX10) (text := text) (index := is) (a := sa) hown' hstr.1 hstr.2
    (g := { method := m, pc := pc + 4, locals := ls, stack := .ref T.heap.size :: .ref T.heap.size :: st.map (q_cv G.b), locked := none }) rfl d4' _ (st2 _ hwalk)
