/-! ===== 'new IllegalStateException(text)' in the reference's constructor ===== -/
theorem q_iseL : Cond.classLink RX12 33 "java/lang/IllegalStateException" ∈ q_tb ∧ Cond.initialized "java/lang/IllegalStateException" ∈ q_tb ∧ Cond.stringRef RX12 35 "refused" ∈ lw_tbl := by decide +kernel
theorem q_iseX : ∀ (a0 : Array Value) (s0 : State), (Jvm.Cond.and given_1 narrow_1).before a0 s0 = true → (Cond.exactly (.string RX12 35) "java/lang/String").before a0 s0 = true := fun a0 s0 h => flat_of_before _ h _ (by decide +kernel)
set_option maxHeartbeats 4000000 in
theorem q_ise {G : qG} {M : qm} {z z' : qz} {d mc ms : Nat} {Q : qr → qh → Prop} {cells slots pc : Nat} {l st : List Value} {h : qh} (hM : M.own = RX12) (hex : z.ex = true) (hk : q_K z.n = (0, 0))
    (d0 : decode M.cc pc = .ok (.new 33, 3)) (d3 : decode M.cc (pc + 3) = .ok (.dup, 1)) (d4 : decode M.cc (pc + 4) = .ok (.ldc 35, 2)) (d6 : decode M.cc (pc + 6) = .ok (.invokespecial 37, 3))
    (hd : 5 ≤ d) (hc : cells + 1 ≤ mc) (hs : slots + 6 ≤ ms) (hst : (st.map fun v => v.category).sum ≤ 8) (kk : q_W G M z' d mc ms Q (cells + 1) (slots + 6) z.one (pc + 9) l (.ref z.n :: st) (h.clr z.n)) : q_W G M z' d mc ms Q cells slots z pc l st h := by
  intro p e s m args below meth c H locs ls C hR hS hL T hT X
  have hSt : q_St G s s.heap := C.2.2.2.2.2.2.2.2.2
  have hStH : q_St G s H := hSt.to (State.WarmedH.refl s) (q_old hSt hSt.b hS)
  have htr : e.platform.stackTraces = false := (show e.platform.stackTraces = G.l.stackTraces by rw [X.admits.platform]).trans hSt.2.choose_spec.choose_spec.2.2.2.2.2
  have hb := C.2.1
  have hown : s.vm.findClass RX12 = some m.cls := by rw [← hM]; exact C.2.2.2.1
  have hts := C.2.2.2.2.1
  have hsz := hR.2.2 hex
  have hca := q_thS (args := args) hSt rfl q_iseA
  have hins : (Cond.instantiable "java/lang/IllegalStateException" 6).before args s = true := hca _ (by simp [q_ca])
  obtain ⟨vm₁, cX, kX, hfX, hkX, -, -, X₁, st1⟩ := X.newCold C.1 (own := RX12) (C := "java/lang/IllegalStateException") (index := 33) (n := 6) hown (hts _ q_iseL.1) hins (hts _ q_iseL.2.1)
    (g := F0 m pc ls (st.map (q_cv G.b))) rfl (by rw [hb]; exact d0) hc hs
  generalize hT1 : (T.setVm vm₁).pushCell { cls := cX, slots := kX.instanceTypes.map defaultValue, vm := .none } = T1 at X₁ st1
  have hcellA : T1.heap[T.heap.size]? = some (freshCell cX kX) := by rw [← hT1]; exact State.heap_pushCell_size _ _
  have hT1h : ∀ q, q < H.size → T1.heap[q]? = H[q]? := by
    intro q hq
    rw [← hT1, ← hT]
    show (T.heap.push _)[q]? = T.heap[q]?
    rw [Array.getElem?_push, if_neg (by rw [← hT] at hq; omega)]
  have hT1s : T1.heap.size = H.size + 1 := by
    rw [← hT1, ← hT]
    show (T.heap.push _).size = _
    simp
  obtain ⟨sa, hstr⟩ := q_str hSt q_iseL.2.2 q_iseX
  have hcat : (Value.ref T.heap.size).category = 1 := rfl
  have hsum := q_sum G.b st
  have hlocs : ∀ x ∈ locs, ∀ cell, T1.heap[x.base]? = some cell → cell.vm.isStatics = false := by
    intro x hx cell hcell
    have h1 : G.b ≤ x.base := hS.2.2 x hx
    have h2 : x.base < T1.heap.size := (Array.getElem?_eq_some_iff.mp hcell).1
    rw [hT1s] at h2
    by_cases h3 : x.base < H.size
    · rw [hT1h _ h3] at hcell
      obtain ⟨k, hk9⟩ : ∃ k, x.base = G.b + k := ⟨x.base - G.b, (Nat.add_sub_cancel' h1).symm⟩
      have hkn : k < z.n := by rw [hsz, hk9] at h3; exact Nat.lt_of_add_lt_add_left h3
      have hat := hR.at hkn rfl
      rw [hk9] at hcell
      unfold q_ent at hat
      split at hat
      · obtain ⟨r, hr1, ce, q1, q2, q3, q4⟩ := hat
        cases q1.symm.trans hcell
        rw [q3]; rfl
      · split at hat
        · have hat : H[G.b + k]? = some (vp_cell _ _) := hat
          cases hat.symm.trans hcell
          rfl
        · have hat : H[G.b + k]? = some (vp_cell _ _) := hat
          cases hat.symm.trans hcell
          rfl
    · have h4 : x.base = T.heap.size := by rw [hT]; exact Nat.le_antisymm (Nat.le_of_lt_succ h2) (Nat.not_lt.mp h3)
      rw [h4, hcellA] at hcell
      cases hcell
      rfl
  obtain ⟨V', locs', ce, X₂, hl', hce, hcc, hcv, hszV, hkeep, st2⟩ := q_ctor X₁ C.1 htr (own := RX12) (cls := "java/lang/IllegalStateException") (ic := 37) (ix := 7) (bytes := prog_17_method_2_code) hown (by decide +kernel) (by decide +kernel) (by decide +kernel) (by decide +kernel) (by decide +kernel)
    hca hlocs hfX hkX hcellA (msg := .ref sa) rfl
    (g := { method := m, pc := pc + 6, locals := ls, stack := .ref sa :: .ref T.heap.size :: .ref T.heap.size :: st.map (q_cv G.b), locked := none }) rfl (hL.size.trans C.2.2.1.symm) (rest := .ref T.heap.size :: st.map (q_cv G.b)) rfl
    (by rw [hb]; exact d6) (by show 5 < d + 1; omega) (by
      simp only [List.map_cons, List.sum_cons, hcat]
      rw [hsum]
      show 2 * 0 + (1 + (List.map (fun v => v.category) st).sum) + 81 ≤ 60 + 40 * d
      omega)
  have hV : ∀ q, q < H.size → V'.heap[q]? = H[q]? := fun q hq => by
    rw [hkeep q (fun w => by rw [w, hT] at hq; exact absurd hq (Nat.lt_irrefl _))]
    exact hT1h q hq
  have hVs : V'.heap.size = H.size + 1 := hszV.trans hT1s
  have hK : va_K G.D vwCl (q_tys G) s := hSt.1
  have hat : va_at G.D vwCl (G.b + z.n, q_ent G z.one (h.clr z.n) z.n) V'.heap := by
    rw [q_ent_obj G z.one (h.clr z.n) hk (by decide), ← hsz]
    have hc0 : vwCl[0]? = some (RJxb5711, TJxb5711, 0) := rfl
    obtain ⟨hSl, hfc, -⟩ := hK.1 0 _ hc0
    refine ⟨_, hc0, ce, by rw [← hT]; exact hce, ?_, hcv, fun k hk => absurd hk (Nat.not_lt_zero k)⟩
    rw [hcc]
    exact Option.some.inj (hfX.symm.trans hfc)
  have hSV : va_S (q_A G) s.heap V'.heap locs' := ⟨by have := hS.1; omega, fun q h1 h2 => by rw [hV q (Nat.lt_of_lt_of_le h1 hS.1)]; exact hS.2.1 q h1 h2, fun x hx => by
    rcases hl' x hx with h1 | h1
    · exact hS.2.2 x h1
    · show G.b ≤ x.base
      rw [h1, hT, hsz]
      exact Nat.le_add_right _ _⟩
  obtain ⟨t2, a1, b1⟩ := kk p e s m args below meth c V'.heap locs' ls C (hR.one hex hVs hV hat) hSV hL V' rfl X₂
  refine ⟨t2, st1 _ ?_, b1⟩
  show Steps p.tables e below (T1.setTop { method := m, pc := pc + 3, locals := ls, stack := .ref T.heap.size :: st.map (q_cv G.b), locked := none }) _
  have d3' : decode c.code (pc + 3) = .ok (.dup, 1) := by rw [hb]; exact d3
  have d4' : decode c.code (pc + 4) = .ok (.ldc 35, 2) := by rw [hb]; exact d4
  jvm_step X₁.here [X₁.here.top, C.1, d3', Value.category]
  refine X₁.ldcString C.1 (own := RX12) (text := "refused") (index := 35) (a := sa) hown hstr.1 hstr.2
    (g := { method := m, pc := pc + 4, locals := ls, stack := .ref T.heap.size :: .ref T.heap.size :: st.map (q_cv G.b), locked := none }) rfl d4' _ (st2 _ ?_)
  have e2 : F0 m (pc + 9) ls ((Value.ref z.n :: st).map (q_cv G.b)) = F0 m (pc + 9) ls (.ref T.heap.size :: st.map (q_cv G.b)) := by
    rw [hT, hsz]; rfl
  rw [e2] at a1
  exact a1
