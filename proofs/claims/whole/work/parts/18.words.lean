/-! ===== the static row WORDS ===== -/
def q_wd (j : Nat) : Int64 := ([6909556, 26982, 1701606245, 512852847717, 422826041707, 7165066978433856869, 125780071117422] : List Int64).getD j 0
theorem q_eqi {t : Term} {v : Int32} {args : Array Value} {s : State} (h : (Cond.eq t (.int v)).before args s = true) : t.eval args s none [] s = some (.int v) := by
  obtain ⟨w, h1, h2⟩ := Cond.eq_one (show (Cond.eq t (.int v)).holds args s none s [] = true from h)
  cases h2
  exact h1
theorem q_eql {t : Term} {v : Int64} {args : Array Value} {s : State} (h : (Cond.eq t (.long v)).before args s = true) : t.eval args s none [] s = some (.long v) := by
  obtain ⟨w, h1, h2⟩ := Cond.eq_one (show (Cond.eq t (.long v)).holds args s none s [] = true from h)
  cases h2
  exact h1
theorem q_words {G : qG} {s : State} {H : Heap} (hSt : q_St G s H) : ∃ w, va_Z "TokenCircuit" "WORDS" "[J" (.ref w) (q_A G) s H ∧ va_T .long w 7 (fun j => .long (q_wd j)) (q_A G) s H := by
  obtain ⟨hK, s0, a0, w1, w2, w3, w4, w5, w6⟩ := hSt
  have hs := flat_of_before _ w4
  have hA0 : ∀ a : Nat, a < s0.heap.size → ¬ q_A G a := fun a ha q => by
    have q : G.b ≤ a := q
    omega
  have hk : ∀ a : Nat, a < s0.heap.size → ¬ q_A G a → H[a]? = s0.heap[a]? := fun a ha _ => w3 a (by omega)
  obtain ⟨t, ht, hT⟩ := va_Tof (args := a0) (s := s0) (tm := .static "TokenCircuit" "WORDS" "[J") (ty := .long) (N := 7) (f := fun j => .long (q_wd j)) (by decide) (hs _ (by decide +kernel)) (q_eqi (hs _ (by decide +kernel))) (fun j hj => by
    match j, hj with
    | 0, _ => exact q_eql (hs _ (by decide +kernel))
    | 1, _ => exact q_eql (hs _ (by decide +kernel))
    | 2, _ => exact q_eql (hs _ (by decide +kernel))
    | 3, _ => exact q_eql (hs _ (by decide +kernel))
    | 4, _ => exact q_eql (hs _ (by decide +kernel))
    | 5, _ => exact q_eql (hs _ (by decide +kernel))
    | 6, _ => exact q_eql (hs _ (by decide +kernel))) hA0
  exact ⟨t, va_Z.moved w1.alike ((va_Zof (w5 _ (by decide +kernel)) (w5 _ (by decide +kernel)) ht hA0).kept hk), va_T.moved w1.alike (hT.kept hk)⟩
section QWD
variable {G : qG} {M : qm} {z z' : qz} {d mc ms : Nat} {Q : qr → qh → Prop} {cells slots pc : Nat} {l st : List Value} {h : qh}
theorem q_wlen (hM : M.own = RX8) (d0 : decode M.cc pc = .ok (.getstatic 63, 3)) (d3 : decode M.cc (pc + 3) = .ok (.arraylength, 1)) (kk : q_W G M z' d mc ms Q cells slots z (pc + 4) l (.int 7 :: st) h) : q_W G M z' d mc ms Q cells slots z pc l st h := by
  intro p e s m args below meth c H locs ls C hR hS hL
  have hSt : q_St G s s.heap := C.2.2.2.2.2.2.2.2.2
  obtain ⟨w, hZ, hT⟩ := q_words hSt
  have hown : s.vm.findClass RX8 = some m.cls := by rw [← hM]; exact C.2.2.2.1
  refine va_getsN C.1 C.2.1 hZ hS hown (q_nestF hSt (q_inn 553 (by decide +kernel)) : (Cond.fieldLinkNest RX8 63 "TokenCircuit" "WORDS" "[J" "TokenCircuit").before args s = true) (fun x hx => hx) d0 ?_
  exact va_tlen C.1 C.2.1 hT hS (v := 7) (by decide) d3 (kk p e s m args below meth c H locs ls C hR hS hL)
theorem q_wld {i : Nat} {x : Int32} (hM : M.own = RX8) (d0 : decode M.cc pc = .ok (.getstatic 63, 3)) (d3 : decode M.cc (pc + 3) = .ok (.iload i, 2)) (d5 : decode M.cc (pc + 5) = .ok (.laload, 1)) (hl : l[i]? = some (.int x)) (hin : vp_in x 7) (kk : q_W G M z' d mc ms Q cells slots z (pc + 6) l (.long (q_wd x.toNatClampNeg) :: st) h) : q_W G M z' d mc ms Q cells slots z pc l st h := by
  intro p e s m args below meth c H locs ls C hR hS hL
  have hSt : q_St G s s.heap := C.2.2.2.2.2.2.2.2.2
  obtain ⟨w, hZ, hT⟩ := q_words hSt
  have hown : s.vm.findClass RX8 = some m.cls := by rw [← hM]; exact C.2.2.2.1
  refine va_getsN C.1 C.2.1 hZ hS hown (q_nestF hSt (q_inn 553 (by decide +kernel)) : (Cond.fieldLinkNest RX8 63 "TokenCircuit" "WORDS" "[J" "TokenCircuit").before args s = true) (fun x hx => hx) d0 ?_
  refine lv_iload C.1 C.2.1 d3 (hL.get hl (fun q => by cases q)) ?_
  exact va_tl C.1 C.2.1 hT hS hin (v := .long (q_wd x.toNatClampNeg)) rfl d5 (kk p e s m args below meth c H locs ls C hR hS hL)
end QWD
