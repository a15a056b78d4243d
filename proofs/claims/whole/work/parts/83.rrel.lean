/-! ===== the RUN: what holds between the two ===== -/
/-- what the class's RUN leaves alone -/
def RF (h0 h : qh) : Prop := (∀ o, (o < 31 ∨ o = 33 ∨ o = 37 ∨ 42 ≤ o) → h.I o = h0.I o) ∧ (∀ k, k ≠ 6 → k ≠ 7 → k ≠ 8 → h.I 31 k = h0.I 31 k) ∧ (∀ k, k ≠ 6 → k ≠ 8 → k ≠ 11 → h.I 38 k = h0.I 38 k) ∧ h.L = h0.L ∧ h.R = h0.R
/-- what the reference's leaves alone -/
def MF (h0 h : qh) : Prop := (∀ o, o ≠ 43 → o ≠ 76 → o ≠ 78 → o ≠ 79 → o ≠ 80 → h.I o = h0.I o) ∧ (∀ k, k ≠ 34 → k ≠ 36 → k ≠ 37 → h.I 43 k = h0.I 43 k) ∧ h.L = h0.L ∧ h.R = h0.R
/-- where a RUN goes on: the circuit and the PROGRAM, its limit, the rows -/
def RB (c p e : Nat) (hc0 hm0 : qh) (P jn na lim : Nat) : Prop := (q_cir c ∧ q_prg p ∧ q_end e) ∧ (hc0.R 38 5 = some c ∧ hm0.R 43 21 = some p ∧ hm0.R 43 41 = some e) ∧ (hc0.I c 6 = Int32.ofNat P ∧ P ≤ 1400) ∧ (hc0.I c 7 = Int32.ofNat jn ∧ jn ≤ 80) ∧ (hc0.I c 8 = Int32.ofNat na ∧ na ≤ 8) ∧ (∀ j, j < na → ∃ k : Nat, 1 ≤ k ∧ k ≤ 256 ∧ hc0.I (c + 6) j = Int32.ofNat k ∧ hm0.I (p + 1) j = Int32.ofNat k) ∧ LT hc0 ∧ (hc0.I 38 7 = Int32.ofNat lim ∧ hm0.I 43 35 = Int32.ofNat lim ∧ 1 ≤ lim ∧ lim ≤ 3000 ∧ hc0.I 38 9 = 1 ∧ hc0.I 38 10 = 0 ∧ hm0.I 43 33 = 0 ∧ hc0.I 37 1 = 0)
/-- the kept writes are the same -/
def KW (w : Nat) (hc hm : qh) : Prop := ∀ i, i < w → i < 200 → hc.I 34 i = hm.I 79 (3 * i) ∧ hc.I 35 i = hm.I 79 (3 * i + 1) ∧ hc.I 36 i = hm.I 79 (3 * i + 2)
/-- STEPS, LATENCIES, reads, writes, cells, variables: the same -/
def BR (hc0 hm0 : qh) (V : Int32 → Prop) (st w C : Nat) (hc hm : qh) : Prop := RF hc0 hc ∧ MF hm0 hm ∧ (hc.I 38 11 = Int32.ofNat st ∧ hm.I 43 34 = Int32.ofNat st) ∧ (∃ A : Nat, hc.I 31 8 = Int32.ofNat A ∧ A ≤ C) ∧ (hc.I 31 7 = Int32.ofNat w ∧ hm.I 43 37 = Int32.ofNat w ∧ w ≤ C) ∧ hc.I 31 6 = hm.I 43 36 ∧ (∀ i, i < 2048 → hc.I 32 i = hm.I 76 i) ∧ KW w hc hm ∧ (∀ y, V y → ∃ k : Nat, k < 16 ∧ y = Int32.ofNat k ∧ hc.I 41 k = hm.I 78 k)
/-- the tokens that are not yet taken, the latest first, and the reference's pile -/
def TS (hc hm : qh) (a : Nat) : Nat → List Int32 → Prop
  | _, [] => True
  | hi, s :: r => ∃ y : Nat, s = Int32.ofNat y ∧ a ≤ y ∧ y < hi ∧ hc.I 40 y = 1 ∧ hc.I 39 y = hm.I 80 r.length ∧ TS hc hm a y r
def TKK (hcA hc hm : qh) (a : Nat) (H0 : Int32) (S : List Int32) (hi : Nat) : Prop := TS hc hm a hi S ∧ (∀ y, a ≤ y → y < 1400 → (∀ s ∈ S, ¬ s = Int32.ofNat y) → hc.I 40 y = 0) ∧ (∀ y, y < a → hc.I 40 y = hcA.I 40 y ∧ hc.I 39 y = hcA.I 39 y) ∧ hc.I 38 8 = H0 + Int32.ofNat S.length
def tA (h h' : qh) : Prop := (∀ o, o ≠ 38 → o ≠ 39 → o ≠ 40 → h'.I o = h.I o) ∧ (∀ k, k ≠ 6 → k ≠ 8 → h'.I 38 k = h.I 38 k) ∧ h'.L = h.L ∧ h'.R = h.R
def mA (h h' : qh) : Prop := (∀ o, o ≠ 80 → h'.I o = h.I o) ∧ h'.L = h.L ∧ h'.R = h.R
section RREL
variable {hc0 hm0 hcA hc hm hc' hm' h1 h2 : qh} {V V' : Int32 → Prop} {st w C C' a hi : Nat} {H0 : Int32} {S r : List Int32} {c p e P jn na lim : Nat}
theorem tA.rf (h : qh) : tA h h := ⟨fun _ _ _ _ => rfl, fun _ _ _ => rfl, rfl, rfl⟩
theorem tA.tr (x : tA hc h1) (y : tA h1 h2) : tA hc h2 := ⟨fun o e1 e2 e3 => (y.1 o e1 e2 e3).trans (x.1 o e1 e2 e3), fun k e1 e2 => (y.2.1 k e1 e2).trans (x.2.1 k e1 e2), y.2.2.1.trans x.2.2.1, y.2.2.2.trans x.2.2.2⟩
theorem tA.sI (h : qh) {o k : Nat} (v : Int32) (ho : o = 39 ∨ o = 40 ∨ (o = 38 ∧ (k = 6 ∨ k = 8))) : tA h (h.sI o k v) := ⟨fun o' e1 e2 e3 => sI_row _ (by omega), fun k' e1 e2 => by rw [sI_I, if_neg (by omega)], rfl, rfl⟩
theorem tA.tk1 (h : qh) (l : Int32) : tA h (tkn h l) := by
  unfold tkn
  split
  · exact tA.rf _
  · exact (tA.sI _ _ (by omega)).tr (tA.sI _ _ (by omega))
theorem tA.wk1 (h : qh) (l r : Int32) (x : Nat) : tA h (wkh h l r x) := ((tA.tk1 h l).tr (tA.tk1 _ r)).tr (tA.sI _ _ (by omega))
theorem tA.hd1 (h : qh) (x : Nat) (v : Int32) : tA h (hnd h x v) := ((tA.sI _ _ (by omega)).tr (tA.sI _ _ (by omega))).tr (tA.sI _ _ (by omega))
theorem mA.rf (h : qh) : mA h h := ⟨fun _ _ => rfl, rfl, rfl⟩
theorem mA.sI (h : qh) (k : Nat) (v : Int32) : mA h (h.sI 80 k v) := ⟨fun o e => sI_row _ e, rfl, rfl⟩
theorem BR.mono (x : BR hc0 hm0 V st w C hc hm) (hV : ∀ y, V' y → V y) (hC : C ≤ C') : BR hc0 hm0 V' st w C' hc hm := by
  obtain ⟨x1, x2, x3, ⟨A, x4, x5⟩, ⟨x6, x7, x8⟩, x9, x10, x11, x12⟩ := x
  exact ⟨x1, x2, x3, ⟨A, x4, by omega⟩, ⟨x6, x7, by omega⟩, x9, x10, x11, fun y q => x12 y (hV y q)⟩
theorem BR.tok (x : BR hc0 hm0 V st w C hc hm) (f : tA hc hc') (g : mA hm hm') : BR hc0 hm0 V st w C hc' hm' := by
  obtain ⟨x1, x2, x3, x4, x5, x6, x7, x8, x9⟩ := x
  obtain ⟨f1, f2, f3, f4⟩ := f
  obtain ⟨g1, g2, g3⟩ := g
  have c31 := f1 31 (by decide) (by decide) (by decide)
  have c32 := f1 32 (by decide) (by decide) (by decide)
  have c34 := f1 34 (by decide) (by decide) (by decide)
  have c35 := f1 35 (by decide) (by decide) (by decide)
  have c36 := f1 36 (by decide) (by decide) (by decide)
  have c41 := f1 41 (by decide) (by decide) (by decide)
  have m43 := g1 43 (by decide)
  have m76 := g1 76 (by decide)
  have m78 := g1 78 (by decide)
  have m79 := g1 79 (by decide)
  refine ⟨⟨fun o q => (f1 o (by omega) (by omega) (by omega)).trans (x1.1 o q), fun k q1 q2 q3 => by rw [c31]; exact x1.2.1 k q1 q2 q3, fun k q1 q2 q3 => (f2 k q1 q2).trans (x1.2.2.1 k q1 q2 q3), f3.trans x1.2.2.2.1, f4.trans x1.2.2.2.2⟩, ⟨fun o q1 q2 q3 q4 q5 => (g1 o q5).trans (x2.1 o q1 q2 q3 q4 q5), fun k q1 q2 q3 => by rw [m43]; exact x2.2.1 k q1 q2 q3, g2.trans x2.2.2.1, g3.trans x2.2.2.2⟩, ?_, ?_, ?_, ?_, ?_, ?_, ?_⟩
  · rw [f2 11 (by decide) (by decide), m43]; exact x3
  · rw [c31]; exact x4
  · rw [c31, m43]; exact x5
  · rw [c31, m43]; exact x6
  · rw [c32, m76]; exact x7
  · unfold KW; rw [c34, c35, c36, m79]; exact x8
  · rw [c41, m78]; exact x9
theorem TS.mono : ∀ {S : List Int32} {hi hj : Nat}, TS hc hm a hi S → hi ≤ hj → TS hc hm a hj S
  | [], _, _, _, _ => trivial
  | _ :: _, _, _, ⟨y, q1, q2, q3, q4⟩, h => ⟨y, q1, q2, by omega, q4⟩
theorem TS.to : ∀ {S : List Int32} {hi : Nat}, (∀ y, a ≤ y → y < hi → hc'.I 40 y = hc.I 40 y ∧ hc'.I 39 y = hc.I 39 y) → (∀ n, n < S.length → hm'.I 80 n = hm.I 80 n) → TS hc hm a hi S → TS hc' hm' a hi S
  | [], _, _, _, _ => trivial
  | s :: r, hi, e1, e2, ⟨y, q1, q2, q3, q4, q5, q6⟩ => by
    obtain ⟨u1, u2⟩ := e1 y q2 q3
    exact ⟨y, q1, q2, q3, u1.trans q4, by rw [u2, q5]; exact (e2 _ (by simp)).symm, TS.to (fun z z1 z2 => e1 z z1 (by omega)) (fun n hn => e2 n (by rw [List.length_cons]; omega)) q6⟩
theorem TS.lt : ∀ {S : List Int32} {hi : Nat}, hi ≤ 1400 → TS hc hm a hi S → ∀ s ∈ S, ∃ y : Nat, s = Int32.ofNat y ∧ y < hi
  | [], _, _, _, s, hs => by simp at hs
  | _ :: r, hi, h, ⟨y, q1, q2, q3, q4, q5, q6⟩, s, hs => by
    rcases List.mem_cons.mp hs with q | q
    · exact ⟨y, q.trans q1, q3⟩
    · obtain ⟨z, z1, z2⟩ := TS.lt (by omega) q6 s q
      exact ⟨z, z1, by omega⟩
theorem TKK.emp (x : TKK hcA hc hm a H0 S hi) (h1 : a ≤ hi) (h2 : hi < 1400) : hc.I 40 hi = 0 := by
  refine x.2.1 hi h1 h2 (fun s hs q => ?_)
  obtain ⟨y, y1, y2⟩ := TS.lt (by omega) x.1 s hs
  rw [y1] at q
  have := (n_eq (by omega) (by omega)).mp q
  omega
theorem TKK.fr (x : TKK hcA hc hm a H0 S hi) (e1 : hc'.I 39 = hc.I 39) (e2 : hc'.I 40 = hc.I 40) (e3 : hc'.I 38 8 = hc.I 38 8) (e4 : hm'.I 80 = hm.I 80) : TKK hcA hc' hm' a H0 S hi := by
  obtain ⟨x1, x2, x3, x4⟩ := x
  exact ⟨TS.to (fun y _ _ => by rw [e1, e2]; exact ⟨rfl, rfl⟩) (fun n _ => by rw [e4]) x1, by rw [e2]; exact x2, by rw [e1, e2]; exact x3, e3.trans x4⟩
theorem TKK.pop {s : Int32} (x : TKK hcA hc hm a H0 (s :: r) hi) (h : hi ≤ 1400) : fll hc s ∧ tkv hc s = hm.I 80 r.length ∧ TKK hcA (tkn hc s) hm a H0 r hi := by
  obtain ⟨⟨y, q1, q2, q3, q4, q5, q6⟩, x2, x3, x4⟩ := x
  have hn : ¬ s = -1 := by rw [q1]; exact n_ne1 (by omega)
  have eN : s.toNatClampNeg = y := by rw [q1]; exact n_N (by omega)
  have e40 : ∀ z, (tkn hc s).I 40 z = if z = y then 0 else hc.I 40 z := fun z => by
    unfold tkn
    rw [if_neg hn, eN, sI_I, if_neg (by omega), sI_I]
    by_cases q : z = y
    · rw [if_pos q, if_pos ⟨rfl, q⟩]
    · rw [if_neg q, if_neg (fun w => q w.2)]
  have e39 : (tkn hc s).I 39 = hc.I 39 := tkn_row _ _ (by decide) (by decide)
  refine ⟨Or.inr ⟨y, q1, by omega, q4⟩, ?_, ?_, ?_, ?_, ?_⟩
  · unfold tkv; rw [if_neg hn, eN]; exact q5
  · exact TS.mono (TS.to (fun z _ z2 => by rw [e40, if_neg (by omega), e39]; exact ⟨rfl, rfl⟩) (fun _ _ => rfl) q6) (by omega)
  · intro z z1 z2 z3
    rw [e40]
    split
    · rfl
    · rename_i hz
      refine x2 z z1 z2 (fun t ht => ?_)
      rcases List.mem_cons.mp ht with q | q
      · rw [q, q1]; exact fun w => hz ((n_eq (by omega) (by omega)).mp w).symm
      · exact z3 t q
  · intro z hz
    rw [e40, if_neg (by omega), e39]
    exact x3 z hz
  · unfold tkn
    rw [if_neg hn, sI_I, if_pos ⟨rfl, rfl⟩, x4, List.length_cons, ← n_add1, ← Int32.add_assoc, Int32.add_sub_cancel]
theorem TKK.hd1 {x : Nat} (t : TKK hcA hc hm a H0 r x) (h1 : a ≤ x) (h2 : x < 1400) {v : Int32} (e1 : hm'.I 80 r.length = v) (e2 : ∀ n, n < r.length → hm'.I 80 n = hm.I 80 n) : TKK hcA (hnd hc x v) hm' a H0 (Int32.ofNat x :: r) (x + 1) := by
  obtain ⟨x1, x2, x3, x4⟩ := t
  have f40 : ∀ z, (hnd hc x v).I 40 z = if z = x then 1 else hc.I 40 z := fun z => by
    unfold hnd
    rw [sI_I, if_neg (by omega), sI_I]
    by_cases q : z = x
    · rw [if_pos q, if_pos ⟨rfl, q⟩]
    · rw [if_neg q, if_neg (fun w => q w.2), sI_I, if_neg (by omega)]
  have f39 : ∀ z, (hnd hc x v).I 39 z = if z = x then v else hc.I 39 z := fun z => by
    unfold hnd
    rw [sI_I, if_neg (by omega), sI_I, if_neg (by omega), sI_I]
    by_cases q : z = x
    · rw [if_pos q, if_pos ⟨rfl, q⟩]
    · rw [if_neg q, if_neg (fun w => q w.2)]
  refine ⟨⟨x, rfl, h1, by omega, by rw [f40, if_pos rfl], by rw [f39, if_pos rfl, e1], TS.to (fun z _ z2 => by rw [f40, f39, if_neg (by omega), if_neg (by omega)]; exact ⟨rfl, rfl⟩) e2 x1⟩, ?_, ?_, ?_⟩
  · intro z z1 z2 z3
    have hz : ¬ z = x := fun q => z3 (Int32.ofNat x) List.mem_cons_self (by rw [q])
    rw [f40, if_neg hz]
    exact x2 z z1 z2 (fun s hs => z3 s (List.mem_cons_of_mem _ hs))
  · intro z hz
    rw [f40, f39, if_neg (by omega), if_neg (by omega)]
    exact x3 z hz
  · unfold hnd
    rw [sI_I, if_pos ⟨rfl, rfl⟩, x4, List.length_cons, ← n_add1, Int32.add_assoc]
theorem RB.cR5 (B : RB c p e hc0 hm0 P jn na lim) (x : BR hc0 hm0 V st w C hc hm) : hc.R 38 5 = some c ∧ hc.I c 6 = Int32.ofNat P ∧ hc.I c 7 = Int32.ofNat jn ∧ hc.I c 8 = Int32.ofNat na ∧ (∀ i, pAt hc c i = pAt hc0 c i) ∧ hc.I (c + 5) = hc0.I (c + 5) ∧ hc.I (c + 6) = hc0.I (c + 6) ∧ LT hc ∧ hc.I 38 7 = Int32.ofNat lim := by
  obtain ⟨⟨b1, b2, b3⟩, ⟨b4, b5, b6⟩, ⟨b7, b8⟩, ⟨b9, b10⟩, ⟨b11, b12⟩, b13, b14, b15, b16, b17, b18⟩ := B
  obtain ⟨x1, x2⟩ := x
  have hcl := cir_lt b1
  have er : ∀ o, o ≤ 14 → hc.I o = hc0.I o := fun o q => x1.1 o (by omega)
  refine ⟨by rw [x1.2.2.2.2]; exact b4, by rw [er c (by omega)]; exact b7, by rw [er c (by omega)]; exact b9, by rw [er c (by omega)]; exact b11, fun i => ?_, er _ (by omega), er _ (by omega), ?_, (x1.2.2.1 7 (by decide) (by decide) (by decide)).trans b15⟩
  · unfold pAt; rw [er (c + 1) (by omega), er (c + 2) (by omega), er (c + 3) (by omega), er (c + 4) (by omega)]
  · unfold LT; rw [x1.2.1 5 (by decide) (by decide) (by decide), x1.1 33 (by omega)]; exact b14
theorem RB.mR5 (B : RB c p e hc0 hm0 P jn na lim) (x : BR hc0 hm0 V st w C hc hm) : hm.R 43 21 = some p ∧ hm.R 43 41 = some e ∧ (∀ i, cAt hm p i = cAt hm0 p i) ∧ hm.I e = hm0.I e ∧ (∀ o, o ≤ 10 → hm.I (p + o) = hm0.I (p + o)) ∧ hm.I 43 35 = Int32.ofNat lim := by
  obtain ⟨⟨b1, b2, b3⟩, ⟨b4, b5, b6⟩, ⟨b7, b8⟩, ⟨b9, b10⟩, ⟨b11, b12⟩, b13, b14, b15, b16, b17, b18⟩ := B
  obtain ⟨x1, x2, x3⟩ := x
  have hp := prg_lt b2
  have he := end_lt b3
  have er : ∀ o, 51 ≤ o → o ≤ 75 → hm.I o = hm0.I o := fun o q1 q2 => x2.1 o (by omega) (by omega) (by omega) (by omega) (by omega)
  refine ⟨by rw [x2.2.2.2]; exact b5, by rw [x2.2.2.2]; exact b6, fun i => ?_, x2.1 e (by omega) (by omega) (by omega) (by omega) (by omega), fun o q => er _ (by omega) (by omega), (x2.2.1 35 (by decide) (by decide) (by decide)).trans b16⟩
  unfold cAt; rw [er (p + 9) (by omega) (by omega), er (p + 10) (by omega) (by omega)]
end RREL
