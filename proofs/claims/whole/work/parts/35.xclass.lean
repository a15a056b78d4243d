/-! ===== the class reads an operand, a sign of two, what closes ===== -/
def CX (T : tkD) (c a dp : Nat) (fk fp : Int32) (Wt Wi Mk : List Int32) (wk : Nat) (wn : Int32) (Pt : List prt) (h : qh) : Prop := CB T a dp fk fp h ∧ CF Wt Wi Mk wk wn h ∧ CC c Pt h ∧ CK h ∧ h.R 27 5 = some c ∧ h.R 21 3 = some c
def CXF (c : Nat) (h h' : qh) : Prop := (∀ o, o ≠ 22 → ¬ (27 ≤ o ∧ o ≤ 30) → ¬ (c ≤ o ∧ o ≤ c + 4) → h'.I o = h.I o) ∧ (∀ o, o ≠ 22 → h'.L o = h.L o) ∧ (h'.R = h.R ∧ (cOK c h → cOK c h')) ∧ (∀ k, k ≠ 6 → h'.I c k = h.I c k)
theorem CXF.rf (c : Nat) (h : qh) : CXF c h h := ⟨fun _ _ _ _ => rfl, fun _ _ => rfl, ⟨rfl, id⟩, fun _ _ => rfl⟩
theorem CXF.tr {c : Nat} {h h1 h2 : qh} (a : CXF c h h1) (b : CXF c h1 h2) : CXF c h h2 := ⟨fun o e1 e2 e3 => (b.1 o e1 e2 e3).trans (a.1 o e1 e2 e3), fun o e => (b.2.1 o e).trans (a.2.1 o e), ⟨b.2.2.1.1.trans a.2.2.1.1, fun x => b.2.2.1.2 (a.2.2.1.2 x)⟩, fun k e => (b.2.2.2 k e).trans (a.2.2.2 k e)⟩
theorem R22.xf {c : Nat} {h h' : qh} (hq : q_cir c) (r : R22 h h') : CXF c h h' := ⟨fun o e _ _ => r.1 o e, r.2.1, ⟨r.2.2, fun x => x.to (by rw [r.1 c (by have := cir_lt hq; omega)])⟩, fun k _ => by rw [r.1 c (by have := cir_lt hq; omega)]⟩
theorem R27.xf {c : Nat} {h h' : qh} (hq : q_cir c) (r : R27 h h') : CXF c h h' := ⟨fun o _ e _ => r.1 o e, fun o _ => by rw [r.2.1], ⟨r.2.2, fun x => x.to (by rw [r.1 c (by have := cir_lt hq; omega)])⟩, fun k _ => by rw [r.1 c (by have := cir_lt hq; omega)]⟩
theorem Rc.xf {c : Nat} {h h' : qh} (r : Rc c h h') : CXF c h h' := ⟨fun o _ _ e => r.1 o e, fun o _ => by rw [r.2.1], r.2.2.1, r.2.2.2⟩
theorem CK.to {h h' : qh} (k : CK h) (e : h'.I 23 = h.I 23) : CK h' := by
  obtain ⟨n, a, b⟩ := k
  exact ⟨n, a, by rw [e]; exact b⟩
theorem CN.to {T : tkD} {Nm : List nmE} {h h' : qh} (n : CN T Nm h) (e1 : h'.I 23 = h.I 23) (e2 : h'.L 24 = h.L 24) (e3 : h'.I 25 = h.I 25) (e4 : h'.I 26 = h.I 26) : CN T Nm h' :=
  ⟨by rw [e1]; exact n.1, n.2.1, cnm_to (fun j _ => by rw [e2, e3, e4]; exact ⟨rfl, rfl, rfl⟩) n.2.2⟩
theorem CXF.cn {T : tkD} {c : Nat} {Nm : List nmE} {h h' : qh} (hq : q_cir c) (r : CXF c h h') (n : CN T Nm h) : CN T Nm h' := by
  have := cir_lt hq
  exact n.to (r.1 23 (by decide) (by decide) (by omega)) (r.2.1 24 (by decide)) (r.1 25 (by decide) (by decide) (by omega)) (r.1 26 (by decide) (by decide) (by omega))
section XC
variable {G : qG} {d : Nat} {T : tkD} {c a dp : Nat} {fk fp : Int32} {Wt Wi Mk : List Int32} {wk : Nat} {wn : Int32} {Pt : List prt} {hc : qh}
theorem CX.r22 {hc' : qh} {a' dp' : Nat} {fk' fp' : Int32} (x : CX T c a dp fk fp Wt Wi Mk wk wn Pt hc) (hq : q_cir c) (b : CB T a' dp' fk' fp' hc') (r : R22 hc hc') : CX T c a' dp' fk' fp' Wt Wi Mk wk wn Pt hc' :=
  ⟨b, r.cf x.2.1, r.cc hq x.2.2.1, x.2.2.2.1.to (r.1 23 (by decide)), by rw [r.2.2]; exact x.2.2.2.2.1, by rw [r.2.2]; exact x.2.2.2.2.2⟩
theorem CX.r27 {hc' : qh} {Wt' Wi' Mk' : List Int32} {wk' : Nat} {wn' : Int32} (x : CX T c a dp fk fp Wt Wi Mk wk wn Pt hc) (hq : q_cir c) (b : CF Wt' Wi' Mk' wk' wn' hc') (r : R27 hc hc') : CX T c a dp fk fp Wt' Wi' Mk' wk' wn' Pt hc' :=
  ⟨r.cb x.1, b, r.cc hq x.2.2.1, x.2.2.2.1.to (r.1 23 (by decide)), by rw [r.2.2]; exact x.2.2.2.2.1, by rw [r.2.2]; exact x.2.2.2.2.2⟩
theorem CX.rc {hc' : qh} {Pt' : List prt} (x : CX T c a dp fk fp Wt Wi Mk wk wn Pt hc) (hq : q_cir c) (b : CC c Pt' hc') (r : Rc c hc hc') : CX T c a dp fk fp Wt Wi Mk wk wn Pt' hc' :=
  ⟨r.cb hq x.1, r.cf hq x.2.1, b, x.2.2.2.1.to (r.1 23 (by have := cir_lt hq; omega)), by rw [r.2.2.1.1]; exact x.2.2.2.2.1, by rw [r.2.2.1.1]; exact x.2.2.2.2.2⟩
theorem cI {o : Nat} (ho : o < 43) (x y : qh) : (mg x y).I o = x.I o := by rw [mg_I, if_pos ho]
theorem cL {o : Nat} (ho : o < 43) (x y : qh) : (mg x y).L o = x.L o := by rw [mg_L, if_pos ho]
theorem cRr {o : Nat} (ho : o < 43) (x y : qh) : (mg x y).R o = x.R o := by rw [mg_R, if_pos ho]
/-- the step of counting, over all of the state -/
theorem x_count (hd : 2 ≤ d) (hq : q_cir c) (x : CX T c a dp fk fp Wt Wi Mk wk wn Pt hc) (hw : wk < 5000) (p : Int32) : ∃ hc', cR G d yX1_countWorked [.ref 27, .int p] hc rvv hc' ∧ CX T c a dp (bK fk (if wk + 1 ≤ 400 then 0 else 6)) (bP fk fp (if wk + 1 ≤ 400 then 0 else 6) p) Wt Wi Mk (wk + 1) wn Pt hc' ∧ CXF c hc hc' := by
  obtain ⟨h1, r1, r2, r3, h2, r4, r5⟩ := c_counts (G := G) hd x.1 x.2.1 hw p
  refine ⟨h1, r1, ⟨r2, r3, r5.cc hq (r4.cc hq x.2.2.1), (x.2.2.2.1.to (r4.1 23 (by decide))).to (r5.1 23 (by decide)), ?_, ?_⟩, (r4.xf hq).tr (r5.xf hq)⟩
  · rw [r5.2.2, r4.2.2]; exact x.2.2.2.2.1
  · rw [r5.2.2, r4.2.2]; exact x.2.2.2.2.2
theorem x_lay (hd : 1 ≤ d) (hq : q_cir c) (x : CX T c a dp fk fp Wt Wi Mk wk wn Pt hc) (k l r t : Int32) : ∃ hc' v Pt', cR G d yX0_lay [.ref c, .int k, .int l, .int r, .int t] hc (riv v) hc' ∧ CX T c a dp fk fp Wt Wi Mk wk wn Pt' hc' ∧ CXF c hc hc' ∧ (Pt.length < 1400 → v = Int32.ofNat Pt.length ∧ Pt' = (k, l, r, t) :: Pt) ∧ (¬ Pt.length < 1400 → Pt' = Pt) := by
  obtain ⟨h1, v, Pt', r1, r2, r3, r4, r5⟩ := c_lay (G := G) hd hq x.2.2.1 k l r t
  exact ⟨h1, v, Pt', r1, x.rc hq r2 r3, r3.xf, r4, r5⟩
theorem x_layOperand (hd : 2 ≤ d) (hq : q_cir c) (x : CX T c a dp fk fp Wt Wi Mk wk wn Pt hc) (hm : Mk.length < 187) (k l t : Int32) : ∃ hc' v Pt', cR G d yX1_layOperand [.ref 27, .int k, .int l, .int t] hc rvv hc' ∧ CX T c a dp fk fp Wt Wi (v :: Mk) wk 0 Pt' hc' ∧ CXF c hc hc' ∧ (Pt.length < 1400 → v = Int32.ofNat Pt.length ∧ Pt' = (k, l, -1, t) :: Pt) ∧ (¬ Pt.length < 1400 → Pt' = Pt) := by
  obtain ⟨h1, v, Pt', r1, r2, r3, ⟨h2, r4, r5⟩, r6, r7⟩ := c_layOperand (G := G) hd hq x.2.2.2.2.1 x.2.2.1 x.2.1 hm k l t
  refine ⟨h1, v, Pt', r1, ⟨r5.cb (r4.cb hq x.1), r3, r2, (x.2.2.2.1.to (r4.1 23 (by have := cir_lt hq; omega))).to (r5.1 23 (by decide)), ?_, ?_⟩, r4.xf.tr (r5.xf hq), r6, r7⟩
  · rw [r5.2.2, r4.2.2.1.1]; exact x.2.2.2.2.1
  · rw [r5.2.2, r4.2.2.1.1]; exact x.2.2.2.2.2
def cnt (wk : Nat) : Int32 := if wk + 1 ≤ 400 then 0 else 6
theorem c_opNum (hd : 3 ≤ d) (hq : q_cir c) (x : CX T c a dp fk fp Wt Wi Mk wk wn Pt hc) (hw : wk < 5000) (hm : Mk.length < 187) (hn : T.n ≤ 2001) (ha : a + 1 < T.n) (hk : T.k a = 3) : ∃ hc' v Pt', cR G d yX1_readOperand [.ref 27] hc (riv 1) hc' ∧ CX T c (a + 1) dp (bK fk (cnt wk)) (bP fk fp (cnt wk) (T.p a)) Wt Wi (v :: Mk) (wk + 1) 0 Pt' hc' ∧ CXF c hc hc' ∧ (Pt.length < 1400 → v = Int32.ofNat Pt.length ∧ Pt' = (1, -1, -1, (T.v a).toInt32) :: Pt) ∧ (¬ Pt.length < 1400 → Pt' = Pt) := by
  obtain ⟨d, rfl⟩ := Nat.exists_eq_add_of_le' hd
  obtain ⟨h1, a1, a2, a3⟩ := x_count (G := G) (d := d + 2) (by omega) hq x hw (T.p a)
  obtain ⟨h2, b1, b2, b3⟩ := c_adv (G := G) (d := d + 2) (by omega) a2.1 ha hn
  obtain ⟨h3, v, Pt', c1, c2, c3, c4, c5⟩ := x_layOperand (G := G) (d := d + 2) (by omega) hq (a2.r22 hq b2 b3) hm 1 (-1) (T.v a).toInt32
  refine ⟨h3, v, Pt', fun hx Q hQ => ?_, c2, a3.tr ((b3.xf hq).tr c3), c4, c5⟩
  refine x_X1_readOperand G (d + 2) _ Q ?_
  rw [cI (by decide), x.1.1.2.2.1, hk, x.1.1.2.2.2.1, cL (by decide), x.1.1.2.2.2.2.1]
  exact ⟨fun q => absurd q (by decide), fun _ => a1 hx _ (b1 hx _ (c1 hx _ hQ)), fun q => absurd q (by decide), fun q => absurd q (by decide), fun q => absurd q (by decide), fun q => absurd q (by decide), fun q => absurd rfl q.2.1⟩
theorem c_opPar (hd : 3 ≤ d) (hq : q_cir c) (x : CX T c a dp fk fp Wt Wi Mk wk wn Pt hc) (hn : T.n ≤ 2001) (ha : a + 1 < T.n) (hk : T.k a = 40) (hdp : dp < 16) (hw : Wt.length < 186) : ∃ hc', cR G d yX1_readOperand [.ref 27] hc (riv 1) hc' ∧ CX T c (a + 1) (dp + 1) fk fp (40 :: Wt) (-1 :: Wi) Mk wk wn Pt hc' ∧ CXF c hc hc' := by
  obtain ⟨d, rfl⟩ := Nat.exists_eq_add_of_le' hd
  obtain ⟨h1, a1, a2, a3⟩ := c_enter (G := G) (d := d + 2) (by omega) x.1 hk hdp ha hn
  obtain ⟨h2, b1, b2, b3⟩ := c_await (G := G) (d := d + 2) (by omega) (a3.cf x.2.1) hw 40 (-1)
  refine ⟨h2, fun hx Q hQ => ?_, (x.r22 hq a2 a3).r27 hq b2 b3, (a3.xf hq).tr (b3.xf hq)⟩
  refine x_X1_readOperand G (d + 2) _ Q ?_
  rw [cI (by decide), x.1.1.2.2.1, hk]
  exact ⟨fun q => absurd q (by decide), fun q => absurd q (by decide), fun q => absurd q (by decide), fun _ => a1 hx _ ⟨fun q => absurd q (by decide), fun _ => b1 hx _ ⟨Or.inr rfl, hQ⟩⟩, fun q => absurd q (by decide), fun q => absurd q (by decide), fun q => absurd rfl q.2.2.2.1⟩
theorem c_opParDeep (hd : 3 ≤ d) (hq : q_cir c) (x : CX T c a dp fk fp Wt Wi Mk wk wn Pt hc) (hk : T.k a = 40) (hdp : dp = 16) : ∃ hc', cR G d yX1_readOperand [.ref 27] hc (riv 0) hc' ∧ CFail 7 (T.p a) hc' ∧ CXF c hc hc' := by
  obtain ⟨d, rfl⟩ := Nat.exists_eq_add_of_le' hd
  obtain ⟨h1, a1, a2, a3⟩ := c_enterDeep (G := G) (d := d + 2) (by omega) x.1 hk hdp
  refine ⟨h1, fun hx Q hQ => ?_, a2, a3.xf hq⟩
  refine x_X1_readOperand G (d + 2) _ Q ?_
  rw [cI (by decide), x.1.1.2.2.1, hk]
  exact ⟨fun q => absurd q (by decide), fun q => absurd q (by decide), fun q => absurd q (by decide), fun _ => a1 hx _ ⟨fun _ => hQ, fun q => absurd rfl q⟩, fun q => absurd q (by decide), fun q => absurd q (by decide), fun q => absurd rfl q.2.2.2.1⟩
theorem c_opOne (hd : 3 ≤ d) (hq : q_cir c) (x : CX T c a dp fk fp Wt Wi Mk wk wn Pt hc) (hwk : wk < 5000) (hn : T.n ≤ 2001) (ha : a + 1 < T.n) {s : Int32} (hs : s = 33 ∨ s = 45 ∨ s = 126) (hk : T.k a = s) (hdp : dp < 16) (hw : Wt.length < 186) : ∃ hc', cR G d yX1_readOperand [.ref 27] hc (riv 1) hc' ∧ CX T c (a + 1) (dp + 1) (bK fk (cnt wk)) (bP fk fp (cnt wk) (T.p a)) (-s :: Wt) (-1 :: Wi) Mk (wk + 1) wn Pt hc' ∧ CXF c hc hc' := by
  obtain ⟨d, rfl⟩ := Nat.exists_eq_add_of_le' hd
  obtain ⟨h0, z1, z2, z3⟩ := x_count (G := G) (d := d + 2) (by omega) hq x hwk (T.p a)
  obtain ⟨h1, a1, a2, a3⟩ := c_enter (G := G) (d := d + 2) (by omega) z2.1 hk hdp ha hn
  obtain ⟨h2, b1, b2, b3⟩ := c_await (G := G) (d := d + 2) (by omega) (a3.cf z2.2.1) hw (-s) (-1)
  refine ⟨h2, fun hx Q hQ => ?_, (z2.r22 hq a2 a3).r27 hq b2 b3, z3.tr ((a3.xf hq).tr (b3.xf hq))⟩
  refine x_X1_readOperand G (d + 2) _ Q ?_
  rw [cI (by decide), x.1.1.2.2.1, hk, x.1.1.2.2.2.1]
  rcases hs with rfl | rfl | rfl
  · exact ⟨fun q => absurd q (by decide), fun q => absurd q (by decide), fun _ => z1 hx _ (a1 hx _ ⟨fun q => absurd q (by decide), fun _ => b1 hx _ ⟨Or.inr rfl, hQ⟩⟩), fun q => absurd q (by decide), fun q => absurd q (by decide), fun q => absurd q (by decide), fun q => absurd rfl q.2.2.1⟩
  · exact ⟨fun q => absurd q (by decide), fun q => absurd q (by decide), fun q => absurd q (by decide), fun q => absurd q (by decide), fun _ => z1 hx _ (a1 hx _ ⟨fun q => absurd q (by decide), fun _ => b1 hx _ ⟨Or.inr rfl, hQ⟩⟩), fun q => absurd q (by decide), fun q => absurd rfl q.2.2.2.2.1⟩
  · exact ⟨fun q => absurd q (by decide), fun q => absurd q (by decide), fun q => absurd q (by decide), fun q => absurd q (by decide), fun q => absurd q (by decide), fun _ => z1 hx _ (a1 hx _ ⟨fun q => absurd q (by decide), fun _ => b1 hx _ ⟨Or.inr rfl, hQ⟩⟩), fun q => absurd rfl q.2.2.2.2.2⟩
theorem c_opOneDeep (hd : 3 ≤ d) (hq : q_cir c) (x : CX T c a dp fk fp Wt Wi Mk wk wn Pt hc) (hwk : wk < 5000) {s : Int32} (hs : s = 33 ∨ s = 45 ∨ s = 126) (hk : T.k a = s) (hdp : dp = 16) : ∃ hc', cR G d yX1_readOperand [.ref 27] hc (riv 0) hc' ∧ CFail 7 (T.p a) hc' ∧ CXF c hc hc' := by
  obtain ⟨d, rfl⟩ := Nat.exists_eq_add_of_le' hd
  obtain ⟨h0, z1, z2, z3⟩ := x_count (G := G) (d := d + 2) (by omega) hq x hwk (T.p a)
  obtain ⟨h1, a1, a2, a3⟩ := c_enterDeep (G := G) (d := d + 2) (by omega) z2.1 hk hdp
  refine ⟨h1, fun hx Q hQ => ?_, a2, z3.tr (a3.xf hq)⟩
  refine x_X1_readOperand G (d + 2) _ Q ?_
  rw [cI (by decide), x.1.1.2.2.1, hk, x.1.1.2.2.2.1]
  rcases hs with rfl | rfl | rfl
  · exact ⟨fun q => absurd q (by decide), fun q => absurd q (by decide), fun _ => z1 hx _ (a1 hx _ ⟨fun _ => hQ, fun q => absurd rfl q⟩), fun q => absurd q (by decide), fun q => absurd q (by decide), fun q => absurd q (by decide), fun q => absurd rfl q.2.2.1⟩
  · exact ⟨fun q => absurd q (by decide), fun q => absurd q (by decide), fun q => absurd q (by decide), fun q => absurd q (by decide), fun _ => z1 hx _ (a1 hx _ ⟨fun _ => hQ, fun q => absurd rfl q⟩), fun q => absurd q (by decide), fun q => absurd rfl q.2.2.2.2.1⟩
  · exact ⟨fun q => absurd q (by decide), fun q => absurd q (by decide), fun q => absurd q (by decide), fun q => absurd q (by decide), fun q => absurd q (by decide), fun _ => z1 hx _ (a1 hx _ ⟨fun _ => hQ, fun q => absurd rfl q⟩), fun q => absurd rfl q.2.2.2.2.2⟩
theorem c_opNo (hd : 3 ≤ d) (hq : q_cir c) (x : CX T c a dp fk fp Wt Wi Mk wk wn Pt hc) (h2 : ¬ T.k a = 2) (h3 : ¬ T.k a = 3) (h33 : ¬ T.k a = 33) (h40 : ¬ T.k a = 40) (h45 : ¬ T.k a = 45) (h126 : ¬ T.k a = 126) : ∃ hc', cR G d yX1_readOperand [.ref 27] hc (riv 0) hc' ∧ CFail 1 (T.p a) hc' ∧ CXF c hc hc' := by
  obtain ⟨d, rfl⟩ := Nat.exists_eq_add_of_le' hd
  obtain ⟨h1, a1, a2, a3⟩ := c_refuse (G := G) (d := d + 2) (by omega) x.1
  refine ⟨h1, fun hx Q hQ => ?_, a2, a3.xf hq⟩
  refine x_X1_readOperand G (d + 2) _ Q ?_
  rw [cI (by decide), x.1.1.2.2.1]
  exact ⟨fun q => absurd q h2, fun q => absurd q h3, fun q => absurd q h33, fun q => absurd q h40, fun q => absurd q h45, fun q => absurd q h126, fun _ => a1 hx _ ⟨Or.inl rfl, hQ⟩⟩
/-- a NAME in an E: its place, what is wrong with it, its number -/
theorem c_opName (hd : 3 ≤ d) (hq : q_cir c) (x : CX T c a dp fk fp Wt Wi Mk wk wn Pt hc) (hwk : wk < 5000) (hm : Mk.length < 187) (hn : T.n ≤ 2001) (ha : a + 1 < T.n) (hk : T.k a = 2) (hk1 : ¬ T.k (a + 1) = 91) : ∃ hc' v Pt' f num, cR G d yX1_readOperand [.ref 27] hc (riv 1) hc' ∧ CX T c (a + 1) dp (bK (bK fk f) (cnt wk)) (bP (bK fk f) (bP fk fp f (T.p a)) (cnt wk) (T.p a)) Wt Wi (v :: Mk) (wk + 1) 0 Pt' hc' ∧ CXF c hc hc' ∧ (Pt.length < 1400 → v = Int32.ofNat Pt.length ∧ Pt' = (2, -1, -1, num) :: Pt) ∧ (¬ Pt.length < 1400 → Pt' = Pt) ∧ (f = 0 ∨ f = 3 ∨ f = 4) ∧ ∀ Nm, CN T Nm hc → uq T Nm → f = uF (lk T Nm (T.v a)) 0 ∧ ∀ y, lk T Nm (T.v a) = some y → num = y.2 := by
  obtain ⟨d, rfl⟩ := Nat.exists_eq_add_of_le' hd
  obtain ⟨h1, a1, a2, a3⟩ := c_adv (G := G) (d := d + 2) (by omega) x.1 ha hn
  have x1 := x.r22 hq a2 a3
  obtain ⟨r, b1, b2⟩ := c_find (G := G) (d := d + 2) (T := T) (by omega) x1.2.2.2.1 (T.v a)
  obtain ⟨f, e1, e2, e3⟩ := c_use (G := G) (d := d + 2) (T := T) (by omega) x1.2.2.2.1 r 0
  obtain ⟨h2, f1, f2, f3⟩ := c_blame (G := G) (d := d + 2) (by omega) x1.1 f (T.p a)
  have x2 := x1.r22 hq f2 f3
  obtain ⟨h3, g1, g2, g3⟩ := x_count (G := G) (d := d + 2) (by omega) hq x2 hwk (T.p a)
  obtain ⟨num, i1, i2⟩ := c_number (G := G) (d := d + 2) (T := T) (by omega) g2.2.2.2.1 r
  obtain ⟨h4, v, Pt', j1, j2, j3, j4, j5⟩ := x_layOperand (G := G) (d := d + 2) (by omega) hq g2 hm 2 (-1) num
  refine ⟨h4, v, Pt', f, num, fun hx Q hQ => ?_, j2, (a3.xf hq).tr ((f3.xf hq).tr (g3.tr j3)), j4, j5, e2, fun Nm n u => ?_⟩
  · refine x_X1_readOperand G (d + 2) _ Q ?_
    rw [cI (by decide), x.1.1.2.2.1, hk, x.1.1.2.2.2.1, cL (by decide), x.1.1.2.2.2.2.1]
    refine ⟨fun _ => a1 hx _ (b1 hx _ ?_), fun q => absurd q (by decide), fun q => absurd q (by decide), fun q => absurd q (by decide), fun q => absurd q (by decide), fun q => absurd q (by decide), fun q => absurd rfl q.1⟩
    have hz : (if (mg h1 hx).I 22 3 = 91 then (1 : Int32) else 0) = 0 := by
      rw [cI (by decide), a2.1.2.2.1]; exact if_neg hk1
    show q_M0 G (d + 2) yX5_faultOfUse [.ref 23, .int r, .int (if (mg h1 hx).I 22 3 = 91 then (1 : Int32) else 0)] (mg h1 hx) _
    rw [hz]
    refine e1 hx _ (f1 hx _ (g1 hx _ ⟨fun _ => i1 hx _ (j1 hx _ hQ), fun q => absurd ?_ q⟩))
    exact rfl
  · have n1 := (a3.xf hq).cn hq n
    have n3 := g3.cn hq ((f3.xf hq).cn hq n1)
    have er := b2 Nm n1 u
    exact ⟨e3 Nm (T.v a) n1 er, fun y ly => i2 Nm (T.v a) y n3 er ly⟩
theorem c_opIdx (hd : 3 ≤ d) (hq : q_cir c) (x : CX T c a dp fk fp Wt Wi Mk wk wn Pt hc) (hwk : wk < 5000) (hn : T.n ≤ 2001) (ha : a + 2 < T.n) (hk : T.k a = 2) (hk1 : T.k (a + 1) = 91) (hdp : dp < 16) (hw : Wt.length < 186) : ∃ hc' f num, cR G d yX1_readOperand [.ref 27] hc (riv 1) hc' ∧ CX T c (a + 2) (dp + 1) (bK (bK fk f) (cnt wk)) (bP (bK fk f) (bP fk fp f (T.p a)) (cnt wk) (T.p a)) (91 :: Wt) (num :: Wi) Mk (wk + 1) wn Pt hc' ∧ CXF c hc hc' ∧ (f = 0 ∨ f = 3 ∨ f = 4) ∧ ∀ Nm, CN T Nm hc → uq T Nm → f = uF (lk T Nm (T.v a)) 1 ∧ ∀ y, lk T Nm (T.v a) = some y → num = y.2 := by
  obtain ⟨d, rfl⟩ := Nat.exists_eq_add_of_le' hd
  obtain ⟨h1, a1, a2, a3⟩ := c_adv (G := G) (d := d + 2) (by omega) x.1 (by omega) hn
  have x1 := x.r22 hq a2 a3
  obtain ⟨r, b1, b2⟩ := c_find (G := G) (d := d + 2) (T := T) (by omega) x1.2.2.2.1 (T.v a)
  obtain ⟨f, e1, e2, e3⟩ := c_use (G := G) (d := d + 2) (T := T) (by omega) x1.2.2.2.1 r 1
  obtain ⟨h2, f1, f2, f3⟩ := c_blame (G := G) (d := d + 2) (by omega) x1.1 f (T.p a)
  have x2 := x1.r22 hq f2 f3
  obtain ⟨h3, g1, g2, g3⟩ := x_count (G := G) (d := d + 2) (by omega) hq x2 hwk (T.p a)
  obtain ⟨h4, k1, k2, k3⟩ := c_enter (G := G) (d := d + 2) (by omega) g2.1 hk1 hdp ha hn
  have x4 := g2.r22 hq k2 k3
  obtain ⟨num, i1, i2⟩ := c_number (G := G) (d := d + 2) (T := T) (by omega) x4.2.2.2.1 r
  obtain ⟨h5, j1, j2, j3⟩ := c_await (G := G) (d := d + 2) (by omega) x4.2.1 hw 91 num
  refine ⟨h5, f, num, fun hx Q hQ => ?_, x4.r27 hq j2 j3, (a3.xf hq).tr ((f3.xf hq).tr (g3.tr ((k3.xf hq).tr (j3.xf hq)))), e2, fun Nm n u => ?_⟩
  · refine x_X1_readOperand G (d + 2) _ Q ?_
    rw [cI (by decide), x.1.1.2.2.1, hk, x.1.1.2.2.2.1, cL (by decide), x.1.1.2.2.2.2.1]
    refine ⟨fun _ => a1 hx _ (b1 hx _ ?_), fun q => absurd q (by decide), fun q => absurd q (by decide), fun q => absurd q (by decide), fun q => absurd q (by decide), fun q => absurd q (by decide), fun q => absurd rfl q.1⟩
    have hz : (if (mg h1 hx).I 22 3 = 91 then (1 : Int32) else 0) = 1 := by
      rw [cI (by decide), a2.1.2.2.1]; exact if_pos hk1
    show q_M0 G (d + 2) yX5_faultOfUse [.ref 23, .int r, .int (if (mg h1 hx).I 22 3 = 91 then (1 : Int32) else 0)] (mg h1 hx) _
    rw [hz]
    refine e1 hx _ (f1 hx _ (g1 hx _ ⟨fun q => ?_, fun _ => k1 hx _ ⟨fun q => absurd q (by decide), fun _ => i1 hx _ (j1 hx _ ⟨Or.inr rfl, hQ⟩)⟩⟩))
    exact absurd q (by decide)
  · have n1 := (a3.xf hq).cn hq n
    have n4 := (k3.xf hq).cn hq (g3.cn hq ((f3.xf hq).cn hq n1))
    have er := b2 Nm n1 u
    exact ⟨e3 Nm (T.v a) n1 er, fun y ly => i2 Nm (T.v a) y n4 er ly⟩
theorem c_opIdxDeep (hd : 3 ≤ d) (hq : q_cir c) (x : CX T c a dp fk fp Wt Wi Mk wk wn Pt hc) (hwk : wk < 5000) (hn : T.n ≤ 2001) (ha : a + 1 < T.n) (hk : T.k a = 2) (hk1 : T.k (a + 1) = 91) (hdp : dp = 16) : ∃ hc', cR G d yX1_readOperand [.ref 27] hc (riv 0) hc' ∧ CFail 7 (T.p (a + 1)) hc' ∧ CXF c hc hc' := by
  obtain ⟨d, rfl⟩ := Nat.exists_eq_add_of_le' hd
  obtain ⟨h1, a1, a2, a3⟩ := c_adv (G := G) (d := d + 2) (by omega) x.1 (by omega) hn
  have x1 := x.r22 hq a2 a3
  obtain ⟨r, b1, b2⟩ := c_find (G := G) (d := d + 2) (T := T) (by omega) x1.2.2.2.1 (T.v a)
  obtain ⟨f, e1, e2, e3⟩ := c_use (G := G) (d := d + 2) (T := T) (by omega) x1.2.2.2.1 r 1
  obtain ⟨h2, f1, f2, f3⟩ := c_blame (G := G) (d := d + 2) (by omega) x1.1 f (T.p a)
  have x2 := x1.r22 hq f2 f3
  obtain ⟨h3, g1, g2, g3⟩ := x_count (G := G) (d := d + 2) (by omega) hq x2 hwk (T.p a)
  obtain ⟨h4, k1, k2, k3⟩ := c_enterDeep (G := G) (d := d + 2) (by omega) g2.1 hk1 hdp
  refine ⟨h4, fun hx Q hQ => ?_, k2, (a3.xf hq).tr ((f3.xf hq).tr (g3.tr (k3.xf hq)))⟩
  refine x_X1_readOperand G (d + 2) _ Q ?_
  rw [cI (by decide), x.1.1.2.2.1, hk, x.1.1.2.2.2.1, cL (by decide), x.1.1.2.2.2.2.1]
  refine ⟨fun _ => a1 hx _ (b1 hx _ ?_), fun q => absurd q (by decide), fun q => absurd q (by decide), fun q => absurd q (by decide), fun q => absurd q (by decide), fun q => absurd q (by decide), fun q => absurd rfl q.1⟩
  have hz : (if (mg h1 hx).I 22 3 = 91 then (1 : Int32) else 0) = 1 := by
    rw [cI (by decide), a2.1.2.2.1]; exact if_pos hk1
  show q_M0 G (d + 2) yX5_faultOfUse [.ref 23, .int r, .int (if (mg h1 hx).I 22 3 = 91 then (1 : Int32) else 0)] (mg h1 hx) _
  rw [hz]
  refine e1 hx _ (f1 hx _ (g1 hx _ ⟨fun q => ?_, fun _ => k1 hx _ ⟨fun _ => hQ, fun q => absurd rfl q⟩⟩))
  exact absurd q (by decide)
theorem c_two (hd : 3 ≤ d) (hq : q_cir c) (x : CX T c a dp fk fp Wt Wi Mk wk wn Pt hc) (hwk : wk < 5000) (hn : T.n ≤ 2001) (ha : a + 1 < T.n) (hw : Wt.length < 186) : ∃ hc', cR G d yX1_readTwo [.ref 27] hc (riv 1) hc' ∧ CX T c (a + 1) dp (bK fk (cnt wk)) (bP fk fp (cnt wk) (T.p a)) (T.k a :: Wt) (-1 :: Wi) Mk (wk + 1) 1 Pt hc' ∧ CXF c hc hc' := by
  obtain ⟨d, rfl⟩ := Nat.exists_eq_add_of_le' hd
  obtain ⟨h1, a1, a2, a3⟩ := x_count (G := G) (d := d + 2) (by omega) hq x hwk (T.p a)
  obtain ⟨h2, b1, b2, b3⟩ := c_adv (G := G) (d := d + 2) (by omega) a2.1 ha hn
  have x2 := a2.r22 hq b2 b3
  have r27 := R27.sI h2 27 9 1 (by decide)
  have x3 := x2.r27 hq (x2.2.1.want 1) r27
  obtain ⟨h3, e1, e2, e3⟩ := c_await (G := G) (d := d + 2) (by omega) x3.2.1 hw (T.k a) (-1)
  refine ⟨h3, fun hx Q hQ => ?_, x3.r27 hq e2 e3, a3.tr ((b3.xf hq).tr ((r27.xf hq).tr (e3.xf hq)))⟩
  refine x_X1_readTwo G (d + 2) _ Q ?_
  rw [cI (by decide), x.1.1.2.2.2.1, x.1.1.2.2.1]
  refine a1 hx _ (b1 hx _ ?_)
  show q_M0 G (d + 2) yX1_await _ ((mg h2 hx).sI 27 9 1) _
  rw [mg_sI_c (by decide)]
  exact e1 hx _ ⟨Or.inr rfl, hQ⟩
theorem c_closeP (hd : 3 ≤ d) (hq : q_cir c) {t : Int32} (x : CX T c a (dp + 1) fk fp (40 :: Wt) (t :: Wi) Mk wk wn Pt hc) (hn : T.n ≤ 2001) (ha : a + 1 < T.n) (hk : T.k a = 41) (hdp : dp ≤ 16) : ∃ hc', cR G d yX1_readClosing [.ref 27] hc (riv 1) hc' ∧ CX T c (a + 1) dp fk fp Wt Wi Mk wk wn Pt hc' ∧ CXF c hc hc' := by
  obtain ⟨d, rfl⟩ := Nat.exists_eq_add_of_le' hd
  have a1 := c_last (G := G) (d := d + 2) (by omega) x.2.1
  obtain ⟨h2, b1, b2, b3⟩ := c_pass (G := G) (d := d + 2) (by omega) x.1 hk ha hn
  obtain ⟨h3, e1, e2, e3⟩ := c_leave (G := G) (d := d + 2) (by omega) b2 hdp
  have x3 := (x.r22 hq b2 b3).r22 hq e2 e3
  have r27 := R27.sI h3 27 6 (Int32.ofNat Wt.length) (by decide)
  refine ⟨h3.sI 27 6 (Int32.ofNat Wt.length), fun hx Q hQ => ?_, x3.r27 hq x3.2.1.drop r27, (b3.xf hq).tr ((e3.xf hq).tr (r27.xf hq))⟩
  refine x_X1_readClosing G (d + 2) _ Q (a1 hx _ ?_)
  refine b1 hx _ ⟨fun _ => e1 hx _ ⟨fun _ => ?_, fun q => absurd (by decide) q⟩, fun q => absurd q (by decide)⟩
  rw [cI (by decide), x3.2.1.1, List.length_cons, n_sub1, mg_sI_c (by decide)]
  exact hQ
theorem c_closeB (hd : 3 ≤ d) (hq : q_cir c) {t v : Int32} (x : CX T c a (dp + 1) fk fp (91 :: Wt) (t :: Wi) (v :: Mk) wk wn Pt hc) (hn : T.n ≤ 2001) (ha : a + 1 < T.n) (hk : T.k a = 93) (hdp : dp ≤ 16) : ∃ hc' v' Pt', cR G d yX1_readClosing [.ref 27] hc (riv 1) hc' ∧ CX T c (a + 1) dp fk fp Wt Wi (v' :: Mk) wk 0 Pt' hc' ∧ CXF c hc hc' ∧ (Pt.length < 1400 → v' = Int32.ofNat Pt.length ∧ Pt' = (3, v, -1, t) :: Pt) ∧ (¬ Pt.length < 1400 → Pt' = Pt) := by
  obtain ⟨d, rfl⟩ := Nat.exists_eq_add_of_le' hd
  have a1 := c_last (G := G) (d := d + 2) (by omega) x.2.1
  obtain ⟨h2, b1, b2, b3⟩ := c_pass (G := G) (d := d + 2) (by omega) x.1 hk ha hn
  obtain ⟨h3, e1, e2, e3⟩ := c_leave (G := G) (d := d + 2) (by omega) b2 hdp
  have x3 := (x.r22 hq b2 b3).r22 hq e2 e3
  have r27 := R27.sI h3 27 6 (Int32.ofNat Wt.length) (by decide)
  have x4 := x3.r27 hq x3.2.1.drop r27
  obtain ⟨h5, f1, f2, f3, f4⟩ := c_pop (G := G) (d := d + 2) (by omega) x4.2.1
  have x5 := x4.r27 hq f2 f3
  have hw := x3.2.1.2.2.1
  have hwi := x3.2.1.2.1
  have hmk := x4.2.1.2.2.2.2.2.2.1
  rw [List.length_cons] at hw hmk
  rw [List.length_cons, List.length_cons] at hwi
  obtain ⟨h6, v', Pt', g1, g2, g3, g4, g5⟩ := x_layOperand (G := G) (d := d + 2) (by omega) hq x5 (by omega) 3 v t
  refine ⟨h6, v', Pt', fun hx Q hQ => ?_, g2, (b3.xf hq).tr ((e3.xf hq).tr ((r27.xf hq).tr ((f3.xf hq).tr g3))), g4, g5⟩
  refine x_X1_readClosing G (d + 2) _ Q (a1 hx _ ?_)
  refine b1 hx _ ⟨fun _ => e1 hx _ ⟨fun q => absurd q (by decide), fun _ => ?_⟩, fun q => absurd q (by decide)⟩
  rw [cI (by decide), x3.2.1.1, List.length_cons, n_sub1, mg_sI_c (by decide)]
  refine ⟨fun q => absurd q (n_nneg (by omega)), fun _ => ⟨fun q => absurd ((n_le (a := 186) (by omega) (by omega)).mp q) (by omega), fun _ => f1 hx _ ?_⟩⟩
  show vp_in ((mg h5 hx).I 27 6) 186 ∧ q_M0 G (d + 2) yX1_layOperand [.ref 27, .int 3, .int v, .int ((mg h5 hx).I 29 (((mg h5 hx).I 27 6).toNatClampNeg))] (mg h5 hx) _
  have e29 : (mg h5 hx).I 29 Wt.length = t := by
    rw [cI (by decide)]
    have q1 := x3.2.1.2.2.2.2.1.1
    have q2 : Wi.length = Wt.length := by omega
    rw [q2] at q1
    rw [f4 29 (by decide), sI_row _ (by decide)]
    exact q1
  rw [cI (by decide), f2.1, n_N (by omega)]
  refine ⟨n_in (by omega) (by omega), ?_⟩
  rw [e29]
  exact g1 hx _ hQ
theorem c_closeNo (hd : 3 ≤ d) (hq : q_cir c) {s : Int32} (x : CX T c a dp fk fp (s :: Wt) Wi Mk wk wn Pt hc) (hk : ¬ T.k a = if s = 91 then 93 else 41) : ∃ hc', cR G d yX1_readClosing [.ref 27] hc (riv 0) hc' ∧ CFail 1 (T.p a) hc' ∧ CXF c hc hc' := by
  obtain ⟨d, rfl⟩ := Nat.exists_eq_add_of_le' hd
  have a1 := c_last (G := G) (d := d + 2) (by omega) x.2.1
  obtain ⟨h2, b1, b2, b3⟩ := c_passNo (G := G) (d := d + 2) (by omega) x.1 hk
  refine ⟨h2, fun hx Q hQ => ?_, b2, b3.xf hq⟩
  refine x_X1_readClosing G (d + 2) _ Q (a1 hx _ ?_)
  have e : (if (if s = 91 then (1 : Int32) else 0) = 0 then (41 : Int32) else 93) = if s = 91 then 93 else 41 := by
    by_cases h : s = 91
    · rw [if_pos h, if_pos h]; rfl
    · rw [if_neg h, if_neg h]; rfl
  show q_M0 G (d + 2) yX4_pass [.ref 22, .int (if (if s = 91 then (1 : Int32) else 0) = 0 then (41 : Int32) else 93)] (mg hc hx) _
  rw [e]
  exact b1 hx _ ⟨fun q => absurd rfl q, fun _ => hQ⟩
end XC
