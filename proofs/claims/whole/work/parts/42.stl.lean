/-! ===== STATEMENTS: the steps of the class and of the reference ===== -/
def CSt (T : tkD) (c a dp : Nat) (fk fp : Int32) (wk : Nat) (Pt : List prt) (jn nv nl : Nat) (ag bh : Int32) (h : qh) : Prop := CB T a dp fk fp h ∧ h.I 27 8 = Int32.ofNat wk ∧ CC c Pt h ∧ CK h ∧ h.R 27 5 = some c ∧ h.R 21 3 = some c ∧ h.I c 7 = Int32.ofNat jn ∧ h.I c 10 = Int32.ofNat nv ∧ h.I c 11 = Int32.ofNat nl ∧ h.I 21 4 = ag ∧ h.I 21 5 = bh
def MSt (T : tkD) (p e a dp : Nat) (fk fp : Int32) (wk : Nat) (Cd : List cod) (Nm : List nmE) (st nv nl wh : Nat) (h : qh) : Prop := MX T p e a dp fk fp wk Cd Nm h ∧ h.I p 5 = Int32.ofNat st ∧ h.I p 2 = Int32.ofNat nv ∧ h.I p 3 = Int32.ofNat nl ∧ h.I 43 40 = Int32.ofNat wh
def SFc (c jn : Nat) (h h' : qh) : Prop := (∀ j, j < jn → h'.I (c + 5) j = h.I (c + 5) j) ∧ h'.I (c + 6) = h.I (c + 6) ∧ (∀ k, (k = 8 ∨ k = 9) → h'.I c k = h.I c k)
def SFm (p e st n : Nat) (h h' : qh) : Prop := (∀ o, 2 ≤ o → o ≤ 8 → ∀ i, i < st → h'.I (p + o) i = h.I (p + o) i) ∧ (∀ i, i < n → h'.I e i = h.I e i) ∧ h'.I (p + 1) = h.I (p + 1) ∧ (∀ k, (k = 0 ∨ k = 1 ∨ k = 7) → h'.I p k = h.I p k)
theorem SFc.rf (c jn : Nat) (h : qh) : SFc c jn h h := ⟨fun _ _ => rfl, rfl, fun _ _ => rfl⟩
theorem SFm.rf (p e st n : Nat) (h : qh) : SFm p e st n h h := ⟨fun _ _ _ _ _ => rfl, fun _ _ => rfl, rfl, fun _ _ => rfl⟩
theorem SFc.tr {c jn jn' : Nat} {h h1 h2 : qh} (a : SFc c jn h h1) (b : SFc c jn' h1 h2) (hj : jn ≤ jn') : SFc c jn h h2 := ⟨fun j e => (b.1 j (by omega)).trans (a.1 j e), b.2.1.trans a.2.1, fun k e => (b.2.2 k e).trans (a.2.2 k e)⟩
theorem SFm.tr {p e st st' n n' : Nat} {h h1 h2 : qh} (a : SFm p e st n h h1) (b : SFm p e st' n' h1 h2) (hs : st ≤ st') (hn : n ≤ n') : SFm p e st n h h2 := ⟨fun o e1 e2 i e3 => (b.1 o e1 e2 i (by omega)).trans (a.1 o e1 e2 i e3), fun i e => (b.2.1 i (by omega)).trans (a.2.1 i e), b.2.2.1.trans a.2.2.1, fun k e => (b.2.2.2 k e).trans (a.2.2.2 k e)⟩
theorem CXF.sf {c jn : Nat} {h h' : qh} (hq : q_cir c) (r : CXF c h h') : SFc c jn h h' := by
  have := cir_lt hq
  exact ⟨fun j _ => by rw [r.1 (c + 5) (by omega) (by omega) (by omega)], r.1 (c + 6) (by omega) (by omega) (by omega), fun k e => r.2.2.2 k (by omega)⟩
theorem MEF.sf {p e st n : Nat} {h h' : qh} (hp : q_prg p) (he : q_end e) (r : MEF p e n h h') : SFm p e st n h h' := by
  have := prg_lt hp
  have := end_lt he
  exact ⟨fun o e1 e2 i _ => by rw [r.1 (p + o) (by omega) (by omega) (by omega) (by omega) (by omega)], fun i e => r.2.2.2.2.2 i (by omega), r.1 (p + 1) (by omega) (by omega) (by omega) (by omega) (by omega), fun k e => r.2.2.2.2.1 k (by omega) (by omega)⟩
theorem MXF.sf {p e st n : Nat} {h h' : qh} (hp : q_prg p) (he : q_end e) (r : MXF p h h') : SFm p e st n h h' := (r.ef (n := n) hp he).sf hp he
section STL
variable {G : qG} {d : Nat} {T : tkD} {c p e a dp : Nat} {fk fp : Int32} {wk : Nat} {Pt : List prt} {Cd : List cod} {Nm : List nmE} {st nv nl jn wh : Nat} {ag bh : Int32} {hc hm : qh}
theorem CSt.xf {hc' : qh} {a' dp' : Nat} {fk' fp' : Int32} {wk' : Nat} {Pt' : List prt} (x : CSt T c a dp fk fp wk Pt jn nv nl ag bh hc) (hq : q_cir c) (b : CB T a' dp' fk' fp' hc') (w : hc'.I 27 8 = Int32.ofNat wk') (cc : CC c Pt' hc') (r : CXF c hc hc') : CSt T c a' dp' fk' fp' wk' Pt' jn nv nl ag bh hc' := by
  have := cir_lt hq
  have e21 := r.1 21 (by decide) (by decide) (by omega)
  have e23 := r.1 23 (by decide) (by decide) (by omega)
  obtain ⟨x1, x2, x3, x4, x5, x6, x7, x8, x9, x10, x11⟩ := x
  exact ⟨b, w, cc, x4.to e23, by rw [r.2.2.1.1]; exact x5, by rw [r.2.2.1.1]; exact x6, (r.2.2.2 7 (by decide)).trans x7, (r.2.2.2 10 (by decide)).trans x8, (r.2.2.2 11 (by decide)).trans x9, by rw [e21]; exact x10, by rw [e21]; exact x11⟩
theorem CSt.r22 {hc' : qh} {a' dp' : Nat} {fk' fp' : Int32} (x : CSt T c a dp fk fp wk Pt jn nv nl ag bh hc) (hq : q_cir c) (b : CB T a' dp' fk' fp' hc') (r : R22 hc hc') : CSt T c a' dp' fk' fp' wk Pt jn nv nl ag bh hc' :=
  x.xf hq b (by rw [r.1 27 (by decide)]; exact x.2.1) (r.cc hq x.2.2.1) (r.xf hq)
theorem CSt.rc {hc' : qh} {Pt' : List prt} (x : CSt T c a dp fk fp wk Pt jn nv nl ag bh hc) (hq : q_cir c) (b : CC c Pt' hc') (r : Rc c hc hc') : CSt T c a dp fk fp wk Pt' jn nv nl ag bh hc' :=
  x.xf hq (r.cb hq x.1) (by rw [r.1 27 (by have := cir_lt hq; omega)]; exact x.2.1) b r.xf
theorem MSt.r43 {hm' : qh} {a' dp' : Nat} {fk' fp' : Int32} (x : MSt T p e a dp fk fp wk Cd Nm st nv nl wh hm) (hp : q_prg p) (b : MB T a' dp' fk' fp' hm') (r : R43 hm hm') : MSt T p e a' dp' fk' fp' wk Cd Nm st nv nl wh hm' := by
  have hpl := prg_lt hp
  have ep := r.1 p (by omega)
  exact ⟨x.1.r43 hp b r, by rw [ep]; exact x.2.1, by rw [ep]; exact x.2.2.1, by rw [ep]; exact x.2.2.2.1, (r.2.2.2 40 (by decide)).trans x.2.2.2.2⟩
theorem MSt.ef {hm' : qh} {a' dp' : Nat} {fk' fp' : Int32} {wk' : Nat} {Cd' : List cod} {n : Nat} (x : MSt T p e a dp fk fp wk Cd Nm st nv nl wh hm) (b : MX T p e a' dp' fk' fp' wk' Cd' Nm hm') (r : MEF p e n hm hm') : MSt T p e a' dp' fk' fp' wk' Cd' Nm st nv nl wh hm' :=
  ⟨b, (r.2.2.2.2.1 5 (by decide) (by decide)).trans x.2.1, (r.2.2.2.2.1 2 (by decide) (by decide)).trans x.2.2.1, (r.2.2.2.2.1 3 (by decide) (by decide)).trans x.2.2.2.1, (r.2.2.2.1 40 (by decide)).trans x.2.2.2.2⟩
/-- laying a part -/
theorem sl_lay (hd : 1 ≤ d) (hq : q_cir c) (x : CSt T c a dp fk fp wk Pt jn nv nl ag bh hc) (k l r t : Int32) : ∃ hc' v Pt', cR G d yX0_lay [.ref c, .int k, .int l, .int r, .int t] hc (riv v) hc' ∧ CSt T c a dp fk fp wk Pt' jn nv nl ag bh hc' ∧ Rc c hc hc' ∧ (Pt.length < 1400 → v = Int32.ofNat Pt.length ∧ Pt' = (k, l, r, t) :: Pt) ∧ Pt'.length ≤ 1400 := by
  obtain ⟨h1, v, Pt', r1, r2, r3, r4, r5⟩ := c_lay (G := G) hd hq x.2.2.1 k l r t
  exact ⟨h1, v, Pt', r1, x.rc hq r2 r3, r3, r4, r2.2.1⟩
theorem sl_junction (hd : 1 ≤ d) (hq : q_cir c) (x : CSt T c a dp fk fp wk Pt jn nv nl ag bh hc) (hj : jn ≤ 80) : ∃ hc' v jn', cR G d yX0_junction [.ref c] hc (riv v) hc' ∧ CSt T c a dp fk fp wk Pt jn' nv nl ag bh hc' ∧ PFc c hc hc' ∧ (∀ T' Nm', CN T' Nm' hc → CN T' Nm' hc') ∧ SFc c jn hc hc' ∧ jn ≤ jn' ∧ jn' ≤ 80 ∧ (jn < 80 → v = Int32.ofNat jn ∧ jn' = jn + 1) ∧ (∀ o, ¬ (c ≤ o ∧ o ≤ c + 6) → hc'.I o = hc.I o) ∧ hc'.L = hc.L ∧ prts hc' c Pt := by
  obtain ⟨d, rfl⟩ := Nat.exists_eq_add_of_le' hd
  have hc8 := cir_lt hq
  obtain ⟨x1, x2, x3, x4, x5, x6, x7, x8, x9, x10, x11⟩ := x
  by_cases h : jn < 80
  · refine ⟨(hc.sI (c + 5) jn (-1)).sI c 7 (Int32.ofNat (jn + 1)), Int32.ofNat jn, jn + 1, fun hx Q hQ => ?_, ?_, ⟨fun o e1 e2 => ?_, fun _ _ => rfl, rfl, fun x => x.to (by rw [sI_I, if_neg (by omega), sI_row _ (by omega)])⟩, fun T' Nm' n => n.to ?_ rfl ?_ ?_, ⟨fun j hj => ?_, ?_, fun k hk => ?_⟩, by omega, by omega, fun _ => ⟨rfl, rfl⟩, fun o ho => ?_, rfl, prts_to (fun j hj => ?_) x3.2.2⟩
    · refine x_X0_junction G d c _ Q hq ⟨fun _ => ?_, fun q => absurd ?_ q⟩
      · rw [cI (by omega), x7, n_add1, n_sub1, n_N (by omega), mg_sI_c (by omega), mg_sI_c (by omega)]
        exact ⟨n_in (by omega) h, hQ⟩
      · rw [cI (by omega), x7]; exact (n_lt (b := 80) (by omega) (by omega)).mpr h
    · refine ⟨x1.to ?_ rfl ?_ ?_ ?_ rfl, ?_, ⟨?_, x3.2.1, prts_to (fun j hj => ?_) x3.2.2⟩, x4.to ?_, x5, x6, ?_, ?_, ?_, ?_, ?_⟩
      · rw [sI_row _ (by omega), sI_row _ (by omega)]
      · rw [sI_row _ (by omega), sI_row _ (by omega)]
      · rw [sI_row _ (by omega), sI_row _ (by omega)]
      · rw [sI_row _ (by omega), sI_row _ (by omega)]
      · rw [sI_row _ (by omega), sI_row _ (by omega)]; exact x2
      · rw [sI_I, if_neg (by omega), sI_row _ (by omega)]; exact x3.1
      · rw [sI_row _ (by omega), sI_row _ (by omega), sI_row _ (by omega), sI_row _ (by omega), sI_row _ (by omega), sI_row _ (by omega), sI_row _ (by omega), sI_row _ (by omega)]
        exact ⟨rfl, rfl, rfl, rfl⟩
      · rw [sI_row _ (by omega), sI_row _ (by omega)]
      · rw [sI_I]; exact if_pos ⟨rfl, rfl⟩
      · rw [sI_I, if_neg (by omega), sI_row _ (by omega)]; exact x8
      · rw [sI_I, if_neg (by omega), sI_row _ (by omega)]; exact x9
      · rw [sI_row _ (by omega), sI_row _ (by omega)]; exact x10
      · rw [sI_row _ (by omega), sI_row _ (by omega)]; exact x11
    · rw [sI_row _ (by omega), sI_row _ (by omega)]
    · rw [sI_row _ (by omega), sI_row _ (by omega)]
    · rw [sI_row _ (by omega), sI_row _ (by omega)]
    · rw [sI_row _ (by omega), sI_row _ (by omega)]
    · rw [sI_row _ (by omega), sI_I, if_neg (by omega)]
    · rw [sI_row _ (by omega), sI_row _ (by omega)]
    · rw [sI_I, if_neg (by omega), sI_row _ (by omega)]
    · rw [sI_row _ (by omega), sI_row _ (by omega)]
    · rw [sI_row _ (by omega), sI_row _ (by omega), sI_row _ (by omega), sI_row _ (by omega), sI_row _ (by omega), sI_row _ (by omega), sI_row _ (by omega), sI_row _ (by omega)]
      exact ⟨rfl, rfl, rfl, rfl⟩
  · refine ⟨hc, -1, jn, fun hx Q hQ => ?_, ⟨x1, x2, x3, x4, x5, x6, x7, x8, x9, x10, x11⟩, PFc.rf _ _, fun _ _ n => n, SFc.rf _ _ _, Nat.le_refl _, hj, fun q => absurd q h, fun _ _ => rfl, rfl, x3.2.2⟩
    refine x_X0_junction G d c _ Q hq ⟨fun q => absurd q ?_, fun _ => hQ⟩
    rw [cI (by omega), x7]
    exact fun q => h ((n_lt (b := 80) (by omega) (by omega)).mp q)
/-- joining: where the ways of a junction lead -/
theorem sl_join (hd : 2 ≤ d) (hq : q_cir c) (x : CSt T c a dp fk fp wk Pt jn nv nl ag bh hc) (hj80 : jn ≤ 80) (v : Int32) : ∃ hc' Pt', cR G d yX0_join [.ref c, .int v] hc rvv hc' ∧ CSt T c a dp fk fp wk Pt' jn nv nl ag bh hc' ∧ PFc c hc hc' ∧ (∀ T' Nm', CN T' Nm' hc → CN T' Nm' hc') ∧ (∀ j, ¬ v = Int32.ofNat j → j < 80 → hc'.I (c + 5) j = hc.I (c + 5) j) ∧ hc'.I (c + 6) = hc.I (c + 6) ∧ (∀ k, (k = 8 ∨ k = 9) → hc'.I c k = hc.I c k) ∧ Pt'.length ≤ 1400 ∧ (∀ j, v = Int32.ofNat j → j < jn → Pt.length < 1400 → hc'.I (c + 5) j = Int32.ofNat Pt.length) ∧ (Pt.length < 1400 → Pt' = stp :: Pt) := by
  obtain ⟨d, rfl⟩ := Nat.exists_eq_add_of_le' hd
  have hc8 := cir_lt hq
  by_cases hv : ∃ j, v = Int32.ofNat j ∧ j < jn
  · obtain ⟨j, rfl, hj⟩ := hv
    have x' : CSt T c a dp fk fp wk Pt jn nv nl ag bh (hc.sI (c + 5) j (Int32.ofNat Pt.length)) := by
      obtain ⟨x1, x2, x3, x4, x5, x6, x7, x8, x9, x10, x11⟩ := x
      exact ⟨x1.to (sI_row _ (by omega)) rfl (sI_row _ (by omega)) (sI_row _ (by omega)) (sI_row _ (by omega)) rfl, by rw [sI_row _ (by omega)]; exact x2, x3.to (fun o _ _ => sI_row _ (by omega)), x4.to (sI_row _ (by omega)), x5, x6, by rw [sI_row _ (by omega)]; exact x7, by rw [sI_row _ (by omega)]; exact x8, by rw [sI_row _ (by omega)]; exact x9, by rw [sI_row _ (by omega)]; exact x10, by rw [sI_row _ (by omega)]; exact x11⟩
    obtain ⟨h1, w, Pt', r1, r2, r3, r4, r5⟩ := sl_lay (G := G) (d := d + 1) (by omega) hq x' 7 (-1) (-1) (-1)
    refine ⟨h1, Pt', fun hx Q hQ => ?_, r2, ⟨fun o e1 e2 => ?_, fun o _ => by rw [r3.2.1]; rfl, by rw [r3.2.2.1.1]; rfl, fun x => r3.2.2.1.2 (x.to (by rw [sI_row _ (by omega)]))⟩, fun T' Nm' n => n.to ?_ (by rw [r3.2.1]; rfl) ?_ ?_, fun i hi hi2 => ?_, ?_, fun k hk => ?_, r5, fun i hi hi2 hp => ?_, fun hp => (r4 hp).2⟩
    · refine x_X0_join G (d + 1) c _ _ Q hq ⟨fun q => absurd q (n_nneg (by omega)), fun _ => ⟨fun q => absurd q ?_, fun _ => ⟨fun q => absurd q ?_, fun _ => ⟨n_in (by omega) (by omega), ?_⟩⟩⟩⟩
      · rw [cI (by omega), x.2.2.2.2.2.2.1]; exact fun q => absurd ((n_le (by omega) (by omega)).mp q) (by omega)
      · exact fun q => absurd ((n_le (a := 80) (by omega) (by omega)).mp q) (by omega)
      · rw [cI (by omega), x.2.2.1.1, n_N (by omega), mg_sI_c (by omega)]
        exact r1 hx _ hQ
    · rw [r3.1 o (by omega), sI_row _ (by omega)]
    · rw [r3.1 23 (by omega), sI_row _ (by omega)]
    · rw [r3.1 25 (by omega), sI_row _ (by omega)]
    · rw [r3.1 26 (by omega), sI_row _ (by omega)]
    · rw [r3.1 (c + 5) (by omega), sI_I, if_neg (fun w => hi (by rw [w.2]))]
    · rw [r3.1 (c + 6) (by omega), sI_row _ (by omega)]
    · rw [r3.2.2.2 k (by omega), sI_row _ (by omega)]
    · have : j = i := (n_eq (by omega) (by omega)).mp hi
      subst this
      rw [r3.1 (c + 5) (by omega), sI_I]; exact if_pos ⟨rfl, rfl⟩
  · obtain ⟨h1, w, Pt', r1, r2, r3, r4, r5⟩ := sl_lay (G := G) (d := d + 1) (by omega) hq x 7 (-1) (-1) (-1)
    refine ⟨h1, Pt', fun hx Q hQ => ?_, r2, r3.xf.pf, fun T' Nm' n => r3.xf.cn hq n, fun i hi hi2 => by rw [r3.1 (c + 5) (by omega)], r3.1 (c + 6) (by omega), fun k hk => r3.2.2.2 k (by omega), r5, fun i hi hi2 hp => absurd ⟨i, hi, hi2⟩ hv, fun hp => (r4 hp).2⟩
    refine x_X0_join G (d + 1) c _ _ Q hq ⟨fun _ => r1 hx _ hQ, fun h0 => ⟨fun _ => r1 hx _ hQ, fun q => absurd ?_ q⟩⟩
    obtain ⟨i, i1, rfl⟩ := n_of h0
    rw [cI (by omega), x.2.2.2.2.2.2.1]
    refine (n_le (by omega) i1).mpr ?_
    rcases Nat.lt_or_ge i jn with u | u
    · exact absurd ⟨i, rfl, u⟩ hv
    · exact u
/-- counting an if or a while -/
theorem sl_branch (hd : 2 ≤ d) (hq : q_cir c) (x : CSt T c a dp fk fp wk Pt jn nv nl ag bh hc) (hl : nl < 5000) : ∃ hc', cR G d yX2_countBranching [.ref 21] hc rvv hc' ∧ CSt T c a dp (bK fk (if nl < 40 then 0 else 6)) (bP fk fp (if nl < 40 then 0 else 6) (T.p a)) wk Pt jn nv (nl + 1) ag bh hc' ∧ PFc c hc hc' ∧ (∀ T' Nm', CN T' Nm' hc → CN T' Nm' hc') ∧ SFc c jn hc hc' ∧ prts hc' c Pt := by
  obtain ⟨d, rfl⟩ := Nat.exists_eq_add_of_le' hd
  have hc8 := cir_lt hq
  obtain ⟨h1, a1, a2, a3⟩ := c_blame (G := G) (d := d + 1) (by omega) x.1 (if nl < 40 then 0 else 6) (T.p a)
  have x1 := x.r22 hq a2 a3
  obtain ⟨y1, y2, y3, y4, y5, y6, y7, y8, y9, y10, y11⟩ := x1
  have s1 : ∀ o, o ≠ c → (h1.sI c 11 (Int32.ofNat (nl + 1))).I o = h1.I o := fun o ho => sI_row _ ho
  have cc : CC c Pt (h1.sI c 11 (Int32.ofNat (nl + 1))) := ⟨by rw [sI_I, if_neg (by omega)]; exact y3.1, y3.2.1, prts_to (fun j _ => by rw [s1 _ (by omega), s1 _ (by omega), s1 _ (by omega), s1 _ (by omega)]; exact ⟨rfl, rfl, rfl, rfl⟩) y3.2.2⟩
  refine ⟨h1.sI c 11 (Int32.ofNat (nl + 1)), fun hx Q hQ => ?_, ⟨y1.to (s1 _ (by omega)) rfl (s1 _ (by omega)) (s1 _ (by omega)) (s1 _ (by omega)) rfl, by rw [s1 _ (by omega)]; exact y2, cc, y4.to (s1 _ (by omega)), y5, y6, by rw [sI_I, if_neg (by omega)]; exact y7, by rw [sI_I, if_neg (by omega)]; exact y8, by rw [sI_I]; exact if_pos ⟨rfl, rfl⟩, by rw [s1 _ (by omega)]; exact y10, by rw [s1 _ (by omega)]; exact y11⟩, (a3.xf hq).pf.tr ⟨fun o e1 e2 => s1 _ (by omega), fun _ _ => rfl, rfl, fun x => x.to (by rw [sI_I, if_neg (by omega)])⟩, fun T' Nm' n => ((a3.xf hq).cn hq n).to (s1 _ (by omega)) rfl (s1 _ (by omega)) (s1 _ (by omega)), ((a3.xf hq).sf hq).tr (jn' := jn) ⟨fun j _ => by rw [s1 _ (by omega)], s1 _ (by omega), fun k hk => by rw [sI_I]; exact if_neg (by omega)⟩ (Nat.le_refl _), cc.2.2⟩
  refine x_X2_countBranching G (d + 1) _ Q ⟨c, by rw [cRr (by decide)]; exact x.2.2.2.2.2.1, hq, ?_⟩
  have e1 : (if (mg hc hx).I c 11 < 40 then (0 : Int32) else 6) = if nl < 40 then 0 else 6 := by
    rw [cI (by omega), x.2.2.2.2.2.2.2.2.1]
    have := n_lt (a := nl) (b := 40) (by omega) (by omega)
    by_cases h : nl < 40
    · rw [if_pos h]; exact if_pos (this.mpr h)
    · rw [if_neg h]; exact if_neg (fun q => h (this.mp q))
  rw [e1, cI (by decide), x.1.1.2.2.2.1]
  refine a1 hx _ ⟨c, by rw [cRr (by decide)]; exact y6, hq, ?_⟩
  rw [cI (by omega), y9, n_add1, mg_sI_c (by omega)]
  exact hQ
end STL
