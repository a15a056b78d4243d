/-! ===== STATEMENTS: return, break, continue ===== -/
def EO (T : tkD) (c p e : Nat) (hc0 hm0 : qh) (a dp : Nat) (fk fp : Int32) (wk : Nat) (Pt : List prt) (Cd : List cod) (Nm : List nmE) (st nvc nlc nvm nlm jn wh : Nat) (ag bh : Int32) (hc hm : qh) (a' : Nat) (fk' fp' : Int32) (wk' : Nat) (v : Int32) (Pt' : List prt) (Cd' : List cod) (hc' hm' : qh) : Prop :=
  a < a' ∧ a' < T.n ∧ CSt T c a' dp fk' fp' wk' Pt' jn nvc nlc ag bh hc' ∧ CF [] [] [v] wk' 0 hc' ∧ MSt T p e a' dp fk' fp' wk' Cd' Nm st nvm nlm wh hm' ∧ PFc c hc0 hc' ∧ PFm p e hm0 hm' ∧ Cd'.length ≤ a' ∧ wk' ≤ a' ∧ FG T a' fk' fp' ∧ (¬ fk = 0 → fk' = fk ∧ fp' = fp) ∧ CXF c hc hc' ∧ MEF p e Cd.length hm hm' ∧ hm'.I e Cd.length = Int32.ofNat Cd'.length ∧ (fk' = 0 → fk = 0 ∧ wk' ≤ 400 ∧ ∃ Ce Pe, Cd' = Ce ++ Cd ∧ Pt' = Pe ++ Pt ∧ EC (VN Nm) (AN Nm) Ce Pe Pt.length [v] ∧ Ce.length + wk ≤ wk' ∧ 1 ≤ Ce.length)
theorem prts_at {h : qh} {c : Nat} {x : prt} {L : List prt} (q : prts h c (x :: L)) : pAt h c L.length = x := by
  obtain ⟨⟨a1, a2, a3, a4⟩, _⟩ := q
  unfold pAt
  rw [a1, a2, a3, a4]
theorem tk_mono {T : tkD} (R : TR T) : ∀ {a b : Nat}, a ≤ b → b < T.n → T.pn a ≤ T.pn b
  | a, 0, h, _ => by rw [show a = 0 by omega]; exact Nat.le_refl _
  | a, b + 1, h, hb => by
    rcases Nat.lt_or_ge a (b + 1) with q | q
    · have := tk_mono R (a := a) (b := b) (by omega) (by omega)
      have := tk_pn R hb
      omega
    · rw [show a = b + 1 by omega]; exact Nat.le_refl _
section ST1
variable {G : qG} {T : tkD} {c p e na : Nat} {hc0 hm0 : qh} {a dp : Nat} {fk fp : Int32} {wk : Nat} {Pt : List prt} {Cd : List cod} {Nm : List nmE} {st nv nl jn wh : Nat} {ag bh : Int32} {hc hm : qh}
theorem j_E {nvc nlc nvm nlm : Nat} {P : qr → qh → qr → qh → Prop} {F Fm : (qr → qh → Prop) → Int32 → qh → Prop} {X Xm : (qr → qh → Prop) → String → qh → Prop} (R : TR T) (hq : q_cir c) (hp : q_prg p) (he : q_end e) {d D : Nat} (hd : 13 * (17 - dp) + 18 ≤ d) (x : CSt T c a dp fk fp wk Pt jn nvc nlc ag bh hc) (m : MSt T p e a dp fk fp wk Cd Nm st nvm nlm wh hm) (ha : a < T.n) (hdp : dp ≤ 16) (hC : Cd.length ≤ a) (hw : wk ≤ a) (f : FG T a fk fp) (f1 : PFc c hc0 hc) (f2 : PFm p e hm0 hm) (cl : fk = 0 → wk ≤ 400 ∧ CN T Nm hc ∧ uq T Nm ∧ Pt.length < 1000 + wk)
    (k1 : ∀ a' fk' fp' wk' v Pt' Cd' hc' hm', EO T c p e hc0 hm0 a dp fk fp wk Pt Cd Nm st nvc nlc nvm nlm jn wh ag bh hc hm a' fk' fp' wk' v Pt' Cd' hc' hm' → J (fun hx Q => F Q 1 (mg hc' hx)) (fun hx Q => Fm Q (Int32.ofNat Cd.length) (mg hx hm')) P)
    (k2 : ∀ hc' hm', pFail c p e hc0 hm0 hc' hm' → J (fun hx Q => F Q 0 (mg hc' hx)) (fun hx Q => Xm Q "java/lang/IllegalStateException" (mg hx hm')) P) :
    J (fun hx Q => q_M0 G (D + 4) yX1_read [.ref 27] (mg hc hx) (q_ri (F Q) (X Q))) (fun hx Q => q_M0 G d yX12_expression [.ref 43] (mg hx hm) (q_ri (Fm Q) (Xm Q))) P := by
  have h := j_expr (G := G) (D := D) R hq hp he hd x.1 x.2.1 x.2.2.1 x.2.2.2.1 x.2.2.2.2.1 x.2.2.2.2.2.1 m.1 ha hdp hC hw f cl
  refine J.callii (A := fun x' hc' hm' => x' = Int32.ofNat Cd.length ∧ ∃ a' fk' fp' wk' v Pt' Cd', eOk T c p e a dp fk fp wk Pt Cd Nm hc hm a' fk' fp' wk' v Pt' Cd' hc' hm') (B := pFail c p e hc hm) (h.mono (fun rc hc' rm hm' q => ?_)) ?_ ?_
  · rcases q with ⟨q1, q2, q3⟩ | q
    · exact Or.inl ⟨q1, _, q2, rfl, q3⟩
    · exact Or.inr q
  · rintro x' hc' hm' ⟨rfl, a', fk', fp', wk', v, Pt', Cd', o1, o2, o3, o4, o5, o6, o7, o8, o9, o10, o11, o12, o13, o14⟩
    refine k1 a' fk' fp' wk' v Pt' Cd' hc' hm' ⟨o1, o2, x.xf hq o3 o4.2.2.2.2.2.2.2.2.1 o5 o6, o4, m.ef o7 o8, f1.tr o6.pf, f2.tr o8.pf, o10, o11, o12, o13, o6, o8, o9, fun h0 => ?_⟩
    obtain ⟨z1, z2, Ce, Pe, z3, z4, z5, z6⟩ := o14 h0
    refine ⟨z1, z2, Ce, Pe, z3, z4, z5, z6, ?_⟩
    cases Ce with
    | nil => exact absurd z5.2 (by simp)
    | cons x r => simp
  · rintro hc' hm' ⟨k, t, q1, q2, q3, q4, q5⟩
    exact k2 hc' hm' ⟨k, t, q1, q2, q3, f1.tr q4, f2.tr q5⟩
theorem CSt.r27 {hc' : qh} {Wt Wi Mk : List Int32} {wk' : Nat} {wn : Int32} (x : CSt T c a dp fk fp wk Pt jn nv nl ag bh hc) (hq : q_cir c) (f : CF Wt Wi Mk wk' wn hc') (r : R27 hc hc') : CSt T c a dp fk fp wk' Pt jn nv nl ag bh hc' :=
  x.xf hq (r.cb x.1) f.2.2.2.2.2.2.2.2.1 (r.cc hq x.2.2.1) (r.xf hq)
/-- where the reference stands -/
theorem m_at (R : TR T) (m : MSt T p e a dp fk fp wk Cd Nm st nv nl wh hm) (ha : a < T.n) (hx : qh) : (mg hx hm).R 43 22 = some p ∧ vp_in ((mg hx hm).I 43 14) 2001 ∧ (mg hx hm).I 47 (((mg hx hm).I 43 14).toNatClampNeg) = T.km a ∧ (mg hx hm).I 43 14 = Int32.ofNat a := by
  have hn := R.2.1
  have e14 : (mg hx hm).I 43 14 = Int32.ofNat a := by rw [mI (by decide)]; exact m.1.1.1.1
  refine ⟨by rw [mRr (by decide)]; exact m.1.2.2.2.2.1, by rw [e14]; exact m_inA R ha, ?_, e14⟩
  rw [e14, mI (by decide), m.1.1.2.2.1, n_N (by omega)]
theorem c_at (x : CSt T c a dp fk fp wk Pt jn nv nl ag bh hc) (hx : qh) : (mg hc hx).I 22 3 = T.k a := by rw [cI (by decide)]; exact x.1.1.2.2.1
theorem st_ret (R : TR T) (hq : q_cir c) (hp : q_prg p) (he : q_end e) {d D : Nat} (hd : 13 * (17 - dp) + 20 ≤ d) (hD : 12 ≤ D) (S : SI T c p e na hc0 hm0 a dp fk fp wk Pt Cd Nm st nv nl jn wh ag bh hc hm) (hk : T.k a = 10) :
    J (fun hx Q => q_M0 G D yX2_readStatement [.ref 21] (mg hc hx) Q) (fun hx Q => q_M0 G d yX12_statement [.ref 43] (mg hx hm) Q) (PP (sOk T c p e na hc0 hm0 a dp fk fp wk Pt Cd Nm st nv nl jn wh ag bh hc hm) (pFail c p e hc0 hm0)) := by
  obtain ⟨D, rfl⟩ : ∃ D', D = D' + 12 := ⟨D - 12, by omega⟩
  obtain ⟨d, rfl⟩ : ∃ d', d = d' + 1 := ⟨d - 1, by omega⟩
  obtain ⟨x1, x2, ⟨b1, b2, b3, b4, b5, b6, b7, b8, b9, b10⟩, x4, x5, x6, x7⟩ := S
  have hn := R.2.1
  have hpl := prg_lt hp
  have hel := end_lt he
  have ha1 := tk_more' R b1 hk (by decide)
  have hpn := tk_pn R ha1
  obtain ⟨h1, r1, r2, r3⟩ := c_adv (G := G) (d := D + 10) (by omega) x1.1 ha1 hn
  have y1 := x1.r22 hq r2 r3
  have r43 := R43.sI hm 14 (Int32.ofNat (a + 1)) (by decide)
  have y2 := x2.r43 hp (x2.1.1.seta (a + 1)) r43
  obtain ⟨m1, s1, s2, s3, s4, s5⟩ := sm_new (G := G) (d := d) (by omega) hp he y2 (by omega) 6
  refine J.c (fun hx Q hF => cd_10 ((c_at x1 hx).trans hk) hF) ?_
  refine J.c (fun hx Q hF => x_X2_readReturn G (D + 10) _ _ hF) ?_
  refine J.cv r1 ?_
  refine J.m (fun hx Q hF => md_11 (m_at R x2 b1 hx).1 hp (m_at R x2 b1 hx).2.1 ((m_at R x2 b1 hx).2.2.1.trans ((tk_word R b1 (by decide) (by decide)).mp hk)) hF) ?_
  refine J.m (Wm' := fun hx Q => q_M0 G d yX12_newStatement [.ref 43, .int 6] (mg hx (hm.sI 43 14 (Int32.ofNat (a + 1)))) (q_ri (fun r93 h92 => q_M0 G d yX12_expression [.ref 43] h92 (q_ri (fun r95 h94 => vp_in r93 2000 ∧ (q_M0 G d yX12_wants [.ref 43, .int 59] (h94.sI (p + 4) (r93.toNatClampNeg) r95) (q_rv (fun h97 => Q (.inl (some (.int r93))) h97) (fun E h => Q (.inr E) h)))) (fun E h => Q (.inr E) h))) (fun E h => Q (.inr E) h))) (fun hx Q hF => by rw [(m_at R x2 b1 hx).2.2.2, n_add1, mg_sI_m (by decide)]; exact hF) ?_
  refine J.mi s1 ?_
  refine j_E (D := D + 6) R hq hp he (by omega) y1 s2 ha1 b2 (by omega) (by omega) (x4.next (by omega)) (x5.tr (r3.pf hq)) ((x6.tr (r43.pf hp)).tr s3) (fun h0 => ⟨(x7 h0).1, (r3.xf hq).cn hq (x7 h0).2.1, (x7 h0).2.2.1, ((x7 h0).ex R b1).1⟩) ?_ ?_
  · rintro a' fk' fp' wk' v Pt' Cd' hc' hm' ⟨o1, o2, o3, o4, o5, o6, o7, o8, o9, o10, o11, o12, o13, o14, o15⟩
    refine J.c2 (by decide) ?_
    refine J.ma' (fun hx => n_in (by omega) (by omega)) ?_
    have w1 := o5.row hp (o := 4) (by decide) (by decide) st (Int32.ofNat Cd.length)
    have w2 : PFm p e hm' (hm'.sI (p + 4) st (Int32.ofNat Cd.length)) := PFm.sI hp he _ _ _ _ (by omega)
    refine J.m (Wm' := fun hx Q => q_M0 G d yX12_wants [.ref 43, .int 59] (mg hx (hm'.sI (p + 4) st (Int32.ofNat Cd.length))) (q_rv (fun h97 => Q (.inl (some (.int (Int32.ofNat st)))) h97) (fun E h => Q (.inr E) h))) (fun hx Q hF => by rw [n_N (by omega), mg_sI_m (by omega)]; exact hF) ?_
    by_cases k59 : T.k a' = 59
    · have ha2 := tk_more' R o2 k59 (by decide)
      have hpn2 := tk_pn R ha2
      obtain ⟨h2, g1, g2, g3⟩ := c_pass (G := G) (d := D + 10) (by omega) o3.1 k59 ha2 hn
      have z1 := o3.r22 hq g2 g3
      obtain ⟨h3, i1, i2, i3⟩ := c_result (G := G) (d := D + 10) (by omega) (g3.cf o4)
      have z2 := z1.r27 hq i2 i3
      obtain ⟨h4, v', Pt4, j1, j2, j3, j4, j5⟩ := sl_lay (G := G) (d := D + 10) (by omega) hq z2 9 v (-1) (-1)
      obtain ⟨m5, l1, l2, l3⟩ := m_wants (G := G) (d := d) (by omega) R w1.1.1 o2 (s := 59) (by decide) k59
      have z5 := w1.r43 hp l2 l3
      refine J.ci g1 ?_
      refine J.c4 (by decide) ?_
      refine J.cE c (J.ca' (fun hx => by rw [cRr (by decide)]; exact z1.2.2.2.2.2.1) (J.ca' (fun _ => hq) ?_))
      refine J.ci i1 (J.ci j1 (J.ca' (fun _ => Or.inr rfl) ?_))
      refine J.mv l1 ?_
      refine J.ok ⟨rfl, a' + 1, fk', fp', wk', Pt4, Cd', [], st + 1, nv, nl, jn, by omega, ⟨j2, z5, ⟨ha2, b2, by omega, by omega, by omega, by omega, by omega, by show Nm.length ≤ _; omega, by omega, b10⟩, o10.next (by omega), o6.tr ((g3.pf hq).tr ((i3.xf hq).pf.tr j3.xf.pf)), o7.tr (w2.tr (l3.pf hp)), fun h0 => ?_⟩, o11, fun h0 => ?_⟩
      · obtain ⟨q1, q2, Ce, Pe, q3, q4, q5, q6, q7⟩ := o15 h0
        have sc := x7 q1
        obtain ⟨e1, e2, e3, e4, e5, e6, e7, e8, e9, e10, e11⟩ := sc
        have hP : Pt'.length = Ce.length + Pt.length := by rw [q4, List.length_append, q5.len]
        have hex := (x7 q1).ex R b1
        have hm : T.pn (a + 1) ≤ T.pn (a' + 1) := tk_mono R (by omega) ha2
        obtain ⟨u1, u2⟩ := j4 (by omega)
        refine ⟨q2, j3.xf.cn hq ((i3.xf hq).cn hq ((g3.xf hq).cn hq (o12.cn hq ((r3.xf hq).cn hq e2)))), e3, e4, e5, e6, ?_, e8, e9, e10, e11⟩
        rw [u2, List.length_cons]
        omega
      · obtain ⟨q1, q2, Ce, Pe, q3, q4, q5, q6, q7⟩ := o15 h0
        have hex := (x7 q1).ex R b1
        have hP : Pt'.length = Ce.length + Pt.length := by rw [q4, List.length_append, q5.len]
        obtain ⟨u1, u2⟩ := j4 (by omega)
        have xf : CXF c hc h4 := (r3.xf hq).tr (o12.tr ((g3.xf hq).tr ((i3.xf hq).tr j3.xf)))
        have kp : ∀ o, 2 ≤ o → o ≤ 8 → o ≠ 4 → m5.I (p + o) st = m1.I (p + o) st := fun o p1 p2 p3 => by
          rw [l3.1 _ (by omega), sI_row _ (by omega), o13.1 _ (by omega) (by omega) (by omega) (by omega) (by omega)]
        have pr : prts h4 c ((9, v, -1, -1) :: Pt') := by rw [← u2]; exact j2.2.2.1.2.2
        have ee : m5.I e Cd.length = Int32.ofNat Cd'.length := by rw [l3.1 e (by omega), sI_row _ (by omega)]; exact o14
        have cd' := z5.1.2.1.2
        refine ⟨q1, xf.sf hq, ?_, by omega, Nat.le_refl _, Nat.le_refl _, ⟨Ce, q3⟩, ⟨(9, v, -1, -1) :: Pe, by rw [u2, q4]; rfl⟩, ?_, fun y q => Or.inl q, (kp 8 (by decide) (by decide) (by decide)).trans s5.2.2.2, Nat.le_refl _, by rw [u2, List.length_cons]; have := tk_mono R (show a ≤ a' + 1 by omega) ha2; omega⟩
        · exact (((r43.xf hp).sf hp he).tr ((s4 Cd.length).tr ((o13.sf hp he).tr ((SFm.row hp he _ _ (by decide) (by decide) (Nat.le_refl _)).tr ((l3.xf hp).sf hp he) (Nat.le_refl _) (Nat.le_refl _)) (Nat.le_refl _) (Nat.le_refl _)) (Nat.le_refl _) (Nat.le_refl _)) (Nat.le_refl _) (Nat.le_refl _))
        · rw [show 17 - dp = (16 - dp) + 1 by omega, u2, List.length_cons]
          refine Or.inr (Or.inr (Or.inr (Or.inr (Or.inr (Or.inr (Or.inl ⟨(kp 2 (by decide) (by decide) (by decide)).trans s5.1, Cd.length, Ce.length, v, ?_, ?_, ?_, by omega⟩))))))
          · rw [l3.1 _ (by omega), sI_I]; exact if_pos ⟨rfl, rfl⟩
          · rw [q4] at pr
            rw [q3] at cd' ee ⊢
            exact EP.mk (prts_tail (X := [_]) pr) cd' ee q5 (x7 q1).an (Nat.le_refl _)
          · rw [Nat.add_comm, ← hP]; exact prts_at pr
    · obtain ⟨h2, g1, g2, g3⟩ := c_passNo (G := G) (d := D + 10) (by omega) o3.1 k59
      obtain ⟨m5, l1, l2, l3⟩ := m_wantsNo (G := G) (d := d) (by omega) R w1.1.1 o2 (s := 59) (by decide) k59
      refine J.ci g1 (J.c3 rfl (J.ca' (fun _ => Or.inl rfl) ?_))
      exact J.mxv l1 (J.fail ⟨1, T.p a', Or.inl rfl, g2, l2, o6.tr (g3.pf hq), o7.tr (w2.tr (l3.pf hp))⟩)
  · intro hc' hm' hf
    refine J.c1 rfl (J.ca' (fun _ => Or.inl rfl) ?_)
    exact J.fail hf
end ST1
