/-! ===== STATEMENTS: break, continue; int NAME = E ===== -/
section ST2
variable {G : qG} {T : tkD} {c p e na : Nat} {hc0 hm0 : qh} {a dp : Nat} {fk fp : Int32} {wk : Nat} {Pt : List prt} {Cd : List cod} {Nm : List nmE} {st nv nl jn wh : Nat} {ag bh : Int32} {hc hm : qh}
/-- the reference's leap -/
theorem m_leap (R : TR T) (hp : q_prg p) (he : q_end e) {d : Nat} (hd : 3 ≤ d) (x2 : MSt T p e a dp fk fp wk Cd Nm st nv nl wh hm) (ha : a < T.n) (ha1 : a + 1 < T.n) (hst : st < 2000) (k59 : T.k (a + 1) = 59) (hwb : wh < 5000) : ∃ m2, (∀ (hx : qh) (Q : qr → qh → Prop), Q (riv (Int32.ofNat st)) (mg hx m2) → q_M0 G d yX12_wants [.ref 43, .int 59] (mg hx (hm.sI 43 14 (Int32.ofNat (a + 1)))) (q_rv (fun h72 => (¬ (h72.I 43 40) = 0 → (vp_in (Int32.ofNat a) 2001 ∧ (q_M0 G d yX12_newStatement [.ref 43, .int (if (h72.I 47 a) = 9 then (4 : Int32) else 5)] h72 (q_ri (fun r76 h75 => Q (.inl (some (.int r76))) h75) (fun E h => Q (.inr E) h))))) ∧ ((h72.I 43 40) = 0 → (q_M0 G d yX12_wrong [.ref 43, .int 5, .int (Int32.ofNat a)] h72 (q_rv (fun h77 => vp_in (Int32.ofNat a) 2001 ∧ (q_M0 G d yX12_newStatement [.ref 43, .int (if (h77.I 47 a) = 9 then (4 : Int32) else 5)] h77 (q_ri (fun r81 h80 => Q (.inl (some (.int r81))) h80) (fun E h => Q (.inr E) h)))) (fun E h => Q (.inr E) h))))) (fun E h => Q (.inr E) h))) ∧
    MSt T p e (a + 2) dp (wK fk fp (if wh = 0 then 5 else 0) (T.p a)) (wP fk fp (if wh = 0 then 5 else 0) (T.p a)) wk Cd Nm (st + 1) nv nl wh m2 ∧ PFm p e hm m2 ∧ (∀ n, SFm p e st n hm m2) ∧ m2.I (p + 2) st = (if T.km a = 9 then 4 else 5) ∧ m2.I (p + 8) st = -1 := by
  have hn := R.2.1
  have r43 := R43.sI hm 14 (Int32.ofNat (a + 1)) (by decide)
  have y2 := x2.r43 hp (x2.1.1.seta (a + 1)) r43
  obtain ⟨m1, l1, l2, l3⟩ := m_wants (G := G) (d := d) (by omega) R y2.1.1 ha1 (s := 59) (by decide) k59
  have y3 := y2.r43 hp l2 l3
  have e40 : ∀ hx, (mg hx m1).I 43 40 = Int32.ofNat wh := fun hx => by rw [mI (by decide)]; exact y3.2.2.2.2
  by_cases hw : wh = 0
  · obtain ⟨m2, g1, g2, g3⟩ := m_wrong (G := G) (d := d) (by omega) R y3.1.1 ha (k := 5) (by decide)
    have y4 := y3.r43 hp g2 g3
    obtain ⟨m3, s1, s2, s3, s4, s5⟩ := sm_new (G := G) (d := d) (by omega) hp he y4 hst (if T.km a = 9 then 4 else 5)
    refine ⟨m3, fun hx Q hF => l1 hx _ ⟨fun q => absurd ?_ q, fun _ => g1 hx _ ⟨m_inA R ha, ?_⟩⟩, by rw [if_pos hw]; exact s2, (r43.pf hp).tr ((l3.pf hp).tr ((g3.pf hp).tr s3)), fun n => ((r43.xf hp).sf hp he).tr (((l3.xf hp).sf hp he).tr (((g3.xf hp).sf hp he).tr (s4 n) (Nat.le_refl _) (Nat.le_refl _)) (Nat.le_refl _) (Nat.le_refl _)) (Nat.le_refl _) (Nat.le_refl _), s5.1, s5.2.2.2⟩
    · rw [e40, hw]; rfl
    · rw [mI (by decide), y4.1.1.2.2.1]; exact s1 hx _ hF
  · obtain ⟨m3, s1, s2, s3, s4, s5⟩ := sm_new (G := G) (d := d) (by omega) hp he y3 hst (if T.km a = 9 then 4 else 5)
    refine ⟨m3, fun hx Q hF => l1 hx _ ⟨fun _ => ⟨m_inA R ha, ?_⟩, fun q => ?_⟩, ?_, (r43.pf hp).tr ((l3.pf hp).tr s3), fun n => ((r43.xf hp).sf hp he).tr (((l3.xf hp).sf hp he).tr (s4 n) (Nat.le_refl _) (Nat.le_refl _)) (Nat.le_refl _) (Nat.le_refl _), s5.1, s5.2.2.2⟩
    · rw [mI (by decide), y3.1.1.2.2.1]; exact s1 hx _ hF
    · rw [e40] at q
      exact absurd ((n_eq (b := 0) (by omega) (by decide)).mp q) hw
    · rw [if_neg hw]; unfold wK wP; rw [if_pos rfl, if_pos rfl]; exact s2
theorem lp_f {x : Int32} {wh j : Nat} (h0 : wh = 0 → x = -1) (h1 : ¬ wh = 0 → ∃ j : Nat, x = Int32.ofNat j ∧ j < jn) (hj : jn ≤ 80) : (if x = -1 then (5 : Int32) else 0) = if wh = 0 then 5 else 0 := by
  by_cases h : wh = 0
  · rw [if_pos h, if_pos (h0 h)]
  · obtain ⟨j, e1, e2⟩ := h1 h
    rw [if_neg h, if_neg (by rw [e1]; exact n_ne1 (by omega))]
theorem st_leap (R : TR T) (hq : q_cir c) (hp : q_prg p) (he : q_end e) {d D : Nat} (hd : 4 ≤ d) (hD : 6 ≤ D) (S : SI T c p e na hc0 hm0 a dp fk fp wk Pt Cd Nm st nv nl jn wh ag bh hc hm) (hk : T.k a = 8 ∨ T.k a = 9) :
    J (fun hx Q => q_M0 G D yX2_readStatement [.ref 21] (mg hc hx) Q) (fun hx Q => q_M0 G d yX12_statement [.ref 43] (mg hx hm) Q) (PP (sOk T c p e na hc0 hm0 a dp fk fp wk Pt Cd Nm st nv nl jn wh ag bh hc hm) (pFail c p e hc0 hm0)) := by
  obtain ⟨D, rfl⟩ : ∃ D', D = D' + 6 := ⟨D - 6, by omega⟩
  obtain ⟨d, rfl⟩ : ∃ d', d = d' + 1 := ⟨d - 1, by omega⟩
  obtain ⟨x1, x2, ⟨b1, b2, b3, b4, b5, b6, b7, b8, b9, b10⟩, x4, x5, x6, x7⟩ := S
  have hn := R.2.1
  have hpl := prg_lt hp
  have hel := end_lt he
  have ha1 : a + 1 < T.n := by rcases hk with q | q <;> exact tk_more' R b1 q (by decide)
  have hpn := (R.2.2.2.2.2.1 a ha1).2 hk
  obtain ⟨lf, hlf⟩ : ∃ lf : Int32, lf = if T.k a = 8 then bh else ag := ⟨_, rfl⟩
  refine J.c (Wc' := fun hx Q => q_M0 G (D + 5) yX2_readLeap [.ref 21, .int lf] (mg hc hx) (q_ri (fun r12 h11 => (r12 = 0 ∨ r12 = 1) ∧ Q (.inl (some (.int r12))) h11) (fun E h => Q (.inr E) h))) (fun hx Q hF => ?_) ?_
  · rcases hk with q | q
    · refine cd_8 ((c_at x1 hx).trans q) ?_
      rw [cI (by decide), x1.2.2.2.2.2.2.2.2.2.2]
      rw [hlf, if_pos q] at hF; exact hF
    · refine cd_9 ((c_at x1 hx).trans q) ?_
      rw [cI (by decide), x1.2.2.2.2.2.2.2.2.2.1]
      rw [hlf, if_neg (by rw [q]; decide)] at hF; exact hF
  obtain ⟨h1, g1, g2, g3⟩ := c_blame (G := G) (d := D + 4) (by omega) x1.1 (if lf = -1 then 5 else 0) (T.p a)
  have z1 := x1.r22 hq g2 g3
  obtain ⟨h2, v', Pt2, j1, j2, j3, j4, j5⟩ := sl_lay (G := G) (d := D + 4) (by omega) hq z1 8 (-1) (-1) lf
  obtain ⟨h3, i1, i2, i3⟩ := c_adv (G := G) (d := D + 4) (by omega) j2.1 ha1 hn
  have z3 := j2.r22 hq i2 i3
  refine J.c (fun hx Q hF => x_X2_readLeap G (D + 4) _ _ _ hF) ?_
  refine J.c (Wc' := fun hx Q => q_M0 G (D + 4) yX4_blame [.ref 22, .int (if lf = -1 then 5 else 0), .int (T.p a)] (mg hc hx) (q_rv (fun h2 => ∃ c3, h2.R 21 3 = some c3 ∧ q_cir c3 ∧ (q_M0 G (D + 4) yX0_lay [.ref c3, .int 8, .int (-1), .int (-1), .int lf] h2 (q_ri (fun r5 h4 => q_M0 G (D + 4) yX4_advance [.ref 22] h4 (q_rv (fun h6 => q_M0 G (D + 4) yX4_pass [.ref 22, .int 59] h6 (q_ri (fun r8 h7 => (r8 = 0 ∨ r8 = 1) ∧ ((r8 = 0 ∨ r8 = 1) ∧ Q (.inl (some (.int r8))) h7)) (fun E h => Q (.inr E) h))) (fun E h => Q (.inr E) h))) (fun E h => Q (.inr E) h)))) (fun E h => Q (.inr E) h))) (fun hx Q hF => by rw [cI (by decide), x1.1.1.2.2.2.1]; exact hF) ?_
  refine J.cv g1 (J.cE c (J.ca' (fun hx => by rw [cRr (by decide)]; exact z1.2.2.2.2.2.1) (J.ca' (fun _ => hq) (J.ci j1 (J.cv i1 ?_)))))
  refine J.m (Wm' := fun hx Q => q_M0 G d yX12_wants [.ref 43, .int 59] (mg hx (hm.sI 43 14 (Int32.ofNat (a + 1)))) (q_rv (fun h72 => (¬ (h72.I 43 40) = 0 → (vp_in (Int32.ofNat a) 2001 ∧ (q_M0 G d yX12_newStatement [.ref 43, .int (if (h72.I 47 a) = 9 then (4 : Int32) else 5)] h72 (q_ri (fun r76 h75 => Q (.inl (some (.int r76))) h75) (fun E h => Q (.inr E) h))))) ∧ ((h72.I 43 40) = 0 → (q_M0 G d yX12_wrong [.ref 43, .int 5, .int (Int32.ofNat a)] h72 (q_rv (fun h77 => vp_in (Int32.ofNat a) 2001 ∧ (q_M0 G d yX12_newStatement [.ref 43, .int (if (h77.I 47 a) = 9 then (4 : Int32) else 5)] h77 (q_ri (fun r81 h80 => Q (.inl (some (.int r81))) h80) (fun E h => Q (.inr E) h)))) (fun E h => Q (.inr E) h))))) (fun E h => Q (.inr E) h))) (fun hx Q hF => ?_) ?_
  · obtain ⟨f1, f2, f3, f4⟩ := m_at R x2 b1 hx
    rcases hk with q | q
    · refine md_9 f1 hp f2 (f3.trans ((tk_word R b1 (by decide) (by decide)).mp q)) ?_
      rw [f4, n_add1, mg_sI_m (by decide), n_N (by omega)]; exact hF
    · refine md_10 f1 hp f2 (f3.trans ((tk_word R b1 (by decide) (by decide)).mp q)) ?_
      rw [f4, n_add1, mg_sI_m (by decide), n_N (by omega)]; exact hF
  have r43 := R43.sI hm 14 (Int32.ofNat (a + 1)) (by decide)
  have y2 := x2.r43 hp (x2.1.1.seta (a + 1)) r43
  by_cases k59 : T.k (a + 1) = 59
  · have ha2 : a + 2 < T.n := tk_more' R ha1 k59 (by decide)
    have hpn2 : T.pn (a + 1) < T.pn (a + 2) := tk_pn R ha2
    obtain ⟨h4, o1, o2, o3⟩ := c_pass (G := G) (d := D + 4) (by omega) z3.1 k59 ha2 hn
    have z4 := z3.r22 hq o2 o3
    obtain ⟨m2, l1, l2, l3, l4, l5, l6⟩ := m_leap (G := G) (d := d) R hp he (by omega) x2 b1 ha1 (by omega) k59 (by omega)
    have hord : ¬ fk = 0 → ¬ fk ≤ 0 ∧ fp < T.p a := fun h0 => by have := x4.lt R b1 h0; exact ⟨this.1, this.2.2⟩
    obtain ⟨w1, w2⟩ := wK_eq (k := if wh = 0 then 5 else 0) hord
    have hfl : fk = 0 → (if lf = -1 then (5 : Int32) else 0) = if wh = 0 then 5 else 0 := fun h0 => by
      obtain ⟨_, _, _, _, _, _, _, _, _, e10, e11⟩ := x7 h0
      refine lp_f (j := 0) (fun hw => ?_) (fun hw => ?_) b10
      · rw [hlf]; split
        · exact (e10 hw).2
        · exact (e10 hw).1
      · obtain ⟨q1, q2, q3, q4, q5, q6⟩ := e11 hw
        rw [hlf]; split
        · exact ⟨q2, q4, q6⟩
        · exact ⟨q1, q3, q5⟩
    obtain ⟨w3, w4⟩ := bK_sub (fp := fp) (p := T.p a) hfl
    rw [w1, w2, ← w3, ← w4] at l2
    refine J.ci o1 (J.ca' (fun _ => Or.inr rfl) (J.ca' (fun _ => Or.inr rfl) ?_))
    refine J.m l1 ?_
    have hFG : FG T (a + 2) (bK fk (if lf = -1 then 5 else 0)) (bP fk fp (if lf = -1 then 5 else 0) (T.p a)) := (x4.next (by omega)).at R b1 (by split; exact Or.inr (by decide); exact Or.inl rfl) (by omega)
    refine J.ok ⟨rfl, a + 2, _, _, wk, Pt2, Cd, [], st + 1, nv, nl, jn, by omega, ⟨z4, l2, ⟨ha2, b2, by omega, by omega, by omega, by omega, by omega, by show Nm.length ≤ _; omega, by omega, b10⟩, hFG, x5.tr ((g3.pf hq).tr (j3.xf.pf.tr ((i3.pf hq).tr (o3.pf hq)))), x6.tr l3, fun h0 => ?_⟩, fun h0 => bK_keep h0, fun h0 => ?_⟩
    · have sc := x7 (bK_zero h0).1
      have hex := sc.ex R b1
      obtain ⟨e1, e2, e3, e4, e5, e6, e7, e8, e9, e10, e11⟩ := sc
      obtain ⟨u1, u2⟩ := j4 (by omega)
      refine ⟨e1, (o3.xf hq).cn hq ((i3.xf hq).cn hq (j3.xf.cn hq ((g3.xf hq).cn hq e2))), e3, e4, e5, e6, ?_, e8, e9, e10, e11⟩
      clear e10 e11
      rw [u2, List.length_cons]
      omega
    · have hex := (x7 (bK_zero h0).1).ex R b1
      obtain ⟨u1, u2⟩ := j4 (by omega)
      have xf : CXF c hc h4 := (g3.xf hq).tr (j3.xf.tr ((i3.xf hq).tr (o3.xf hq)))
      have pr : prts h4 c ((8, -1, -1, lf) :: Pt) := by rw [← u2]; exact z4.2.2.1.2.2
      refine ⟨(bK_zero h0).1, xf.sf hq, l4 _, by omega, Nat.le_refl _, Nat.le_refl _, ⟨[], rfl⟩, ⟨[(8, -1, -1, lf)], u2⟩, ?_, fun y q => Or.inl q, l6, Nat.le_refl _, by rw [u2, List.length_cons]; omega⟩
      rw [show 17 - dp = (16 - dp) + 1 by omega, u2, List.length_cons]
      have hl1 : ¬ lf = -1 := fun q => by
        have := (bK_zero h0).2
        rw [if_pos q] at this
        exact absurd this (by decide)
      rcases hk with q | q
      · refine Or.inr (Or.inr (Or.inr (Or.inr (Or.inl ⟨?_, by rw [hlf, if_pos q] at hl1; exact hl1, ?_, rfl⟩))))
        · rw [l5]; exact if_pos ((tk_word R b1 (by decide) (by decide)).mp q)
        · rw [hlf, if_pos q] at pr; exact prts_at pr
      · refine Or.inr (Or.inr (Or.inr (Or.inr (Or.inr (Or.inl ⟨?_, by rw [hlf, if_neg (by rw [q]; decide)] at hl1; exact hl1, ?_, rfl⟩)))))
        · rw [l5, if_neg]
          rw [(tk_word R b1 (by decide) (by decide)).mp q]; decide
        · rw [hlf, if_neg (by rw [q]; decide)] at pr; exact prts_at pr
  · obtain ⟨h4, o1, o2, o3⟩ := c_passNo (G := G) (d := D + 4) (by omega) z3.1 k59
    obtain ⟨m2, l1, l2, l3⟩ := m_wantsNo (G := G) (d := d) (by omega) R y2.1.1 ha1 (s := 59) (by decide) k59
    refine J.ci o1 (J.ca' (fun _ => Or.inl rfl) (J.ca' (fun _ => Or.inl rfl) ?_))
    exact J.mxv l1 (J.fail ⟨1, T.p (a + 1), Or.inl rfl, o2, l2, x5.tr ((g3.pf hq).tr (j3.xf.pf.tr ((i3.pf hq).tr (o3.pf hq)))), x6.tr ((r43.pf hp).tr (l3.pf hp))⟩)
end ST2
