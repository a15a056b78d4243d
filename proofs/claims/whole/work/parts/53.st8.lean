/-! ===== STATEMENTS: while ===== -/
section ST8
variable {G : qG} {T : tkD} {c p e na : Nat} {hc0 hm0 : qh} {a dp : Nat} {fk fp : Int32} {wk : Nat} {Pt : List prt} {Cd : List cod} {Nm : List nmE} {st nv nl jn wh : Nat} {ag bh : Int32} {hc hm : qh}
theorem st_while (R : TR T) (hq : q_cir c) (hp : q_prg p) (he : q_end e) (IH : ∀ a', a < a' → stS G T c p e na hc0 hm0 a') {d D : Nat} (hd : 16 * (17 - dp) + 30 ≤ d) (hD : 3 * (17 - dp) + 12 ≤ D) (S : SI T c p e na hc0 hm0 a dp fk fp wk Pt Cd Nm st nv nl jn wh ag bh hc hm) (hk : T.k a = 7) :
    J (fun hx Q => q_M0 G D yX2_readStatement [.ref 21] (mg hc hx) Q) (fun hx Q => q_M0 G d yX12_statement [.ref 43] (mg hx hm) Q) (PP (sOk T c p e na hc0 hm0 a dp fk fp wk Pt Cd Nm st nv nl jn wh ag bh hc hm) (pFail c p e hc0 hm0)) := by
  obtain ⟨E, rfl⟩ : ∃ D', D = D' + 7 := ⟨D - 7, by omega⟩
  obtain ⟨d, rfl⟩ : ∃ d', d = d' + 3 := ⟨d - 3, by omega⟩
  obtain ⟨x1, x2, ⟨b1, b2, b3, b4, b5, b6, b7, b8, b9, b10⟩, x4, x5, x6, x7⟩ := S
  have hn := R.2.1
  have hpl := prg_lt hp
  have hel := end_lt he
  have hc8 := cir_lt hq
  have hcl : c < 43 := by omega
  have hp6 : 43 ≤ p + 6 := by omega
  have ha1 := tk_more' R b1 hk (by decide)
  have hsb : st < 2147483648 := by omega
  have hin : vp_in (Int32.ofNat st) 2000 := n_in (by omega) (by omega)
  have hpn := tk_pn R ha1
  have hord : ¬ fk = 0 → ¬ fk ≤ 0 ∧ fp < T.p a := fun h0 => by have := x4.lt R b1 h0; exact ⟨this.1, this.2.2⟩
  obtain ⟨u, eu⟩ : ∃ u : Int32, u = if nl < 40 then 0 else 6 := ⟨_, rfl⟩
  obtain ⟨h1, r1, r2, r3, r4, r5, r6⟩ := sl_branch (G := G) (d := E + 5) (by omega) hq x1 (by omega)
  rw [← eu] at r2
  refine J.c (fun hx Q hF => cd_7 ((c_at x1 hx).trans hk) hF) ?_
  refine J.c (fun hx Q hF => x_X2_readWhile G (E + 5) _ _ hF) ?_
  refine J.cv r1 ?_
  refine J.m (fun hx Q hF => md_8 (m_at R x2 b1 hx).1 hp (m_at R x2 b1 hx).2.1 ((m_at R x2 b1 hx).2.2.1.trans ((tk_word R b1 (by decide) (by decide)).mp hk)) hF) ?_
  refine J.m (fun hx Q hF => x_X12_repeats G (d + 1) _ _ hF) ?_
  refine J.mE p (J.ma' (fun hx => (m_at R x2 b1 hx).1) (J.ma' (fun _ => hp) ?_))
  refine J.m (fun hx Q hF => by rw [(m_at R x2 b1 hx).2.2.2]; exact hF) ?_
  by_cases h16 : dp < 16
  · obtain ⟨h2, g1, g2, g3⟩ := c_enter (G := G) (d := E + 5) (by omega) r2.1 hk h16 ha1 hn
    have z2 := r2.r22 hq g2 g3
    have e214 : ∀ hx, (mg h2 hx).I 21 4 = ag := fun hx => by rw [cI (by decide)]; exact z2.2.2.2.2.2.2.2.2.2.1
    have e215 : ∀ hx, (mg h2 hx).I 21 5 = bh := fun hx => by rw [cI (by decide)]; exact z2.2.2.2.2.2.2.2.2.2.2
    obtain ⟨m1, l1, l2, l3⟩ := m_enters (G := G) (d := d + 1) (by omega) x2.1.1 h16
    have y1 := x2.r43 hp l2 l3
    obtain ⟨m2, n1, n2, n3, n4⟩ := sm_loop (G := G) (d := d + 1) (by omega) hp he R y1 (by omega) b1
    obtain ⟨w1, w2⟩ := wK_eq (k := u) hord
    rw [← eu, w1, w2] at n2
    obtain ⟨m3, s1, s2, s3, s4, s5⟩ := sm_new (G := G) (d := d + 1) (by omega) hp he n2 (by omega) 3
    have hz : bK fk u = 0 → fk = 0 ∧ nl < 40 := fun h0 => by
      obtain ⟨q1, q2⟩ := bK_zero h0
      refine ⟨q1, Classical.byContradiction fun q => ?_⟩
      rw [eu, if_neg q] at q2; exact absurd q2 (by decide)
    have FG1 : FG T (a + 1) (bK fk u) (bP fk fp u (T.p a)) := (x4.next (by omega)).at R b1 (by rw [eu]; split; exact Or.inl rfl; exact Or.inr (by decide)) hpn
    have pfc2 : PFc c hc0 h2 := x5.tr (r3.tr (g3.pf hq))
    have cn2 : ∀ Nm', CN T Nm' hc → CN T Nm' h2 := fun Nm' n => (g3.xf hq).cn hq (r4 T Nm' n)
    have sfc2 : SFc c jn hc h2 := r5.tr ((g3.xf hq).sf hq) (Nat.le_refl jn)
    have pfm3 : PFm p e hm0 m3 := x6.tr ((l3.pf hp).tr (n3.tr s3))
    have sfm3 : ∀ n, SFm p e st n hm m3 := fun n => ((l3.xf hp).sf hp he).tr ((n4 n).tr (s4 n) (Nat.le_refl _) (Nat.le_refl _)) (Nat.le_refl _) (Nat.le_refl _)
    obtain ⟨hA, vA, jA, A1, A2, A3, A4, A5, A6, A7, A8, A9, A10, A11⟩ := sl_junction (G := G) (d := E + 5) (by omega) hq z2 b10
    obtain ⟨hB, vB, jB, B1, B2, B3, B4, B5, B6, B7, B8, B9, B10, B11⟩ := sl_junction (G := G) (d := E + 5) (by omega) hq A2 A7
    obtain ⟨hC, PtC, C1, C2, C3, C4, C5, C6, C7, C8, C9, C10⟩ := sl_join (G := G) (d := E + 5) (by omega) hq B2 B7 vA
    have hfst : fk = 0 → nl < 40 → vA = Int32.ofNat jn ∧ jA = jn + 1 ∧ vB = Int32.ofNat (jn + 1) ∧ jB = jn + 2 ∧ PtC = stp :: Pt := fun h0 h40 => by
      have hex := (x7 h0).ex R b1
      have hjn := (x7 h0).2.2.2.2.2.1
      obtain ⟨q1, q2⟩ := A8 (by omega)
      obtain ⟨q3, q4⟩ := B8 (by omega)
      exact ⟨q1, q2, by rw [q3, q2], by omega, C10 (by omega)⟩
    refine J.ci g1 (J.c4 (by decide) ?_)
    refine J.c (fun hx Q hF => by rw [e214, e215]; exact hF) ?_
    refine J.cE c (J.ca' (fun hx => by rw [cRr (by decide)]; exact z2.2.2.2.2.2.1) (J.ca' (fun _ => hq) (J.ci A1 ?_)))
    refine J.cE c (J.ca' (fun hx => by rw [cRr (by decide)]; exact A2.2.2.2.2.2.1) (J.ca' (fun _ => hq) (J.ci B1 ?_)))
    refine J.cE c (J.ca' (fun hx => by rw [cRr (by decide)]; exact B2.2.2.2.2.2.1) (J.ca' (fun _ => hq) (J.cv C1 ?_)))
    refine J.mv l1 (J.mv n1 (J.mi s1 ?_))
    have pfcC : PFc c hc0 hC := pfc2.tr (A3.tr (B3.tr C3))
    have cnC : ∀ Nm', CN T Nm' hc → CN T Nm' hC := fun Nm' n => C4 T Nm' (B4 T Nm' (A4 T Nm' (cn2 Nm' n)))
    refine j_cond (D := E) (s0 := st) R hq hp he (by omega) C2 s2 ha1 (by omega) (by omega) (by omega) (by omega) FG1 pfcC pfm3 (fun h0 => ?_) ?_ ?_
    · have sc := x7 (hz h0).1
      have hex := sc.ex R b1
      have h7 := sc.2.2.2.2.2.2.1
      have h2000 := (R.2.2.2.2.1 a b1).2.2
      have h400 := sc.1
      obtain ⟨-, -, -, -, q⟩ := hfst (hz h0).1 (hz h0).2
      have hnl := (hz h0).2
      exact ⟨sc.1, cnC Nm sc.2.1, sc.2.2.1, by rw [q, List.length_cons]; omega⟩
    · rintro a1 f1 p1 wk1 v Pt1 Cd1 hc1 hm1 ⟨o1, o2, o3, o4, o5, o6, o7, o8, o9, o10, o11, o12, o13, o14, o15, o16⟩
      obtain ⟨h8, D1, D2, D3⟩ := c_result (G := G) (d := E + 5) (by omega) o4
      have z8 := o3.r27 hq D2 D3
      obtain ⟨h9, v9, Pt9, F1, F2, F3, F4, F5⟩ := sl_lay (G := G) (d := E + 5) (by omega) hq z8 6 v (-1) vB
      obtain ⟨h10, v10, Pt10, E1, E2, E3, E4, E5⟩ := sl_lay (G := G) (d := E + 5) (by omega) hq F2 7 (-1) (-1) (-1)
      have z11 := E2.s21 hq vA vB
      refine J.c4 (by decide) (J.cE c (J.ca' (fun hx => by rw [cRr (by decide)]; exact o3.2.2.2.2.2.1) (J.ca' (fun _ => hq) (J.ci D1 (J.ci F1 ?_)))))
      refine J.cE c (J.ca' (fun hx => by rw [cRr (by decide)]; exact F2.2.2.2.2.2.1) (J.ca' (fun _ => hq) (J.ci E1 ?_)))
      refine J.c (fun hx Q hF => by rw [mg_sI_c (by decide), mg_sI_c (by decide)]; exact hF) ?_
      have y40 := o5.s40 hp (wh + 1)
      have e40 : ∀ hx, (mg hx hm1).I 43 40 + 1 = Int32.ofNat (wh + 1) := fun hx => by rw [mI (by decide), o5.2.2.2.2, n_add1]
      refine J.m (fun hx Q hF => by rw [e40, mg_sI_m (by decide)]; exact hF) ?_
      have xf10 : CXF c hC h10 := o12.tr ((D3.xf hq).tr (F3.xf.tr E3.xf))
      have pfc11 : PFc c hc0 ((h10.sI 21 4 vA).sI 21 5 vB) := (o6.tr ((D3.xf hq).pf.tr (F3.xf.pf.tr E3.xf.pf))).tr ((PFc.sI _ _ _ _ (by omega)).tr (PFc.sI _ _ _ _ (by omega)))
      have cn11 : CN T Nm hc → CN T Nm ((h10.sI 21 4 vA).sI 21 5 vB) := fun n => (xf10.cn hq (cnC Nm n)).to ((sI_row _ (by decide)).trans (sI_row _ (by decide))) rfl ((sI_row _ (by decide)).trans (sI_row _ (by decide))) ((sI_row _ (by decide)).trans (sI_row _ (by decide)))
      have hpa : T.pn a ≤ T.pn a1 := tk_mono R (by omega) o2
      have clean : f1 = 0 → fk = 0 ∧ nl < 40 ∧ ∃ Ce Pe, Cd1 = Ce ++ Cd ∧ Pt1 = Pe ++ (stp :: Pt) ∧ EC (VN Nm) (AN Nm) Ce Pe (stp :: Pt).length [v] ∧ Ce.length + wk ≤ wk1 ∧ 1 ≤ Ce.length ∧ Pe.length = Ce.length ∧ vA = Int32.ofNat jn ∧ jB = jn + 2 ∧ vB = Int32.ofNat (jn + 1) ∧ Pt10 = stp :: (6, v, -1, Int32.ofNat (jn + 1)) :: Pt1 ∧ PtC = stp :: Pt := fun h0 => by
        obtain ⟨q1, q2, Ce, Pe, q3, q4, q5, q6, q7⟩ := o16 h0
        obtain ⟨q8, q9⟩ := hz q1
        obtain ⟨k1, k2, k3, k4, k5⟩ := hfst q8 q9
        rw [k5] at q4 q5
        have i7 := (x7 q8).2.2.2.2.2.2.1
        have h2000 := (R.2.2.2.2.1 a b1).2.2
        have hl := q5.len
        have q12 : Pt1.length = Ce.length + (Pt.length + 1) := by rw [q4, List.length_append, hl, List.length_cons]
        obtain ⟨-, q13⟩ := F4 (by omega)
        obtain ⟨-, q14⟩ := E4 (by rw [q13, List.length_cons]; omega)
        exact ⟨q8, q9, Ce, Pe, q3, q4, q5, q6, q7, hl, k1, k4, k3, by rw [q14, q13, k3]; rfl, k5⟩
      have SB1 : SI T c p e na hc0 hm0 a1 (dp + 1) f1 p1 wk1 Pt10 Cd1 Nm (st + 1) nv (nl + 1) jB (wh + 1) vA vB ((h10.sI 21 4 vA).sI 21 5 vB) (hm1.sI 43 40 (Int32.ofNat (wh + 1))) := by
        refine ⟨z11, y40, ⟨o2, by omega, o8, o9, by omega, by omega, by omega, by omega, by omega, B7⟩, o10, pfc11, o7.tr (PFm.sI hp he _ _ _ _ (by omega)), fun h0 => ?_⟩
        obtain ⟨q1, q2, Ce, Pe, q3, q4, q5, q6, q7, q8, q9, q10, q11, q12, q13⟩ := clean h0
        obtain ⟨e1, e2, e3, e4, e5, e6, e7, e8, e9, -, -⟩ := x7 q1
        have q14 := (o16 h0).2.1
        refine ⟨q14, cn11 e2, e3, e4, by omega, by clear e9; omega, ?_, e8, e9, fun w => absurd w (by omega), fun _ => ⟨jn, jn + 1, q9, q11, by omega, by omega⟩⟩
        clear e9
        rw [q12, List.length_cons, List.length_cons, q4, List.length_append, List.length_cons]
        omega
      refine j_body (D := E + 4) hq hp he SB1 (IH a1 (by omega) _ _ _ _ _ _ _ _ _ _ _ _ _ _ _ _ _ _ SB1 (by omega) (by omega)) ?_ ?_
      · rintro a2 f2 p2 wk2 Pt11 Cd2 st2 nv2 nl2 jn2 hc2 hm2 ⟨q1, ⟨y1', y2', ⟨t1, t2, t3, t4, t5, t6, t7, t8, t9, t10⟩, y4', y5', y6', y7'⟩, q3, q4⟩
        refine J.c4 (by decide) (J.ma' (fun _ => hin) ?_)
        have hpa2 : T.pn a1 ≤ T.pn a2 := tk_mono R (by omega) t1
        have hko : ¬ fk = 0 → f2 = fk ∧ p2 = fp := fun h0 => by
          have w3 := bK_keep (fp := fp) (k := u) (p := T.p a) h0
          have w4 := o11 (by rw [w3.1]; exact h0)
          rw [w3.1, w3.2] at w4
          have w5 := q3 (by rw [w4.1]; exact h0)
          exact ⟨w5.1.trans w4.1, w5.2.trans w4.2⟩
        have z12 := y1'.s21 hq ag bh
        obtain ⟨h13, v13, Pt13, G1, G2, G3, G4, G5⟩ := sl_lay (G := G) (d := E + 5) (by omega) hq z12 8 (-1) (-1) vA
        obtain ⟨h14, Pt14, H1, H2, H3, H4, H5, H6, H7, H8, H9, H10⟩ := sl_join (G := G) (d := E + 5) (by omega) hq G2 t10 vB
        obtain ⟨h17, L1, L2, L3⟩ := c_leave (G := G) (d := E + 5) (by omega) H2.1 (by omega)
        have z17 := H2.r22 hq L2 L3
        refine J.cE c (J.ca' (fun hx => by rw [cRr (by decide)]; exact y1'.2.2.2.2.2.1) (J.ca' (fun _ => hq) ?_))
        refine J.c (fun hx Q hF => by rw [mg_sI_c (by decide), mg_sI_c (by decide)]; exact hF) ?_
        refine J.ci G1 (J.cE c (J.ca' (fun hx => by rw [cRr (by decide)]; exact G2.2.2.2.2.2.1) (J.ca' (fun _ => hq) (J.cv H1 (J.cv L1 (J.ca' (fun _ => Or.inr rfl) ?_))))))
        obtain ⟨mF, emF⟩ : ∃ mF, mF = ((hm2.sI (p + 6) st (Int32.ofNat (st + 1))).sI 43 40 (Int32.ofNat wh)).sI 43 15 (Int32.ofNat dp) := ⟨_, rfl⟩
        have row6 := (y2'.row hp (o := 6) (by decide) (by decide) st (Int32.ofNat (st + 1))).s40 hp wh
        have r43b := R43.sI ((hm2.sI (p + 6) st (Int32.ofNat (st + 1))).sI 43 40 (Int32.ofNat wh)) 15 (Int32.ofNat dp) (by decide)
        have yF := row6.r43 hp (row6.1.1.setd dp) r43b
        have pfF : PFm p e hm2 mF := by
          rw [emF]
          exact (PFm.sI hp he _ _ _ _ (by omega)).tr ((PFm.sI hp he _ _ _ _ (by omega)).tr (r43b.pf hp))
        rw [← emF] at yF
        have e15 : ∀ hx, (mg hx hm2).I 43 15 - 1 = Int32.ofNat dp := fun hx => by rw [mI (by decide), y2'.1.1.1.2.1, n_sub1]
        have e40' : ∀ hx, (mg hx hm2).I 43 40 - 1 = Int32.ofNat wh := fun hx => by rw [mI (by decide), y2'.2.2.2.2, n_sub1]
        refine J.m (Wm' := fun hx Q => Q (riv (Int32.ofNat st)) (mg hx mF)) (fun hx Q hF => by rw [e15, e40', n_N hsb, mg_sI_m hp6, mg_sI_m (by decide), mg_sI_m (by decide), ← emF]; exact hF) ?_
        have hcl3 : f2 = 0 → f1 = 0 ∧ Pt14 = stp :: (8, -1, -1, Int32.ofNat jn) :: Pt11 ∧ Pt13 = (8, -1, -1, Int32.ofNat jn) :: Pt11 := fun h0 => by
          obtain ⟨w1, -⟩ := q4 h0
          obtain ⟨v1, v2, Ce, Pe, v3, v4, v5, v6, v7, v8, v9', -⟩ := clean w1
          have hex := (y7' h0).ex R t1
          obtain ⟨-, c3⟩ := G4 (by omega)
          have c4 := H10 (by rw [c3, List.length_cons]; omega)
          exact ⟨w1, by rw [c4, c3, v9'], by rw [c3, v9']⟩
        have cnF : CN T Nm hc2 → CN T Nm h17 := fun n => (L3.xf hq).cn hq (H4 T Nm (G3.xf.cn hq (n.to ((sI_row _ (by decide)).trans (sI_row _ (by decide))) rfl ((sI_row _ (by decide)).trans (sI_row _ (by decide))) ((sI_row _ (by decide)).trans (sI_row _ (by decide))))))
        refine J.ok ⟨rfl, a2, f2, p2, wk2, Pt14, Cd2, [], st2, nv2, nl2, jn2, by omega, ⟨z17, yF, ⟨t1, b2, t3, t4, t5, t6, t7, t8, by omega, t10⟩, y4', (y5'.tr ((PFc.sI _ _ _ _ (by omega)).tr (PFc.sI _ _ _ _ (by omega)))).tr (G3.xf.pf.tr (H3.tr (L3.pf hq))), y6'.tr pfF, fun h0 => ?_⟩, hko, fun h0 => ?_⟩
        · obtain ⟨w1, w2, w2'⟩ := hcl3 h0
          obtain ⟨e1, e2, e3, e4, e5, e6, e7, e8, e9, -, -⟩ := y7' h0
          obtain ⟨-, -, -, -, d5, -, -, -, -, d10, d11⟩ := q4 h0
          obtain ⟨v1, v2, Ce, Pe, v3, v4, v5, v6, v7, v8, v9', v10', v11, v12, v13'⟩ := clean w1
          have i7 := (x7 v1).2.2.2.2.2.2.1
          obtain ⟨-, -, -, -, -, -, -, -, -, i10, i11⟩ := x7 v1
          refine ⟨e1, cnF e2, e3, e4, e5, e6, ?_, e8, e9, i10, fun w => ?_⟩
          · clear e9 i10 i11
            rw [v12, List.length_cons, List.length_cons, v4, List.length_append, List.length_cons] at d11
            rw [w2, List.length_cons, List.length_cons]
            omega
          · obtain ⟨j1, j2, u1, u2, u3, u4⟩ := i11 w
            exact ⟨j1, j2, u1, u2, by omega, by omega⟩
        · obtain ⟨w1, w2, w2'⟩ := hcl3 h0
          obtain ⟨V1, V2, V3, V4, V5, V6, ⟨Cb1, V7⟩, ⟨Pb1, V8⟩, V9, V10, V11⟩ := q4 h0
          obtain ⟨v1, v2, Ce, Pe, v3, v4, v5, v6, v7, v8, v9', v10', v11, v12, v13'⟩ := clean w1
          have han := (x7 v1).an
          have hex11 := (y7' h0).ex R t1
          have len10 : Pt10.length = Pt.length + 1 + Ce.length + 2 := by rw [v12, List.length_cons, List.length_cons, v4, List.length_append, List.length_cons]; omega
          have len1 : Pt1.length = Pt.length + 1 + Ce.length := by rw [v4, List.length_append, List.length_cons]; omega
          have lc1 : Cd.length < Cd1.length := by rw [v3, List.length_append]; omega
          have lc2 : Cd1.length ≤ Cd2.length := by rw [V7, List.length_append]; omega
          have prF : prts h17 c (stp :: (8, -1, -1, Int32.ofNat jn) :: Pt11) := by rw [← w2]; exact z17.2.2.1.2.2
          have cdF := yF.1.2.1.2
          have hjA := (hfst v1 v2).1
          have rowF : ∀ o i, 2 ≤ o → o ≤ 8 → ¬ (o = 6 ∧ i = st) → mF.I (p + o) i = hm2.I (p + o) i := fun o i c1 c2 c3 => by
            rw [emF, sI_row _ (by omega), sI_row _ (by omega), sI_I, if_neg (by omega)]
          have row1 : ∀ o i, 1 ≤ o → o ≤ 8 → (hm1.sI 43 40 (Int32.ofNat (wh + 1))).I (p + o) i = hm1.I (p + o) i := fun o i c1 c2 => by rw [sI_row _ (by omega)]
          have row0 : ∀ o, 2 ≤ o → o ≤ 8 → o ≠ 4 → hm2.I (p + o) st = m3.I (p + o) st := fun o c1 c2 c3 => by
            rw [V3.1 o c1 c2 st (by omega), row1 o st (by omega) c2, o13.1 o (by omega) c2 st (by omega)]
          have eF : ∀ i, mF.I e i = hm2.I e i := fun i => by rw [emF, sI_row _ (by omega), sI_row _ (by omega), sI_row _ (by omega)]
          have e1F : ∀ i, (hm1.sI 43 40 (Int32.ofNat (wh + 1))).I e i = hm1.I e i := fun i => by rw [sI_row _ (by omega)]
          have jF : ∀ j, j < 80 → j ≠ jn + 1 → h17.I (c + 5) j = hc2.I (c + 5) j := fun j c1 c2 => by
            rw [L3.1 _ (by omega), H5 j (by rw [v11]; exact fun q => c2 ((n_eq (by omega) (by omega)).mp q).symm) c1, G3.1 _ (by omega), sI_row _ (by omega), sI_row _ (by omega)]
          have j1F : ∀ j, ((h10.sI 21 4 vA).sI 21 5 vB).I (c + 5) j = h10.I (c + 5) j := fun j => by rw [sI_row _ (by omega), sI_row _ (by omega)]
          have hj10 : ∀ j, j < 80 → h10.I (c + 5) j = hC.I (c + 5) j := fun j _ => by rw [xf10.1 _ (by omega) (by omega) (by omega)]
          have hsf : SFc c jn hc h17 := by
            refine ⟨fun j hj => ?_, ?_, fun k hk => ?_⟩
            · rw [jF j (by omega) (by omega), V2.1 j (by omega), j1F, hj10 j (by omega), C5 j (by rw [v9']; exact fun q => absurd ((n_eq (by omega) (by omega)).mp q) (by omega)) (by omega), B5.1 j (by omega), A5.1 j hj, sfc2.1 j hj]
            · rw [L3.1 _ (by omega), H6, G3.1 _ (by omega), sI_row _ (by omega), sI_row _ (by omega), V2.2.1, sI_row _ (by omega), sI_row _ (by omega), xf10.1 _ (by omega) (by omega) (by omega), C6, B5.2.1, A5.2.1, sfc2.2.1]
            · rw [L3.1 c (by omega), H7 k hk, G3.2.2.2 k (by omega), sI_row _ (by omega), sI_row _ (by omega), V2.2.2 k hk, sI_row _ (by omega), sI_row _ (by omega), xf10.2.2.2 k (by omega), C7 k hk, B5.2.2 k hk, A5.2.2 k hk, sfc2.2.2 k hk]
          have hsm : SFm p e st Cd.length hm mF := by
            refine ⟨fun o c1 c2 i c3 => ?_, fun i c1 => ?_, ?_, fun k hk => ?_⟩
            · rw [rowF o i c1 c2 (by omega), V3.1 o c1 c2 i (by omega), row1 o i (by omega) c2, o13.1 o (by omega) c2 i (by omega), (sfm3 0).1 o c1 c2 i c3]
            · rw [eF i, V3.2.1 i (by omega), e1F, o13.2.1 i (by omega), (sfm3 Cd.length).2.1 i c1]
            · funext i
              rw [emF, sI_row _ (by omega), sI_row _ (by omega), sI_row _ (by omega), V3.2.2.1, row1 1 i (by decide) (by decide), o13.1 1 (by decide) (by decide) i (by omega), (sfm3 0).2.2.1]
            · rw [emF, sI_row _ (by omega), sI_row _ (by omega), sI_row _ (by omega), V3.2.2.2 k hk, sI_row _ (by omega), o13.2.2 k hk, (sfm3 0).2.2.2 k hk]
          have pr11 : prts h17 c Pt11 := prts_tail (X := [_, _]) prF
          have pr10 : prts h17 c Pt10 := by rw [V8] at pr11; exact prts_tail pr11
          have pr1 : prts h17 c Pt1 := by rw [v12] at pr10; exact prts_tail (X := [_, _]) pr10
          have prC : prts h17 c (stp :: Pt) := by rw [v4] at pr1; exact prts_tail pr1
          have cd1 : cds mF p Cd1 := by rw [V7] at cdF; exact cds_tail cdF
          have S1 := SC.to (A' := AK na) (S' := st2) (N' := Cd2.length) (J0' := jn) (J1' := jn2) (B := Pt11.length) (fun _ q => q) (Nat.le_refl _) (Nat.le_refl _) (by omega) (by omega) _ _ (VN Nm) _ _ _ _ _ (fun _ q => q) (by omega) (Nat.le_refl _) (SAg.mk (hc' := h17) (hm' := mF) y1'.2.2.1.2.2 pr11 y2'.1.2.1.2 cdF rfl (fun i c1 => eF i) (fun j c1 c2 => jF j (by omega) (by omega)) (fun o c1 c2 i c3 c4 => rowF o i c1 c2 (by omega))) V9
          rw [show 17 - (dp + 1) = 16 - dp by omega, len10, v9', v11] at S1
          refine ⟨v1, hsf, hsm, by omega, by omega, by omega, ⟨Cb1 ++ Ce, by rw [V7, v3, List.append_assoc]⟩, ⟨stp :: (8, -1, -1, Int32.ofNat jn) :: (Pb1 ++ (stp :: (6, v, -1, Int32.ofNat (jn + 1)) :: (Pe ++ [stp]))), by rw [w2, V8, v12, v4]; simp⟩, ?_, fun y q => Or.inl q, ?_, by omega, ?_⟩
          · rw [show 17 - dp = (16 - dp) + 1 by omega, w2, List.length_cons, List.length_cons]
            refine Or.inr (Or.inr (Or.inr (Or.inl ⟨?_, Cd.length, Ce.length, v, jn, jn + 1, st + 1, Pt11.length, ?_, Nat.le_refl _, by omega, by omega, by omega, ?_, prts_at prC, ?_, ?_, ?_, ?_, by omega, by omega, S1, prts_at (prts_tail (X := [_]) prF), ?_, prts_at prF, rfl⟩)))
            · rw [rowF 2 st (by decide) (by decide) (by omega), row0 2 (by decide) (by decide) (by decide)]; exact s5.1
            · rw [rowF 4 st (by decide) (by decide) (by omega), V3.1 4 (by decide) (by decide) st (by omega), row1 4 st (by decide) (by decide)]; exact o14
            · rw [jF jn (by omega) (by omega), V2.1 jn (by omega), j1F, hj10 jn (by omega)]
              exact C9 jn v9' (by omega) (by have := (x7 v1).ex R b1; omega)
            · have ee : mF.I e Cd.length = Int32.ofNat Cd1.length := by rw [eF, V3.2.1 _ (by omega), e1F]; exact o15
              rw [v4] at pr1
              rw [v3] at cd1 ee
              have := EP.mk (N := Cd2.length) pr1 cd1 ee v5 han (by rw [← v3]; omega)
              rw [List.length_cons] at this
              exact this
            · rw [v12] at pr10
              have := prts_at (prts_tail (X := [_]) pr10)
              rw [len1] at this
              exact this
            · rw [v12] at pr10
              have := prts_at pr10
              rw [List.length_cons, len1] at this
              exact this
            · rw [emF, sI_row _ (by omega), sI_row _ (by omega), sI_I]; exact if_pos ⟨rfl, rfl⟩
            · rw [L3.1 _ (by omega), H9 (jn + 1) v11 (by omega) (by rw [w2', List.length_cons]; omega), w2', List.length_cons]
          · rw [rowF 8 st (by decide) (by decide) (by omega), row0 8 (by decide) (by decide) (by decide)]; exact s5.2.2.2
          · rw [w2, List.length_cons, List.length_cons]
            rw [len10] at V11
            omega
      · intro hc' hm' hf
        exact J.c3 rfl (J.ca' (fun _ => Or.inl rfl) (J.fail hf))
    · intro hc' hm' hf
      exact J.c3 rfl (J.ca' (fun _ => Or.inl rfl) (J.fail hf))
  · obtain ⟨h2, g1, g2, g3⟩ := c_enterDeep (G := G) (d := E + 5) (by omega) r2.1 hk (by omega)
    obtain ⟨m1, l1, l2, l3⟩ := m_entersDeep (G := G) (d := d + 1) (by omega) R x2.1.1 b1 (by omega)
    refine J.ci g1 (J.c3 rfl (J.ca' (fun _ => Or.inl rfl) ?_))
    exact J.mxv l1 (J.fail ⟨7, T.p a, Or.inr rfl, g2, l2, x5.tr (r3.tr (g3.pf hq)), x6.tr (l3.pf hp)⟩)
end ST8
