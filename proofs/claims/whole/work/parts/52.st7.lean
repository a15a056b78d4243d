/-! ===== STATEMENTS: if ===== -/
theorem SAg.mk {c p e s S N J0 J1 : Nat} {hc hm hc' hm' : qh} {P : List prt} {C : List cod} (h1 : prts hc c P) (h2 : prts hc' c P) (h3 : cds hm p C) (h4 : cds hm' p C) (hN : N = C.length) (h5 : ∀ i, i < N → hm'.I e i = hm.I e i) (h6 : ∀ j, J0 ≤ j → j < J1 → hc'.I (c + 5) j = hc.I (c + 5) j) (h7 : ∀ o, 2 ≤ o → o ≤ 8 → ∀ i, s ≤ i → i < S → hm'.I (p + o) i = hm.I (p + o) i) : SAg c p e s S N J0 J1 P.length hc hm hc' hm' :=
  ⟨fun i hi => prts_eq h1 h2 i hi, fun i hi => cds_eq h3 h4 i (by omega), h5, h6, fun o a1 a2 i a3 a4 => h7 o a1 (by omega) i a3 a4, fun i a3 a4 => h7 8 (by decide) (by decide) i (by omega) a4⟩
section ST7
variable {G : qG} {T : tkD} {c p e na : Nat} {hc0 hm0 : qh} {a dp : Nat} {fk fp : Int32} {wk : Nat} {Pt : List prt} {Cd : List cod} {Nm : List nmE} {st nv nl jn wh : Nat} {ag bh : Int32} {hc hm : qh}
theorem st_if (R : TR T) (hq : q_cir c) (hp : q_prg p) (he : q_end e) (IH : ∀ a', a < a' → stS G T c p e na hc0 hm0 a') {d D : Nat} (hd : 16 * (17 - dp) + 30 ≤ d) (hD : 3 * (17 - dp) + 12 ≤ D) (S : SI T c p e na hc0 hm0 a dp fk fp wk Pt Cd Nm st nv nl jn wh ag bh hc hm) (hk : T.k a = 5) :
    J (fun hx Q => q_M0 G D yX2_readStatement [.ref 21] (mg hc hx) Q) (fun hx Q => q_M0 G d yX12_statement [.ref 43] (mg hx hm) Q) (PP (sOk T c p e na hc0 hm0 a dp fk fp wk Pt Cd Nm st nv nl jn wh ag bh hc hm) (pFail c p e hc0 hm0)) := by
  obtain ⟨E, rfl⟩ : ∃ D', D = D' + 7 := ⟨D - 7, by omega⟩
  obtain ⟨d, rfl⟩ : ∃ d', d = d' + 3 := ⟨d - 3, by omega⟩
  obtain ⟨x1, x2, ⟨b1, b2, b3, b4, b5, b6, b7, b8, b9, b10⟩, x4, x5, x6, x7⟩ := S
  have hn := R.2.1
  have hpl := prg_lt hp
  have hel := end_lt he
  have hc8 := cir_lt hq
  have hcl : c < 43 := by omega
  have hp6 : 43 ≤ p + 6 := by omega
  have hp7 : 43 ≤ p + 7 := by omega
  have ha1 := tk_more' R b1 hk (by decide)
  have hsb : st < 2147483648 := by omega
  have hin : vp_in (Int32.ofNat st) 2000 := n_in (by omega) (by omega)
  have hpn := tk_pn R ha1
  have hord : ¬ fk = 0 → ¬ fk ≤ 0 ∧ fp < T.p a := fun h0 => by have := x4.lt R b1 h0; exact ⟨this.1, this.2.2⟩
  obtain ⟨u, eu⟩ : ∃ u : Int32, u = if nl < 40 then 0 else 6 := ⟨_, rfl⟩
  obtain ⟨h1, r1, r2, r3, r4, r5, r6⟩ := sl_branch (G := G) (d := E + 5) (by omega) hq x1 (by omega)
  rw [← eu] at r2
  refine J.c (fun hx Q hF => cd_5 ((c_at x1 hx).trans hk) hF) ?_
  refine J.c (fun hx Q hF => x_X2_readIf G (E + 5) _ _ hF) ?_
  refine J.cv r1 ?_
  refine J.m (fun hx Q hF => md_6 (m_at R x2 b1 hx).1 hp (m_at R x2 b1 hx).2.1 ((m_at R x2 b1 hx).2.2.1.trans ((tk_word R b1 (by decide) (by decide)).mp hk)) hF) ?_
  refine J.m (fun hx Q hF => x_X12_chooses G (d + 1) _ _ hF) ?_
  refine J.mE p (J.ma' (fun hx => (m_at R x2 b1 hx).1) (J.ma' (fun _ => hp) ?_))
  refine J.m (fun hx Q hF => by rw [(m_at R x2 b1 hx).2.2.2]; exact hF) ?_
  by_cases h16 : dp < 16
  · obtain ⟨h2, g1, g2, g3⟩ := c_enter (G := G) (d := E + 5) (by omega) r2.1 hk h16 ha1 hn
    have z2 := r2.r22 hq g2 g3
    obtain ⟨m1, l1, l2, l3⟩ := m_enters (G := G) (d := d + 1) (by omega) x2.1.1 h16
    have y1 := x2.r43 hp l2 l3
    obtain ⟨m2, n1, n2, n3, n4⟩ := sm_loop (G := G) (d := d + 1) (by omega) hp he R y1 (by omega) b1
    obtain ⟨w1, w2⟩ := wK_eq (k := u) hord
    rw [← eu, w1, w2] at n2
    obtain ⟨m3, s1, s2, s3, s4, s5⟩ := sm_new (G := G) (d := d + 1) (by omega) hp he n2 (by omega) 2
    have hz : bK fk u = 0 → fk = 0 ∧ nl < 40 := fun h0 => by
      obtain ⟨q1, q2⟩ := bK_zero h0
      refine ⟨q1, Classical.byContradiction fun q => ?_⟩
      rw [eu, if_neg q] at q2; exact absurd q2 (by decide)
    have FG1 : FG T (a + 1) (bK fk u) (bP fk fp u (T.p a)) := (x4.next (by omega)).at R b1 (by rw [eu]; split; exact Or.inl rfl; exact Or.inr (by decide)) hpn
    have pfc2 : PFc c hc0 h2 := x5.tr (r3.tr (g3.pf hq))
    have cn2 : ∀ Nm', CN T Nm' hc → CN T Nm' h2 := fun Nm' n => (g3.xf hq).cn hq (r4 T Nm' n)
    have sfc2 : SFc c jn hc h2 := r5.tr ((g3.xf hq).sf hq) (Nat.le_refl jn)
    have pfm3 : PFm p e hm0 m3 := x6.tr ((l3.pf hp).tr (n3.tr s3))
    have sfm3 : ∀ n, SFm p e st n hm m3 := fun n => ((l3.xf hp).sf hp he).tr ((n4 n).tr (s4 n) (Nat.le_refl _) (Nat.le_refl _)) (Nat.le_refl _) (Nat.le_refl _)
    refine J.ci g1 (J.c2 (by decide) (J.mv l1 (J.mv n1 (J.mi s1 ?_))))
    refine j_cond (D := E) (s0 := st) R hq hp he (by omega) z2 s2 ha1 (by omega) (by omega) (by omega) (by omega) FG1 pfc2 pfm3 (fun h0 => ?_) ?_ ?_
    · have sc := x7 (hz h0).1
      exact ⟨sc.1, cn2 Nm sc.2.1, sc.2.2.1, (sc.ex R b1).1⟩
    · rintro a1 f1 p1 wk1 v Pt1 Cd1 hc1 hm1 ⟨o1, o2, o3, o4, o5, o6, o7, o8, o9, o10, o11, o12, o13, o14, o15, o16⟩
      obtain ⟨h7, v7, jn1, A1, A2, A3, A4, A5, A6, A7, A8, A9, A10, A11⟩ := sl_junction (G := G) (d := E + 5) (by omega) hq o3 b10
      have cf7 : CF [] [] [v] wk1 0 h7 := o4.to (fun o q1 q2 => A9 o (by omega))
      obtain ⟨h8, B1, B2, B3⟩ := c_result (G := G) (d := E + 5) (by omega) cf7
      have z8 := A2.r27 hq B2 B3
      obtain ⟨h9, v9, Pt9, C1, C2, C3, C4, C5⟩ := sl_lay (G := G) (d := E + 5) (by omega) hq z8 6 v (-1) v7
      obtain ⟨h10, v10, Pt10, E1, E2, E3, E4, E5⟩ := sl_lay (G := G) (d := E + 5) (by omega) hq C2 7 (-1) (-1) (-1)
      refine J.c4 (by decide) (J.cE c (J.ca' (fun hx => by rw [cRr (by decide)]; exact o3.2.2.2.2.2.1) (J.ca' (fun _ => hq) (J.ci A1 ?_))))
      refine J.cE c (J.ca' (fun hx => by rw [cRr (by decide)]; exact A2.2.2.2.2.2.1) (J.ca' (fun _ => hq) (J.ci B1 (J.ci C1 ?_))))
      refine J.cE c (J.ca' (fun hx => by rw [cRr (by decide)]; exact C2.2.2.2.2.2.1) (J.ca' (fun _ => hq) (J.ci E1 ?_)))
      have pfc10 : PFc c hc0 h10 := o6.tr (A3.tr ((B3.xf hq).pf.tr (C3.xf.pf.tr E3.xf.pf)))
      have xf8 : CXF c h7 h10 := (B3.xf hq).tr (C3.xf.tr E3.xf)
      have sfc10 : SFc c jn hc h10 := sfc2.tr ((o12.sf hq).tr (A5.tr (xf8.sf hq (jn := jn)) (Nat.le_refl _)) (Nat.le_refl jn)) (Nat.le_refl jn)
      have cn10 : CN T Nm hc → CN T Nm h10 := fun n => xf8.cn hq (A4 T Nm (o12.cn hq (cn2 Nm n)))
      have hpa : T.pn a ≤ T.pn a1 := tk_mono R (by omega) o2
      -- what holds while nothing is wrong
      have clean : f1 = 0 → fk = 0 ∧ nl < 40 ∧ ∃ Ce Pe, Cd1 = Ce ++ Cd ∧ Pt1 = Pe ++ Pt ∧ EC (VN Nm) (AN Nm) Ce Pe Pt.length [v] ∧ Ce.length + wk ≤ wk1 ∧ 1 ≤ Ce.length ∧ Pe.length = Ce.length ∧ v7 = Int32.ofNat jn ∧ jn1 = jn + 1 ∧ Pt10 = stp :: (6, v, -1, Int32.ofNat jn) :: Pt1 := fun h0 => by
        obtain ⟨q1, q2, Ce, Pe, q3, q4, q5, q6, q7⟩ := o16 h0
        obtain ⟨q8, q9⟩ := hz q1
        have hex := (x7 q8).ex R b1
        have hjn := (x7 q8).2.2.2.2.2.1
        have i7 := (x7 q8).2.2.2.2.2.2.1
        have h2000 := (R.2.2.2.2.1 a b1).2.2
        obtain ⟨q10, q11⟩ := A8 (by omega)
        have hl := q5.len
        have q12 : Pt1.length = Ce.length + Pt.length := by rw [q4, List.length_append, hl]
        obtain ⟨-, q13⟩ := C4 (by omega)
        obtain ⟨-, q14⟩ := E4 (by rw [q13, List.length_cons]; omega)
        exact ⟨q8, q9, Ce, Pe, q3, q4, q5, q6, q7, hl, q10, q11, by rw [q14, q13, q10]; rfl⟩
      have SB1 : SI T c p e na hc0 hm0 a1 (dp + 1) f1 p1 wk1 Pt10 Cd1 Nm (st + 1) nv (nl + 1) jn1 wh ag bh h10 hm1 := by
        refine ⟨E2, o5, ⟨o2, by omega, o8, o9, by omega, by omega, by omega, by omega, by omega, A7⟩, o10, pfc10, o7, fun h0 => ?_⟩
        obtain ⟨q1, q2, Ce, Pe, q3, q4, q5, q6, q7, q8, q9, q10, q11⟩ := clean h0
        obtain ⟨e1, e2, e3, e4, e5, e6, e7, e8, e9, e10, e11⟩ := x7 q1
        have q12 := (o16 h0).2.1
        refine ⟨q12, cn10 e2, e3, e4, by omega, by clear e10 e11 e9; omega, ?_, e8, e9, e10, fun w => ?_⟩
        · clear e10 e11 e9
          rw [q11, List.length_cons, List.length_cons, q4, List.length_append]
          omega
        · obtain ⟨j1, j2, t1, t2, t3, t4⟩ := e11 w
          exact ⟨j1, j2, t1, t2, by omega, by omega⟩
      refine j_body (D := E + 4) hq hp he SB1 (IH a1 (by omega) _ _ _ _ _ _ _ _ _ _ _ _ _ _ _ _ _ _ SB1 (by omega) (by omega)) ?_ ?_
      · rintro a2 f2 p2 wk2 Pt11 Cd2 st2 nv2 nl2 jn2 hc2 hm2 ⟨q1, ⟨y1', y2', ⟨t1, t2, t3, t4, t5, t6, t7, t8, t9, t10⟩, y4', y5', y6', y7'⟩, q3, q4⟩
        refine J.c4 (by decide) ?_
        refine J.ma' (fun _ => hin) (J.ma' (fun hx => (m_at R y2' t1 hx).2.1) ?_)
        have hpa2 : T.pn a1 ≤ T.pn a2 := tk_mono R (by omega) t1
        have hko : ¬ fk = 0 → f2 = fk ∧ p2 = fp := fun h0 => by
          have w3 := bK_keep (fp := fp) (k := u) (p := T.p a) h0
          have w4 := o11 (by rw [w3.1]; exact h0)
          rw [w3.1, w3.2] at w4
          have w5 := q3 (by rw [w4.1]; exact h0)
          exact ⟨w5.1.trans w4.1, w5.2.trans w4.2⟩
        have row6 := y2'.row hp (o := 6) (by decide) (by decide) st (Int32.ofNat (st + 1))
        have pf6 : PFm p e hm2 (hm2.sI (p + 6) st (Int32.ofNat (st + 1))) := PFm.sI hp he _ _ _ _ (by omega)
        by_cases k6 : T.k a2 = 6
        · -- with else
          have ha3 := tk_more' R t1 k6 (by decide)
          have hpn3 := tk_pn R ha3
          obtain ⟨h12, v12, jn3, F1, F2, F3, F4, F5, F6, F7, F8, F9, F10, F11⟩ := sl_junction (G := G) (d := E + 5) (by omega) hq y1' t10
          obtain ⟨h13, v13, Pt13, G1, G2, G3, G4, G5⟩ := sl_lay (G := G) (d := E + 5) (by omega) hq F2 8 (-1) (-1) v12
          obtain ⟨h14, Pt14, H1, H2, H3, H4, H5, H6, H7, H8, H9, H10⟩ := sl_join (G := G) (d := E + 5) (by omega) hq G2 F7 v7
          obtain ⟨h15, I1, I2, I3⟩ := c_adv (G := G) (d := E + 5) (by omega) H2.1 ha3 hn
          have z15 := H2.r22 hq I2 I3
          refine J.c3' (fun hx => (c_at y1' hx).trans k6) ?_
          refine J.m3' (fun hx => (m_at R y2' t1 hx).2.2.1.trans ((tk_word R t1 (by decide) (by decide)).mp k6)) ?_
          refine J.cE c (J.ca' (fun hx => by rw [cRr (by decide)]; exact y1'.2.2.2.2.2.1) (J.ca' (fun _ => hq) (J.ci F1 ?_)))
          refine J.cE c (J.ca' (fun hx => by rw [cRr (by decide)]; exact F2.2.2.2.2.2.1) (J.ca' (fun _ => hq) (J.ci G1 ?_)))
          refine J.cE c (J.ca' (fun hx => by rw [cRr (by decide)]; exact G2.2.2.2.2.2.1) (J.ca' (fun _ => hq) (J.cv H1 (J.cv I1 ?_))))
          have r43 := R43.sI (hm2.sI (p + 6) st (Int32.ofNat (st + 1))) 14 (Int32.ofNat (a2 + 1)) (by decide)
          have y9 := row6.r43 hp (row6.1.1.seta (a2 + 1)) r43
          have e14 : ∀ hx, (mg hx hm2).I 43 14 = Int32.ofNat a2 := fun hx => (m_at R y2' t1 hx).2.2.2
          refine J.m (fun hx Q hF => by rw [e14, n_add1, n_N hsb, mg_sI_m hp6, mg_sI_m (by decide)]; exact hF) ?_
          have clean2 : f2 = 0 → f1 = 0 ∧ v12 = Int32.ofNat jn2 ∧ jn3 = jn2 + 1 ∧ Pt14 = stp :: (8, -1, -1, Int32.ofNat jn2) :: Pt11 ∧ jn2 + 2 * nl + 1 ≤ jn + 2 * nl2 ∧ Pt13 = (8, -1, -1, Int32.ofNat jn2) :: Pt11 := fun h0 => by
            obtain ⟨w1, w2, w3, w4, w5, w6, w7, w8, w9, w10, w11⟩ := q4 h0
            obtain ⟨v1, v2, Ce, Pe, v3, v4, v5, v6, v7', v8, v9', v10', v11⟩ := clean w1
            have hjn := (x7 v1).2.2.2.2.2.1
            have hex := (y7' h0).ex R t1
            have hnl := (y7' h0).2.2.2.2.1
            obtain ⟨c1, c2⟩ := F8 (by omega)
            obtain ⟨-, c3⟩ := G4 (by omega)
            have c4 := H10 (by rw [c3, List.length_cons]; omega)
            exact ⟨w1, c1, c2, by rw [c4, c3, c1], by omega, by rw [c3, c1]⟩
          have SB2 : SI T c p e na hc0 hm0 (a2 + 1) (dp + 1) f2 p2 wk2 Pt14 Cd2 Nm st2 nv2 nl2 jn3 wh ag bh h15 ((hm2.sI (p + 6) st (Int32.ofNat (st + 1))).sI 43 14 (Int32.ofNat (a2 + 1))) := by
            refine ⟨z15, y9, ⟨ha3, t2, by omega, by omega, by omega, by omega, by omega, by omega, by omega, F7⟩, y4'.next (by omega), y5'.tr (F3.tr (G3.xf.pf.tr (H3.tr (I3.pf hq)))), y6'.tr (pf6.tr (r43.pf hp)), fun h0 => ?_⟩
            obtain ⟨w1, w2, w3, w4, w5, -⟩ := clean2 h0
            obtain ⟨e1, e2, e3, e4, e5, e6, e7, e8, e9, e10, e11⟩ := y7' h0
            obtain ⟨c1, c2, c3, c4, c5, c6, c7, c8, c9, c10, c11⟩ := q4 h0
            obtain ⟨v1, v2, Ce, Pe, v3, v4, v5, v6, v7', v8, v9', v10', v11⟩ := clean w1
            have i7 := (x7 v1).2.2.2.2.2.2.1
            have hjn := (x7 v1).2.2.2.2.2.1
            refine ⟨e1, (I3.xf hq).cn hq (H4 T Nm (G3.xf.cn hq (F4 T Nm e2))), e3, e4, e5, by clear e10 e11 e9; omega, ?_, e8, e9, e10, fun w => ?_⟩
            · clear e10 e11 e9
              rw [v11, List.length_cons, List.length_cons, v4, List.length_append] at c11
              rw [w4, List.length_cons, List.length_cons]
              omega
            · obtain ⟨j1, j2, u1, u2, u3, u4⟩ := e11 w
              exact ⟨j1, j2, u1, u2, by omega, by omega⟩
          refine j_body (D := E + 4) hq hp he SB2 (IH (a2 + 1) (by omega) _ _ _ _ _ _ _ _ _ _ _ _ _ _ _ _ _ _ SB2 (by omega) (by omega)) ?_ ?_
          · rintro a3 f3 p3 wk3 Pt15 Cd3 st3 nv3 nl3 jn4 hc3 hm3 ⟨Q1, ⟨Y1, Y2, ⟨T1, T2, T3, T4, T5, T6, T7, T8, T9, T10⟩, Y4, Y5, Y6, Y7⟩, Q3, Q4⟩
            refine J.c4 (by decide) (J.ma' (fun _ => hin) ?_)
            have hpa3 : T.pn (a2 + 1) ≤ T.pn a3 := tk_mono R (by omega) T1
            obtain ⟨h16', Pt16, K1, K2, K3, K4, K5, K6, K7, K8, K9, K10⟩ := sl_join (G := G) (d := E + 5) (by omega) hq Y1 T10 v12
            obtain ⟨h17, L1, L2, L3⟩ := c_leave (G := G) (d := E + 5) (by omega) K2.1 (by omega)
            have z17 := K2.r22 hq L2 L3
            refine J.cE c (J.ca' (fun hx => by rw [cRr (by decide)]; exact Y1.2.2.2.2.2.1) (J.ca' (fun _ => hq) (J.cv K1 (J.cv L1 (J.ca' (fun _ => Or.inr rfl) ?_)))))
            have row7 := Y2.row hp (o := 7) (by decide) (by decide) st (Int32.ofNat st2)
            have r43b := R43.sI (hm3.sI (p + 7) st (Int32.ofNat st2)) 15 (Int32.ofNat dp) (by decide)
            have yF := row7.r43 hp (row7.1.1.setd dp) r43b
            have pf7 : PFm p e hm3 (hm3.sI (p + 7) st (Int32.ofNat st2)) := PFm.sI hp he _ _ _ _ (by omega)
            have e15 : ∀ hx, (mg hx hm3).I 43 15 - 1 = Int32.ofNat dp := fun hx => by rw [mI (by decide), Y2.1.1.1.2.1, n_sub1]
            refine J.m (Wm' := fun hx Q => Q (riv (Int32.ofNat st)) (mg hx ((hm3.sI (p + 7) st (Int32.ofNat st2)).sI 43 15 (Int32.ofNat dp)))) (fun hx Q hF => by rw [e15, mg_sI_m hp7, mg_sI_m (by decide)]; exact hF) ?_
            have hcl3 : f3 = 0 → f2 = 0 ∧ Pt16 = stp :: Pt15 := fun h0 => by
              obtain ⟨w1, -⟩ := Q4 h0
              have hex := (Y7 h0).ex R T1
              exact ⟨w1, K10 (by omega)⟩
            refine J.ok ⟨rfl, a3, f3, p3, wk3, Pt16, Cd3, [], st3, nv3, nl3, jn4, by omega, ⟨z17, yF, ⟨T1, b2, T3, T4, T5, T6, T7, T8, T9, T10⟩, Y4, Y5.tr (K3.tr (L3.pf hq)), Y6.tr (pf7.tr (r43b.pf hp)), fun h0 => ?_⟩, fun h0 => ?_, fun h0 => ?_⟩
            · obtain ⟨w1, w2⟩ := hcl3 h0
              obtain ⟨e1, e2, e3, e4, e5, e6, e7, e8, e9, e10, e11⟩ := Y7 h0
              obtain ⟨-, -, -, -, -, -, -, -, -, c10, c11⟩ := Q4 h0
              obtain ⟨w3, w4, w5, w6, w7, -⟩ := clean2 w1
              obtain ⟨-, -, -, -, -, -, -, -, -, d10, d11⟩ := q4 w1
              obtain ⟨v1, v2, Ce, Pe, v3, v4, v5, v6, v7', v8, v9', v10', v11⟩ := clean w3
              have i7 := (x7 v1).2.2.2.2.2.2.1
              refine ⟨e1, (L3.xf hq).cn hq (K4 T Nm e2), e3, e4, e5, e6, ?_, e8, e9, e10, e11⟩
              clear e10 e11 e9
              rw [w6, List.length_cons, List.length_cons] at c11
              rw [v11, List.length_cons, List.length_cons, v4, List.length_append] at d11
              rw [w2, List.length_cons]
              omega
            · have w3 := hko h0
              have w4 := Q3 (by rw [w3.1]; exact h0)
              exact ⟨w4.1.trans w3.1, w4.2.trans w3.2⟩
            · obtain ⟨w1, w2⟩ := hcl3 h0
              obtain ⟨X1, X2, X3, X4, X5, X6, ⟨Cb2, X7⟩, ⟨Pb2, X8⟩, X9, X10, X11⟩ := Q4 h0
              obtain ⟨w3, w4, w5, w6, w7, w8⟩ := clean2 w1
              obtain ⟨V1, V2, V3, V4, V5, V6, ⟨Cb1, V7⟩, ⟨Pb1, V8⟩, V9, V10, V11⟩ := q4 w1
              obtain ⟨v1, v2, Ce, Pe, v3, v4, v5, v6, v7', v8, v9', v10', v11⟩ := clean w3
              have han := (x7 v1).an
              have i7 := (x7 v1).2.2.2.2.2.2.1
              have hex15 := (Y7 h0).ex R T1
              have hex11 := (y7' w1).ex R t1
              have len10 : Pt10.length = Pt.length + Ce.length + 2 := by rw [v11, List.length_cons, List.length_cons, v4, List.length_append]; omega
              have len14 : Pt14.length = Pt11.length + 2 := by rw [w6, List.length_cons, List.length_cons]
              have lc1 : Cd.length < Cd1.length := by rw [v3, List.length_append]; omega
              have lc2 : Cd1.length ≤ Cd2.length := by rw [V7, List.length_append]; omega
              have lc3 : Cd2.length ≤ Cd3.length := by rw [X7, List.length_append]; omega
              -- the rows of the end
              have prF : prts h17 c (stp :: Pt15) := by rw [← w2]; exact z17.2.2.1.2.2
              have cdF := yF.1.2.1.2
              have rowF : ∀ o i, 2 ≤ o → o ≤ 8 → ¬ (o = 7 ∧ i = st) → ((hm3.sI (p + 7) st (Int32.ofNat st2)).sI 43 15 (Int32.ofNat dp)).I (p + o) i = hm3.I (p + o) i := fun o i c1 c2 c3 => by
                rw [sI_row _ (by omega), sI_I, if_neg (by omega)]
              have rowM : ∀ o i, 2 ≤ o → o ≤ 8 → i < st2 → ¬ (o = 6 ∧ i = st) → hm3.I (p + o) i = hm2.I (p + o) i := fun o i c1 c2 c3 c4 => by
                rw [X3.1 o c1 c2 i c3, sI_row _ (by omega), sI_I, if_neg (by omega)]
              have row0 : ∀ o, 2 ≤ o → o ≤ 8 → o ≠ 4 → hm2.I (p + o) st = m3.I (p + o) st := fun o c1 c2 c3 => by
                rw [V3.1 o c1 c2 st (by omega), o13.1 o (by omega) c2 st (by omega)]
              have eF : ∀ i, i < Cd3.length → ((hm3.sI (p + 7) st (Int32.ofNat st2)).sI 43 15 (Int32.ofNat dp)).I e i = hm3.I e i := fun i _ => by rw [sI_row _ (by omega), sI_row _ (by omega)]
              have eM : ∀ i, i < Cd2.length → hm3.I e i = hm2.I e i := fun i c1 => by rw [X3.2.1 i c1, sI_row _ (by omega), sI_row _ (by omega)]
              have jF : ∀ j, j < 80 → j ≠ jn2 → h17.I (c + 5) j = hc3.I (c + 5) j := fun j c1 c2 => by
                rw [L3.1 _ (by omega), K5 j (by rw [w4]; exact fun q => c2 ((n_eq (by omega) (by omega)).mp q).symm) c1]
              have jM : ∀ j, j < jn2 → j ≠ jn → hc3.I (c + 5) j = hc2.I (c + 5) j := fun j c1 c2 => by
                rw [X2.1 j (by omega), I3.1 _ (by omega), H5 j (by rw [v9']; exact fun q => c2 ((n_eq (by omega) (by omega)).mp q).symm) (by omega), G3.1 _ (by omega), F5.1 j c1]
              have hsf : SFc c jn hc h17 := by
                refine ⟨fun j hj => ?_, ?_, fun k hk => ?_⟩
                · rw [jF j (by omega) (by omega), jM j (by omega) (by omega), V2.1 j (by omega), sfc10.1 j hj]
                · rw [L3.1 _ (by omega), K6, X2.2.1, I3.1 _ (by omega), H6, G3.1 _ (by omega), F5.2.1, V2.2.1, sfc10.2.1]
                · rw [L3.1 c (by omega), K7 k hk, X2.2.2 k hk, I3.1 c (by omega), H7 k hk, G3.2.2.2 k (by omega), F5.2.2 k hk, V2.2.2 k hk, sfc10.2.2 k hk]
              have hsm : SFm p e st Cd.length hm ((hm3.sI (p + 7) st (Int32.ofNat st2)).sI 43 15 (Int32.ofNat dp)) := by
                refine ⟨fun o c1 c2 i c3 => ?_, fun i c1 => ?_, ?_, fun k hk => ?_⟩
                · rw [rowF o i c1 c2 (by omega), rowM o i c1 c2 (by omega) (by omega), V3.1 o c1 c2 i (by omega), o13.1 o (by omega) c2 i (by omega), (sfm3 0).1 o c1 c2 i c3]
                · rw [eF i (by omega), eM i (by omega), V3.2.1 i (by omega), o13.2.1 i (by omega), (sfm3 Cd.length).2.1 i c1]
                · funext i
                  rw [sI_row _ (by omega), sI_row _ (by omega), X3.2.2.1, sI_row _ (by omega), sI_row _ (by omega), V3.2.2.1, o13.1 1 (by decide) (by decide) i (by omega), (sfm3 0).2.2.1]
                · rw [sI_row _ (by omega), sI_row _ (by omega), X3.2.2.2 k hk, sI_row _ (by omega), sI_row _ (by omega), V3.2.2.2 k hk, o13.2.2 k hk, (sfm3 0).2.2.2 k hk]
              have pr15 : prts h17 c Pt15 := prts_tail (X := [_]) prF
              have pr14 : prts h17 c Pt14 := by rw [X8] at pr15; exact prts_tail pr15
              have pr11 : prts h17 c Pt11 := by rw [w6] at pr14; exact prts_tail (X := [_, _]) pr14
              have pr10 : prts h17 c Pt10 := by rw [V8] at pr11; exact prts_tail pr11
              have pr1 : prts h17 c Pt1 := by rw [v11] at pr10; exact prts_tail (X := [_, _]) pr10
              have cd2 : cds ((hm3.sI (p + 7) st (Int32.ofNat st2)).sI 43 15 (Int32.ofNat dp)) p Cd2 := by rw [X7] at cdF; exact cds_tail cdF
              have cd1 : cds ((hm3.sI (p + 7) st (Int32.ofNat st2)).sI 43 15 (Int32.ofNat dp)) p Cd1 := by rw [V7] at cd2; exact cds_tail cd2
              have S1 := SC.to (A' := AK na) (S' := st3) (N' := Cd3.length) (J0' := jn) (J1' := jn4) (B := Pt11.length) (fun _ q => q) (by omega) lc3 (by omega) (by omega) _ _ (VN Nm) _ _ _ _ _ (fun _ q => q) (by omega) (Nat.le_refl _) (SAg.mk (hc' := h17) (hm' := (hm3.sI (p + 7) st (Int32.ofNat st2)).sI 43 15 (Int32.ofNat dp)) y1'.2.2.1.2.2 pr11 y2'.1.2.1.2 cd2 rfl (fun i c1 => by rw [eF i (by omega), eM i c1]) (fun j c1 c2 => by rw [jF j (by omega) (by omega), jM j c2 (by omega)]) (fun o c1 c2 i c3 c4 => by rw [rowF o i c1 c2 (by omega), rowM o i c1 c2 c4 (by omega)])) V9
              have S2 := SC.to (A' := AK na) (S' := st3) (N' := Cd3.length) (J0' := jn) (J1' := jn4) (B := Pt15.length) (fun _ q => q) (Nat.le_refl _) (Nat.le_refl _) (by omega) (by omega) _ _ (VN Nm) _ _ _ _ _ (fun _ q => q) (by omega) (Nat.le_refl _) (SAg.mk (hc' := h17) (hm' := (hm3.sI (p + 7) st (Int32.ofNat st2)).sI 43 15 (Int32.ofNat dp)) Y1.2.2.1.2.2 pr15 Y2.1.2.1.2 cdF rfl (fun i c1 => eF i c1) (fun j c1 c2 => jF j (by omega) (by omega)) (fun o c1 c2 i c3 c4 => rowF o i c1 c2 (by omega))) X9
              rw [show 17 - (dp + 1) = 16 - dp by omega, len10] at S1
              rw [show 17 - (dp + 1) = 16 - dp by omega, len14] at S2
              refine ⟨v1, hsf, hsm, by omega, by omega, by omega, ⟨Cb2 ++ (Cb1 ++ Ce), by rw [X7, V7, v3, List.append_assoc, List.append_assoc]⟩, ⟨stp :: (Pb2 ++ (stp :: (8, -1, -1, Int32.ofNat jn2) :: (Pb1 ++ (stp :: (6, v, -1, Int32.ofNat jn) :: Pe)))), by rw [w2, X8, w6, V8, v11, v4]; simp⟩, ?_, fun y q => Or.inl q, ?_, by omega, ?_⟩
              · rw [show 17 - dp = (16 - dp) + 1 by omega, w2, List.length_cons]
                refine Or.inr (Or.inr (Or.inl ⟨?_, Cd.length, Ce.length, v, jn, st + 1, Pt11.length, ?_, ?_, Nat.le_refl _, by omega, ?_, ?_, ?_, by omega, by omega, S1, Or.inr ⟨st2, jn2, Pt15.length, ?_, by omega, by omega, by omega, by omega, ?_, ?_, ?_, S2, ?_, prts_at prF, rfl⟩⟩))
                · rw [rowF 2 st (by decide) (by decide) (by omega), rowM 2 st (by decide) (by decide) (by omega) (by omega), row0 2 (by decide) (by decide) (by decide)]; exact s5.1
                · rw [rowF 4 st (by decide) (by decide) (by omega), rowM 4 st (by decide) (by decide) (by omega) (by omega), V3.1 4 (by decide) (by decide) st (by omega)]; exact o14
                · have ee : ((hm3.sI (p + 7) st (Int32.ofNat st2)).sI 43 15 (Int32.ofNat dp)).I e Cd.length = Int32.ofNat Cd1.length := by rw [eF _ (by omega), eM _ (by omega), V3.2.1 _ (by omega)]; exact o15
                  rw [v4] at pr1
                  rw [v3] at cd1 ee
                  exact EP.mk pr1 cd1 ee v5 han (by rw [← v3]; omega)
                · rw [v11] at pr10
                  have := prts_at (prts_tail (X := [_]) pr10)
                  rw [show Pt1.length = Pt.length + Ce.length by rw [v4, List.length_append]; omega] at this
                  exact this
                · rw [v11] at pr10
                  have := prts_at pr10
                  rw [List.length_cons, show Pt1.length = Pt.length + Ce.length by rw [v4, List.length_append]; omega] at this
                  exact this
                · rw [rowF 6 st (by decide) (by decide) (by omega), X3.1 6 (by decide) (by decide) st (by omega), sI_row _ (by omega), sI_I]; exact if_pos ⟨rfl, rfl⟩
                · rw [sI_row _ (by omega), sI_I]; exact if_pos ⟨rfl, rfl⟩
                · rw [w6] at pr14; exact prts_at (prts_tail (X := [_]) pr14)
                · rw [jF jn (by omega) (by omega), X2.1 jn (by omega), I3.1 _ (by omega), H9 jn v9' (by omega) (by rw [w8, List.length_cons]; omega), w8, List.length_cons]
                · rw [w6] at pr14
                  have := prts_at pr14
                  rw [List.length_cons] at this
                  exact this
                · rw [L3.1 _ (by omega), K9 jn2 w4 (by omega) (by omega)]
              · rw [rowF 8 st (by decide) (by decide) (by omega), rowM 8 st (by decide) (by decide) (by omega) (by omega), row0 8 (by decide) (by decide) (by decide)]; exact s5.2.2.2
              · rw [w2, List.length_cons]
                rw [len10] at V11
                rw [len14] at X11
                omega
          · intro hc' hm' hf
            exact J.c3 rfl (J.ca' (fun _ => Or.inl rfl) (J.fail hf))
        · -- without else
          obtain ⟨h16', Pt16, K1, K2, K3, K4, K5, K6, K7, K8, K9, K10⟩ := sl_join (G := G) (d := E + 5) (by omega) hq y1' t10 v7
          obtain ⟨h17, L1, L2, L3⟩ := c_leave (G := G) (d := E + 5) (by omega) K2.1 (by omega)
          have z17 := K2.r22 hq L2 L3
          refine J.c4' (fun hx => by rw [c_at y1' hx]; exact k6) ?_
          refine J.m4' (fun hx => by rw [(m_at R y2' t1 hx).2.2.1]; exact fun q => k6 ((tk_word R t1 (by decide) (by decide)).mpr q)) ?_
          refine J.cE c (J.ca' (fun hx => by rw [cRr (by decide)]; exact y1'.2.2.2.2.2.1) (J.ca' (fun _ => hq) (J.cv K1 (J.cv L1 (J.ca' (fun _ => Or.inr rfl) ?_)))))
          have r43b := R43.sI (hm2.sI (p + 6) st (Int32.ofNat (st + 1))) 15 (Int32.ofNat dp) (by decide)
          have yF := row6.r43 hp (row6.1.1.setd dp) r43b
          have e15 : ∀ hx, (mg hx hm2).I 43 15 - 1 = Int32.ofNat dp := fun hx => by rw [mI (by decide), y2'.1.1.1.2.1, n_sub1]
          refine J.m (Wm' := fun hx Q => Q (riv (Int32.ofNat st)) (mg hx ((hm2.sI (p + 6) st (Int32.ofNat (st + 1))).sI 43 15 (Int32.ofNat dp)))) (fun hx Q hF => by rw [e15, n_N hsb, mg_sI_m hp6, mg_sI_m (by decide)]; exact hF) ?_
          have hcl3 : f2 = 0 → f1 = 0 ∧ Pt16 = stp :: Pt11 := fun h0 => by
            obtain ⟨w1, -⟩ := q4 h0
            have hex := (y7' h0).ex R t1
            exact ⟨w1, K10 (by omega)⟩
          refine J.ok ⟨rfl, a2, f2, p2, wk2, Pt16, Cd2, [], st2, nv2, nl2, jn2, by omega, ⟨z17, yF, ⟨t1, b2, t3, t4, t5, t6, t7, t8, t9, t10⟩, y4', y5'.tr (K3.tr (L3.pf hq)), y6'.tr (pf6.tr (r43b.pf hp)), fun h0 => ?_⟩, hko, fun h0 => ?_⟩
          · obtain ⟨w1, w2⟩ := hcl3 h0
            obtain ⟨e1, e2, e3, e4, e5, e6, e7, e8, e9, e10, e11⟩ := y7' h0
            obtain ⟨-, -, -, -, -, -, -, -, -, d10, d11⟩ := q4 h0
            obtain ⟨v1, v2, Ce, Pe, v3, v4, v5, v6, v7', v8, v9', v10', v11⟩ := clean w1
            have i7 := (x7 v1).2.2.2.2.2.2.1
            refine ⟨e1, (L3.xf hq).cn hq (K4 T Nm e2), e3, e4, e5, e6, ?_, e8, e9, e10, e11⟩
            clear e10 e11 e9
            rw [v11, List.length_cons, List.length_cons, v4, List.length_append] at d11
            rw [w2, List.length_cons]
            omega
          · obtain ⟨w1, w2⟩ := hcl3 h0
            obtain ⟨V1, V2, V3, V4, V5, V6, ⟨Cb1, V7⟩, ⟨Pb1, V8⟩, V9, V10, V11⟩ := q4 h0
            obtain ⟨v1, v2, Ce, Pe, v3, v4, v5, v6, v7', v8, v9', v10', v11⟩ := clean w1
            have han := (x7 v1).an
            have hex11 := (y7' h0).ex R t1
            have len10 : Pt10.length = Pt.length + Ce.length + 2 := by rw [v11, List.length_cons, List.length_cons, v4, List.length_append]; omega
            have lc1 : Cd.length < Cd1.length := by rw [v3, List.length_append]; omega
            have lc2 : Cd1.length ≤ Cd2.length := by rw [V7, List.length_append]; omega
            have prF : prts h17 c (stp :: Pt11) := by rw [← w2]; exact z17.2.2.1.2.2
            have cdF := yF.1.2.1.2
            have rowF : ∀ o i, 2 ≤ o → o ≤ 8 → ¬ (o = 6 ∧ i = st) → ((hm2.sI (p + 6) st (Int32.ofNat (st + 1))).sI 43 15 (Int32.ofNat dp)).I (p + o) i = hm2.I (p + o) i := fun o i c1 c2 c3 => by
              rw [sI_row _ (by omega), sI_I, if_neg (by omega)]
            have row0 : ∀ o, 2 ≤ o → o ≤ 8 → o ≠ 4 → hm2.I (p + o) st = m3.I (p + o) st := fun o c1 c2 c3 => by
              rw [V3.1 o c1 c2 st (by omega), o13.1 o (by omega) c2 st (by omega)]
            have eF : ∀ i, i < Cd2.length → ((hm2.sI (p + 6) st (Int32.ofNat (st + 1))).sI 43 15 (Int32.ofNat dp)).I e i = hm2.I e i := fun i _ => by rw [sI_row _ (by omega), sI_row _ (by omega)]
            have jF : ∀ j, j < 80 → j ≠ jn → h17.I (c + 5) j = hc2.I (c + 5) j := fun j c1 c2 => by
              rw [L3.1 _ (by omega), K5 j (by rw [v9']; exact fun q => c2 ((n_eq (by omega) (by omega)).mp q).symm) c1]
            have hsf : SFc c jn hc h17 := by
              refine ⟨fun j hj => ?_, ?_, fun k hk => ?_⟩
              · rw [jF j (by omega) (by omega), V2.1 j (by omega), sfc10.1 j hj]
              · rw [L3.1 _ (by omega), K6, V2.2.1, sfc10.2.1]
              · rw [L3.1 c (by omega), K7 k hk, V2.2.2 k hk, sfc10.2.2 k hk]
            have hsm : SFm p e st Cd.length hm ((hm2.sI (p + 6) st (Int32.ofNat (st + 1))).sI 43 15 (Int32.ofNat dp)) := by
              refine ⟨fun o c1 c2 i c3 => ?_, fun i c1 => ?_, ?_, fun k hk => ?_⟩
              · rw [rowF o i c1 c2 (by omega), V3.1 o c1 c2 i (by omega), o13.1 o (by omega) c2 i (by omega), (sfm3 0).1 o c1 c2 i c3]
              · rw [eF i (by omega), V3.2.1 i (by omega), o13.2.1 i (by omega), (sfm3 Cd.length).2.1 i c1]
              · funext i
                rw [sI_row _ (by omega), sI_row _ (by omega), V3.2.2.1, o13.1 1 (by decide) (by decide) i (by omega), (sfm3 0).2.2.1]
              · rw [sI_row _ (by omega), sI_row _ (by omega), V3.2.2.2 k hk, o13.2.2 k hk, (sfm3 0).2.2.2 k hk]
            have pr11 : prts h17 c Pt11 := prts_tail (X := [_]) prF
            have pr10 : prts h17 c Pt10 := by rw [V8] at pr11; exact prts_tail pr11
            have pr1 : prts h17 c Pt1 := by rw [v11] at pr10; exact prts_tail (X := [_, _]) pr10
            have cd1 : cds ((hm2.sI (p + 6) st (Int32.ofNat (st + 1))).sI 43 15 (Int32.ofNat dp)) p Cd1 := by rw [V7] at cdF; exact cds_tail cdF
            have S1 := SC.to (A' := AK na) (S' := st2) (N' := Cd2.length) (J0' := jn) (J1' := jn2) (B := Pt11.length) (fun _ q => q) (Nat.le_refl _) (Nat.le_refl _) (by omega) (by omega) _ _ (VN Nm) _ _ _ _ _ (fun _ q => q) (by omega) (Nat.le_refl _) (SAg.mk (hc' := h17) (hm' := (hm2.sI (p + 6) st (Int32.ofNat (st + 1))).sI 43 15 (Int32.ofNat dp)) y1'.2.2.1.2.2 pr11 y2'.1.2.1.2 cdF rfl (fun i c1 => eF i c1) (fun j c1 c2 => jF j (by omega) (by omega)) (fun o c1 c2 i c3 c4 => rowF o i c1 c2 (by omega))) V9
            rw [show 17 - (dp + 1) = 16 - dp by omega, len10] at S1
            refine ⟨v1, hsf, hsm, by omega, by omega, by omega, ⟨Cb1 ++ Ce, by rw [V7, v3, List.append_assoc]⟩, ⟨stp :: (Pb1 ++ (stp :: (6, v, -1, Int32.ofNat jn) :: Pe)), by rw [w2, V8, v11, v4]; simp⟩, ?_, fun y q => Or.inl q, ?_, by omega, ?_⟩
            · rw [show 17 - dp = (16 - dp) + 1 by omega, w2, List.length_cons]
              refine Or.inr (Or.inr (Or.inl ⟨?_, Cd.length, Ce.length, v, jn, st + 1, Pt11.length, ?_, ?_, Nat.le_refl _, by omega, ?_, ?_, ?_, by omega, by omega, S1, Or.inl ⟨?_, ?_, prts_at prF, rfl⟩⟩))
              · rw [rowF 2 st (by decide) (by decide) (by omega), row0 2 (by decide) (by decide) (by decide)]; exact s5.1
              · rw [rowF 4 st (by decide) (by decide) (by omega), V3.1 4 (by decide) (by decide) st (by omega)]; exact o14
              · have ee : ((hm2.sI (p + 6) st (Int32.ofNat (st + 1))).sI 43 15 (Int32.ofNat dp)).I e Cd.length = Int32.ofNat Cd1.length := by rw [eF _ (by omega), V3.2.1 _ (by omega)]; exact o15
                rw [v4] at pr1
                rw [v3] at cd1 ee
                exact EP.mk pr1 cd1 ee v5 han (by rw [← v3]; omega)
              · rw [v11] at pr10
                have := prts_at (prts_tail (X := [_]) pr10)
                rw [show Pt1.length = Pt.length + Ce.length by rw [v4, List.length_append]; omega] at this
                exact this
              · rw [v11] at pr10
                have := prts_at pr10
                rw [List.length_cons, show Pt1.length = Pt.length + Ce.length by rw [v4, List.length_append]; omega] at this
                exact this
              · rw [sI_row _ (by omega), sI_I]; exact if_pos ⟨rfl, rfl⟩
              · rw [rowF 7 st (by decide) (by decide) (by omega), row0 7 (by decide) (by decide) (by decide)]; exact s5.2.2.1
              · rw [L3.1 _ (by omega), K9 jn v9' (by omega) (by omega)]
            · rw [rowF 8 st (by decide) (by decide) (by omega), row0 8 (by decide) (by decide) (by decide)]; exact s5.2.2.2
            · rw [w2, List.length_cons]
              rw [len10] at V11
              omega
      · intro hc' hm' hf
        exact J.c3 rfl (J.ca' (fun _ => Or.inl rfl) (J.fail hf))
    · intro hc' hm' hf
      exact J.c3 rfl (J.ca' (fun _ => Or.inl rfl) (J.fail hf))
  · obtain ⟨h2, g1, g2, g3⟩ := c_enterDeep (G := G) (d := E + 5) (by omega) r2.1 hk (by omega)
    obtain ⟨m1, l1, l2, l3⟩ := m_entersDeep (G := G) (d := d + 1) (by omega) R x2.1.1 b1 (by omega)
    refine J.ci g1 (J.c1 rfl (J.ca' (fun _ => Or.inl rfl) ?_))
    exact J.mxv l1 (J.fail ⟨7, T.p a, Or.inr rfl, g2, l2, x5.tr (r3.tr (g3.pf hq)), x6.tr (l3.pf hp)⟩)
end ST7
