/-! ===== STATEMENTS: NAME = E, NAME [ E ] = E ===== -/
section JR3
variable {Wc Wm : qT} {P : qr → qh → qr → qh → Prop}
theorem J.c1' {A : qh → Prop} {X Y : qT} (a : ∀ hx, A hx) (k : J X Wm P) : J (fun hx Q => (A hx → X hx Q) ∧ (¬ A hx → Y hx Q)) Wm P := J.c (fun hx _ q => ⟨fun _ => q, fun n => absurd (a hx) n⟩) k
theorem J.c2' {A : qh → Prop} {X Y : qT} (a : ∀ hx, ¬ A hx) (k : J Y Wm P) : J (fun hx Q => (A hx → X hx Q) ∧ (¬ A hx → Y hx Q)) Wm P := J.c (fun hx _ q => ⟨fun n => absurd n (a hx), fun _ => q⟩) k
theorem J.c3' {A : qh → Prop} {X Y : qT} (a : ∀ hx, A hx) (k : J Y Wm P) : J (fun hx Q => (¬ A hx → X hx Q) ∧ (A hx → Y hx Q)) Wm P := J.c (fun hx _ q => ⟨fun n => absurd (a hx) n, fun _ => q⟩) k
theorem J.c4' {A : qh → Prop} {X Y : qT} (a : ∀ hx, ¬ A hx) (k : J X Wm P) : J (fun hx Q => (¬ A hx → X hx Q) ∧ (A hx → Y hx Q)) Wm P := J.c (fun hx _ q => ⟨fun _ => q, fun n => absurd n (a hx)⟩) k
theorem J.m1' {A : qh → Prop} {X Y : qT} (a : ∀ hx, A hx) (k : J Wc X P) : J Wc (fun hx Q => (A hx → X hx Q) ∧ (¬ A hx → Y hx Q)) P := J.m (fun hx _ q => ⟨fun _ => q, fun n => absurd (a hx) n⟩) k
theorem J.m2' {A : qh → Prop} {X Y : qT} (a : ∀ hx, ¬ A hx) (k : J Wc Y P) : J Wc (fun hx Q => (A hx → X hx Q) ∧ (¬ A hx → Y hx Q)) P := J.m (fun hx _ q => ⟨fun n => absurd n (a hx), fun _ => q⟩) k
theorem J.m3' {A : qh → Prop} {X Y : qT} (a : ∀ hx, A hx) (k : J Wc Y P) : J Wc (fun hx Q => (¬ A hx → X hx Q) ∧ (A hx → Y hx Q)) P := J.m (fun hx _ q => ⟨fun n => absurd (a hx) n, fun _ => q⟩) k
theorem J.m4' {A : qh → Prop} {X Y : qT} (a : ∀ hx, ¬ A hx) (k : J Wc X P) : J Wc (fun hx Q => (¬ A hx → X hx Q) ∧ (A hx → Y hx Q)) P := J.m (fun hx _ q => ⟨fun _ => q, fun n => absurd n (a hx)⟩) k
end JR3
section ST4
variable {G : qG} {T : tkD} {c p e na : Nat} {hc0 hm0 : qh} {a dp : Nat} {fk fp : Int32} {wk : Nat} {Pt : List prt} {Cd : List cod} {Nm : List nmE} {st nv nl jn wh : Nat} {ag bh : Int32} {hc hm : qh}
/-- the NAME that is set: looked at by both -/
theorem st_set (R : TR T) (hq : q_cir c) (hp : q_prg p) (he : q_end e) {d D : Nat} (hd : 13 * (17 - dp) + 22 ≤ d) (hD : 12 ≤ D) (S : SI T c p e na hc0 hm0 a dp fk fp wk Pt Cd Nm st nv nl jn wh ag bh hc hm) (hk : T.k a = 2) :
    J (fun hx Q => q_M0 G D yX2_readStatement [.ref 21] (mg hc hx) Q) (fun hx Q => q_M0 G d yX12_statement [.ref 43] (mg hx hm) Q) (PP (sOk T c p e na hc0 hm0 a dp fk fp wk Pt Cd Nm st nv nl jn wh ag bh hc hm) (pFail c p e hc0 hm0)) := by
  obtain ⟨D, rfl⟩ : ∃ D', D = D' + 12 := ⟨D - 12, by omega⟩
  obtain ⟨d, rfl⟩ : ∃ d', d = d' + 2 := ⟨d - 2, by omega⟩
  obtain ⟨x1, x2, ⟨b1, b2, b3, b4, b5, b6, b7, b8, b9, b10⟩, x4, x5, x6, x7⟩ := S
  have hn := R.2.1
  have hpl := prg_lt hp
  have hel := end_lt he
  have hc8 := cir_lt hq
  have hcl : c < 43 := by omega
  have hp0 : 43 ≤ p := by omega
  have hp3 : 43 ≤ p + 3 := by omega
  have hp4 : 43 ≤ p + 4 := by omega
  have hp5 : 43 ≤ p + 5 := by omega
  have ha1 := tk_more' R b1 hk (by decide)
  have hsb : st < 2147483648 := by omega
  have hin : vp_in (Int32.ofNat st) 2000 := n_in (by omega) (by omega)
  have hpn := tk_pn R ha1
  have hord : ¬ fk = 0 → ¬ fk ≤ 0 ∧ fp < T.p a := fun h0 => by have := x4.lt R b1 h0; exact ⟨this.1, this.2.2⟩
  obtain ⟨r, F1, F2⟩ := c_find (G := G) (d := D + 10) (T := T) (by omega) x1.2.2.2.1 (T.v a)
  obtain ⟨h1, r1, r2, r3⟩ := c_adv (G := G) (d := D + 10) (by omega) x1.1 ha1 hn
  have y1 := x1.r22 hq r2 r3
  have r43 := R43.sI hm 14 (Int32.ofNat (a + 1)) (by decide)
  have y2 := x2.r43 hp (x2.1.1.seta (a + 1)) r43
  obtain ⟨bb, hbb⟩ : ∃ bb : Int32, bb = if T.k (a + 1) = 91 then 1 else 0 := ⟨_, rfl⟩
  have hb01 : bb = 0 ∨ bb = 1 := by rw [hbb]; split; exact Or.inr rfl; exact Or.inl rfl
  obtain ⟨f, U1, U2, U3⟩ := c_use (G := G) (d := D + 10) (T := T) (by omega) y1.2.2.2.1 r bb
  obtain ⟨h2, g1, g2, g3⟩ := c_blame (G := G) (d := D + 10) (by omega) y1.1 f (T.p a)
  have z2 := y1.r22 hq g2 g3
  have ebb : ∀ hx, (if (mg h1 hx).I 22 3 = 91 then (1 : Int32) else 0) = bb := fun hx => by rw [cI (by decide), r2.1.2.2.1, hbb]
  have eL : ∀ hx, (mg hc hx).L 22 5 = T.v a := fun hx => by rw [cL (by decide)]; exact x1.1.1.2.2.2.2.1
  have e4 : ∀ hx, (mg hc hx).I 22 4 = T.p a := fun hx => by rw [cI (by decide)]; exact x1.1.1.2.2.2.1
  have cn2 : ∀ Nm', CN T Nm' hc → CN T Nm' h2 := fun Nm' n => (g3.xf hq).cn hq ((r3.xf hq).cn hq n)
  have hfl : fk = 0 → f = uF (lk T Nm (T.v a)) bb := fun h0 => U3 Nm (T.v a) ((r3.xf hq).cn hq (x7 h0).2.1) (F2 Nm (x7 h0).2.1 (x7 h0).2.2.1)
  have FG1 : FG T (a + 1) (bK fk f) (bP fk fp f (T.p a)) := (x4.next (by omega)).at R b1 (f_or U2) hpn
  refine J.c (fun hx Q hF => cd_2 ((c_at x1 hx).trans hk) hF) ?_
  refine J.c (fun hx Q hF => x_X2_readSetting G (D + 10) _ _ hF) ?_
  refine J.c (fun hx Q hF => by rw [eL]; exact hF) ?_
  refine J.ci F1 ?_
  refine J.c (fun hx Q hF => by rw [e4]; exact hF) ?_
  refine J.cv r1 ?_
  refine J.c (fun hx Q hF => by rw [ebb]; exact hF) ?_
  refine J.ci U1 (J.cv g1 ?_)
  refine J.m (fun hx Q hF => md_2 (m_at R x2 b1 hx).1 hp (m_at R x2 b1 hx).2.1 ((m_at R x2 b1 hx).2.2.1.trans ((tk_name R b1).mp hk)) hF) ?_
  refine J.m (fun hx Q hF => x_X12_assigns G d _ _ hF) ?_
  refine J.mE p (J.ma' (fun hx => (m_at R x2 b1 hx).1) (J.ma' (fun _ => hp) ?_))
  refine J.m (fun hx Q hF => by rw [(m_at R x2 b1 hx).2.2.2, n_add1, mg_sI_m (by decide)]; exact hF) ?_
  by_cases k91 : T.k (a + 1) = 91
  · -- NAME [ E ] = E
    have eb : bb = 1 := by rw [hbb, if_pos k91]
    subst eb
    have ha2 : a + 2 < T.n := tk_more' R ha1 k91 (by decide)
    have hpn2 : T.pn (a + 1) < T.pn (a + 2) := tk_pn R ha2
    obtain ⟨m2, n1, n2, n3⟩ := m_uses (G := G) (d := d) (by omega) R y2.1.1 y2.1.2.2.2.1 b1 hk (b := 1) (Or.inr rfl)
    have y3 := y2.r43 hp n2 n3
    obtain ⟨w1, w2⟩ := wK_eq (k := uF (lk T Nm (T.v a)) 1) hord
    obtain ⟨w3, w4⟩ := bK_sub (fp := fp) (p := T.p a) hfl
    rw [w1, w2, ← w3, ← w4] at y3
    have i1 := m_is1 (G := G) (d := d) (by omega) R y2.1.1 ha1 (s := 91) (by decide) k91
    obtain ⟨m3, s1, s2, s3, s4, s5⟩ := sm_new (G := G) (d := d) (by omega) hp he y3 (by omega) 1
    have y4 := s2.row hp (o := 3) (by decide) (by decide) st (uN (lk T Nm (T.v a)))
    have pf4 : PFm p e hm (m3.sI (p + 3) st (uN (lk T Nm (T.v a)))) := (r43.pf hp).tr ((n3.pf hp).tr (s3.tr (PFm.sI hp he _ _ _ _ (by omega))))
    refine J.mi i1 (J.m4 (by decide) (J.mi n1 (J.mi s1 (J.ma' (fun _ => hin) (J.m2 (by decide) ?_)))))
    refine J.m (fun hx Q hF => by rw [n_N hsb, mg_sI_m hp3]; exact hF) ?_
    refine J.c2 (by decide) ?_
    by_cases hdp : dp < 16
    · obtain ⟨h3, j1, j2, j3⟩ := c_enter (G := G) (d := D + 10) (by omega) z2.1 k91 hdp ha2 hn
      have z3 := z2.r22 hq j2 j3
      obtain ⟨m4, l1, l2, l3⟩ := m_opens (G := G) (d := d) (by omega) R y4.1.1 ha1 (s := 91) (by decide) k91 hdp
      have y5 := y4.r43 hp l2 l3
      refine J.ci j1 (J.c2 (by decide) (J.mv l1 ?_))
      refine j_E (D := D + 6) R hq hp he (by omega) z3 y5 ha2 (by omega) (by omega) (by omega) (FG1.next (show T.pn (a + 1) ≤ T.pn (a + 2) by omega)) (x5.tr ((r3.pf hq).tr ((g3.pf hq).tr (j3.pf hq)))) (x6.tr (pf4.tr (l3.pf hp))) (fun h0 => ?_) ?_ ?_
      · have sc := x7 (bK_zero h0).1
        exact ⟨sc.1, (j3.xf hq).cn hq (cn2 Nm sc.2.1), sc.2.2.1, (sc.ex R b1).1⟩
      · rintro a' fk' fp' wk' v Pt' Cd' hc' hm' ⟨o1, o2, o3, o4, o5, o6, o7, o8, o9, o10, o11, o12, o13, o14, o15⟩
        refine J.c2 (by decide) (J.ma' (fun _ => hin) ?_)
        have v1 := o5.row hp (o := 4) (by decide) (by decide) st (Int32.ofNat Cd.length)
        have v2 : PFm p e hm' (hm'.sI (p + 4) st (Int32.ofNat Cd.length)) := PFm.sI hp he _ _ _ _ (by omega)
        refine J.m (fun hx Q hF => by rw [mg_sI_m hp4]; exact hF) ?_
        by_cases k93 : T.k a' = 93
        · have ha4 := tk_more' R o2 k93 (by decide)
          have hpn4 := tk_pn R ha4
          obtain ⟨h6, A1, A2, A3⟩ := c_pass (G := G) (d := D + 10) (by omega) o3.1 k93 ha4 hn
          have z6 := o3.r22 hq A2 A3
          obtain ⟨h7, B1, B2, B3⟩ := c_leave (G := G) (d := D + 10) (by omega) A2 (by omega)
          have z7 := z6.r22 hq B2 B3
          obtain ⟨h8, C1, C2, C3⟩ := c_result (G := G) (d := D + 10) (by omega) (B3.cf (A3.cf o4))
          have z8 := z7.r27 hq C2 C3
          obtain ⟨m6, H1, H2, H3⟩ := m_closes (G := G) (d := d) (by omega) R v1.1.1 o2 (s := 93) (by decide) k93
          have y6 := v1.r43 hp H2 H3
          refine J.ci A1 (J.c4 (by decide) (J.cv B1 (J.ci C1 (J.mv H1 ?_))))
          have pf8 : PFc c hc0 h8 := o6.tr ((A3.pf hq).tr ((B3.pf hq).tr (C3.xf hq).pf))
          have pm6 : PFm p e hm0 m6 := o7.tr (v2.tr (H3.pf hp))
          by_cases k61 : T.k (a' + 1) = 61
          · have ha5 : a' + 2 < T.n := tk_more' R ha4 k61 (by decide)
            have hpn5 : T.pn (a' + 1) < T.pn (a' + 2) := tk_pn R ha5
            obtain ⟨h9, E1, E2, E3⟩ := c_pass (G := G) (d := D + 10) (by omega) z8.1 k61 ha5 hn
            have z9 := z8.r22 hq E2 E3
            obtain ⟨m7, I1, I2, I3⟩ := m_wants (G := G) (d := d) (by omega) R y6.1.1 ha4 (s := 61) (by decide) k61
            have y7 := y6.r43 hp I2 I3
            refine J.ci E1 (J.c2 (by decide) (J.mv I1 ?_))
            have xf9 : CXF c hc h9 := (r3.xf hq).tr ((g3.xf hq).tr ((j3.xf hq).tr (o12.tr ((A3.xf hq).tr ((B3.xf hq).tr ((C3.xf hq).tr (E3.xf hq)))))))
            refine j_E (D := D + 6) R hq hp he (by omega) z9 y7 ha5 (by omega) (by omega) (by omega) (o10.next (show T.pn a' ≤ T.pn (a' + 2) by omega)) (pf8.tr (E3.pf hq)) (pm6.tr (I3.pf hp)) (fun h0 => ?_) ?_ ?_
            · obtain ⟨q1, q2, Ce, Pe, q3, q4, q5, q6, q7⟩ := o15 h0
              have sc := x7 (bK_zero q1).1
              have hex := (sc.ex R b1).1
              refine ⟨q2, xf9.cn hq sc.2.1, sc.2.2.1, ?_⟩
              rw [q4, List.length_append, q5.len]; omega
            · rintro a2 fk2 fp2 wk2 u Pt2 Cd2 hc2 hm2 ⟨p1, p2, p3, p4, p5, p6, p7, p8, p9, p10, p11, p12, p13, p14, p15⟩
              refine J.c2 (by decide) (J.m2 (by decide) (J.ma' (fun _ => hin) ?_))
              have t1 := p5.row hp (o := 5) (by decide) (by decide) st (Int32.ofNat Cd'.length)
              have t2 : PFm p e hm2 (hm2.sI (p + 5) st (Int32.ofNat Cd'.length)) := PFm.sI hp he _ _ _ _ (by omega)
              refine J.m (fun hx Q hF => by rw [mg_sI_m hp5]; exact hF) ?_
              by_cases k59 : T.k a2 = 59
              · have ha6 := tk_more' R p2 k59 (by decide)
                have hpn6 := tk_pn R ha6
                obtain ⟨h10, K1, K2, K3⟩ := c_pass (G := G) (d := D + 10) (by omega) p3.1 k59 ha6 hn
                have z10 := p3.r22 hq K2 K3
                obtain ⟨h11, L1, L2, L3⟩ := c_result (G := G) (d := D + 10) (by omega) (K3.cf p4)
                have z11 := z10.r27 hq L2 L3
                obtain ⟨num, M1, M2⟩ := c_number (G := G) (d := D + 10) (T := T) (by omega) z11.2.2.2.1 r
                obtain ⟨h12, v', Pt12, N1, N2, N3, N4, N5⟩ := sl_lay (G := G) (d := D + 10) (by omega) hq z11 5 v u num
                obtain ⟨m8, O1, O2, O3⟩ := m_wants (G := G) (d := d) (by omega) R t1.1.1 p2 (s := 59) (by decide) k59
                have y8 := t1.r43 hp O2 O3
                refine J.ci K1 (J.c4 (by decide) (J.ci L1 (J.c2 (by decide) ?_)))
                refine J.cE c (J.ca' (fun hx => by rw [cRr (by decide)]; exact z11.2.2.2.2.2.1) (J.ca' (fun _ => hq) ?_))
                refine J.ci M1 (J.c (Wc' := fun hx Q => Q (riv 1) (mg h12 hx)) (fun hx Q hF => N1 hx _ ⟨Or.inr rfl, hF⟩) ?_)
                refine J.mv O1 ?_
                have xf : CXF c hc h12 := xf9.tr (p12.tr ((K3.xf hq).tr ((L3.xf hq).tr N3.xf)))
                have hko : ¬ fk = 0 → fk2 = fk ∧ fp2 = fp := fun h0 => by
                  have q1 := bK_keep (fp := fp) (k := f) (p := T.p a) h0
                  have q2 := o11 (by rw [q1.1]; exact h0)
                  rw [q1.1, q1.2] at q2
                  have q3 := p11 (by rw [q2.1]; exact h0)
                  exact ⟨q3.1.trans q2.1, q3.2.trans q2.2⟩
                refine J.ok ⟨rfl, a2 + 1, fk2, fp2, wk2, Pt12, Cd2, [], st + 1, nv, nl, jn, by omega, ⟨N2, y8, ⟨ha6, b2, by omega, by omega, by omega, by omega, by omega, by show Nm.length ≤ _; omega, by omega, b10⟩, p10.next (by omega), p6.tr ((K3.pf hq).tr ((L3.xf hq).pf.tr N3.xf.pf)), p7.tr (t2.tr (O3.pf hp)), fun h0 => ?_⟩, hko, fun h0 => ?_⟩
                · obtain ⟨q1, q2, Ce, Pe, q3, q4, q5, q6, q7⟩ := p15 h0
                  obtain ⟨q1', q2', Ce', Pe', q3', q4', q5', q6', q7'⟩ := o15 q1
                  have sc := x7 (bK_zero q1').1
                  have hex := sc.ex R b1
                  obtain ⟨e1', e2', e3', e4', e5', e6', e7', e8', e9', e10', e11'⟩ := sc
                  refine ⟨q2, xf.cn hq e2', e3', e4', e5', e6', ?_, e8', e9', e10', e11'⟩
                  clear e10' e11' e9'
                  have hP : Pt2.length = Ce.length + (Ce'.length + Pt.length) := by rw [q4, q4', List.length_append, List.length_append, q5.len, q5'.len]
                  have hmm : T.pn a ≤ T.pn (a2 + 1) := tk_mono R (by omega) ha6
                  obtain ⟨u1, u2⟩ := N4 (by omega)
                  rw [u2, List.length_cons]
                  omega
                · obtain ⟨q1, q2, Ce, Pe, q3, q4, q5, q6, q7⟩ := p15 h0
                  obtain ⟨q1', q2', Ce', Pe', q3', q4', q5', q6', q7'⟩ := o15 q1
                  obtain ⟨hz1, hz2⟩ := bK_zero q1'
                  have hex := (x7 hz1).ex R b1
                  have han := (x7 hz1).an
                  have hcn := (x7 hz1).2.1
                  have huq := (x7 hz1).2.2.1
                  have hP1 : Pt'.length = Ce'.length + Pt.length := by rw [q4', List.length_append, q5'.len]
                  have hP : Pt2.length = Ce.length + Pt'.length := by rw [q4, List.length_append, q5.len]
                  obtain ⟨u1, u2⟩ := N4 (by omega)
                  obtain ⟨y, yl, ya⟩ := uF_arr ((hfl hz1).symm.trans hz2)
                  have enum : num = y.2 := M2 Nm (T.v a) y (((L3.xf hq).cn hq ((K3.xf hq).cn hq (p12.cn hq (xf9.cn hq hcn))))) (F2 Nm hcn huq) yl
                  have kp : ∀ o, 2 ≤ o → o ≤ 8 → o ≠ 4 → o ≠ 5 → m8.I (p + o) st = (m3.sI (p + 3) st (uN (lk T Nm (T.v a)))).I (p + o) st := fun o c1 c2 c3 c4 => by
                    rw [O3.1 _ (by omega), sI_row _ (by omega), p13.1 _ (by omega) (by omega) (by omega) (by omega) (by omega), I3.1 _ (by omega), H3.1 _ (by omega), sI_row _ (by omega), o13.1 _ (by omega) (by omega) (by omega) (by omega) (by omega), l3.1 _ (by omega)]
                  have pr : prts h12 c ((5, v, u, num) :: Pt2) := by rw [← u2]; exact N2.2.2.1.2.2
                  have lc : Cd.length < Cd'.length := by rw [q3', List.length_append]; omega
                  have lc2 : Cd'.length < Cd2.length := by rw [q3, List.length_append]; omega
                  have ee2 : m8.I e Cd'.length = Int32.ofNat Cd2.length := by rw [O3.1 e (by omega), sI_row _ (by omega)]; exact p14
                  have ee1 : m8.I e Cd.length = Int32.ofNat Cd'.length := by
                    rw [O3.1 e (by omega), sI_row _ (by omega), p13.2.2.2.2.2 _ (by omega), I3.1 e (by omega), H3.1 e (by omega), sI_row _ (by omega)]; exact o14
                  have cd' := y8.1.2.1.2
                  refine ⟨hz1, xf.sf hq, ?_, by omega, Nat.le_refl _, Nat.le_refl _, ⟨Ce ++ Ce', by rw [q3, q3', List.append_assoc]⟩, ⟨(5, v, u, num) :: (Pe ++ Pe'), by rw [u2, q4, q4', List.cons_append, List.append_assoc]⟩, ?_, fun y q => Or.inl q, ?_, Nat.le_refl _, by rw [u2, List.length_cons]; have := tk_mono R (show a ≤ a2 + 1 by omega) ha6; omega⟩
                  · refine ((r43.xf hp).sf hp he).tr (((n3.xf hp).sf hp he).tr ((s4 Cd.length).tr ((SFm.row hp he _ _ (by decide) (by decide) (Nat.le_refl _)).tr (((l3.xf hp).sf hp he).tr ((o13.sf hp he).tr ((SFm.row hp he _ _ (by decide) (by decide) (Nat.le_refl _)).tr (((H3.xf hp).sf hp he).tr (((I3.xf hp).sf hp he).tr ((p13.sf hp he).tr ((SFm.row (n := Cd'.length) hp he _ _ (by decide) (by decide) (Nat.le_refl _)).tr ((O3.xf hp).sf hp he) (Nat.le_refl _) (Nat.le_refl _)) (Nat.le_refl _) (Nat.le_refl _)) (Nat.le_refl _) (Nat.le_of_lt lc)) (Nat.le_refl _) (Nat.le_refl _)) (Nat.le_refl _) (Nat.le_refl _)) (Nat.le_refl _) (Nat.le_refl _)) (Nat.le_refl _) (Nat.le_refl _)) (Nat.le_refl _) (Nat.le_refl _)) (Nat.le_refl _) (Nat.le_refl _)) (Nat.le_refl _) (Nat.le_refl _)) (Nat.le_refl _) (Nat.le_refl _)
                  · rw [show 17 - dp = (16 - dp) + 1 by omega, u2, List.length_cons]
                    have k3 : m8.I (p + 3) st = y.2 := by rw [kp 3 (by decide) (by decide) (by decide) (by decide), sI_I, if_pos ⟨rfl, rfl⟩, yl]; rfl
                    refine Or.inr (Or.inl ⟨?_, Cd.length, Ce'.length, v, Cd'.length, Ce.length, u, ?_, ?_, ?_, ?_, ?_, ?_, by omega⟩)
                    · rw [kp 2 (by decide) (by decide) (by decide) (by decide), sI_row _ (by omega)]; exact s5.1
                    · rw [O3.1 _ (by omega), sI_row _ (by omega), p13.1 _ (by omega) (by omega) (by omega) (by omega) (by omega), I3.1 _ (by omega), H3.1 _ (by omega), sI_I]; exact if_pos ⟨rfl, rfl⟩
                    · rw [O3.1 _ (by omega), sI_I]; exact if_pos ⟨rfl, rfl⟩
                    · rw [q4, q4'] at pr
                      rw [q3, q3'] at cd'
                      rw [q3'] at ee1
                      exact EP.mk (prts_tail (X := _ :: Pe) (by exact pr)) (cds_tail cd') ee1 q5' han (by rw [← q3']; omega)
                    · rw [q4] at pr
                      rw [q3] at cd' ee2
                      have := EP.mk (N := Cd2.length) (prts_tail (X := [_]) pr) cd' ee2 q5 han (by rw [← q3]; exact Nat.le_refl _)
                      rw [hP1, Nat.add_comm] at this
                      exact this
                    · rw [k3]; exact han _ ya
                    · rw [k3, ← enum, show Pt.length + Ce'.length + Ce.length = Pt2.length by omega]; exact prts_at pr
                  · rw [kp 8 (by decide) (by decide) (by decide) (by decide), sI_row _ (by omega)]; exact s5.2.2.2
              · obtain ⟨h10, K1, K2, K3⟩ := c_passNo (G := G) (d := D + 10) (by omega) p3.1 k59
                obtain ⟨m8, O1, O2, O3⟩ := m_wantsNo (G := G) (d := d) (by omega) R t1.1.1 p2 (s := 59) (by decide) k59
                refine J.ci K1 (J.c3 rfl (J.ca' (fun _ => Or.inl rfl) ?_))
                exact J.mxv O1 (J.fail ⟨1, T.p a2, Or.inl rfl, K2, O2, p6.tr (K3.pf hq), p7.tr (t2.tr (O3.pf hp))⟩)
            · intro hc' hm' hf
              exact J.c1 rfl (J.ca' (fun _ => Or.inl rfl) (J.fail hf))
          · obtain ⟨h9, E1, E2, E3⟩ := c_passNo (G := G) (d := D + 10) (by omega) z8.1 k61
            obtain ⟨m7, I1, I2, I3⟩ := m_wantsNo (G := G) (d := d) (by omega) R y6.1.1 ha4 (s := 61) (by decide) k61
            refine J.ci E1 (J.c1 rfl (J.ca' (fun _ => Or.inl rfl) ?_))
            exact J.mxv I1 (J.fail ⟨1, T.p (a' + 1), Or.inl rfl, E2, I2, pf8.tr (E3.pf hq), pm6.tr (I3.pf hp)⟩)
        · obtain ⟨h6, A1, A2, A3⟩ := c_passNo (G := G) (d := D + 10) (by omega) o3.1 k93
          obtain ⟨m6, H1, H2, H3⟩ := m_closesNo (G := G) (d := d) (by omega) R v1.1.1 o2 (s := 93) (by decide) k93
          refine J.ci A1 (J.c3 rfl (J.ca' (fun _ => Or.inl rfl) ?_))
          exact J.mxv H1 (J.fail ⟨1, T.p a', Or.inl rfl, A2, H2, o6.tr (A3.pf hq), o7.tr (v2.tr (H3.pf hp))⟩)
      · intro hc' hm' hf
        exact J.c1 rfl (J.ca' (fun _ => Or.inl rfl) (J.fail hf))
    · obtain ⟨h3, j1, j2, j3⟩ := c_enterDeep (G := G) (d := D + 10) (by omega) z2.1 k91 (by omega)
      obtain ⟨m4, l1, l2, l3⟩ := m_opensDeep (G := G) (d := d) (by omega) R y4.1.1 ha1 (s := 91) (by decide) k91 (by omega)
      refine J.ci j1 (J.c1 rfl (J.ca' (fun _ => Or.inl rfl) ?_))
      exact J.mxv l1 (J.fail ⟨7, T.p (a + 1), Or.inr rfl, j2, l2, x5.tr ((r3.pf hq).tr ((g3.pf hq).tr (j3.pf hq))), x6.tr (pf4.tr (l3.pf hp))⟩)
  · have eb : bb = 0 := by rw [hbb, if_neg k91]
    subst eb
    have i1 := m_is0 (G := G) (d := d) (by omega) R y2.1.1 ha1 (s := 91) (by decide) k91
    refine J.mi i1 (J.m3 rfl ?_)
    refine J.c1 rfl ?_
    by_cases k61 : T.k (a + 1) = 61
    · have ha2 : a + 2 < T.n := tk_more' R ha1 k61 (by decide)
      have hpn2 : T.pn (a + 1) < T.pn (a + 2) := tk_pn R ha2
      have i2 := m_is1 (G := G) (d := d) (by omega) R y2.1.1 ha1 (s := 61) (by decide) k61
      obtain ⟨m2, n1, n2, n3⟩ := m_uses (G := G) (d := d) (by omega) R y2.1.1 y2.1.2.2.2.1 b1 hk (b := 0) (Or.inl rfl)
      have y3 := y2.r43 hp n2 n3
      obtain ⟨w1, w2⟩ := wK_eq (k := uF (lk T Nm (T.v a)) 0) hord
      obtain ⟨w3, w4⟩ := bK_sub (fp := fp) (p := T.p a) hfl
      rw [w1, w2, ← w3, ← w4] at y3
      obtain ⟨m3, s1, s2, s3, s4, s5⟩ := sm_new (G := G) (d := d) (by omega) hp he y3 (by omega) 0
      have y4 := s2.row hp (o := 3) (by decide) (by decide) st (uN (lk T Nm (T.v a)))
      have pf4 : PFm p e hm (m3.sI (p + 3) st (uN (lk T Nm (T.v a)))) := (r43.pf hp).tr ((n3.pf hp).tr (s3.tr (PFm.sI hp he _ _ _ _ (by omega))))
      obtain ⟨h3, j1, j2, j3⟩ := c_pass (G := G) (d := D + 10) (by omega) z2.1 k61 ha2 hn
      have z3 := z2.r22 hq j2 j3
      obtain ⟨m4, l1, l2, l3⟩ := m_wants (G := G) (d := d) (by omega) R y4.1.1 ha1 (s := 61) (by decide) k61
      have y5 := y4.r43 hp l2 l3
      refine J.mi i2 (J.m4 (by decide) (J.mi n1 (J.mi s1 (J.ma' (fun _ => hin) (J.m1 rfl ?_)))))
      refine J.m (fun hx Q hF => by rw [n_N hsb, mg_sI_m hp3]; exact hF) ?_
      refine J.ci j1 (J.c2 (by decide) (J.mv l1 ?_))
      have xf3 : CXF c hc h3 := (r3.xf hq).tr ((g3.xf hq).tr (j3.xf hq))
      refine j_E (D := D + 6) R hq hp he (by omega) z3 y5 ha2 (by omega) (by omega) (by omega) (FG1.next (show T.pn (a + 1) ≤ T.pn (a + 2) by omega)) (x5.tr xf3.pf) (x6.tr (pf4.tr (l3.pf hp))) (fun h0 => ?_) ?_ ?_
      · have sc := x7 (bK_zero h0).1
        exact ⟨sc.1, xf3.cn hq sc.2.1, sc.2.2.1, (sc.ex R b1).1⟩
      · rintro a2 fk2 fp2 wk2 u Pt2 Cd2 hc2 hm2 ⟨p1, p2, p3, p4, p5, p6, p7, p8, p9, p10, p11, p12, p13, p14, p15⟩
        refine J.c2 (by decide) (J.m1 rfl (J.ma' (fun _ => hin) ?_))
        have t1 := p5.row hp (o := 4) (by decide) (by decide) st (Int32.ofNat Cd.length)
        have t2 : PFm p e hm2 (hm2.sI (p + 4) st (Int32.ofNat Cd.length)) := PFm.sI hp he _ _ _ _ (by omega)
        refine J.m (fun hx Q hF => by rw [mg_sI_m hp4]; exact hF) ?_
        by_cases k59 : T.k a2 = 59
        · have ha6 := tk_more' R p2 k59 (by decide)
          have hpn6 := tk_pn R ha6
          obtain ⟨h10, K1, K2, K3⟩ := c_pass (G := G) (d := D + 10) (by omega) p3.1 k59 ha6 hn
          have z10 := p3.r22 hq K2 K3
          obtain ⟨h11, L1, L2, L3⟩ := c_result (G := G) (d := D + 10) (by omega) (K3.cf p4)
          have z11 := z10.r27 hq L2 L3
          obtain ⟨num, M1, M2⟩ := c_number (G := G) (d := D + 10) (T := T) (by omega) z11.2.2.2.1 r
          obtain ⟨h12, v', Pt12, N1, N2, N3, N4, N5⟩ := sl_lay (G := G) (d := D + 10) (by omega) hq z11 4 u (-1) num
          obtain ⟨m8, O1, O2, O3⟩ := m_wants (G := G) (d := d) (by omega) R t1.1.1 p2 (s := 59) (by decide) k59
          have y8 := t1.r43 hp O2 O3
          refine J.ci K1 (J.c4 (by decide) (J.ci L1 (J.c1 rfl ?_)))
          refine J.cE c (J.ca' (fun hx => by rw [cRr (by decide)]; exact z11.2.2.2.2.2.1) (J.ca' (fun _ => hq) ?_))
          refine J.ci M1 (J.c (Wc' := fun hx Q => Q (riv 1) (mg h12 hx)) (fun hx Q hF => N1 hx _ ⟨Or.inr rfl, hF⟩) ?_)
          refine J.mv O1 ?_
          have xf : CXF c hc h12 := xf3.tr (p12.tr ((K3.xf hq).tr ((L3.xf hq).tr N3.xf)))
          have hko : ¬ fk = 0 → fk2 = fk ∧ fp2 = fp := fun h0 => by
            have q1 := bK_keep (fp := fp) (k := f) (p := T.p a) h0
            have q2 := p11 (by rw [q1.1]; exact h0)
            rw [q1.1, q1.2] at q2
            exact q2
          refine J.ok ⟨rfl, a2 + 1, fk2, fp2, wk2, Pt12, Cd2, [], st + 1, nv, nl, jn, by omega, ⟨N2, y8, ⟨ha6, b2, by omega, by omega, by omega, by omega, by omega, by show Nm.length ≤ _; omega, by omega, b10⟩, p10.next (by omega), p6.tr ((K3.pf hq).tr ((L3.xf hq).pf.tr N3.xf.pf)), p7.tr (t2.tr (O3.pf hp)), fun h0 => ?_⟩, hko, fun h0 => ?_⟩
          · obtain ⟨q1, q2, Ce, Pe, q3, q4, q5, q6, q7⟩ := p15 h0
            have sc := x7 (bK_zero q1).1
            have hex := sc.ex R b1
            obtain ⟨e1', e2', e3', e4', e5', e6', e7', e8', e9', e10', e11'⟩ := sc
            refine ⟨q2, xf.cn hq e2', e3', e4', e5', e6', ?_, e8', e9', e10', e11'⟩
            clear e10' e11' e9'
            have hP : Pt2.length = Ce.length + Pt.length := by rw [q4, List.length_append, q5.len]
            have hmm : T.pn a ≤ T.pn (a2 + 1) := tk_mono R (by omega) ha6
            obtain ⟨u1, u2⟩ := N4 (by omega)
            rw [u2, List.length_cons]
            omega
          · obtain ⟨q1, q2, Ce, Pe, q3, q4, q5, q6, q7⟩ := p15 h0
            obtain ⟨hz1, hz2⟩ := bK_zero q1
            have hex := (x7 hz1).ex R b1
            have han := (x7 hz1).an
            have hcn := (x7 hz1).2.1
            have huq := (x7 hz1).2.2.1
            have hvn := (x7 hz1).2.2.2.2.2.2.2.2.1
            have hnv := (x7 hz1).2.2.2.1
            have hP : Pt2.length = Ce.length + Pt.length := by rw [q4, List.length_append, q5.len]
            obtain ⟨u1, u2⟩ := N4 (by omega)
            obtain ⟨y, yl, yv⟩ := uF_var ((hfl hz1).symm.trans hz2)
            have enum : num = y.2 := M2 Nm (T.v a) y ((L3.xf hq).cn hq ((K3.xf hq).cn hq (p12.cn hq (xf3.cn hq hcn)))) (F2 Nm hcn huq) yl
            obtain ⟨zz, zm, z2', z3'⟩ := yv
            obtain ⟨kk, kk1, kk2⟩ := (hvn zz zm).1 z2'
            have ey : y.2 = Int32.ofNat kk := z3'.symm.trans kk2
            have kp : ∀ o, 2 ≤ o → o ≤ 8 → o ≠ 4 → m8.I (p + o) st = (m3.sI (p + 3) st (uN (lk T Nm (T.v a)))).I (p + o) st := fun o c1 c2 c3 => by
              rw [O3.1 _ (by omega), sI_row _ (by omega), p13.1 _ (by omega) (by omega) (by omega) (by omega) (by omega), l3.1 _ (by omega)]
            have pr : prts h12 c ((4, u, -1, num) :: Pt2) := by rw [← u2]; exact N2.2.2.1.2.2
            have ee : m8.I e Cd.length = Int32.ofNat Cd2.length := by rw [O3.1 e (by omega), sI_row _ (by omega)]; exact p14
            have cd' := y8.1.2.1.2
            refine ⟨hz1, xf.sf hq, ?_, by omega, Nat.le_refl _, Nat.le_refl _, ⟨Ce, q3⟩, ⟨(4, u, -1, num) :: Pe, by rw [u2, q4]; rfl⟩, ?_, fun y q => Or.inl q, ?_, Nat.le_refl _, by rw [u2, List.length_cons]; have := tk_mono R (show a ≤ a2 + 1 by omega) ha6; omega⟩
            · refine ((r43.xf hp).sf hp he).tr (((n3.xf hp).sf hp he).tr ((s4 Cd.length).tr ((SFm.row hp he _ _ (by decide) (by decide) (Nat.le_refl _)).tr (((l3.xf hp).sf hp he).tr ((p13.sf hp he).tr ((SFm.row hp he _ _ (by decide) (by decide) (Nat.le_refl _)).tr ((O3.xf hp).sf hp he) (Nat.le_refl _) (Nat.le_refl _)) (Nat.le_refl _) (Nat.le_refl _)) (Nat.le_refl _) (Nat.le_refl _)) (Nat.le_refl _) (Nat.le_refl _)) (Nat.le_refl _) (Nat.le_refl _)) (Nat.le_refl _) (Nat.le_refl _)) (Nat.le_refl _) (Nat.le_refl _)
            · rw [show 17 - dp = (16 - dp) + 1 by omega, u2, List.length_cons]
              have k3 : m8.I (p + 3) st = Int32.ofNat kk := by rw [kp 3 (by decide) (by decide) (by decide), sI_I, if_pos ⟨rfl, rfl⟩, yl]; exact ey
              refine Or.inl ⟨?_, Cd.length, Ce.length, u, kk, ?_, ?_, k3, by omega, ?_, by omega⟩
              · rw [kp 2 (by decide) (by decide) (by decide), sI_row _ (by omega)]; exact s5.1
              · rw [O3.1 _ (by omega), sI_I]; exact if_pos ⟨rfl, rfl⟩
              · rw [q4] at pr
                rw [q3] at cd' ee ⊢
                exact EP.mk (prts_tail (X := [_]) pr) cd' ee q5 han (Nat.le_refl _)
              · rw [← ey, ← enum, show Pt.length + Ce.length = Pt2.length by omega]; exact prts_at pr
            · rw [kp 8 (by decide) (by decide) (by decide), sI_row _ (by omega)]; exact s5.2.2.2
        · obtain ⟨h10, K1, K2, K3⟩ := c_passNo (G := G) (d := D + 10) (by omega) p3.1 k59
          obtain ⟨m8, O1, O2, O3⟩ := m_wantsNo (G := G) (d := d) (by omega) R t1.1.1 p2 (s := 59) (by decide) k59
          refine J.ci K1 (J.c3 rfl (J.ca' (fun _ => Or.inl rfl) ?_))
          exact J.mxv O1 (J.fail ⟨1, T.p a2, Or.inl rfl, K2, O2, p6.tr (K3.pf hq), p7.tr (t2.tr (O3.pf hp))⟩)
      · intro hc' hm' hf
        exact J.c1 rfl (J.ca' (fun _ => Or.inl rfl) (J.fail hf))
    · have i2 := m_is0 (G := G) (d := d) (by omega) R y2.1.1 ha1 (s := 61) (by decide) k61
      obtain ⟨h3, j1, j2, j3⟩ := c_passNo (G := G) (d := D + 10) (by omega) z2.1 k61
      obtain ⟨m4, l1, l2, l3⟩ := m_refuse (G := G) (d := d) (by omega) R y2.1.1 ha1 1
      refine J.mi i2 (J.m3 rfl ?_)
      refine J.ci j1 (J.c1 rfl (J.ca' (fun _ => Or.inl rfl) ?_))
      exact J.mxv l1 (J.fail ⟨1, T.p (a + 1), Or.inl rfl, j2, l2, x5.tr ((r3.pf hq).tr ((g3.pf hq).tr (j3.pf hq))), x6.tr ((r43.pf hp).tr (l3.pf hp))⟩)
end ST4
