/-! ===== STATEMENTS: int NAME = E ===== -/
def kTell (G : qG) (d p : Nat) (r34 : Int32) (h35 : qh) (Q : qr → qh → Prop) : Prop := q_M0 G d yX12_wants [.ref 43, .int 61] h35 (q_rv (fun h36 => q_M0 G d yX12_newStatement [.ref 43, .int 0] h36 (q_ri (fun r38 h37 => q_M0 G d yX12_expression [.ref 43] h37 (q_ri (fun r40 h39 => vp_in r38 2000 ∧ (q_M0 G d yX12_wants [.ref 43, .int 59] (h39.sI (p + 4) r38.toNatClampNeg r40) (q_rv (fun h42 => vp_in r38 2000 ∧ (q_M0 G d yX12_variableTold [.ref 43, .int r34] (h42.sI (p + 3) r38.toNatClampNeg (h42.I p 2)) (q_rv (fun h44 => Q (.inl (some (.int r38))) h44) (fun E h => Q (.inr E) h)))) (fun E h => Q (.inr E) h)))) (fun E h => Q (.inr E) h))) (fun E h => Q (.inr E) h))) (fun E h => Q (.inr E) h))
theorem VN_cons {Nm : List nmE} {x : nmE} {y : Int32} (h : VN (x :: Nm) y) : VN Nm y ∨ (x.2.1 = 2 ∧ x.2.2 = y) := by
  obtain ⟨z, z1, z2, z3⟩ := h
  rcases List.mem_cons.mp z1 with rfl | q
  · exact Or.inr ⟨z2, z3⟩
  · exact Or.inl ⟨z, q, z2, z3⟩
theorem lk_none {T : tkD} {v : Int64} : ∀ {Nm : List nmE}, lk T Nm v = none → ∀ z ∈ Nm, ¬ T.v z.1 = v
  | [], _, z, hz => by cases hz
  | x :: r, h, z, hz => by
    simp only [lk] at h
    split at h
    · cases h
    · rename_i q
      rcases List.mem_cons.mp hz with rfl | hz
      · exact q
      · exact lk_none h z hz
section ST3
variable {G : qG} {T : tkD} {c p e na : Nat} {hc0 hm0 : qh} {a dp : Nat} {fk fp : Int32} {wk : Nat} {Pt : List prt} {Cd : List cod} {Nm : List nmE} {st nv nl jn wh : Nat} {ag bh : Int32} {hc hm : qh}
theorem st_tell (R : TR T) (hq : q_cir c) (hp : q_prg p) (he : q_end e) {d D : Nat} (hd : 13 * (17 - dp) + 20 ≤ d) (hD : 12 ≤ D) (S : SI T c p e na hc0 hm0 a dp fk fp wk Pt Cd Nm st nv nl jn wh ag bh hc hm) (hk : T.k a = 4) :
    J (fun hx Q => q_M0 G D yX2_readStatement [.ref 21] (mg hc hx) Q) (fun hx Q => q_M0 G d yX12_statement [.ref 43] (mg hx hm) Q) (PP (sOk T c p e na hc0 hm0 a dp fk fp wk Pt Cd Nm st nv nl jn wh ag bh hc hm) (pFail c p e hc0 hm0)) := by
  obtain ⟨D, rfl⟩ : ∃ D', D = D' + 12 := ⟨D - 12, by omega⟩
  obtain ⟨d, rfl⟩ : ∃ d', d = d' + 1 := ⟨d - 1, by omega⟩
  obtain ⟨x1, x2, ⟨b1, b2, b3, b4, b5, b6, b7, b8, b9, b10⟩, x4, x5, x6, x7⟩ := S
  have hn := R.2.1
  have hpl := prg_lt hp
  have hel := end_lt he
  have hc8 := cir_lt hq
  have hcl : c < 43 := by omega
  have hp0 : 43 ≤ p := by omega
  have hp3 : 43 ≤ p + 3 := by omega
  have hp4 : 43 ≤ p + 4 := by omega
  have ha1 := tk_more' R b1 hk (by decide)
  have hsb : st < 2147483648 := by omega
  have hpn := tk_pn R ha1
  obtain ⟨h1, r1, r2, r3⟩ := c_adv (G := G) (d := D + 10) (by omega) x1.1 ha1 hn
  have y1 := x1.r22 hq r2 r3
  have r43 := R43.sI hm 14 (Int32.ofNat (a + 1)) (by decide)
  have y2 := x2.r43 hp (x2.1.1.seta (a + 1)) r43
  refine J.c (fun hx Q hF => cd_4 ((c_at x1 hx).trans hk) hF) ?_
  refine J.c (fun hx Q hF => x_X2_readTelling G (D + 10) _ _ hF) ?_
  refine J.cv r1 ?_
  refine J.m (fun hx Q hF => md_5 (m_at R x2 b1 hx).1 hp (m_at R x2 b1 hx).2.1 ((m_at R x2 b1 hx).2.2.1.trans ((tk_word R b1 (by decide) (by decide)).mp hk)) hF) ?_
  refine J.m (Wm' := fun hx Q => q_M0 G d yX12_wantsKind [.ref 43, .int 2] (mg hx (hm.sI 43 14 (Int32.ofNat (a + 1)))) (q_ri (fun r34 h33 => q_M0 G d yX12_asksNew [.ref 43, .int r34] h33 (q_rv (fun h35 => (h35.I p 2 < 16 → kTell G d p r34 h35 Q) ∧ (¬ h35.I p 2 < 16 → q_M0 G d yX12_wrong [.ref 43, .int 6, .int r34] h35 (q_rv (fun h45 => kTell G d p r34 h45 Q) (fun E h => Q (.inr E) h)))) (fun E h => Q (.inr E) h))) (fun E h => Q (.inr E) h))) (fun hx Q hF => by rw [(m_at R x2 b1 hx).2.2.2, n_add1, mg_sI_m (by decide)]; exact hF) ?_
  by_cases k2 : T.k (a + 1) = 2
  · have ha2 : a + 2 < T.n := tk_more' R ha1 k2 (by decide)
    have hpn2 : T.pn (a + 1) < T.pn (a + 2) := tk_pn R ha2
    obtain ⟨h2, f, g1, g2, g3, g4, g5, g6, g7, g8, g9⟩ := sc_name (G := G) (d := D + 10) (by omega) hq y1 hn ha2 k2
    obtain ⟨m1, l1, l2, l3⟩ := m_kind (G := G) (d := d) (by omega) R y2.1.1 ha1 ((tk_name R ha1).mp k2)
    have y3 := y2.r43 hp l2 l3
    obtain ⟨m2, n1, n2, n3⟩ := m_asks (G := G) (d := d) (by omega) R y3.1.1 y3.1.2.2.2.1 ha1 k2
    have y4 := y3.r43 hp n2 n3
    -- TWICE
    have hord : ¬ fk = 0 → ¬ fk ≤ 0 ∧ fp < T.p (a + 1) := fun h0 => by
      have := (x4.next (b := a + 1) (by omega)).lt R ha1 h0; exact ⟨this.1, this.2.2⟩
    obtain ⟨w1, w2⟩ := wK_eq (k := if lk T Nm (T.v (a + 1)) = none then 0 else 2) hord
    have hfl : fk = 0 → f = if lk T Nm (T.v (a + 1)) = none then 0 else 2 := fun h0 => g9 Nm ((r3.xf hq).cn hq (x7 h0).2.1) (x7 h0).2.2.1
    obtain ⟨w3, w4⟩ := bK_sub (fp := fp) (p := T.p (a + 1)) hfl
    rw [w1, w2, ← w3, ← w4] at y4
    -- ROOM
    obtain ⟨f1, e1⟩ : ∃ f1, f1 = bK fk f := ⟨_, rfl⟩
    obtain ⟨p1, e2⟩ : ∃ p1, p1 = bP fk fp f (T.p (a + 1)) := ⟨_, rfl⟩
    rw [← e1, ← e2] at y4 g2
    obtain ⟨u, eu⟩ : ∃ u : Int32, u = if nv < 16 then 0 else 6 := ⟨_, rfl⟩
    have hord2 : ¬ f1 = 0 → ¬ f1 ≤ 0 ∧ (p1 < T.p (a + 1) ∨ (p1 = T.p (a + 1) ∧ ¬ (6 : Int32) < f1)) := fun h0 => by
      by_cases h : fk = 0
      · have ef : f1 = f := by rw [e1]; exact if_pos h
        rcases g8 with q | q
        · exact absurd (ef.trans q) h0
        · refine ⟨by rw [ef, q]; decide, Or.inr ⟨?_, by rw [ef, q]; decide⟩⟩
          rw [e2]; exact if_pos ⟨h, by rw [q]; decide⟩
      · have := bK_keep (fp := fp) (k := f) (p := T.p (a + 1)) h
        rw [e1, e2, this.1, this.2]
        exact ⟨(hord h).1, Or.inl (hord h).2⟩
    obtain ⟨h3, i1, i2, i3⟩ := c_blame (G := G) (d := D + 10) (by omega) g2.1 u (T.p (a + 1))
    have z3 := g2.r22 hq i2 i3
    have ex3 : ∃ m3, MSt T p e (a + 2) dp (bK f1 u) (bP f1 p1 u (T.p (a + 1))) wk Cd Nm st nv nl wh m3 ∧ R43 m2 m3 ∧ ∀ hx Q, kTell G d p (Int32.ofNat (a + 1)) (mg hx m3) Q → ((mg hx m2).I p 2 < 16 → kTell G d p (Int32.ofNat (a + 1)) (mg hx m2) Q) ∧ (¬ (mg hx m2).I p 2 < 16 → q_M0 G d yX12_wrong [.ref 43, .int 6, .int (Int32.ofNat (a + 1))] (mg hx m2) (q_rv (fun h45 => kTell G d p (Int32.ofNat (a + 1)) h45 Q) (fun E h => Q (.inr E) h))) := by
      have ep : ∀ hx, (mg hx m2).I p 2 = Int32.ofNat nv := fun hx => by rw [mI (by omega)]; exact y4.2.2.1
      by_cases h : nv < 16
      · refine ⟨m2, ?_, R43.rf _, fun hx Q hF => ⟨fun _ => hF, fun q => absurd ?_ q⟩⟩
        · rw [eu, if_pos h]; unfold bK bP
          by_cases h0 : f1 = 0
          · rw [if_pos h0, if_neg (fun q => q.2 rfl), ← h0]; exact y4
          · rw [if_neg h0, if_neg (fun q => h0 q.1)]; exact y4
        · rw [ep]; exact (n_lt (b := 16) (by omega) (by omega)).mpr h
      · obtain ⟨m3, q1, q2, q3⟩ := m_wrong (G := G) (d := d) (by omega) R y4.1.1 ha1 (k := 6) (by decide)
        obtain ⟨q4, q5⟩ := wK_eq' (k := 6) hord2
        rw [q4, q5] at q2
        refine ⟨m3, ?_, q3, fun hx Q hF => ⟨fun q => absurd q ?_, fun _ => q1 hx _ hF⟩⟩
        · rw [eu, if_neg h]; exact y4.r43 hp q2 q3
        · rw [ep]; exact fun q => h ((n_lt (b := 16) (by omega) (by omega)).mp q)
    obtain ⟨m3, y5, rr, hK⟩ := ex3
    have eif : ∀ hx, (if (mg h2 hx).I c 10 < 16 then (0 : Int32) else 6) = u := fun hx => by
      rw [cI (by omega), g2.2.2.2.2.2.2.2.1, eu]
      have := n_lt (a := nv) (b := 16) (by omega) (by omega)
      by_cases h : nv < 16
      · rw [if_pos h]; exact if_pos (this.mpr h)
      · rw [if_neg h]; exact if_neg (fun q => h (this.mp q))
    refine J.ci g1 (J.c4 (by decide) (J.cE c (J.ca' (fun hx => by rw [cRr (by decide)]; exact g2.2.2.2.2.2.1) (J.ca' (fun _ => hq) ?_))))
    refine J.c (fun hx Q hF => by rw [eif, cI (by decide), g4]; exact i1 hx _ hF) ?_
    refine J.cE c (J.ca' (fun hx => by rw [cRr (by decide)]; exact z3.2.2.2.2.2.1) (J.ca' (fun _ => hq) ?_))
    refine J.mi l1 (J.mv n1 (J.m hK ?_))
    have z4 := z3.s10 hq (nv + 1)
    have pf4 : PFc c hc (h3.sI c 10 (Int32.ofNat (nv + 1))) := (r3.pf hq).tr (g5.tr ((i3.pf hq).tr (PFc.sI _ _ _ _ (by omega))))
    have sf4 : SFc c jn hc (h3.sI c 10 (Int32.ofNat (nv + 1))) := ((r3.xf hq).sf hq).tr (g7.tr (((i3.xf hq).sf hq).tr (SFc.s10 hq _ _) (Nat.le_refl _)) (Nat.le_refl _)) (Nat.le_refl _)
    have cn4 : ∀ Nm', CN T Nm' hc → CN T Nm' (h3.sI c 10 (Int32.ofNat (nv + 1))) := fun Nm' n => ((i3.xf hq).cn hq (g6 Nm' ((r3.xf hq).cn hq n))).to (sI_row _ (by omega)) rfl (sI_row _ (by omega)) (sI_row _ (by omega))
    have pfm4 : PFm p e hm m3 := (r43.pf hp).tr ((l3.pf hp).tr ((n3.pf hp).tr (rr.pf hp)))
    have sfm4 : ∀ n, SFm p e st n hm m3 := fun n => ((r43.xf hp).sf hp he).tr (((l3.xf hp).sf hp he).tr (((n3.xf hp).sf hp he).tr ((rr.xf hp).sf hp he) (Nat.le_refl _) (Nat.le_refl _)) (Nat.le_refl _) (Nat.le_refl _)) (Nat.le_refl _) (Nat.le_refl _)
    have FG1 : FG T (a + 2) f1 p1 := by rw [e1, e2]; exact (x4.next (by omega)).at R ha1 (by rcases g8 with q | q <;> rw [q]; exact Or.inl rfl; exact Or.inr (by decide)) hpn2
    have FG2 : FG T (a + 2) (bK f1 u) (bP f1 p1 u (T.p (a + 1))) := FG1.at R ha1 (by rw [eu]; split; exact Or.inl rfl; exact Or.inr (by decide)) hpn2
    have hz : bK f1 u = 0 → fk = 0 ∧ f = 0 ∧ nv < 16 := fun h0 => by
      obtain ⟨q1, q2⟩ := bK_zero h0
      rw [e1] at q1
      obtain ⟨q3, q4⟩ := bK_zero q1
      refine ⟨q3, q4, Classical.byContradiction fun q => ?_⟩
      rw [eu, if_neg q] at q2; exact absurd q2 (by decide)
    refine J.c (fun hx Q hF => by rw [cI hcl, z3.2.2.2.2.2.2.2.1, n_add1, mg_sI_c hcl]; exact hF) ?_
    unfold kTell
    by_cases k61 : T.k (a + 2) = 61
    · have ha3 : a + 3 < T.n := tk_more' R ha2 k61 (by decide)
      have hpn3 : T.pn (a + 2) < T.pn (a + 3) := tk_pn R ha3
      obtain ⟨h5, j1, j2, j3⟩ := c_pass (G := G) (d := D + 10) (by omega) z4.1 k61 ha3 hn
      have z5 := z4.r22 hq j2 j3
      obtain ⟨m4, s1, s2, s3⟩ := m_wants (G := G) (d := d) (by omega) R y5.1.1 ha2 (s := 61) (by decide) k61
      have y6 := y5.r43 hp s2 s3
      obtain ⟨m5, t1, t2, t3, t4, t5⟩ := sm_new (G := G) (d := d) (by omega) hp he y6 (by omega) 0
      refine J.ci j1 (J.c2 (by decide) ?_)
      refine J.mv s1 (J.mi t1 ?_)
      refine j_E (D := D + 6) R hq hp he (by omega) z5 t2 ha3 b2 (by omega) (by omega) (FG2.next (show T.pn (a + 2) ≤ T.pn (a + 3) by omega)) (x5.tr (pf4.tr (j3.pf hq))) ((x6.tr pfm4).tr ((s3.pf hp).tr t3)) (fun h0 => ?_) ?_ ?_
      · have sc := x7 (hz h0).1
        exact ⟨sc.1, (j3.xf hq).cn hq (cn4 Nm sc.2.1), sc.2.2.1, (sc.ex R b1).1⟩
      · rintro a' fk' fp' wk' v Pt' Cd' hc' hm' ⟨o1, o2, o3, o4, o5, o6, o7, o8, o9, o10, o11, o12, o13, o14, o15⟩
        refine J.c2 (by decide) ?_
        refine J.ma' (fun hx => n_in (by omega) (by omega)) ?_
        have v1 := o5.row hp (o := 4) (by decide) (by decide) st (Int32.ofNat Cd.length)
        have v2 : PFm p e hm' (hm'.sI (p + 4) st (Int32.ofNat Cd.length)) := PFm.sI hp he _ _ _ _ (by omega)
        refine J.m (fun hx Q hF => by rw [n_N hsb, mg_sI_m hp4]; exact hF) ?_
        by_cases k59 : T.k a' = 59
        · have ha4 := tk_more' R o2 k59 (by decide)
          have hpn4 := tk_pn R ha4
          obtain ⟨h6, A1, A2, A3⟩ := c_pass (G := G) (d := D + 10) (by omega) o3.1 k59 ha4 hn
          have z6 := o3.r22 hq A2 A3
          obtain ⟨h7, B1, B2, B3⟩ := c_result (G := G) (d := D + 10) (by omega) (A3.cf o4)
          have z7 := z6.r27 hq B2 B3
          obtain ⟨h8, v', Pt8, C1, C2, C3, C4, C5⟩ := sl_lay (G := G) (d := D + 10) (by omega) hq z7 4 v (-1) (Int32.ofNat nv)
          have l8 : h8.L 21 6 = T.v (a + 1) := by
            rw [C3.2.1, B3.2.1, A3.2.1 21 (by decide), o12.2.1 21 (by decide), j3.2.1 21 (by decide)]
            show h3.L 21 6 = _
            rw [i3.2.1 21 (by decide)]; exact g3
          obtain ⟨h9, E1, E2, E3, E4, E5⟩ := sc_tell (G := G) (T := T) (d := D + 10) (by omega) hq C2 (T.v (a + 1)) 2 (Int32.ofNat nv)
          obtain ⟨m6, H1, H2, H3⟩ := m_wants (G := G) (d := d) (by omega) R v1.1.1 o2 (s := 59) (by decide) k59
          have y7 := v1.r43 hp H2 H3
          have y8 := y7.row hp (o := 3) (by decide) (by decide) st (Int32.ofNat nv)
          obtain ⟨m7, I1, I2, I3, I4⟩ := sm_varTold (G := G) (d := d) (by omega) hp he R y8 (by omega) (by omega) ha1 k2
          -- the second ROOM says nothing new
          have hkeep : wK fk' fp' (if nv < 16 then 0 else 6) (T.p (a + 1)) = fk' ∧ wP fk' fp' (if nv < 16 then 0 else 6) (T.p (a + 1)) = fp' := by
            by_cases h : nv < 16
            · rw [if_pos h]; unfold wK wP; rw [if_pos rfl, if_pos rfl]; exact ⟨rfl, rfl⟩
            · have hu : u = 6 := by rw [eu, if_neg h]
              have h2 : ¬ bK f1 u = 0 := fun q => h (hz q).2.2
              obtain ⟨q1, q2⟩ := o11 h2
              have h3' : ¬ fk' = 0 := by rw [q1]; exact h2
              have q3 : ¬ fk' = 0 → ¬ fk' ≤ 0 ∧ (fp' < T.p (a + 1) ∨ (fp' = T.p (a + 1) ∧ ¬ (6 : Int32) < fk')) := fun _ => by
                rw [q1, q2]
                by_cases h0 : f1 = 0
                · unfold bK bP; rw [if_pos h0, if_pos ⟨h0, by rw [hu]; decide⟩, hu]
                  exact ⟨by decide, Or.inr ⟨rfl, by decide⟩⟩
                · have q5 := bK_keep (fp := p1) (k := u) (p := T.p (a + 1)) h0
                  rw [q5.1, q5.2]; exact hord2 h0
              rw [if_neg h]
              obtain ⟨q6, q7⟩ := wK_eq' (k := 6) q3
              have q8 := bK_keep (fp := fp') (k := 6) (p := T.p (a + 1)) h3'
              exact ⟨q6.trans q8.1, q7.trans q8.2⟩
          rw [hkeep.1, hkeep.2] at I2
          refine J.ci A1 (J.c4 (by decide) ?_)
          refine J.cE c (J.ca' (fun hx => by rw [cRr (by decide)]; exact z6.2.2.2.2.2.1) (J.ca' (fun _ => hq) ?_))
          refine J.ci B1 ?_
          refine J.ci C1 ?_
          refine J.c (fun hx Q hF => by rw [cL (by decide), l8]; exact hF) ?_
          refine J.c (Wc' := fun hx Q => Q (riv 1) (mg h9 hx)) (fun hx Q hF => E1 hx _ ⟨Or.inr rfl, hF⟩) ?_
          refine J.mv H1 (J.ma' (fun hx => n_in (by omega) (by omega)) ?_)
          refine J.m (fun hx Q hF => by rw [mI hp0, y7.2.2.1, mg_sI_m hp3]; exact hF) ?_
          refine J.mv I1 ?_
          have FG9 : FG T (a' + 1) fk' fp' := o10.next (by omega)
          have hko : ¬ fk = 0 → fk' = fk ∧ fp' = fp := fun h0 => by
            have q1 := bK_keep (fp := fp) (k := f) (p := T.p (a + 1)) h0
            have q2 : ¬ f1 = 0 := by rw [e1, q1.1]; exact h0
            have q3 := bK_keep (fp := p1) (k := u) (p := T.p (a + 1)) q2
            have q4 := o11 (by rw [q3.1]; exact q2)
            rw [q3.1, q3.2, e1, e2, q1.1, q1.2] at q4
            exact q4
          refine J.ok ⟨rfl, a' + 1, fk', fp', wk', Pt8, Cd', [(a + 1, 2, Int32.ofNat nv)], st + 1, nv + 1, nl, jn, by omega, ⟨E2, I2, ⟨ha4, b2, by omega, by omega, by omega, by omega, by omega, by show Nm.length + 1 ≤ _; omega, by omega, b10⟩, FG9, o6.tr ((A3.pf hq).tr ((B3.xf hq).pf.tr (C3.xf.pf.tr E3))), o7.tr (v2.tr ((H3.pf hp).tr ((PFm.sI hp he _ _ _ _ (by omega)).tr I3))), fun h0 => ?_⟩, hko, fun h0 => ?_⟩
          · obtain ⟨q1, q2, Ce, Pe, q3, q4, q5, q6, q7⟩ := o15 h0
            obtain ⟨z10, z11, z12⟩ := hz q1
            have sc := x7 z10
            have hex := sc.ex R b1
            obtain ⟨e1', e2', e3', e4', e5', e6', e7', e8', e9', e10', e11'⟩ := sc
            have hP : Pt'.length = Ce.length + Pt.length := by rw [q4, List.length_append, q5.len]
            have hmm : T.pn (a + 1) ≤ T.pn (a' + 1) := tk_mono R (by omega) ha4
            have lkn : lk T Nm (T.v (a + 1)) = none := Classical.byContradiction fun q => by
              have := hfl z10; rw [if_neg q, z11] at this; exact absurd this (by decide)
            refine ⟨q2, E5 Nm (a + 1) (C3.xf.cn hq ((B3.xf hq).cn hq ((A3.xf hq).cn hq (o12.cn hq ((j3.xf hq).cn hq (cn4 Nm e2')))))) (by omega) rfl, ⟨fun z hz hv => ?_, e3'⟩, by omega, e5', e6', ?_, by show Nm.length + 1 ≤ _; omega, fun z hz => ?_, e10', e11'⟩
            · exact lk_none lkn z hz hv
            · clear e10' e11' e9'
              obtain ⟨u1, u2⟩ := C4 (by omega)
              rw [u2, List.length_cons]
              omega
            · rcases List.mem_cons.mp hz with rfl | hz
              · exact ⟨fun _ => ⟨nv, by omega, rfl⟩, fun q => absurd q (show ¬ (2 : Int32) = 0 by decide)⟩
              · obtain ⟨q8, q9⟩ := e9' z hz
                exact ⟨fun q => by obtain ⟨k, k1, k2⟩ := q8 q; exact ⟨k, by omega, k2⟩, q9⟩
          · obtain ⟨q1, q2, Ce, Pe, q3, q4, q5, q6, q7⟩ := o15 h0
            obtain ⟨z10, z11, z12⟩ := hz q1
            have hex := (x7 z10).ex R b1
            have hP : Pt'.length = Ce.length + Pt.length := by rw [q4, List.length_append, q5.len]
            have han := (x7 z10).an
            have hl := (x7 z10).1
            obtain ⟨u1, u2⟩ := C4 (by omega)
            have kp : ∀ o, 2 ≤ o → o ≤ 8 → o ≠ 4 → o ≠ 3 → m7.I (p + o) st = m5.I (p + o) st := fun o p1 p2 p3 p4 => by
              rw [(I4 0).1 o p1 p2 st (by omega), sI_row _ (by omega), H3.1 _ (by omega), sI_row _ (by omega), o13.1 _ (by omega) (by omega) (by omega) (by omega) (by omega)]
            have pr : prts h9 c ((4, v, -1, Int32.ofNat nv) :: Pt') := by rw [← u2]; exact E2.2.2.1.2.2
            have ee : m7.I e Cd.length = Int32.ofNat Cd'.length := by
              rw [(I4 Cd'.length).2.1 _ (by rw [q3, List.length_append]; omega), sI_row _ (by omega), H3.1 e (by omega), sI_row _ (by omega)]; exact o14
            have cd' := I2.1.2.1.2
            refine ⟨z10, sf4.tr (((j3.xf hq).sf hq).tr ((o12.sf hq).tr (((A3.xf hq).sf hq).tr (((B3.xf hq).sf hq).tr ((C3.xf.sf hq).tr E4 (Nat.le_refl _)) (Nat.le_refl _)) (Nat.le_refl _)) (Nat.le_refl _)) (Nat.le_refl _)) (Nat.le_refl _), ?_, by omega, Nat.le_refl _, by omega, ⟨Ce, q3⟩, ⟨(4, v, -1, Int32.ofNat nv) :: Pe, by rw [u2, q4]; rfl⟩, ?_, fun y q => ?_, (kp 8 (by decide) (by decide) (by decide) (by decide)).trans t5.2.2.2, Nat.le_refl _, by rw [u2, List.length_cons]; have := tk_mono R (show a ≤ a' + 1 by omega) ha4; omega⟩
            · refine (sfm4 _).tr (((s3.xf hp).sf hp he).tr ((t4 Cd.length).tr ((o13.sf hp he).tr ((SFm.row hp he _ _ (by decide) (by decide) (Nat.le_refl _)).tr (((H3.xf hp).sf hp he).tr ((SFm.row hp he _ _ (by decide) (by decide) (Nat.le_refl _)).tr ((I4 _)) (by omega) (Nat.le_refl _)) (Nat.le_refl _) (Nat.le_refl _)) (Nat.le_refl _) (Nat.le_refl _)) (Nat.le_refl _) (Nat.le_refl _)) (Nat.le_refl _) (Nat.le_refl _)) (Nat.le_refl _) (Nat.le_refl _)) (Nat.le_refl _) (Nat.le_refl _)
            · rw [show 17 - dp = (16 - dp) + 1 by omega, u2, List.length_cons]
              refine Or.inl ⟨(kp 2 (by decide) (by decide) (by decide) (by decide)).trans t5.1, Cd.length, Ce.length, v, nv, ?_, ?_, ?_, z12, ?_, by omega⟩
              · rw [(I4 0).1 4 (by decide) (by decide) st (by omega), sI_row _ (by omega), H3.1 _ (by omega), sI_I]; exact if_pos ⟨rfl, rfl⟩
              · rw [q4] at pr
                rw [q3] at cd' ee ⊢
                exact EP.mk (prts_tail (X := [_]) pr) cd' ee q5 han (Nat.le_refl _)
              · rw [(I4 0).1 3 (by decide) (by decide) st (by omega), sI_I]; exact if_pos ⟨rfl, rfl⟩
              · rw [Nat.add_comm, ← hP]; exact prts_at pr
            · rcases VN_cons q with q | q
              · exact Or.inl q
              · refine Or.inr ⟨(kp 2 (by decide) (by decide) (by decide) (by decide)).trans t5.1, ?_⟩
                rw [(I4 0).1 3 (by decide) (by decide) st (by omega), sI_I, if_pos ⟨rfl, rfl⟩]
                exact q.2.symm
        · obtain ⟨h6, A1, A2, A3⟩ := c_passNo (G := G) (d := D + 10) (by omega) o3.1 k59
          obtain ⟨m6, H1, H2, H3⟩ := m_wantsNo (G := G) (d := d) (by omega) R v1.1.1 o2 (s := 59) (by decide) k59
          refine J.ci A1 (J.c3 rfl (J.ca' (fun _ => Or.inl rfl) ?_))
          exact J.mxv H1 (J.fail ⟨1, T.p a', Or.inl rfl, A2, H2, o6.tr (A3.pf hq), o7.tr (v2.tr (H3.pf hp))⟩)
      · intro hc' hm' hf
        exact J.c1 rfl (J.ca' (fun _ => Or.inl rfl) (J.fail hf))
    · obtain ⟨h5, j1, j2, j3⟩ := c_passNo (G := G) (d := D + 10) (by omega) z4.1 k61
      obtain ⟨m4, s1, s2, s3⟩ := m_wantsNo (G := G) (d := d) (by omega) R y5.1.1 ha2 (s := 61) (by decide) k61
      refine J.ci j1 (J.c1 rfl (J.ca' (fun _ => Or.inl rfl) ?_))
      exact J.mxv s1 (J.fail ⟨1, T.p (a + 2), Or.inl rfl, j2, s2, x5.tr (pf4.tr (j3.pf hq)), x6.tr (pfm4.tr (s3.pf hp))⟩)
  · obtain ⟨h2, g1, g2, g3⟩ := sc_nameNo (G := G) (d := D + 10) (by omega) hq y1 k2
    obtain ⟨m1, l1, l2, l3⟩ := m_kindNo (G := G) (d := d) (by omega) R y2.1.1 ha1 (fun q => k2 ((tk_name R ha1).mpr q))
    refine J.ci g1 (J.c3 rfl (J.ca' (fun _ => Or.inl rfl) ?_))
    exact J.mxi l1 (J.fail ⟨1, T.p (a + 1), Or.inl rfl, g2, l2, x5.tr ((r3.pf hq).tr g3), x6.tr ((r43.pf hp).tr (l3.pf hp))⟩)
end ST3
