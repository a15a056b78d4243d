/-! ===== the head of a PROGRAM: PARAMETERS ===== -/
def kEnd (G : qG) (d p : Nat) (h4 : qh) (Q : qr → qh → Prop) : Prop := q_M0 G d yX12_block [.ref 43] h4 (q_ri (fun r6 h5 => vp_in (h5.I 43 14) 2001 ∧ (((h5.I 47 ((h5.I 43 14).toNatClampNeg)) = 0 → (Q (.inl none) (h5.sI p 7 r6))) ∧ (¬ (h5.I 47 ((h5.I 43 14).toNatClampNeg)) = 0 → (q_M0 G d yX12_refuse [.ref 43, .int 1] (h5.sI p 7 r6) (q_rv (fun h8 => Q (.inl none) h8) (fun E h => Q (.inr E) h)))))) (fun E h => Q (.inr E) h))
section PARA
variable {G : qG} {T : tkD} {c p e a dp : Nat} {fk fp : Int32} {wk : Nat} {Pt : List prt} {Cd : List cod} {Nm : List nmE} {st nv nl jn wh : Nat} {ag bh : Int32} {hc hm hc0 hm0 : qh}
theorem CSt.s9 (x : CSt T c a dp fk fp wk Pt jn nv nl ag bh hc) (hq : q_cir c) {k : Nat} (hk : k = 8 ∨ k = 9) (v : Int32) : CSt T c a dp fk fp wk Pt jn nv nl ag bh (hc.sI c k v) := by
  have hc8 := cir_lt hq
  obtain ⟨y1, y2, y3, y4, y5, y6, y7, y8, y9, y10, y11⟩ := x
  have s1 : ∀ o, o ≠ c → (hc.sI c k v).I o = hc.I o := fun o ho => sI_row _ ho
  exact ⟨y1.to (s1 _ (by omega)) rfl (s1 _ (by omega)) (s1 _ (by omega)) (s1 _ (by omega)) rfl, by rw [s1 _ (by omega)]; exact y2, ⟨by rw [sI_I, if_neg (by omega)]; exact y3.1, y3.2.1, prts_to (fun j _ => by rw [s1 _ (by omega), s1 _ (by omega), s1 _ (by omega), s1 _ (by omega)]; exact ⟨rfl, rfl, rfl, rfl⟩) y3.2.2⟩, y4.to (s1 _ (by omega)), y5, y6, by rw [sI_I, if_neg (by omega)]; exact y7, by rw [sI_I, if_neg (by omega)]; exact y8, by rw [sI_I, if_neg (by omega)]; exact y9, by rw [s1 _ (by omega)]; exact y10, by rw [s1 _ (by omega)]; exact y11⟩
/-- the reference tells a PARAMETER -/
theorem m_paraT {d np : Nat} (hd : 2 ≤ d) (hp : q_prg p) (he : q_end e) (R : TR T) (x : MSt T p e a dp fk fp wk Cd Nm st np nl wh hm) (hN : Nm.length < 2000) {t : Nat} (ht : t < T.n) (kt : T.k t = 2) (enp : hm.I p 1 = Int32.ofNat np) (hnp : np < 5000) (ho : ¬ fk = 0 → ¬ fk ≤ 0 ∧ (fp < T.p t ∨ (fp = T.p t ∧ ¬ (6 : Int32) < fk))) : ∃ hm', MSt T p e a dp (bK fk (if np < 4 then 0 else 6)) (bP fk fp (if np < 4 then 0 else 6) (T.p t)) wk Cd ((t, 2, Int32.ofNat np) :: Nm) st (np + 1) nl wh hm' ∧ PFm p e hm hm' ∧ hm'.I p 1 = Int32.ofNat (np + 1) ∧ hm'.I p 0 = hm.I p 0 ∧ hm'.I (p + 1) = hm.I (p + 1) ∧
    ∀ (hx : qh) (Q : qr → qh → Prop), Q (.inl none) (mg hx hm') → (((mg hx hm).I p 1) < 4 → (q_M0 G d yX12_variableTold [.ref 43, .int (Int32.ofNat t)] ((mg hx hm).sI p 1 (((mg hx hm).I p 1) + 1)) (q_rv (fun h5 => Q (.inl none) h5) (fun E h => Q (.inr E) h)))) ∧ (¬ ((mg hx hm).I p 1) < 4 → (q_M0 G d yX12_wrong [.ref 43, .int 6, .int (Int32.ofNat t)] (mg hx hm) (q_rv (fun h6 => q_M0 G d yX12_variableTold [.ref 43, .int (Int32.ofNat t)] (h6.sI p 1 ((h6.I p 1) + 1)) (q_rv (fun h7 => Q (.inl none) h7) (fun E h => Q (.inr E) h))) (fun E h => Q (.inr E) h)))) := by
  have hpl := prg_lt hp
  have hel := end_lt he
  have ep : ∀ hx, (mg hx hm).I p 1 = Int32.ofNat np := fun hx => by rw [mI (by omega)]; exact enp
  -- behind the ROOM of PARAMETERS
  have go : ∀ {m : qh} {fk' fp' : Int32}, MSt T p e a dp fk' fp' wk Cd Nm st np nl wh m → R43 hm m → (¬ np < 16 → ¬ fk' = 0) → (¬ fk' = 0 → ¬ fk' ≤ 0 ∧ (fp' < T.p t ∨ (fp' = T.p t ∧ ¬ (6 : Int32) < fk'))) → ∃ hm', mR G d yX12_variableTold [.ref 43, .int (Int32.ofNat t)] (m.sI p 1 (Int32.ofNat (np + 1))) rvv hm' ∧ MSt T p e a dp fk' fp' wk Cd ((t, 2, Int32.ofNat np) :: Nm) st (np + 1) nl wh hm' ∧ PFm p e hm hm' ∧ hm'.I p 1 = Int32.ofNat (np + 1) ∧ hm'.I p 0 = hm.I p 0 ∧ hm'.I (p + 1) = hm.I (p + 1) := fun {m fk' fp'} y r h16 ho' => by
    obtain ⟨m5, I1, I2, I3, I4⟩ := sm_varTold (G := G) (d := d) (by omega) hp he R (y.s0 hp (k := 1) (by omega) (Int32.ofNat (np + 1))) hN (by omega) ht kt
    have hkeep : wK fk' fp' (if np < 16 then 0 else 6) (T.p t) = fk' ∧ wP fk' fp' (if np < 16 then 0 else 6) (T.p t) = fp' := by
      by_cases h : np < 16
      · rw [if_pos h]; unfold wK wP; rw [if_pos rfl, if_pos rfl]; exact ⟨rfl, rfl⟩
      · rw [if_neg h]
        obtain ⟨q6, q7⟩ := wK_eq' (k := 6) ho'
        have q8 := bK_keep (fp := fp') (k := 6) (p := T.p t) (h16 h)
        exact ⟨q6.trans q8.1, q7.trans q8.2⟩
    rw [hkeep.1, hkeep.2] at I2
    refine ⟨m5, I1, I2, (r.pf hp).tr ((PFm.sI hp he _ _ _ _ (by omega)).tr I3), ?_, ?_, ?_⟩
    · rw [(I4 0).2.2.2 1 (by omega), sI_I]; exact if_pos ⟨rfl, rfl⟩
    · rw [(I4 0).2.2.2 0 (by omega), sI_I, if_neg (by omega), r.1 p (by omega)]
    · rw [(I4 0).2.2.1, sI_row _ (by omega), r.1 _ (by omega)]
  by_cases h : np < 4
  · obtain ⟨m5, I1, I2, I3, I4, I5, I6⟩ := go x (R43.rf _) (fun w => absurd (by omega) w) ho
    refine ⟨m5, ?_, I3, I4, I5, I6, fun hx Q hQ => ⟨fun _ => ?_, fun w => absurd ?_ w⟩⟩
    · rw [if_pos h]; unfold bK bP
      by_cases h0 : fk = 0
      · rw [if_pos h0, if_neg (fun w => w.2 rfl), ← h0]; exact I2
      · rw [if_neg h0, if_neg (fun w => h0 w.1)]; exact I2
    · rw [ep, n_add1, mg_sI_m (by omega)]; exact I1 hx _ hQ
    · rw [ep]; exact (n_lt (b := 4) (by omega) (by omega)).mpr h
  · obtain ⟨m3, q1, q2, q3⟩ := m_wrong (G := G) (d := d) (by omega) R x.1.1 ht (k := 6) (by decide)
    obtain ⟨q4, q5⟩ := wK_eq' (k := 6) ho
    rw [q4, q5] at q2
    have y3 := x.r43 hp q2 q3
    have hnz : ¬ bK fk 6 = 0 := fun w => absurd (bK_zero w).2 (by decide)
    obtain ⟨m5, I1, I2, I3, I4, I5, I6⟩ := go y3 q3 (fun _ => hnz) (fun _ => by
      by_cases h0 : fk = 0
      · unfold bK bP; rw [if_pos h0, if_pos ⟨h0, by decide⟩]; exact ⟨by decide, Or.inr ⟨rfl, by decide⟩⟩
      · have q8 := bK_keep (fp := fp) (k := 6) (p := T.p t) h0
        rw [q8.1, q8.2]; exact ho h0)
    refine ⟨m5, by rw [if_neg h]; exact I2, I3, I4, I5, I6, fun hx Q hQ => ⟨fun w => absurd w ?_, fun _ => q1 hx _ ?_⟩⟩
    · rw [ep]; exact fun w => h ((n_lt (b := 4) (by omega) (by omega)).mp w)
    · show q_M0 G d yX12_variableTold [.ref 43, .int (Int32.ofNat t)] ((mg hx m3).sI p 1 ((mg hx m3).I p 1 + 1)) _
      rw [mI (by omega), q3.1 p (by omega), enp, n_add1, mg_sI_m (by omega)]
      exact I1 hx _ hQ
set_option maxRecDepth 100000 in
theorem j_paras {P : qr → qh → qr → qh → Prop} {F : (qr → qh → Prop) → Int32 → qh → Prop} {X : (qr → qh → Prop) → String → qh → Prop} (R : TR T) (hq : q_cir c) (hp : q_prg p) (he : q_end e) {D d : Nat} (hD : 5 ≤ D) (hd : 5 ≤ d)
    (k1 : ∀ a' fk' fp' na nr np Nm hc' hm', HI T c p e hc0 hm0 a' 0 fk' fp' na nr np 1 Nm hc' hm' → J (fun hx Q => F Q 1 (mg hc' hx)) (fun hx Q => kEnd G (d + 1) p (mg hx hm') Q) P)
    (k2 : ∀ hc' hm', pFail c p e hc0 hm0 hc' hm' → J (fun hx Q => F Q 0 (mg hc' hx)) (fun hx Q => Q rxx (mg hx hm')) P) :
    ∀ (M a : Nat), T.n - a ≤ M → ∀ fk fp na nr np Nm i hc hm, HI T c p e hc0 hm0 a 1 fk fp na nr np 1 Nm hc hm → T.k a = 4 → i ≤ a → J (fun hx Q => q_N0 G m_X2_readParameters (D + 2) (q_ri (F Q) (X Q)) 34 [.ref 21, .int 1, .int (Int32.ofNat i)] [] (mg hc hx)) (fun hx Q => q_M0 G (d + 1) yX12_parameter [.ref 43] (mg hx hm) (q_rv (fun h9 => q_N0 G m_X12_program (d + 2) Q 80 [.ref 43, .ref p, .int 0, .null] [] h9) (fun E h => Q (.inr E) h))) P
  | M, a, hM, fk, fp, na, nr, np, Nm, i, hc, hm, H, k4, hi => by
    obtain ⟨x1, x2, ⟨e8, h8, e9, ep0, ep1⟩, ⟨b1, b2, b3, b4⟩, x4, x5, x6, x7⟩ := H
    have hn := R.2.1
    have hpl := prg_lt hp
    have hel := end_lt he
    have hc8 := cir_lt hq
    have hcl : c < 43 := by omega
    have hp0 : 43 ≤ p := by omega
    have h2001 : ∀ i, i ≤ 2000 → ¬ (2001 : Int32) ≤ Int32.ofNat i := fun i h q => absurd ((n_le (a := 2001) (by omega) (by omega)).mp q) (by omega)
    have ha1 := tk_more' R b1 k4 (by decide)
    have hpn := tk_pn R ha1
    obtain ⟨h1, r1, r2, r3⟩ := c_pass (G := G) (d := D + 1) (by omega) x1.1 k4 ha1 hn
    have z1 := x1.r22 hq r2 r3
    have r43 := R43.sI hm 14 (Int32.ofNat (a + 1)) (by decide)
    have y1 := x2.r43 hp (x2.1.1.seta (a + 1)) r43
    have e14 : ∀ hx, (mg hx hm).I 43 14 = Int32.ofNat a := fun hx => by rw [mI (by decide)]; exact x2.1.1.1.1
    refine J.c (fun hx Q hF => x_X2_readParameters_34 G (D + 1) _ _ _ _ hF) ?_
    refine J.c2 (h2001 i (by omega)) (J.c2 (by decide) (J.ci r1 (J.c2 (by decide) ?_)))
    refine J.m (fun hx Q hF => x_X12_parameter G d _ _ hF) ?_
    refine J.mE p (J.ma' (fun hx => by rw [mRr (by decide)]; exact x2.1.2.2.2.2.1) (J.ma' (fun _ => hp) ?_))
    refine J.m (fun hx Q hF => by rw [e14, n_add1, mg_sI_m (by decide)]; exact hF) ?_
    by_cases kn : T.k (a + 1) = 2
    · have ha2 : a + 2 < T.n := tk_more' R ha1 kn (by decide)
      have hpn2 : T.pn (a + 1) < T.pn (a + 2) := tk_pn R ha2
      obtain ⟨m2, s1, s2, s3⟩ := m_kind (G := G) (d := d) (by omega) R y1.1.1 ha1 ((tk_name R ha1).mp kn)
      have y2 := y1.r43 hp s2 s3
      obtain ⟨h3, m3, f1, p1, u', N1, N2, N3, N4, N5, N6, N7, N8, N9, N10, N11, N12, N13, N14, N15⟩ := hd_name (G := G) (d := d) R hq hp he (D := D + 1) (by omega) (by omega) z1 y2 ha1 kn (x4.next (by omega)) (fun h0 => ⟨(r3.xf hq).cn hq (x7 h0).2.1, (x7 h0).2.2.1⟩)
      have ep13 : m3.I p 1 = Int32.ofNat np := by rw [N10.1 p (by omega), s3.1 p (by omega), r43.1 p (by omega)]; exact ep1
      obtain ⟨m4, T1, T2, T3, T4, T5, T6⟩ := m_paraT (G := G) (d := d) (by omega) hp he R N4 (by omega) ha1 kn ep13 (by omega) (N15 6 (Or.inr rfl))
      obtain ⟨u, eu⟩ : ∃ u : Int32, u = if np < 4 then 0 else 6 := ⟨_, rfl⟩
      rw [← eu] at T1
      obtain ⟨h4, A1, A2, A3⟩ := c_blame (G := G) (d := D + 1) (by omega) N3.1 u (T.p (a + 1))
      have z4 := N3.r22 hq A2 A3
      obtain ⟨h5, B1, B2, B3, B4, B5⟩ := sc_tell (G := G) (T := T) (d := D + 1) (by omega) hq z4 (T.v (a + 1)) 2 (Int32.ofNat np)
      have e93 : h3.I c 9 = Int32.ofNat np := by rw [N9.2.2 9 (by omega), r3.1 c (by omega)]; exact e9
      have e95 : h5.I c 9 = Int32.ofNat np := by rw [B4.2.2 9 (by omega), A3.1 c (by omega)]; exact e93
      have e85 : h5.I c 8 = Int32.ofNat na := by rw [B4.2.2 8 (by omega), A3.1 c (by omega), N9.2.2 8 (by omega), r3.1 c (by omega)]; exact e8
      have eif : ∀ hx, (if (mg h3 hx).I c 9 < 4 then (0 : Int32) else 6) = u := fun hx => by
        rw [eu]; exact ite_n (b := 4) (by omega) (by decide) (by rw [cI hcl]; exact e93)
      have e10 : ∀ hx, (mg h4 hx).I c 10 = Int32.ofNat np := fun hx => by rw [cI hcl]; exact z4.2.2.2.2.2.2.2.1
      have eL4 : ∀ hx, (mg h4 hx).L 21 6 = T.v (a + 1) := fun hx => by rw [cL (by decide), A3.2.1 21 (by decide)]; exact N5
      have eI3 : ∀ hx, (mg h3 hx).I 21 7 = T.p (a + 1) := fun hx => by rw [cI (by decide)]; exact N6
      have e59 : ∀ hx, (mg h5 hx).I c 9 + 1 = Int32.ofNat (np + 1) := fun hx => by rw [cI hcl, e95, n_add1]
      have e510 : ∀ hx, (mg h5 hx).I c 10 + 1 = Int32.ofNat (np + 1) := fun hx => by rw [cI hcl, B2.2.2.2.2.2.2.2.1, n_add1]
      refine J.ci N1 (J.c4 (by decide) (J.cE c (J.ca' (fun hx => by rw [cRr (by decide)]; exact N3.2.2.2.2.2.1) (J.ca' (fun _ => hq) ?_))))
      refine J.c (fun hx Q hF => by rw [eif, eI3]; exact hF) ?_
      refine J.cv A1 (J.cE c (J.ca' (fun hx => by rw [cRr (by decide)]; exact z4.2.2.2.2.2.1) (J.ca' (fun _ => hq) ?_)))
      refine J.c (fun hx Q hF => by rw [e10, eL4]; exact hF) ?_
      refine J.cv B1 (J.cE c (J.ca' (fun hx => by rw [cRr (by decide)]; exact B2.2.2.2.2.2.1) (J.ca' (fun _ => hq) ?_)))
      refine J.c (fun hx Q hF => by rw [e59, e510, mg_sI_c hcl, mg_sI_c hcl]; exact hF) ?_
      refine J.mi s1 (J.mv N2 (J.m (fun hx Q hF => T6 hx _ hF) ?_))
      have z6 := (B2.s9 hq (k := 9) (by omega) (Int32.ofNat (np + 1))).s10 hq (np + 1)
      have rc6 : ∀ o, o ≠ c → ((h5.sI c 9 (Int32.ofNat (np + 1))).sI c 10 (Int32.ofNat (np + 1))).I o = h5.I o := fun o ho => (sI_row _ ho).trans (sI_row _ ho)
      have FG2 : FG T (a + 2) (bK f1 u) (bP f1 p1 u (T.p (a + 1))) := N13.at R ha1 (by rw [eu]; split; exact Or.inl rfl; exact Or.inr (by decide)) hpn2
      have pfc6 : PFc c hc0 ((h5.sI c 9 (Int32.ofNat (np + 1))).sI c 10 (Int32.ofNat (np + 1))) := x5.tr ((r3.pf hq).tr (N7.tr ((A3.pf hq).tr (B3.tr ((PFc.sI _ _ _ _ (by omega)).tr (PFc.sI _ _ _ _ (by omega)))))))
      have pfm4 : PFm p e hm0 m4 := x6.tr ((r43.pf hp).tr ((s3.pf hp).tr ((N10.pf hp).tr T2)))
      have ek : ∀ hx, (if (mg h5 hx).I 22 3 = 44 then (1 : Int32) else 0) = if T.k (a + 2) = 44 then 1 else 0 := fun hx => by rw [c_at B2 hx]
      refine J.c (fun hx Q hF => by rw [ek]; exact hF) ?_
      -- what holds behind it
      have HN : ∀ (a' dp' : Nat) (h7 m7 : qh), a + 2 ≤ a' → a' < T.n → CSt T c a' dp' (bK f1 u) (bP f1 p1 u (T.p (a + 1))) 0 [] 0 (np + 1) 0 (-1) (-1) h7 → MSt T p e a' dp' (bK f1 u) (bP f1 p1 u (T.p (a + 1))) 0 [] ((a + 1, 2, Int32.ofNat np) :: Nm) 0 (np + 1) 0 0 m7 → R22 ((h5.sI c 9 (Int32.ofNat (np + 1))).sI c 10 (Int32.ofNat (np + 1))) h7 → R43 m4 m7 → HI T c p e hc0 hm0 a' dp' (bK f1 u) (bP f1 p1 u (T.p (a + 1))) na nr (np + 1) 1 ((a + 1, 2, Int32.ofNat np) :: Nm) h7 m7 := fun a' dp' h7 m7 g1 g2 g3 g4 g5 g6 => by
        refine ⟨g3, g4, ⟨?_, h8, ?_, ?_, ?_⟩, ⟨g2, by rw [List.length_cons]; omega, by omega, by omega⟩, FG2.next (tk_mono R g1 g2), pfc6.tr (g5.pf hq), pfm4.tr (g6.pf hp), fun h0 => ?_⟩
        · rw [g5.1 c (by omega), sI_I, if_neg (by omega), sI_I, if_neg (by omega)]; exact e85
        · rw [g5.1 c (by omega), sI_I, if_neg (by omega), sI_I]; exact if_pos ⟨rfl, rfl⟩
        · rw [g6.1 p (by omega), T4, N10.1 p (by omega), s3.1 p (by omega), r43.1 p (by omega)]; exact ep0
        · rw [g6.1 p (by omega)]; exact T3
        · obtain ⟨j3, j4⟩ := bK_zero h0
          obtain ⟨j5, j6⟩ := N14 j3
          obtain ⟨d1, d2, d3, d4, d5, d6, d7⟩ := x7 j5
          have hnp : np < 4 := Classical.byContradiction fun w => by rw [eu, if_neg w] at j4; exact absurd j4 (by decide)
          have cn5 := B5 Nm (a + 1) ((A3.xf hq).cn hq (N8 Nm ((r3.xf hq).cn hq d2))) (by omega) rfl
          refine ⟨d1, (g5.xf hq).cn hq (cn5.to (rc6 _ (by omega)) rfl (rc6 _ (by omega)) (rc6 _ (by omega))), ⟨fun z hz hv => lk_none j6 z hz hv, d3⟩, by omega, by rw [List.length_cons]; omega, fun z hz => ?_, fun j hj => ?_⟩
          · rcases List.mem_cons.mp hz with rfl | hz
            · exact ⟨fun _ => ⟨np, by omega, rfl⟩, fun w => absurd w (show ¬ (2 : Int32) = 0 by decide)⟩
            · obtain ⟨k5, k6⟩ := d6 z hz
              exact ⟨fun w => by obtain ⟨k7, k8, k9⟩ := k5 w; exact ⟨k7, by omega, k9⟩, k6⟩
          · obtain ⟨k, k1', k2', k3', k4'⟩ := d7 j hj
            refine ⟨k, k1', k2', ?_, ?_⟩
            · rw [g5.1 _ (by omega), rc6 _ (by omega), B4.2.1, A3.1 _ (by omega), N9.2.1, r3.1 _ (by omega)]; exact k3'
            · rw [g6.1 _ (by omega), T5, N10.1 _ (by omega), s3.1 _ (by omega), r43.1 _ (by omega)]; exact k4'
      refine J.m (fun hx Q hF => x_X12_program_80 G (d + 1) p _ _ Q hp hF) ?_
      by_cases k44 : T.k (a + 2) = 44
      · have ha3 : a + 3 < T.n := tk_more' R ha2 k44 (by decide)
        have i44 := m_is1 (G := G) (d := d + 1) (by omega) R T1.1.1 ha2 (s := 44) (by decide) k44
        obtain ⟨h7, C1, C2, C3⟩ := c_adv (G := G) (d := D + 1) (by omega) z6.1 ha3 hn
        have z7 := z6.r22 hq C2 C3
        have r43b := R43.sI m4 14 (Int32.ofNat (a + 3)) (by decide)
        have y7 := T1.r43 hp (T1.1.1.seta (a + 3)) r43b
        have e44 : (if T.k (a + 2) = 44 then (1 : Int32) else 0) = 1 := if_pos k44
        have e14' : ∀ hx, (mg hx m4).I 43 14 + 1 = Int32.ofNat (a + 3) := fun hx => by rw [mI (by decide), T1.1.1.1.1, n_add1]
        rw [e44]
        refine J.c2 (by decide) (J.cv C1 ?_)
        refine J.c (fun hx Q hF => by rw [n_add1]; exact hF) ?_
        refine J.mi i44 (J.m2 (by decide) ?_)
        refine J.m (fun hx Q hF => by rw [e14', mg_sI_m (by decide)]; exact hF) ?_
        refine J.ma' (fun _ => m_inA R ha3) ?_
        have e47 : ∀ hx, (mg hx m4).I 47 (Int32.ofNat (a + 3)).toNatClampNeg = T.km (a + 3) := fun hx => by rw [mI (by decide), T1.1.1.2.2.1, n_N (by omega)]
        by_cases k4' : T.k (a + 3) = 4
        · refine J.m1' (fun hx => (e47 hx).trans ((tk_word R ha3 (by decide) (by decide)).mp k4')) ?_
          exact j_paras R hq hp he hD hd k1 k2 (M - 1) (a + 3) (by omega) _ _ _ _ _ _ (i + 1) h7 _ (HN (a + 3) 1 h7 _ (by omega) ha3 z7 y7 C3 r43b) k4' (by omega)
        · refine J.m2' (fun hx => by rw [e47]; exact fun q => k4' ((tk_word R ha3 (s := 4) (by decide) (by decide)).mpr q)) ?_
          obtain ⟨h9, E1, E2, E3⟩ := c_passNo (G := G) (d := D + 1) (by omega) z7.1 k4'
          obtain ⟨m9, v1, v2, v3⟩ := m_refuse (G := G) (d := d + 1) (by omega) R y7.1.1 ha3 1
          refine J.c (fun hx Q hF => x_X2_readParameters_34 G (D + 1) _ _ _ _ hF) ?_
          refine J.c2 (h2001 (i + 1) (by omega)) (J.c2 (by decide) (J.ci E1 (J.c1 rfl ?_)))
          exact J.mxv v1 (k2 _ _ ⟨1, T.p (a + 3), Or.inl rfl, E2, v2, pfc6.tr ((C3.pf hq).tr (E3.pf hq)), pfm4.tr ((r43b.pf hp).tr (v3.pf hp))⟩)
      · have i44 := m_is0 (G := G) (d := d + 1) (by omega) R T1.1.1 ha2 (s := 44) (by decide) k44
        have e44 : (if T.k (a + 2) = 44 then (1 : Int32) else 0) = 0 := if_neg k44
        rw [e44]
        refine J.c1 rfl ?_
        refine J.c (fun hx Q hF => by rw [n_add1]; exact hF) ?_
        refine J.mi i44 (J.m1 rfl ?_)
        refine J.c (fun hx Q hF => x_X2_readParameters_34 G (D + 1) _ _ _ _ hF) ?_
        refine J.c2 (h2001 (i + 1) (by omega)) (J.c1 rfl ?_)
        obtain ⟨h7, C1, C2, C3⟩ := c_leave (G := G) (d := D + 1) (by omega) z6.1 (by omega)
        have z7 := z6.r22 hq C2 C3
        refine J.cv C1 ?_
        by_cases k41 : T.k (a + 2) = 41
        · have ha3 : a + 3 < T.n := tk_more' R ha2 k41 (by decide)
          obtain ⟨h9, E1, E2, E3⟩ := c_pass (G := G) (d := D + 1) (by omega) z7.1 k41 ha3 hn
          obtain ⟨m9, v1, v2, v3⟩ := m_closes (G := G) (d := d + 1) (by omega) R T1.1.1 ha2 (s := 41) (by decide) k41
          refine J.ci E1 (J.ca' (fun _ => Or.inr rfl) (J.mv v1 ?_))
          exact k1 (a + 3) _ _ na nr (np + 1) _ h9 m9 (HN (a + 3) 0 h9 m9 (by omega) ha3 (z7.r22 hq E2 E3) (T1.r43 hp v2 v3) (C3.tr E3) v3)
        · obtain ⟨h9, E1, E2, E3⟩ := c_passNo (G := G) (d := D + 1) (by omega) z7.1 k41
          obtain ⟨m9, v1, v2, v3⟩ := m_closesNo (G := G) (d := d + 1) (by omega) R T1.1.1 ha2 (s := 41) (by decide) k41
          refine J.ci E1 (J.ca' (fun _ => Or.inl rfl) ?_)
          exact J.mxv v1 (k2 _ _ ⟨1, T.p (a + 2), Or.inl rfl, E2, v2, pfc6.tr ((C3.pf hq).tr (E3.pf hq)), pfm4.tr (v3.pf hp)⟩)
    · obtain ⟨h2, g1, g2, g3⟩ := sc_nameNo (G := G) (d := D + 1) (by omega) hq z1 kn
      obtain ⟨m2, s1, s2, s3⟩ := m_kindNo (G := G) (d := d) (by omega) R y1.1.1 ha1 (fun q => kn ((tk_name R ha1).mpr q))
      refine J.ci g1 (J.c3 rfl ?_)
      exact J.mxi s1 (k2 _ _ ⟨1, T.p (a + 1), Or.inl rfl, g2, s2, x5.tr ((r3.pf hq).tr g3), x6.tr ((r43.pf hp).tr (s3.pf hp))⟩)
termination_by M a => T.n - a
decreasing_by all_goals omega
end PARA
