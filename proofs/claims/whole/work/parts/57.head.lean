/-! ===== the head of a PROGRAM: ARRAYS and the function's NAME ===== -/
def HCl (T : tkD) (c p na nr np fn : Nat) (Nm : List nmE) (hc hm : qh) : Prop := na = nr ∧ CN T Nm hc ∧ uq T Nm ∧ np ≤ 4 ∧ Nm.length ≤ na + fn + np ∧ (∀ x ∈ Nm, (x.2.1 = 2 → ∃ k : Nat, k < np ∧ x.2.2 = Int32.ofNat k) ∧ (x.2.1 = 0 → AK na x.2.2)) ∧ (∀ j, j < na → ∃ k : Nat, 1 ≤ k ∧ k ≤ 256 ∧ hc.I (c + 6) j = Int32.ofNat k ∧ hm.I (p + 1) j = Int32.ofNat k)
def HI (T : tkD) (c p e : Nat) (hc0 hm0 : qh) (a dp : Nat) (fk fp : Int32) (na nr np fn : Nat) (Nm : List nmE) (hc hm : qh) : Prop :=
  CSt T c a dp fk fp 0 [] 0 np 0 (-1) (-1) hc ∧ MSt T p e a dp fk fp 0 [] Nm 0 np 0 0 hm ∧ (hc.I c 8 = Int32.ofNat na ∧ na ≤ 8 ∧ hc.I c 9 = Int32.ofNat np ∧ hm.I p 0 = Int32.ofNat nr ∧ hm.I p 1 = Int32.ofNat np) ∧ (a < T.n ∧ Nm.length ≤ a ∧ np ≤ a ∧ nr ≤ a) ∧ FG T a fk fp ∧ PFc c hc0 hc ∧ PFm p e hm0 hm ∧ (fk = 0 → HCl T c p na nr np fn Nm hc hm)
theorem l_lt {q : Nat} (hq : q < 2147483648) (b : Int64) (k : Int) (hb : b.toInt = k) : (Int32.ofNat q).toInt64 < b ↔ (q : Int) < k := by
  rw [Int64.lt_iff_toInt_lt, hb, Int32.toInt_toInt64, n_toInt hq]
theorem l_le {q : Nat} (hq : q < 2147483648) (b : Int64) (k : Int) (hb : b.toInt = k) : (Int32.ofNat q).toInt64 ≤ b ↔ (q : Int) ≤ k := by
  rw [Int64.le_iff_toInt_le, hb, Int32.toInt_toInt64, n_toInt hq]
def kCel (G : qG) (D : Nat) (v : Int32) (h5 : qh) (Q : qr → qh → Prop) : Prop := ∃ c6, h5.R 21 3 = some c6 ∧ q_cir c6 ∧ (q_M0 G D yX0_addArray [.ref c6, .int v] h5 (q_rv (fun h7 => q_M0 G D yX4_leave [.ref 22] h7 (q_rv (fun h8 => q_M0 G D yX4_pass [.ref 22, .int 93] h8 (q_ri (fun r10 h9 => (r10 = 0 → (Q (.inl (some (.int 0))) h9)) ∧ (¬ r10 = 0 → (q_M0 G D yX4_pass [.ref 22, .int 59] h9 (q_ri (fun r12 h11 => ((if r12 = 0 then (0 : Int32) else 1) = 0 ∨ (if r12 = 0 then (0 : Int32) else 1) = 1) ∧ Q (.inl (some (.int (if r12 = 0 then (0 : Int32) else 1)))) h11) (fun E h => Q (.inr E) h))))) (fun E h => Q (.inr E) h))) (fun E h => Q (.inr E) h))) (fun E h => Q (.inr E) h)))
section HEAD
variable {G : qG} {d : Nat} {T : tkD} {c p e a dp : Nat} {fk fp : Int32} {wk : Nat} {Pt : List prt} {Cd : List cod} {Nm : List nmE} {st nv nl jn wh : Nat} {ag bh : Int32} {hc hm hc0 hm0 : qh}
theorem sl_addArray (hd : 1 ≤ d) (hq : q_cir c) (x : CSt T c a dp fk fp wk Pt jn nv nl ag bh hc) {na : Nat} (e8 : hc.I c 8 = Int32.ofNat na) (h8 : na ≤ 8) (v : Int32) : ∃ hc' na', cR G d yX0_addArray [.ref c, .int v] hc rvv hc' ∧ CSt T c a dp fk fp wk Pt jn nv nl ag bh hc' ∧ PFc c hc hc' ∧ (∀ T' Nm', CN T' Nm' hc → CN T' Nm' hc') ∧ hc'.I c 8 = Int32.ofNat na' ∧ na' ≤ 8 ∧ hc'.I c 9 = hc.I c 9 ∧ (na < 8 → na' = na + 1 ∧ hc'.I (c + 6) na = v ∧ ∀ j, j < na → hc'.I (c + 6) j = hc.I (c + 6) j) ∧ (∀ o, 15 ≤ o → hc'.I o = hc.I o) ∧ hc'.L = hc.L := by
  obtain ⟨d, rfl⟩ := Nat.exists_eq_add_of_le' hd
  have hc8 := cir_lt hq
  by_cases h : na < 8
  · obtain ⟨y1, y2, y3, y4, y5, y6, y7, y8, y9, y10, y11⟩ := x
    have s1 : ∀ o, o ≠ c → o ≠ c + 6 → ((hc.sI (c + 6) na v).sI c 8 (Int32.ofNat (na + 1))).I o = hc.I o := fun o h1 h2 => (sI_row _ h1).trans (sI_row _ h2)
    have s2 : ∀ k, k ≠ 8 → ((hc.sI (c + 6) na v).sI c 8 (Int32.ofNat (na + 1))).I c k = hc.I c k := fun k hk => by rw [sI_I, if_neg (by omega), sI_row _ (by omega)]
    refine ⟨(hc.sI (c + 6) na v).sI c 8 (Int32.ofNat (na + 1)), na + 1, fun hx Q hQ => ?_, ⟨y1.to (s1 _ (by omega) (by omega)) rfl (s1 _ (by omega) (by omega)) (s1 _ (by omega) (by omega)) (s1 _ (by omega) (by omega)) rfl, by rw [s1 _ (by omega) (by omega)]; exact y2, ⟨(s2 6 (by decide)).trans y3.1, y3.2.1, prts_to (fun j _ => by rw [s1 _ (by omega) (by omega), s1 _ (by omega) (by omega), s1 _ (by omega) (by omega), s1 _ (by omega) (by omega)]; exact ⟨rfl, rfl, rfl, rfl⟩) y3.2.2⟩, y4.to (s1 _ (by omega) (by omega)), y5, y6, (s2 7 (by decide)).trans y7, (s2 10 (by decide)).trans y8, (s2 11 (by decide)).trans y9, by rw [s1 _ (by omega) (by omega)]; exact y10, by rw [s1 _ (by omega) (by omega)]; exact y11⟩, ⟨fun o e1 e2 => s1 o (by omega) (by omega), fun _ _ => rfl, rfl, fun x => x.to (s2 6 (by decide))⟩, fun T' Nm' n => n.to (s1 _ (by omega) (by omega)) rfl (s1 _ (by omega) (by omega)) (s1 _ (by omega) (by omega)), by rw [sI_I]; exact if_pos ⟨rfl, rfl⟩, by omega, s2 9 (by decide), fun _ => ⟨rfl, ?_, fun j hj => ?_⟩, fun o ho => s1 o (by omega) (by omega), rfl⟩
    · refine x_X0_addArray G d c v _ Q hq ⟨fun q => absurd q ?_, fun _ => ?_⟩
      · rw [cI (by omega), e8]; exact fun q => absurd ((n_le (a := 8) (by omega) (by omega)).mp q) (by omega)
      · rw [cI (by omega), e8, n_N (by omega), n_add1, mg_sI_c (by omega), mg_sI_c (by omega)]
        exact ⟨n_in (by omega) h, hQ⟩
    · rw [sI_row _ (by omega), sI_I]; exact if_pos ⟨rfl, rfl⟩
    · rw [sI_row _ (by omega), sI_I]; exact if_neg (by omega)
  · refine ⟨hc, na, fun hx Q hQ => ?_, x, PFc.rf _ _, fun _ _ n => n, e8, h8, rfl, fun q => absurd q h, fun _ _ => rfl, rfl⟩
    refine x_X0_addArray G d c v _ Q hq ⟨fun _ => hQ, fun q => absurd ?_ q⟩
    rw [cI (by omega), e8]; exact (n_le (a := 8) (by omega) (by omega)).mpr (by omega)
/-- a NAME is told by both: TWICE -/
theorem hd_name (R : TR T) (hq : q_cir c) (hp : q_prg p) (he : q_end e) {D : Nat} (hD : 3 ≤ D) (hd : 3 ≤ d) (x1 : CSt T c a dp fk fp wk Pt jn nv nl ag bh hc) (x2 : MSt T p e (a + 1) dp fk fp wk Cd Nm st nv nl wh hm) (ha : a < T.n) (k2 : T.k a = 2) (f : FG T a fk fp) (cl : fk = 0 → CN T Nm hc ∧ uq T Nm) : ∃ hc' hm' f1 p1 u, cR G D yX2_readNewName [.ref 21] hc (riv 1) hc' ∧ mR G d yX12_asksNew [.ref 43, .int (Int32.ofNat a)] hm rvv hm' ∧ CSt T c (a + 1) dp f1 p1 wk Pt jn nv nl ag bh hc' ∧ MSt T p e (a + 1) dp f1 p1 wk Cd Nm st nv nl wh hm' ∧ hc'.L 21 6 = T.v a ∧ hc'.I 21 7 = T.p a ∧ PFc c hc hc' ∧ (∀ Nm', CN T Nm' hc → CN T Nm' hc') ∧ SFc c jn hc hc' ∧ R43 hm hm' ∧ f1 = bK fk u ∧ p1 = bP fk fp u (T.p a) ∧ FG T (a + 1) f1 p1 ∧ (f1 = 0 → fk = 0 ∧ lk T Nm (T.v a) = none) ∧ (∀ k : Int32, k = 0 ∨ k = 6 → ¬ f1 = 0 → ¬ f1 ≤ 0 ∧ (p1 < T.p a ∨ (p1 = T.p a ∧ ¬ (6 : Int32) < f1))) := by
  have hn := R.2.1
  have ha1 := tk_more' R ha k2 (by decide)
  have hpn := tk_pn R ha1
  obtain ⟨h2, u, g1, g2, g3, g4, g5, g6, g7, g8, g9⟩ := sc_name (G := G) (d := D) hD hq x1 hn ha1 k2
  obtain ⟨m2, n1, n2, n3⟩ := m_asks (G := G) (d := d) hd R x2.1.1 x2.1.2.2.2.1 ha k2
  have y4 := x2.r43 hp n2 n3
  have hord : ¬ fk = 0 → ¬ fk ≤ 0 ∧ fp < T.p a := fun h0 => by have := f.lt R ha h0; exact ⟨this.1, this.2.2⟩
  obtain ⟨w1, w2⟩ := wK_eq (k := if lk T Nm (T.v a) = none then 0 else 2) hord
  have hfl : fk = 0 → u = if lk T Nm (T.v a) = none then 0 else 2 := fun h0 => g9 Nm (cl h0).1 (cl h0).2
  obtain ⟨w3, w4⟩ := bK_sub (fp := fp) (p := T.p a) hfl
  rw [w1, w2, ← w3, ← w4] at y4
  refine ⟨h2, m2, _, _, u, g1, n1, g2, y4, g3, g4, g5, g6, g7, n3, rfl, rfl, (f.next (by omega)).at R ha (by rcases g8 with q | q <;> rw [q]; exact Or.inl rfl; exact Or.inr (by decide)) hpn, fun h0 => ?_, fun k _ h0 => ?_⟩
  · obtain ⟨q1, q2⟩ := bK_zero h0
    refine ⟨q1, Classical.byContradiction fun q => ?_⟩
    have := hfl q1
    rw [if_neg q, q2] at this; exact absurd this (by decide)
  · by_cases h : fk = 0
    · have ef : bK fk u = u := if_pos h
      rcases g8 with q | q
      · exact absurd (ef.trans q) h0
      · refine ⟨by rw [ef, q]; decide, Or.inr ⟨?_, by rw [ef, q]; decide⟩⟩
        exact if_pos ⟨h, by rw [q]; decide⟩
    · have := bK_keep (fp := fp) (k := u) (p := T.p a) h
      rw [this.1, this.2]
      exact ⟨(hord h).1, Or.inl (hord h).2⟩
theorem m_kindW {k : Int32} (hd : 2 ≤ d) (R : TR T) (c : MB T a dp fk fp hm) (ha : a < T.n) (h4 : 4 ≤ k) (h10 : k ≤ 10) (hk : T.k a = k) : ∃ hm', mR G d yX12_wantsKind [.ref 43, .int (k + 1)] hm (riv (Int32.ofNat a)) hm' ∧ MB T (a + 1) dp fk fp hm' ∧ R43 hm hm' := m_kind hd R c ha ((tk_word R ha h4 h10).mp hk)
set_option maxRecDepth 100000 in
theorem j_arrays {P : qr → qh → qr → qh → Prop} {F : (qr → qh → Prop) → Int32 → qh → Prop} {X : (qr → qh → Prop) → String → qh → Prop} (R : TR T) (hq : q_cir c) (hp : q_prg p) (he : q_end e) {D d : Nat} (hD : 5 ≤ D) (hd : 5 ≤ d)
    (k1 : ∀ a' fk' fp' na nr Nm hc' hm', T.k a' = 40 → HI T c p e hc0 hm0 a' 0 fk' fp' na nr 0 1 Nm hc' hm' → J (fun hx Q => F Q 1 (mg hc' hx)) (fun hx Q => q_N0 G m_X12_program (d + 2) Q 7 [.ref 43, .ref p, .int 0, .null] [] (mg hx hm')) P)
    (k2 : ∀ hc' hm', pFail c p e hc0 hm0 hc' hm' → J (fun hx Q => F Q 0 (mg hc' hx)) (fun hx Q => Q rxx (mg hx hm')) P)
    (k3 : ∀ a' fk' fp' nv' hc' hm', ¬ T.k a' = 40 → CSt T c a' 0 fk' fp' 0 [] 0 nv' 0 (-1) (-1) hc' → MFail 1 (T.p a') hm' → PFc c hc0 hc' → PFm p e hm0 hm' → J (fun hx Q => F Q 1 (mg hc' hx)) (fun hx Q => Q rxx (mg hx hm')) P) :
    ∀ (M a : Nat), T.n - a ≤ M → ∀ fk fp na nr Nm i hc hm, HI T c p e hc0 hm0 a 0 fk fp na nr 0 0 Nm hc hm → i ≤ a → J (fun hx Q => q_N0 G m_X2_readArrays (D + 2) (q_ri (F Q) (X Q)) 2 [.ref 21, .int (Int32.ofNat i)] [] (mg hc hx)) (fun hx Q => q_N0 G m_X12_program (d + 2) Q 7 [.ref 43, .ref p, .int 1, .null] [] (mg hx hm)) P
  | M, a, hM, fk, fp, na, nr, Nm, i, hc, hm, H, hi => by
    obtain ⟨x1, x2, ⟨e8, h8, e9, ep0, ep1⟩, ⟨b1, b2, b3, b4⟩, x4, x5, x6, x7⟩ := H
    have hn := R.2.1
    have hpl := prg_lt hp
    have hel := end_lt he
    have hc8 := cir_lt hq
    have hcl : c < 43 := by omega
    have hp0 : 43 ≤ p := by omega
    have h2001 : ¬ (2001 : Int32) ≤ Int32.ofNat i := fun q => absurd ((n_le (a := 2001) (by omega) (by omega)).mp q) (by omega)
    refine J.c (fun hx Q hF => x_X2_readArrays_2 G (D + 1) _ _ _ hF) ?_
    refine J.c2 h2001 ?_
    refine J.m (fun hx Q hF => x_X12_program_7 G (d + 1) p _ _ Q hp hF) ?_
    refine J.m2 (by decide) ?_
    by_cases k4 : T.k a = 4
    · have ha1 := tk_more' R b1 k4 (by decide)
      have hpn := tk_pn R ha1
      obtain ⟨h1, r1, r2, r3⟩ := c_pass (G := G) (d := D + 1) (by omega) x1.1 k4 ha1 hn
      have z1 := x1.r22 hq r2 r3
      obtain ⟨m1, l1, l2, l3⟩ := m_kindW (G := G) (d := d + 1) (k := 4) (by omega) R x2.1.1 b1 (by decide) (by decide) k4
      have y1 := x2.r43 hp l2 l3
      refine J.ci r1 (J.c2 (by decide) (J.mi l1 ?_))
      by_cases kn : T.k (a + 1) = 2
      · have ha2 : a + 2 < T.n := tk_more' R ha1 kn (by decide)
        have hpn2 : T.pn (a + 1) < T.pn (a + 2) := tk_pn R ha2
        obtain ⟨m2, s1, s2, s3⟩ := m_kind (G := G) (d := d + 1) (by omega) R y1.1.1 ha1 ((tk_name R ha1).mp kn)
        have y2 := y1.r43 hp s2 s3
        obtain ⟨h3, m3, f1, p1, u, N1, N2, N3, N4, N5, N6, N7, N8, N9, N10, N11, N12, N13, N14, N15⟩ := hd_name (G := G) (d := d + 1) R hq hp he (D := D + 1) (by omega) (by omega) z1 y2 ha1 kn (x4.next (by omega)) (fun h0 => ⟨(r3.xf hq).cn hq (x7 h0).2.1, (x7 h0).2.2.1⟩)
        refine J.ci N1 (J.c4 (by decide) (J.mi s1 (J.mv N2 ?_)))
        have pfc3 : PFc c hc0 h3 := x5.tr ((r3.pf hq).tr N7)
        have pfm3 : PFm p e hm0 m3 := x6.tr ((l3.pf hp).tr ((s3.pf hp).tr (N10.pf hp)))
        have e83 : h3.I c 8 = Int32.ofNat na := by rw [N9.2.2 8 (by omega), r3.1 c (by omega)]; exact e8
        have e93 : h3.I c 9 = Int32.ofNat 0 := by rw [N9.2.2 9 (by omega), r3.1 c (by omega)]; exact e9
        have ep03 : m3.I p 0 = Int32.ofNat nr := by rw [N10.1 p (by omega), s3.1 p (by omega), l3.1 p (by omega)]; exact ep0
        have ep13 : m3.I p 1 = Int32.ofNat 0 := by rw [N10.1 p (by omega), s3.1 p (by omega), l3.1 p (by omega)]; exact ep1
        have siz3 : ∀ j, h3.I (c + 6) j = hc.I (c + 6) j := fun j => by rw [N9.2.1, r3.1 _ (by omega)]
        have cel3 : ∀ j, m3.I (p + 1) j = hm.I (p + 1) j := fun j => by rw [N10.1 _ (by omega), s3.1 _ (by omega), l3.1 _ (by omega)]
        by_cases k91 : T.k (a + 2) = 91
        · have ha3 : a + 3 < T.n := tk_more' R ha2 k91 (by decide)
          have hpn3 : T.pn (a + 2) < T.pn (a + 3) := tk_pn R ha3
          have i40 := m_is0 (G := G) (d := d + 1) (by omega) R N4.1.1 ha2 (s := 40) (by decide) (show ¬ T.k (a + 2) = 40 by rw [k91]; decide)
          obtain ⟨u1, eu1⟩ : ∃ u1 : Int32, u1 = if na < 8 then 0 else 6 := ⟨_, rfl⟩
          obtain ⟨h4, A1, A2, A3⟩ := c_blame (G := G) (d := D + 1) (by omega) N3.1 u1 (T.p (a + 1))
          have z4 := N3.r22 hq A2 A3
          obtain ⟨h5, B1, B2, B3, B4, B5⟩ := sc_tell (G := G) (T := T) (d := D + 1) (by omega) hq z4 (T.v (a + 1)) 0 (Int32.ofNat na)
          have eif : ∀ hx, (if (mg h3 hx).I c 8 < 8 then (0 : Int32) else 6) = u1 := fun hx => by
            rw [eu1]; exact ite_n (b := 8) (by omega) (by decide) (by rw [cI hcl]; exact e83)
          have e84 : ∀ hx, (mg h4 hx).I c 8 = Int32.ofNat na := fun hx => by rw [cI hcl, A3.1 c (by omega)]; exact e83
          have eL4 : ∀ hx, (mg h4 hx).L 21 6 = T.v (a + 1) := fun hx => by rw [cL (by decide), A3.2.1 21 (by decide)]; exact N5
          have eI3 : ∀ hx, (mg h3 hx).I 21 7 = T.p (a + 1) := fun hx => by rw [cI (by decide)]; exact N6
          refine J.c1' (fun hx => (c_at N3 hx).trans k91) (J.cE c (J.ca' (fun hx => by rw [cRr (by decide)]; exact N3.2.2.2.2.2.1) (J.ca' (fun _ => hq) ?_)))
          refine J.c (fun hx Q hF => by rw [eif, eI3]; exact hF) ?_
          refine J.cv A1 (J.cE c (J.ca' (fun hx => by rw [cRr (by decide)]; exact z4.2.2.2.2.2.1) (J.ca' (fun _ => hq) ?_)))
          refine J.c (fun hx Q hF => by rw [e84, eL4]; exact hF) ?_
          refine J.cv B1 ?_
          refine J.mi i40 (J.m1 rfl ?_)
          refine J.c (fun hx Q hF => x_X2_readCells G D _ _ hF) ?_
          refine J.m (fun hx Q hF => x_X12_array G d _ _ _ hF) ?_
          refine J.mE p (J.ma' (fun hx => by rw [mRr (by decide)]; exact N4.1.2.2.2.2.1) (J.ma' (fun _ => hp) ?_))
          obtain ⟨h6, C1, C2, C3⟩ := c_enter (G := G) (d := D) (by omega) B2.1 k91 (by omega) ha3 hn
          have z6 := B2.r22 hq C2 C3
          obtain ⟨m4, t1, t2, t3⟩ := m_opens (G := G) (d := d) (by omega) R N4.1.1 ha2 (s := 91) (by decide) k91 (by omega)
          have y4 := N4.r43 hp t2 t3
          have eLv : ∀ hx, (mg h6 hx).L 22 5 = T.v (a + 3) := fun hx => by rw [cL (by decide)]; exact z6.1.1.2.2.2.2.1
          have eIp : ∀ hx, (mg h6 hx).I 22 4 = T.p (a + 3) := fun hx => by rw [cI (by decide)]; exact z6.1.1.2.2.2.1
          refine J.ci C1 (J.c4 (by decide) (J.mv t1 ?_))
          refine J.c (fun hx Q hF => by rw [eLv, eIp]; exact hF) ?_
          have pfc6 : PFc c hc0 h6 := pfc3.tr ((A3.pf hq).tr (B3.tr (C3.pf hq)))
          have pfm4 : PFm p e hm0 m4 := pfm3.tr (t3.pf hp)
          by_cases kn3 : T.k (a + 3) = 3
          · have ha4 : a + 4 < T.n := tk_more' R ha3 kn3 (by decide)
            have hpn4 : T.pn (a + 3) < T.pn (a + 4) := tk_pn R ha4
            obtain ⟨q, q1, q2, q3⟩ := R.2.2.2.2.2.2.1 (a + 3) ha3 kn3
            obtain ⟨h7, D1, D2, D3⟩ := c_pass (G := G) (d := D) (by omega) z6.1 kn3 ha4 hn
            have z7 := z6.r22 hq D2 D3
            obtain ⟨m5, v1, v2, v3⟩ := m_kind (G := G) (d := d) (by omega) R y4.1.1 ha3 ((tk_num R ha3).mp kn3)
            have y5 := y4.r43 hp v2 v3
            obtain ⟨u2, eu2⟩ : ∃ u2 : Int32, u2 = if 1 ≤ q ∧ q ≤ 256 then 0 else 6 := ⟨_, rfl⟩
            obtain ⟨h8', E1, E2, E3⟩ := c_blame (G := G) (d := D) (by omega) z7.1 u2 (T.p (a + 3))
            have z8 := z7.r22 hq E2 E3
            have e88 : h8'.I c 8 = Int32.ofNat na := by rw [E3.1 c (by omega), D3.1 c (by omega), C3.1 c (by omega), B4.2.2 8 (by omega), A3.1 c (by omega)]; exact e83
            obtain ⟨h9, na', G1, G2, G3, G4, G5, G6, G7, G8, G9, G10⟩ := sl_addArray (G := G) (d := D) (by omega) hq z8 e88 h8 (T.v (a + 3)).toInt32
            obtain ⟨h10, H1, H2, H3⟩ := c_leave (G := G) (d := D) (by omega) G2.1 (by omega)
            have z10 := G2.r22 hq H2 H3
            refine J.ci D1 (J.c4 (by decide) (J.mi v1 ?_))
            have c1' : (lg_cmp (T.v (a + 3)) 1 < 0) ↔ q < 1 := by rw [lg_cmp_lt, q3, l_lt q1 1 1 (by decide)]; omega
            have c2' : (lg_cmp (T.v (a + 3)) 256 ≤ 0) ↔ q ≤ 256 := by rw [lg_cmp_le, q3, l_le q1 256 256 (by decide)]; omega
            have pfc10 : PFc c hc0 h10 := pfc6.tr ((D3.pf hq).tr ((E3.pf hq).tr (G3.tr (H3.pf hq))))
            have pfm5 : PFm p e hm0 m5 := pfm4.tr (v3.pf hp)
            have tail : J (fun hx Q => q_M0 G D yX4_blame [.ref 22, .int u2, .int (T.p (a + 3))] (mg h7 hx) (q_rv (fun h5 => kCel G D (T.v (a + 3)).toInt32 h5 (q_ri (fun r11 h10 => (¬ r11 = 0 → (q_N0 G m_X2_readArrays (D + 2) (q_ri (F Q) (X Q)) 2 [.ref 21, .int (Int32.ofNat i + 1)] [] h10)) ∧ (r11 = 0 → (q_ri (F Q) (X Q) (.inl (some (.int 0))) h10))) (fun E h => q_ri (F Q) (X Q) (.inr E) h))) (fun E h => (q_ri (fun r11 h10 => (¬ r11 = 0 → (q_N0 G m_X2_readArrays (D + 2) (q_ri (F Q) (X Q)) 2 [.ref 21, .int (Int32.ofNat i + 1)] [] h10)) ∧ (r11 = 0 → (q_ri (F Q) (X Q) (.inl (some (.int 0))) h10))) (fun E h => q_ri (F Q) (X Q) (.inr E) h)) (.inr E) h))) (fun hx Q => q_M0 G d yX12_closes [.ref 43, .int 93] (mg hx m5) (q_rv (fun h5 => q_M0 G d yX12_wants [.ref 43, .int 59] h5 (q_rv (fun h6 => kArr G d p (Int32.ofNat (a + 1)) (Int32.ofNat (a + 3)) h6 (q_rv (fun h17 => q_N0 G m_X12_program (d + 2) Q 7 [.ref 43, .ref p, .int 1, .null] [] h17) (fun E h => Q (.inr E) h))) (fun E h => Q (.inr E) h))) (fun E h => Q (.inr E) h))) P := by
              refine J.cv E1 (J.cE c (J.ca' (fun hx => by rw [cRr (by decide)]; exact z8.2.2.2.2.2.1) (J.ca' (fun _ => hq) (J.cv G1 (J.cv H1 ?_)))))
              by_cases k93 : T.k (a + 4) = 93
              · have ha5 : a + 5 < T.n := tk_more' R ha4 k93 (by decide)
                have hpn5 : T.pn (a + 4) < T.pn (a + 5) := tk_pn R ha5
                obtain ⟨h11, I1, I2, I3⟩ := c_pass (G := G) (d := D) (by omega) z10.1 k93 ha5 hn
                have z11 := z10.r22 hq I2 I3
                obtain ⟨m6, w1, w2, w3⟩ := m_closes (G := G) (d := d) (by omega) R y5.1.1 ha4 (s := 93) (by decide) k93
                have y6 := y5.r43 hp w2 w3
                refine J.ci I1 (J.c2 (by decide) (J.mv w1 ?_))
                by_cases k59 : T.k (a + 5) = 59
                · have ha6 : a + 6 < T.n := tk_more' R ha5 k59 (by decide)
                  have hpn6 : T.pn (a + 5) < T.pn (a + 6) := tk_pn R ha6
                  obtain ⟨h12, K1, K2, K3⟩ := c_pass (G := G) (d := D) (by omega) z11.1 k59 ha6 hn
                  have z12 := z11.r22 hq K2 K3
                  obtain ⟨m7, o1, o2, o3⟩ := m_wants (G := G) (d := d) (by omega) R y6.1.1 ha5 (s := 59) (by decide) k59
                  have y7 := y6.r43 hp o2 o3
                  have ep07 : m7.I p 0 = Int32.ofNat nr := by rw [o3.1 p (by omega), w3.1 p (by omega), v3.1 p (by omega), t3.1 p (by omega)]; exact ep03
                  obtain ⟨m8, M1, M2, M3, M4, M5, M6⟩ := m_arrT (G := G) (d := d) (by omega) hp he R y7 (by omega) ha1 kn ha3 q1 q2 ep07 (by omega)
                  refine J.ci K1 (J.ca' (fun _ => Or.inr rfl) (J.c4 (by decide) ?_))
                  refine J.c (fun hx Q hF => by rw [n_add1]; exact hF) ?_
                  refine J.mv o1 (J.m (fun hx Q hF => M1 hx _ hF) ?_)
                  -- the same FAULT
                  have hfe : wK (wK f1 p1 (if nr < 8 then 0 else 6) (T.p (a + 1))) (wP f1 p1 (if nr < 8 then 0 else 6) (T.p (a + 1))) (if 1 ≤ q ∧ q ≤ 256 then 0 else 6) (T.p (a + 3)) = bK (bK f1 u1) u2 ∧ wP (wK f1 p1 (if nr < 8 then 0 else 6) (T.p (a + 1))) (wP f1 p1 (if nr < 8 then 0 else 6) (T.p (a + 1))) (if 1 ≤ q ∧ q ≤ 256 then 0 else 6) (T.p (a + 3)) = bP (bK f1 u1) (bP f1 p1 u1 (T.p (a + 1))) u2 (T.p (a + 3)) := by
                    have w5 : wK f1 p1 (if nr < 8 then 0 else 6) (T.p (a + 1)) = bK f1 (if nr < 8 then 0 else 6) ∧ wP f1 p1 (if nr < 8 then 0 else 6) (T.p (a + 1)) = bP f1 p1 (if nr < 8 then 0 else 6) (T.p (a + 1)) := by
                      by_cases h : nr < 8
                      · rw [if_pos h]; unfold wK wP bK bP; rw [if_pos rfl, if_pos rfl]
                        by_cases h0 : f1 = 0
                        · rw [if_pos h0, if_neg (fun w => w.2 rfl)]; exact ⟨h0, rfl⟩
                        · rw [if_neg h0, if_neg (fun w => h0 w.1)]; exact ⟨rfl, rfl⟩
                      · rw [if_neg h]; exact wK_eq' (N15 6 (Or.inr rfl))
                    have w6 : f1 = 0 → (if nr < 8 then (0 : Int32) else 6) = u1 := fun h0 => by
                      rw [eu1, (x7 (N14 h0).1).1]
                    obtain ⟨w7, w8⟩ := bK_sub (fp := p1) (p := T.p (a + 1)) w6
                    rw [w5.1, w5.2, w7, w8, ← eu2]
                    refine wK_eq (fun h0 => ?_)
                    have FG1 : FG T (a + 3) (bK f1 u1) (bP f1 p1 u1 (T.p (a + 1))) := (N13.next (show T.pn (a + 1 + 1) ≤ T.pn (a + 3) by show T.pn (a + 2) ≤ _; omega)).at R ha1 (by rw [eu1]; split; exact Or.inl rfl; exact Or.inr (by decide)) (by omega)
                    have := FG1.lt R ha3 h0
                    exact ⟨this.1, this.2.2⟩
                  rw [hfe.1, hfe.2] at M2
                  have FG6 : FG T (a + 6) (bK (bK f1 u1) u2) (bP (bK f1 u1) (bP f1 p1 u1 (T.p (a + 1))) u2 (T.p (a + 3))) := ((N13.next (show T.pn (a + 1 + 1) ≤ T.pn (a + 6) by show T.pn (a + 2) ≤ _; omega)).at R ha1 (by rw [eu1]; split; exact Or.inl rfl; exact Or.inr (by decide)) (by omega)).at R ha3 (by rw [eu2]; split; exact Or.inl rfl; exact Or.inr (by decide)) (by omega)
                  have rc12 : ∀ k, h12.I c k = h9.I c k := fun k => by rw [K3.1 c (by omega), I3.1 c (by omega), H3.1 c (by omega)]
                  have r612 : ∀ j, h12.I (c + 6) j = h9.I (c + 6) j := fun j => by rw [K3.1 _ (by omega), I3.1 _ (by omega), H3.1 _ (by omega)]
                  have HN : HI T c p e hc0 hm0 (a + 6) 0 (bK (bK f1 u1) u2) (bP (bK f1 u1) (bP f1 p1 u1 (T.p (a + 1))) u2 (T.p (a + 3))) na' (nr + 1) 0 0 ((a + 1, 0, Int32.ofNat nr) :: Nm) h12 m8 := by
                    refine ⟨z12, M2, ⟨by rw [rc12]; exact G5, G6, ?_, M4, ?_⟩, ⟨ha6, by rw [List.length_cons]; omega, by omega, by omega⟩, FG6, pfc10.tr ((I3.pf hq).tr (K3.pf hq)), pfm5.tr ((w3.pf hp).tr ((o3.pf hp).tr M3)), fun h0 => ?_⟩
                    · rw [rc12, G7, E3.1 c (by omega), D3.1 c (by omega), C3.1 c (by omega), B4.2.2 9 (by omega), A3.1 c (by omega)]; exact e93
                    · rw [M5, o3.1 p (by omega), w3.1 p (by omega), v3.1 p (by omega), t3.1 p (by omega)]; exact ep13
                    · obtain ⟨j1, j2⟩ := bK_zero h0
                      obtain ⟨j3, j4⟩ := bK_zero j1
                      obtain ⟨j5, j6⟩ := N14 j3
                      obtain ⟨d1, d2, d3, d4, d5, d6, d7⟩ := x7 j5
                      have hna : na < 8 := Classical.byContradiction fun w => by rw [eu1, if_neg w] at j4; exact absurd j4 (by decide)
                      have hq2 : 1 ≤ q ∧ q ≤ 256 := Classical.byContradiction fun w => by rw [eu2, if_neg w] at j2; exact absurd j2 (by decide)
                      obtain ⟨n1, n2, n3⟩ := G8 hna
                      have cn5 : CN T ((a + 1, 0, Int32.ofNat nr) :: Nm) h5 := by
                        rw [← d1]
                        exact B5 Nm (a + 1) ((A3.xf hq).cn hq (N8 Nm ((r3.xf hq).cn hq d2))) (by omega) rfl
                      refine ⟨by omega, (K3.xf hq).cn hq ((I3.xf hq).cn hq ((H3.xf hq).cn hq (G4 T _ ((E3.xf hq).cn hq ((D3.xf hq).cn hq ((C3.xf hq).cn hq cn5)))))), ⟨fun z hz hv => lk_none j6 z hz hv, d3⟩, by omega, by rw [List.length_cons]; omega, fun z hz => ?_, fun j hj => ?_⟩
                      · rcases List.mem_cons.mp hz with rfl | hz
                        · exact ⟨fun w => absurd w (show ¬ (0 : Int32) = 2 by decide), fun _ => ⟨nr, by omega, rfl⟩⟩
                        · obtain ⟨k5, k6⟩ := d6 z hz
                          exact ⟨k5, fun w => by obtain ⟨k7, k8, k9⟩ := k6 w; exact ⟨k7, by omega, k9⟩⟩
                      · rw [r612, M6]
                        by_cases hj2 : j = nr
                        · refine ⟨q, hq2.1, hq2.2, ?_, by rw [if_pos ⟨by omega, hj2⟩]⟩
                          rw [hj2, ← d1, n2, q3, Int32.toInt32_toInt64]
                        · obtain ⟨k, k1', k2', k3', k4'⟩ := d7 j (by omega)
                          refine ⟨k, k1', k2', ?_, ?_⟩
                          · rw [n3 j (by omega), E3.1 _ (by omega), D3.1 _ (by omega), C3.1 _ (by omega), B4.2.1, A3.1 _ (by omega), siz3]; exact k3'
                          · rw [if_neg (fun w => hj2 w.2), o3.1 _ (by omega), w3.1 _ (by omega), v3.1 _ (by omega), t3.1 _ (by omega), cel3]; exact k4'
                  exact j_arrays R hq hp he hD hd k1 k2 k3 (M - 6) (a + 6) (by omega) _ _ _ _ _ (i + 1) h12 m8 HN (by omega)
                · obtain ⟨h12, K1, K2, K3⟩ := c_passNo (G := G) (d := D) (by omega) z11.1 k59
                  obtain ⟨m7, o1, o2, o3⟩ := m_wantsNo (G := G) (d := d) (by omega) R y6.1.1 ha5 (s := 59) (by decide) k59
                  refine J.ci K1 (J.ca' (fun _ => Or.inl rfl) (J.c3 rfl ?_))
                  exact J.mxv o1 (k2 _ _ ⟨1, T.p (a + 5), Or.inl rfl, K2, o2, pfc10.tr ((I3.pf hq).tr (K3.pf hq)), pfm5.tr ((w3.pf hp).tr (o3.pf hp))⟩)
              · obtain ⟨h11, I1, I2, I3⟩ := c_passNo (G := G) (d := D) (by omega) z10.1 k93
                obtain ⟨m6, w1, w2, w3⟩ := m_closesNo (G := G) (d := d) (by omega) R y5.1.1 ha4 (s := 93) (by decide) k93
                refine J.ci I1 (J.c1 rfl (J.c3 rfl ?_))
                exact J.mxv w1 (k2 _ _ ⟨1, T.p (a + 4), Or.inl rfl, I2, w2, pfc10.tr (I3.pf hq), pfm5.tr (w3.pf hp)⟩)
            by_cases hq1 : q < 1
            · have eu : u2 = 6 := by rw [eu2, if_neg (by omega)]
              rw [eu] at tail
              exact J.c1 (c1'.mpr hq1) tail
            · refine J.c2 (fun w => hq1 (c1'.mp w)) ?_
              have eu : (if lg_cmp (T.v (a + 3)) 256 ≤ 0 then (0 : Int32) else 6) = u2 := by
                rw [eu2]
                by_cases h : q ≤ 256
                · rw [if_pos (c2'.mpr h), if_pos ⟨by omega, h⟩]
                · rw [if_neg (fun w => h (c2'.mp w)), if_neg (fun w => h w.2)]
              rw [eu]
              exact tail
          · obtain ⟨h7, D1, D2, D3⟩ := c_passNo (G := G) (d := D) (by omega) z6.1 kn3
            obtain ⟨m5, v1, v2, v3⟩ := m_kindNo (G := G) (d := d) (by omega) R y4.1.1 ha3 (fun q => kn3 ((tk_num R ha3).mpr q))
            refine J.ci D1 (J.c3 rfl (J.c3 rfl ?_))
            exact J.mxi v1 (k2 _ _ ⟨1, T.p (a + 3), Or.inl rfl, D2, v2, pfc6.tr (D3.pf hq), pfm4.tr (v3.pf hp)⟩)
        · have eL3 : ∀ hx, (mg h3 hx).L 21 6 = T.v (a + 1) := fun hx => by rw [cL (by decide)]; exact N5
          obtain ⟨h5, B1, B2, B3, B4, B5⟩ := sc_tell (G := G) (T := T) (d := D + 1) (by omega) hq N3 (T.v (a + 1)) 1 0
          refine J.c2' (fun hx => by rw [c_at N3 hx]; exact k91) ?_
          refine J.c (fun hx Q hF => by rw [eL3]; exact hF) ?_
          refine J.cv B1 ?_
          by_cases k40 : T.k (a + 2) = 40
          · have i40 := m_is1 (G := G) (d := d + 1) (by omega) R N4.1.1 ha2 (s := 40) (by decide) k40
            obtain ⟨m4, t1, t2, t3, t4⟩ := sm_told (G := G) (d := d + 1) (by omega) hp he N4 (by omega) (t := a + 1) (s := 1) (n := 0) ⟨ha1, kn, Or.inr (Or.inl rfl)⟩
            refine J.mi i40 (J.m2 (by decide) (J.mv t1 ?_))
            refine k1 (a + 2) f1 p1 na nr ((a + 1, 1, 0) :: Nm) h5 m4 k40 ⟨B2, t2, ⟨by rw [B4.2.2 8 (by omega)]; exact e83, h8, by rw [B4.2.2 9 (by omega)]; exact e93, by rw [(t4 0).2.2.2 0 (by omega)]; exact ep03, by rw [(t4 0).2.2.2 1 (by omega)]; exact ep13⟩, ⟨ha2, by rw [List.length_cons]; omega, by omega, by omega⟩, N13, pfc3.tr B3, pfm3.tr t3, fun h0 => ?_⟩
            obtain ⟨j5, j6⟩ := N14 h0
            obtain ⟨d1, d2, d3, d4, d5, d6, d7⟩ := x7 j5
            refine ⟨d1, B5 Nm (a + 1) (N8 Nm ((r3.xf hq).cn hq d2)) (by omega) rfl, ⟨fun z hz hv => lk_none j6 z hz hv, d3⟩, by omega, by rw [List.length_cons]; omega, fun z hz => ?_, fun j hj => ?_⟩
            · rcases List.mem_cons.mp hz with rfl | hz
              · exact ⟨fun w => absurd w (show ¬ (1 : Int32) = 2 by decide), fun w => absurd w (show ¬ (1 : Int32) = 0 by decide)⟩
              · exact d6 z hz
            · obtain ⟨k, k1', k2', k3', k4'⟩ := d7 j hj
              exact ⟨k, k1', k2', by rw [B4.2.1, siz3]; exact k3', by rw [(t4 0).2.2.1, cel3]; exact k4'⟩
          · have i40 := m_is0 (G := G) (d := d + 1) (by omega) R N4.1.1 ha2 (s := 40) (by decide) k40
            obtain ⟨m4, t1, t2, t3⟩ := m_opensNo (G := G) (d := d) (by omega) R N4.1.1 ha2 (s := 91) (by decide) k91
            refine J.mi i40 (J.m1 rfl ?_)
            refine J.m (Wm' := fun hx Q => Q rxx (mg hx m4)) (fun hx Q hF => x_X12_array G d _ _ _ ⟨p, by rw [mRr (by decide)]; exact N4.1.2.2.2.2.1, hp, t1 hx _ hF⟩) ?_
            exact k3 (a + 2) f1 p1 0 h5 m4 k40 B2 t2 (pfc3.tr B3) (pfm3.tr (t3.pf hp))
      · obtain ⟨h2, g1, g2, g3⟩ := sc_nameNo (G := G) (d := D + 1) (by omega) hq z1 kn
        obtain ⟨m2, s1, s2, s3⟩ := m_kindNo (G := G) (d := d + 1) (by omega) R y1.1.1 ha1 (fun q => kn ((tk_name R ha1).mpr q))
        refine J.ci g1 (J.c3 rfl ?_)
        exact J.mxi s1 (k2 _ _ ⟨1, T.p (a + 1), Or.inl rfl, g2, s2, x5.tr ((r3.pf hq).tr g3), x6.tr ((l3.pf hp).tr (s3.pf hp))⟩)
    · obtain ⟨h1, r1, r2, r3⟩ := c_passNo (G := G) (d := D + 1) (by omega) x1.1 k4
      obtain ⟨m1, l1, l2, l3⟩ := m_kindNo (G := G) (d := d + 1) (by omega) R x2.1.1 b1 (s := 5) (fun q => k4 ((tk_word R b1 (s := 4) (by decide) (by decide)).mpr q))
      refine J.ci r1 (J.c1 rfl ?_)
      exact J.mxi l1 (k2 _ _ ⟨1, T.p a, Or.inl rfl, r2, l2, x5.tr (r3.pf hq), x6.tr (l3.pf hp)⟩)
termination_by M a => T.n - a
decreasing_by all_goals omega
end HEAD
