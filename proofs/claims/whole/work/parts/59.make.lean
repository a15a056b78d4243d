/-! ===== a PROGRAM: make against program ===== -/
def VP (np : Nat) (y : Int32) : Prop := ∃ k : Nat, k < np ∧ y = Int32.ofNat k
/-- the circuit c is what the reference's program p means -/
def PR (c p e na np nv nl P jn : Nat) (hc hm : qh) : Prop :=
  (hc.I c 6 = Int32.ofNat P ∧ P ≤ 1400 ∧ hc.I c 7 = Int32.ofNat jn ∧ jn ≤ 80) ∧ (hc.I c 8 = Int32.ofNat na ∧ hm.I p 0 = Int32.ofNat na ∧ na ≤ 8) ∧ (hc.I c 9 = Int32.ofNat np ∧ hm.I p 1 = Int32.ofNat np ∧ np ≤ 4) ∧ (hc.I c 10 = Int32.ofNat nv ∧ hm.I p 2 = Int32.ofNat nv ∧ nv ≤ 16 ∧ np ≤ nv) ∧ (hc.I c 11 = Int32.ofNat nl ∧ hm.I p 3 = Int32.ofNat nl ∧ nl ≤ 40) ∧
  (∀ j, j < na → ∃ k : Nat, 1 ≤ k ∧ k ≤ 256 ∧ hc.I (c + 6) j = Int32.ofNat k ∧ hm.I (p + 1) j = Int32.ofNat k) ∧
  ∃ L st N b, st ≤ 2000 ∧ N ≤ 2000 ∧ pAt hc c 0 = stp ∧ LC p hm st (fun V t x y => SC c p e hc hm (AK na) st N 0 jn 16 V t x y (-1) (-1)) (VP np) L (hm.I p 7) 1 b (-1) ∧ pAt hc c b = (1, -1, -1, 0) ∧ pAt hc c (b + 1) = (9, Int32.ofNat b, -1, -1) ∧ P = b + 2
def PGc (c : Nat) (h h' : qh) : Prop := (∀ o, ¬ (21 ≤ o ∧ o ≤ 30) → ¬ (c ≤ o ∧ o ≤ c + 6) → h'.I o = h.I o) ∧ (∀ o, ¬ (21 ≤ o ∧ o ≤ 30) → h'.L o = h.L o) ∧ (∀ o, o ≠ 21 → o ≠ 27 → h'.R o = h.R o)
theorem PFc.pg {c : Nat} {h h1 h2 : qh} (a : PGc c h h1) (b : PFc c h1 h2) : PGc c h h2 := ⟨fun o e1 e2 => (b.1 o e1 e2).trans (a.1 o e1 e2), fun o e => (b.2.1 o e).trans (a.2.1 o e), fun o e1 e2 => by rw [b.2.2.1]; exact a.2.2 o e1 e2⟩
def mkP (c p e : Nat) (hc hm : qh) : qr → qh → qr → qh → Prop := fun rc hc' rm hm' => rc = rvv ∧ PGc c hc hc' ∧ PFm p e hm hm' ∧
  ((rm = rvv ∧ ∃ fk fp, hc'.I 22 6 = fk ∧ hc'.I 22 7 = fp ∧ hm'.I 43 17 = 0 ∧ hm'.I 43 19 = fk ∧ (¬ fk = 0 → hm'.I 43 20 = fp ∧ ¬ fk ≤ 0) ∧ (fk = 0 → fp = -1 ∧ ∃ na np nv nl P jn, PR c p e na np nv nl P jn hc' hm')) ∨ (rm = rxx ∧ ∃ k t, (k = 1 ∨ k = 7) ∧ CFail k t hc' ∧ MFail k t hm'))
section MAKE
variable {G : qG} {T : tkD} {c p e : Nat} {hc hm : qh}
/-- laying the last two parts, wherever the reading ended -/
theorem mk_lay2 {d : Nat} (hd : 1 ≤ d) (hq : q_cir c) {h : qh} (x : cOK c h) (k l r t : Int32) : ∃ h' v, cR G d yX0_lay [.ref c, .int k, .int l, .int r, .int t] h (riv v) h' ∧ Rc c h h' := by
  obtain ⟨d, rfl⟩ := Nat.exists_eq_add_of_le' hd
  have hc8 := cir_lt hq
  obtain ⟨P, hP, eP⟩ := x
  by_cases h14 : P < 1400
  · refine ⟨((((h.sI (c + 1) P k).sI (c + 2) P l).sI (c + 3) P r).sI (c + 4) P t).sI c 6 (Int32.ofNat (P + 1)), Int32.ofNat P, fun hx Q hQ => ?_, (((Rc.sI c _ _ _ _ (Or.inl (by omega))).tr (Rc.sI c _ _ _ _ (Or.inl (by omega)))).tr ((Rc.sI c _ _ _ _ (Or.inl (by omega))).tr (Rc.sI c _ _ _ _ (Or.inl (by omega))))).tr (Rc.sI c _ _ _ _ (Or.inr ⟨rfl, rfl, P + 1, h14, rfl⟩))⟩
    refine x_X0_lay G d c k l r t _ Q hq ⟨fun _ => ?_, fun q => absurd ?_ q⟩
    · have hin := n_in (a := P) (n := 1400) (by omega) h14
      rw [mg_I, if_pos (by omega), eP, n_add1, n_sub1, n_N (by omega), mg_sI_c (by omega), mg_sI_c (by omega), mg_sI_c (by omega), mg_sI_c (by omega), mg_sI_c (by omega)]
      exact ⟨hin, hin, hin, hin, hQ⟩
    · rw [mg_I, if_pos (by omega), eP]
      exact (n_lt (b := 1400) (by omega) (by omega)).mpr h14
  · refine ⟨h, -1, fun hx Q hQ => ?_, Rc.rf _ _⟩
    refine x_X0_lay G d c k l r t _ Q hq ⟨fun q => absurd q ?_, fun _ => hQ⟩
    rw [mg_I, if_pos (by omega), eP]
    exact fun q => h14 ((n_lt (b := 1400) (by omega) (by omega)).mp q)
/-- the reading begins -/
theorem c_begin {d : Nat} (hd : 2 ≤ d) (R : TR T) (t1 : hc.I 17 6 = Int32.ofNat T.n) (t2 : hc.I 18 = T.k) (t3 : hc.I 19 = T.p) (t4 : hc.L 20 = T.v) : ∃ hc', cR G d yX4_begin [.ref 22] hc rvv hc' ∧ CB T 0 0 0 (-1) hc' ∧ R22 hc hc' := by
  obtain ⟨d, rfl⟩ := Nat.exists_eq_add_of_le' hd
  have hn := R.2.1
  have h1 := R.1
  obtain ⟨h0, e0⟩ : ∃ h0, h0 = (((hc.sI 22 2 0).sI 22 6 0).sI 22 7 (-1)).sI 22 1 (-1) := ⟨_, rfl⟩
  have r0 : R22 hc h0 := by rw [e0]; exact ((R22.sI _ _ _).tr (R22.sI _ _ _)).tr ((R22.sI _ _ _).tr (R22.sI _ _ _))
  have a1 : h0.I 22 1 + 1 = Int32.ofNat 0 := by rw [e0, sI_I, if_pos ⟨rfl, rfl⟩]; rfl
  refine ⟨(((h0.sI 22 1 (Int32.ofNat 0)).sI 22 3 (T.k 0)).sI 22 4 (T.p 0)).sL 22 5 (T.v 0), fun hx Q hQ => ?_, ?_, r0.tr (((R22.sI _ _ _).tr (R22.sI _ _ _)).tr ((R22.sI _ _ _).tr (R22.sL _ _ _)))⟩
  · refine x_X4_begin G (d + 1) _ Q ?_
    rw [mg_sI_c (by decide), mg_sI_c (by decide), mg_sI_c (by decide), mg_sI_c (by decide), ← e0]
    refine x_X4_advance G d _ _ ?_
    rw [cI (by decide), cI (by decide), a1, r0.1 17 (by decide), t1, cI (by decide), r0.1 18 (by decide), t2, cI (by decide), r0.1 19 (by decide), t3, cL (by decide), r0.2.1 20 (by decide), t4, n_N (by decide), mg_sI_c (by decide), mg_sI_c (by decide), mg_sI_c (by decide), mg_sL_c (by decide)]
    have hin := n_in (a := 0) (n := 2001) (by omega) (by omega)
    exact ⟨fun q => absurd ((n_le (by omega) (by omega)).mp q) (by omega), fun _ => ⟨fun q => absurd ((n_le (a := 2001) (by omega) (by omega)).mp q) (by omega), fun _ => ⟨hin, hin, hin, hQ⟩⟩⟩
  · simp only [CB, sL_I, sI_L, sI_I, sL_L, Nat.reduceEqDiff, and_true, and_false, and_self, if_true, if_false, e0]
    refine ⟨?_, t1, ?_, ?_, ?_⟩
    · refine ⟨trivial, ?_⟩
      first | rfl | exact ⟨rfl, trivial⟩ | trivial
    · rw [sI_row _ (by decide), sI_row _ (by decide), sI_row _ (by decide), sI_row _ (by decide), sI_row _ (by decide), sI_row _ (by decide), sI_row _ (by decide)]; exact t2
    · rw [sI_row _ (by decide), sI_row _ (by decide), sI_row _ (by decide), sI_row _ (by decide), sI_row _ (by decide), sI_row _ (by decide), sI_row _ (by decide)]; exact t3
    · rw [sL_row _ (by decide)]; exact t4
set_option maxRecDepth 100000 in
theorem j_make (R : TR T) (hq : q_cir c) (hp : q_prg p) (he : q_end e) {D d : Nat} (hD : 80 ≤ D) (hd : 330 ≤ d) (t1 : hc.I 17 6 = Int32.ofNat T.n) (t2 : hc.I 18 = T.k) (t3 : hc.I 19 = T.p) (t4 : hc.L 20 = T.v) (m : MSt T p e 0 0 0 (-1) 0 [] [] 0 0 0 0 hm) (m0 : hm.I p 0 = Int32.ofNat 0) (m1 : hm.I p 1 = Int32.ofNat 0) :
    J (fun hx Q => q_M0 G D yX2_make [.ref 21, .ref c] (mg hc hx) Q) (fun hx Q => q_M0 G d yX12_program [.ref 43] (mg hx hm) Q) (mkP c p e hc hm) := by
  obtain ⟨D, rfl⟩ : ∃ D', D = D' + 3 := ⟨D - 3, by omega⟩
  obtain ⟨d, rfl⟩ : ∃ d', d = d' + 2 := ⟨d - 2, by omega⟩
  have hn := R.2.1
  have hn1 := R.1
  have hpl := prg_lt hp
  have hel := end_lt he
  have hc8 := cir_lt hq
  have hcl : c < 43 := by omega
  have hp0 : 43 ≤ p := by omega
  -- all is laid anew
  obtain ⟨h1, e1⟩ : ∃ h1, h1 = ((((((hc.sR 21 3 (some c)).sI c 6 0).sI c 7 0).sI c 8 0).sI c 9 0).sI c 10 0).sI c 11 0 := ⟨_, rfl⟩
  have o1 : ∀ o, o ≠ c → h1.I o = hc.I o := fun o ho => by rw [e1, sI_row _ ho, sI_row _ ho, sI_row _ ho, sI_row _ ho, sI_row _ ho, sI_row _ ho, sR_I]
  obtain ⟨h2, B1, B2, B3⟩ := c_begin (G := G) (hc := h1) (d := D + 2) (by omega) R (by rw [o1 _ (by omega)]; exact t1) (by rw [o1 _ (by omega)]; exact t2) (by rw [o1 _ (by omega)]; exact t3) (by rw [e1]; exact t4)
  obtain ⟨h3, e3⟩ : ∃ h3, h3 = ((((h2.sI 23 3 0).sR 27 5 (some c)).sI 27 8 0).sI 21 4 (-1)).sI 21 5 (-1) := ⟨_, rfl⟩
  have o3 : ∀ o, o ≠ 21 → o ≠ 23 → o ≠ 27 → h3.I o = h2.I o := fun o a1 a2 a3 => by rw [e3, sI_row _ a1, sI_row _ a1, sI_row _ a3, sR_I, sI_row _ a2]
  have l3 : h3.L = h2.L := by rw [e3]; rfl
  have R3 : ∀ o k, h3.R o k = if o = 27 ∧ k = 5 then some c else h2.R o k := fun o k => by rw [e3]; rfl
  have cS : CSt T c 0 0 0 (-1) 0 [] 0 0 0 (-1) (-1) h3 := by
    have rc : ∀ k, h3.I c k = h1.I c k := fun k => by rw [o3 c (by omega) (by omega) (by omega), B3.1 c (by omega)]
    refine ⟨B2.to (o3 _ (by decide) (by decide) (by decide)) (by rw [l3]) (o3 _ (by decide) (by decide) (by decide)) (o3 _ (by decide) (by decide) (by decide)) (o3 _ (by decide) (by decide) (by decide)) (by rw [l3]), ?_, ⟨?_, Nat.zero_le _, trivial⟩, ⟨0, by decide, ?_⟩, ?_, ?_, ?_, ?_, ?_, ?_, ?_⟩
    · rw [e3]; simp only [sI_I, Nat.reduceEqDiff, false_and, and_self, if_true, if_false]; rfl
    · rw [rc, e1]; simp only [sI_I, Nat.reduceEqDiff, and_false, and_self, if_true, if_false]; rfl
    · rw [e3]; simp only [sI_I, sR_I, Nat.reduceEqDiff, false_and, and_self, if_true, if_false]; rfl
    · rw [R3]; exact if_pos ⟨rfl, rfl⟩
    · rw [R3, if_neg (by decide), B3.2.2, e1]; rfl
    · rw [rc, e1]; simp only [sI_I, Nat.reduceEqDiff, and_false, and_self, if_true, if_false]; rfl
    · rw [rc, e1]; simp only [sI_I, Nat.reduceEqDiff, and_false, and_self, if_true, if_false]; rfl
    · rw [rc, e1]; simp only [sI_I, Nat.reduceEqDiff, and_false, and_self, if_true, if_false]; rfl
    · rw [e3]; simp only [sI_I, Nat.reduceEqDiff, and_false, and_self, if_true, if_false]
    · rw [e3]; simp only [sI_I, Nat.reduceEqDiff, and_false, and_self, if_true, if_false]
  have c89 : h3.I c 8 = Int32.ofNat 0 ∧ h3.I c 9 = Int32.ofNat 0 := by
    have rc : ∀ k, h3.I c k = h1.I c k := fun k => by rw [o3 c (by omega) (by omega) (by omega), B3.1 c (by omega)]
    refine ⟨?_, ?_⟩
    · rw [rc, e1]; simp only [sI_I, Nat.reduceEqDiff, and_false, and_self, if_true, if_false]; rfl
    · rw [rc, e1]; simp only [sI_I, Nat.reduceEqDiff, and_false, and_self, if_true, if_false]; rfl
  have cn0 : CN T [] h3 := ⟨by rw [e3]; simp only [sI_I, sR_I, Nat.reduceEqDiff, false_and, and_self, if_true, if_false]; rfl, Nat.zero_le _, trivial⟩
  have pg : PGc c hc h3 := by
    refine ⟨fun o a1 a2 => ?_, fun o a1 => ?_, fun o a1 a2 => ?_⟩
    · rw [o3 o (by omega) (by omega) (by omega), B3.1 o (by omega), o1 o (by omega)]
    · rw [l3, B3.2.1 o (by omega), e1]; rfl
    · funext k
      rw [R3, if_neg (fun w => a2 w.1), B3.2.2, e1]
      show (hc.sR 21 3 (some c)).R o k = _
      rw [sR_R, if_neg (fun w => a1 w.1)]
  have H0 : HI T c p e h3 hm 0 0 0 (-1) 0 0 0 0 [] h3 hm := ⟨cS, m, ⟨c89.1, by decide, c89.2, m0, m1⟩, ⟨by omega, Nat.le_refl _, Nat.le_refl _, Nat.le_refl _⟩, Or.inl ⟨rfl, rfl⟩, PFc.rf _ _, PFm.rf _ _ _, fun _ => ⟨rfl, cn0, trivial, by decide, Nat.le_refl _, (fun z hz => by cases hz), fun j hj => by omega⟩⟩
  have ck3 : cOK c h3 := ⟨0, by decide, cS.2.2.1.1⟩
  have endF : ∀ hc' hm', pFail c p e h3 hm hc' hm' → mkP c p e hc hm rvv hc' rxx hm' := fun hc' hm' ⟨k, t, q1, q2, q3, q4, q5⟩ => ⟨rfl, q4.pg pg, q5, Or.inr ⟨rfl, k, t, q1, q2, q3⟩⟩
  refine J.c (fun hx Q hF => x_X2_make G (D + 2) c _ Q hq hF) ?_
  refine J.c (Wc' := fun hx Q => q_M0 G (D + 2) yX2_readArrays [.ref 21] (mg h3 hx) (q_ri (fun r6 h5 => (r6 = 0 → (Q (.inl none) h5)) ∧ (¬ r6 = 0 → (q_M0 G (D + 2) yX2_readParameters [.ref 21] h5 (q_ri (fun r8 h7 => (r8 = 0 → (Q (.inl none) h7)) ∧ (¬ r8 = 0 → (∃ c9, h7.R 21 3 = some c9 ∧ q_cir c9 ∧ (q_M0 G (D + 2) yX0_lay [.ref c9, .int 7, .int (-1), .int (-1), .int (-1)] h7 (q_ri (fun r11 h10 => q_M0 G (D + 2) yX2_readBlock [.ref 21] h10 (q_ri (fun r13 h12 => (r13 = 0 → (∃ c14, h12.R 21 3 = some c14 ∧ q_cir c14 ∧ (q_M0 G (D + 2) yX0_lay [.ref c14, .int 1, .int (-1), .int (-1), .int 0] h12 (q_ri (fun r16 h15 => q_M0 G (D + 2) yX0_lay [.ref c14, .int 9, .int r16, .int (-1), .int (-1)] h15 (q_ri (fun r18 h17 => Q (.inl none) h17) (fun E h => Q (.inr E) h))) (fun E h => Q (.inr E) h))))) ∧ (¬ r13 = 0 → (((h12.I 22 3) = 0 → (∃ c19, h12.R 21 3 = some c19 ∧ q_cir c19 ∧ (q_M0 G (D + 2) yX0_lay [.ref c19, .int 1, .int (-1), .int (-1), .int 0] h12 (q_ri (fun r21 h20 => q_M0 G (D + 2) yX0_lay [.ref c19, .int 9, .int r21, .int (-1), .int (-1)] h20 (q_ri (fun r23 h22 => Q (.inl none) h22) (fun E h => Q (.inr E) h))) (fun E h => Q (.inr E) h))))) ∧ (¬ (h12.I 22 3) = 0 → (q_M0 G (D + 2) yX4_refuse [.ref 22] h12 (q_ri (fun r25 h24 => ∃ c26, h24.R 21 3 = some c26 ∧ q_cir c26 ∧ (q_M0 G (D + 2) yX0_lay [.ref c26, .int 1, .int (-1), .int (-1), .int 0] h24 (q_ri (fun r28 h27 => q_M0 G (D + 2) yX0_lay [.ref c26, .int 9, .int r28, .int (-1), .int (-1)] h27 (q_ri (fun r30 h29 => Q (.inl none) h29) (fun E h => Q (.inr E) h))) (fun E h => Q (.inr E) h)))) (fun E h => Q (.inr E) h))))))) (fun E h => Q (.inr E) h))) (fun E h => Q (.inr E) h)))))) (fun E h => Q (.inr E) h))))) (fun E h => Q (.inr E) h))) (fun hx Q hF => ?_) ?_
  · rw [mg_sR_c (by decide)]
    refine x_X0_clear G (D + 1) c _ _ hq ?_
    rw [mg_sI_c hcl, mg_sI_c hcl, mg_sI_c hcl, mg_sI_c hcl, mg_sI_c hcl, mg_sI_c hcl, ← e1]
    refine B1 hx _ ⟨c, by rw [cRr (by decide), B3.2.2, e1]; rfl, hq, ?_⟩
    rw [mg_sI_c (by decide)]
    refine x_X1_begin G (D + 1) c _ _ hq ?_
    rw [mg_sR_c (by decide), mg_sI_c (by decide)]
    show q_M0 G (D + 2) yX2_readArrays [.ref 21] (((mg (((h2.sI 23 3 0).sR 27 5 (some c)).sI 27 8 0) hx).sI 21 4 (-1)).sI 21 5 (-1)) _
    rw [mg_sI_c (by decide), mg_sI_c (by decide), ← e3]
    exact hF
  refine J.c (fun hx Q hF => x_X2_readArrays G (D + 1) _ _ hF) ?_
  refine J.m (fun hx Q hF => x_X12_program G (d + 1) _ _ ⟨p, by rw [mRr (by decide)]; exact m.1.2.2.2.2.1, hp, hF⟩) ?_
  -- behind the head
  have tail : ∀ a fk fp na nr np Nm hc' hm', HI T c p e h3 hm a 0 fk fp na nr np 1 Nm hc' hm' → J (fun hx Q => ∃ c9, (mg hc' hx).R 21 3 = some c9 ∧ q_cir c9 ∧ (q_M0 G (D + 2) yX0_lay [.ref c9, .int 7, .int (-1), .int (-1), .int (-1)] (mg hc' hx) (q_ri (fun r11 h10 => q_M0 G (D + 2) yX2_readBlock [.ref 21] h10 (q_ri (fun r13 h12 => (r13 = 0 → (∃ c14, h12.R 21 3 = some c14 ∧ q_cir c14 ∧ (q_M0 G (D + 2) yX0_lay [.ref c14, .int 1, .int (-1), .int (-1), .int 0] h12 (q_ri (fun r16 h15 => q_M0 G (D + 2) yX0_lay [.ref c14, .int 9, .int r16, .int (-1), .int (-1)] h15 (q_ri (fun r18 h17 => Q (.inl none) h17) (fun E h => Q (.inr E) h))) (fun E h => Q (.inr E) h))))) ∧ (¬ r13 = 0 → (((h12.I 22 3) = 0 → (∃ c19, h12.R 21 3 = some c19 ∧ q_cir c19 ∧ (q_M0 G (D + 2) yX0_lay [.ref c19, .int 1, .int (-1), .int (-1), .int 0] h12 (q_ri (fun r21 h20 => q_M0 G (D + 2) yX0_lay [.ref c19, .int 9, .int r21, .int (-1), .int (-1)] h20 (q_ri (fun r23 h22 => Q (.inl none) h22) (fun E h => Q (.inr E) h))) (fun E h => Q (.inr E) h))))) ∧ (¬ (h12.I 22 3) = 0 → (q_M0 G (D + 2) yX4_refuse [.ref 22] h12 (q_ri (fun r25 h24 => ∃ c26, h24.R 21 3 = some c26 ∧ q_cir c26 ∧ (q_M0 G (D + 2) yX0_lay [.ref c26, .int 1, .int (-1), .int (-1), .int 0] h24 (q_ri (fun r28 h27 => q_M0 G (D + 2) yX0_lay [.ref c26, .int 9, .int r28, .int (-1), .int (-1)] h27 (q_ri (fun r30 h29 => Q (.inl none) h29) (fun E h => Q (.inr E) h))) (fun E h => Q (.inr E) h)))) (fun E h => Q (.inr E) h))))))) (fun E h => Q (.inr E) h))) (fun E h => Q (.inr E) h)))) (fun hx Q => kEnd G (d + 1) p (mg hx hm') Q) (mkP c p e hc hm) := by
    intro a fk fp na nr np Nm hc' hm' H
    obtain ⟨x1, x2, ⟨e8, h8, e9, ep0, ep1⟩, ⟨b1, b2, b3, b4⟩, x4, x5, x6, x7⟩ := H
    obtain ⟨h5, v5, Pt5, C1, C2, C3, C4, C5⟩ := sl_lay (G := G) (d := D + 2) (by omega) hq x1 7 (-1) (-1) (-1)
    obtain ⟨-, eP5⟩ := C4 (by show (0 : Nat) < 1400; decide)
    refine J.cE c (J.ca' (fun hx => by rw [cRr (by decide)]; exact x1.2.2.2.2.2.1) (J.ca' (fun _ => hq) (J.ci C1 ?_)))
    unfold kEnd
    have IH : ∀ a', a < a' → stS G T c p e na h3 hm a' := fun a' _ => st_all R hq hp he (T.n - a') a' (Nat.le_refl _)
    have hb := j_block (G := G) (na := na) (hc0 := h3) (hm0 := hm) (d := d + 1) (D := D + 2) R hq hp he IH (by omega) (by omega) C2 x2 b1 (by omega) (Nat.zero_le _) (Nat.zero_le _) (Nat.zero_le _) b3 (Nat.zero_le _) b2 (Nat.zero_le _) (by omega) x4 (x5.tr C3.xf.pf) x6 (fun h0 => by
      obtain ⟨d1, d2, d3, d4, d5, d6, d7⟩ := x7 h0
      exact ⟨by omega, C3.xf.cn hq d2, d3, by omega, by omega, by omega, by rw [eP5]; simp, by omega, d6, fun _ => ⟨rfl, rfl⟩, fun w => absurd rfl w⟩)
    refine J.callii hb ?_ ?_
    · rintro x hc2 hm2 ⟨a', fk', fp', wk', Pt', Cd', st', nv', nl', jn', q1, ⟨y1, y2, ⟨u1, u2, u3, u4, u5, u6, u7, u8, u9, u10⟩, y4, y5, y6, y7⟩, q3, q4⟩
      refine J.c2 (by decide) (J.ma' (fun hx => (m_at R y2 u1 hx).2.1) ?_)
      have eF : ∀ hx, (mg hx hm2).sI p 7 x = mg hx (hm2.sI p 7 x) := fun hx => mg_sI_m hp0 _ _ _ _
      have pf7 : PFm p e hm2 (hm2.sI p 7 x) := PFm.sI hp he _ _ _ _ (by omega)
      have y7F := y2.s0 hp (k := 7) (by omega) x
      by_cases k0 : T.k a' = 0
      · obtain ⟨h6, v6, Pt6, F1, F2, F3, F4, F5⟩ := sl_lay (G := G) (d := D + 2) (by omega) hq y1 1 (-1) (-1) 0
        obtain ⟨h7, v7, Pt7, G1, G2, G3, G4, G5⟩ := sl_lay (G := G) (d := D + 2) (by omega) hq F2 9 v6 (-1) (-1)
        refine J.c1' (fun hx => (c_at y1 hx).trans k0) (J.cE c (J.ca' (fun hx => by rw [cRr (by decide)]; exact y1.2.2.2.2.2.1) (J.ca' (fun _ => hq) (J.ci F1 (J.ci G1 ?_)))))
        refine J.m1' (fun hx => (m_at R y2 u1 hx).2.2.1.trans ((tk_end R u1).mp k0)) ?_
        refine J.m (Wm' := fun hx Q => Q rvv (mg hx (hm2.sI p 7 x))) (fun hx Q hF => by rw [eF]; exact hF) ?_
        refine J.end ⟨rfl, (y5.tr (F3.xf.pf.tr G3.xf.pf)).pg pg, y6.tr pf7, Or.inl ⟨rfl, fk', fp', G2.1.1.2.2.2.2.2.1, G2.1.1.2.2.2.2.2.2, y7F.1.1.1.2.2.2.2, y7F.1.1.1.2.2.1, fun h0 => ⟨y7F.1.1.1.2.2.2.1 h0, ?_⟩, fun h0 => ⟨?_, ?_⟩⟩⟩
        · rcases y4 with ⟨w, -⟩ | ⟨w, -⟩
          · exact absurd w h0
          · exact w
        · rcases y4 with ⟨-, w⟩ | ⟨w, -⟩
          · exact w
          · exact absurd (by rw [h0]; decide) w
        · obtain ⟨⟨K1, K2, K3, K4, K5, K6, ⟨Ce, K7⟩, ⟨Pe, K8⟩, K9, K10⟩, L, L1, L2⟩ := q4 h0
          obtain ⟨d1, d2, d3, d4, d5, d6, d7⟩ := x7 K1
          have hex := (y7 h0).ex R u1
          have hnv := (y7 h0).2.2.2.1
          have hnl := (y7 h0).2.2.2.2.1
          obtain ⟨w1, w2⟩ := F4 (by omega)
          obtain ⟨-, w4⟩ := G4 (by rw [w2, List.length_cons]; omega)
          have xf : CXF c hc2 h7 := F3.xf.tr G3.xf
          have pr7 : prts h7 c ((9, v6, -1, -1) :: (1, -1, -1, 0) :: Pt') := by rw [← w2, ← w4]; exact G2.2.2.1.2.2
          have prt' : prts h7 c Pt' := prts_tail (X := [_, _]) pr7
          have l5 : Pt5.length = 1 := by rw [eP5]; rfl
          refine ⟨na, np, nv', nl', Pt'.length + 2, jn', ⟨?_, ?_, G2.2.2.2.2.2.2.1, u10⟩, ⟨?_, ?_, h8⟩, ⟨?_, ?_, d4⟩, ⟨G2.2.2.2.2.2.2.2.1, y7F.2.2.1, hnv, K6⟩, ⟨G2.2.2.2.2.2.2.2.2.1, y7F.2.2.2.1, hnl⟩, fun j hj => ?_, L, st', Cd'.length, Pt'.length, by omega, by omega, ?_, ?_, ?_, ?_, rfl⟩
          · rw [G2.2.2.1.1, w4, w2]; rfl
          · omega
          · rw [xf.2.2.2 8 (by decide), K2.2.2 8 (by omega), C3.2.2.2 8 (by decide)]; exact e8
          · rw [sI_I, if_neg (by omega), K3.2.2.2 0 (by omega), d1]; exact ep0
          · rw [xf.2.2.2 9 (by decide), K2.2.2 9 (by omega), C3.2.2.2 9 (by decide)]; exact e9
          · rw [sI_I, if_neg (by omega), K3.2.2.2 1 (by omega)]; exact ep1
          · obtain ⟨k, k1', k2', k3', k4'⟩ := d7 j hj
            refine ⟨k, k1', k2', ?_, ?_⟩
            · rw [xf.1 _ (by omega) (by omega) (by omega), K2.2.1, C3.1 _ (by omega)]; exact k3'
            · rw [sI_row _ (by omega), K3.2.2.1]; exact k4'
          · have := prt'
            rw [K8, eP5] at this
            exact prts_at (L := []) (prts_tail this)
          · have rowF : ∀ o i, 1 ≤ o → (hm2.sI p 7 x).I (p + o) i = hm2.I (p + o) i := fun o i c1 => by rw [sI_row _ (by omega)]
            have hL := LC.to' (s0 := 0) (B := Pt'.length) (S' := st') (hm' := hm2.sI p 7 x) (F' := fun V t x' y => SC c p e h7 (hm2.sI p 7 x) (AK na) st' Cd'.length 0 jn' 16 V t x' y (-1) (-1)) (Nat.le_refl _) (fun o c1 c2 i _ _ => rowF o i (by omega)) (fun V V' s a b hV h1 h2 hb q => SC.to (B := Pt'.length) (fun _ q => q) (Nat.le_refl _) (Nat.le_refl _) (Nat.le_refl _) (Nat.le_refl _) _ V V' s a b (-1) (-1) hV h2 hb ⟨fun i hi => prts_eq y1.2.2.1.2.2 prt' i hi, fun i _ => by unfold cAt; rw [rowF 9 i (by decide), rowF 10 i (by decide)], fun i _ => by rw [sI_row _ (by omega)], fun j _ _ => by rw [xf.1 _ (by omega) (by omega) (by omega)], fun o c1 c2 i _ _ => rowF o i (by omega), fun i _ _ => rowF 8 i (by decide)⟩ q) (fun V s a b q => by have := SC.le _ _ _ _ _ _ _ q; omega) L (VN Nm) (VP np) x Pt5.length Pt'.length (-1) (fun y ⟨z, z1, z2, z3⟩ => by obtain ⟨k, k1', k2'⟩ := (d6 z z1).1 z2; exact ⟨k, k1', z3.symm.trans k2'⟩) (fun t ht => Nat.zero_le _) (Nat.le_refl _) L2
            rw [sI_I, if_pos ⟨rfl, rfl⟩]
            rw [l5] at hL
            exact hL.1
          · exact prts_at (prts_tail (X := [_]) pr7)
          · have := prts_at pr7
            rw [List.length_cons, w1] at this
            exact this
      · obtain ⟨h6, F1, F2, F3⟩ := c_refuse (G := G) (d := D + 2) (by omega) y1.1
        have ck6 : cOK c h6 := ((y5.tr (F3.pf hq))).2.2.2 ck3
        obtain ⟨h7, v7, G1, G2⟩ := mk_lay2 (G := G) (d := D + 2) (by omega) hq ck6 1 (-1) (-1) 0
        obtain ⟨h8', v8, H1, H2⟩ := mk_lay2 (G := G) (d := D + 2) (by omega) hq (G2.2.2.1.2 ck6) 9 v7 (-1) (-1)
        obtain ⟨m6, I1, I2, I3⟩ := m_refuse (G := G) (d := d + 1) (by omega) R y7F.1.1 u1 1
        have r6 : h6.R 21 3 = some c := by rw [F3.2.2]; exact y1.2.2.2.2.2.1
        refine J.c2' (fun hx => by rw [c_at y1 hx]; exact k0) (J.ci F1 (J.cE c (J.ca' (fun hx => by rw [cRr (by decide)]; exact r6) (J.ca' (fun _ => hq) (J.ci G1 (J.ci H1 ?_))))))
        refine J.m2' (fun hx => by rw [(m_at R y2 u1 hx).2.2.1]; exact fun w => k0 ((tk_end R u1).mpr w)) ?_
        refine J.m (fun hx Q hF => by rw [eF]; exact hF) (J.mxv I1 (J.end (endF _ _ ⟨1, T.p a', Or.inl rfl, ?_, I2, y5.tr ((F3.pf hq).tr (G2.xf.pf.tr H2.xf.pf)), y6.tr (pf7.tr (I3.pf hp))⟩)))
        exact ⟨by rw [H2.1 22 (by omega), G2.1 22 (by omega)]; exact F2.1, by rw [H2.1 22 (by omega), G2.1 22 (by omega)]; exact F2.2⟩
    · rintro hc2 hm2 ⟨k, t, w1, w2, w3, w4, w5⟩
      have ck6 : cOK c hc2 := w4.2.2.2 ck3
      obtain ⟨h7, v7, G1, G2⟩ := mk_lay2 (G := G) (d := D + 2) (by omega) hq ck6 1 (-1) (-1) 0
      obtain ⟨h8', v8, H1, H2⟩ := mk_lay2 (G := G) (d := D + 2) (by omega) hq (G2.2.2.1.2 ck6) 9 v7 (-1) (-1)
      have r6 : hc2.R 21 3 = some c := by rw [w4.2.2.1]; exact cS.2.2.2.2.2.1
      refine J.c1 rfl (J.cE c (J.ca' (fun hx => by rw [cRr (by decide)]; exact r6) (J.ca' (fun _ => hq) (J.ci G1 (J.ci H1 ?_)))))
      refine J.end (endF _ _ ⟨k, t, w1, ?_, w3, w4.tr (G2.xf.pf.tr H2.xf.pf), w5⟩)
      exact ⟨by rw [H2.1 22 (by omega), G2.1 22 (by omega)]; exact w2.1, by rw [H2.1 22 (by omega), G2.1 22 (by omega)]; exact w2.2⟩
  refine j_arrays (hc0 := h3) (hm0 := hm) R hq hp he (D := D) (d := d) (by omega) (by omega) ?_ ?_ ?_ (T.n - 0) 0 (Nat.le_refl _) 0 (-1) 0 0 [] 0 h3 hm H0 (Nat.le_refl _)
  · intro a fk fp na nr Nm hc' hm' k40 H
    have H' := H
    obtain ⟨x1, x2, ⟨e8, h8, e9, ep0, ep1⟩, ⟨b1, b2, b3, b4⟩, x4, x5, x6, x7⟩ := H
    have ha1 := tk_more' R b1 k40 (by decide)
    have hpn := tk_pn R ha1
    obtain ⟨h5, C1, C2, C3⟩ := c_enter (G := G) (d := D + 1) (by omega) x1.1 k40 (by decide) ha1 hn
    have z5 := x1.r22 hq C2 C3
    obtain ⟨m5, l1, l2, l3'⟩ := m_opens (G := G) (d := d + 1) (by omega) R x2.1.1 b1 (s := 40) (by decide) k40 (by decide)
    have y5 := x2.r43 hp l2 l3'
    have ek : ∀ hx, (if (mg h5 hx).I 22 3 = 41 then (0 : Int32) else 1) = if T.k (a + 1) = 41 then 0 else 1 := fun hx => by rw [c_at z5 hx]
    have HN : ∀ (a' dp' : Nat) (h7 m7 : qh), a + 1 ≤ a' → a' < T.n → CSt T c a' dp' fk fp 0 [] 0 0 0 (-1) (-1) h7 → MSt T p e a' dp' fk fp 0 [] Nm 0 0 0 0 m7 → R22 hc' h7 → R43 hm' m7 → HI T c p e h3 hm a' dp' fk fp na nr 0 1 Nm h7 m7 := fun a' dp' h7 m7 g1 g2 g3 g4 g5 g6 => by
      refine ⟨g3, g4, ⟨by rw [g5.1 c (by omega)]; exact e8, h8, by rw [g5.1 c (by omega)]; exact e9, by rw [g6.1 p (by omega)]; exact ep0, by rw [g6.1 p (by omega)]; exact ep1⟩, ⟨g2, by omega, by omega, by omega⟩, x4.next (tk_mono R (by omega) g2), x5.tr (g5.pf hq), x6.tr (g6.pf hp), fun h0 => ?_⟩
      obtain ⟨d1, d2, d3, d4, d5, d6, d7⟩ := x7 h0
      exact ⟨d1, (g5.xf hq).cn hq d2, d3, d4, d5, d6, fun j hj => by rw [g5.1 _ (by omega), g6.1 _ (by omega)]; exact d7 j hj⟩
    refine J.c2 (by decide) ?_
    refine J.c (fun hx Q hF => x_X2_readParameters G (D + 1) _ _ hF) ?_
    refine J.ci C1 (J.c4 (by decide) ?_)
    refine J.c (fun hx Q hF => by rw [ek]; exact hF) ?_
    refine J.m (fun hx Q hF => x_X12_program_7 G (d + 1) p _ _ Q hp hF) ?_
    refine J.m1 rfl (J.mv l1 (J.ma' (fun hx => (m_at R y5 ha1 hx).2.1) ?_))
    by_cases k4 : T.k (a + 1) = 4
    · refine J.m3' (fun hx => (m_at R y5 ha1 hx).2.2.1.trans ((tk_word R ha1 (by decide) (by decide)).mp k4)) ?_
      rw [if_neg (show ¬ T.k (a + 1) = 41 by rw [k4]; decide)]
      refine j_paras (hc0 := h3) (hm0 := hm) R hq hp he (D := D) (d := d) (by omega) (by omega) ?_ ?_ (T.n - (a + 1)) (a + 1) (Nat.le_refl _) fk fp na nr 0 Nm 0 h5 m5 (HN (a + 1) 1 h5 m5 (Nat.le_refl _) ha1 z5 y5 C3 l3') k4 (Nat.zero_le _)
      · intro a' fk' fp' na' nr' np' Nm' hc2 hm2 H2
        exact J.c2 (by decide) (tail a' fk' fp' na' nr' np' Nm' hc2 hm2 H2)
      · intro hc2 hm2 hf
        exact J.c1 rfl (J.end (endF _ _ hf))
    · refine J.m4' (fun hx => by rw [(m_at R y5 ha1 hx).2.2.1]; exact fun q => k4 ((tk_word R ha1 (s := 4) (by decide) (by decide)).mpr q)) ?_
      refine J.c (fun hx Q hF => x_X2_readParameters_34 G (D + 1) _ _ _ _ hF) ?_
      refine J.c2 (by decide) ?_
      by_cases k41 : T.k (a + 1) = 41
      · have ha2 : a + 2 < T.n := tk_more' R ha1 k41 (by decide)
        rw [if_pos k41]
        obtain ⟨h6, E1, E2, E3⟩ := c_leave (G := G) (d := D + 1) (by omega) C2 (by decide)
        have z6 := z5.r22 hq E2 E3
        obtain ⟨h7, F1, F2, F3⟩ := c_pass (G := G) (d := D + 1) (by omega) z6.1 k41 ha2 hn
        have z7 := z6.r22 hq F2 F3
        obtain ⟨m7, I1, I2, I3⟩ := m_closes (G := G) (d := d + 1) (by omega) R y5.1.1 ha1 (s := 41) (by decide) k41
        refine J.c1 rfl (J.cv E1 (J.ci F1 (J.ca' (fun _ => Or.inr rfl) (J.c2 (by decide) (J.mv I1 ?_)))))
        exact tail (a + 2) fk fp na nr 0 Nm h7 m7 (HN (a + 2) 0 h7 m7 (by omega) ha2 z7 (y5.r43 hp I2 I3) (C3.tr (E3.tr F3)) (l3'.tr I3))
      · rw [if_neg k41]
        obtain ⟨h7, F1, F2, F3⟩ := c_passNo (G := G) (d := D + 1) (by omega) z5.1 k4
        obtain ⟨m7, I1, I2, I3⟩ := m_closesNo (G := G) (d := d + 1) (by omega) R y5.1.1 ha1 (s := 41) (by decide) k41
        refine J.c2 (by decide) (J.ci F1 (J.c1 rfl (J.c1 rfl ?_)))
        exact J.mxv I1 (J.end (endF _ _ ⟨1, T.p (a + 1), Or.inl rfl, F2, I2, x5.tr ((C3.pf hq).tr (F3.pf hq)), x6.tr ((l3'.pf hp).tr (I3.pf hp))⟩))
  · intro hc2 hm2 hf
    exact J.c1 rfl (J.end (endF _ _ hf))
  · intro a fk fp nv' hc2 hm2 k40 x1 mf pf pm
    obtain ⟨h5, C1, C2, C3⟩ := c_enterNo (G := G) (d := D + 1) (by omega) x1.1 k40
    refine J.c2 (by decide) ?_
    refine J.c (fun hx Q hF => x_X2_readParameters G (D + 1) _ _ hF) ?_
    refine J.ci C1 (J.c3 rfl (J.c1 rfl ?_))
    exact J.end (endF _ _ ⟨1, T.p a, Or.inl rfl, C2, mf, pf.tr (C3.pf hq), pm⟩)
end MAKE
