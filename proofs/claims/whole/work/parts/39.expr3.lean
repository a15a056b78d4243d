/-! ===== an E: unary, and the whole ===== -/
theorem XCl.cn {T : tkD} {Nm : List nmE} {Cd0 : List cod} {Pt0 : List prt} {wk0 : Nat} {hcE : qh} {wk s : Nat} {Cd : List cod} {Pt : List prt} {Mk : List Int32} {c : Nat} {h : qh} (x : XCl T Nm Cd0 Pt0 wk0 hcE wk s Cd Pt Mk) (hq : q_cir c) (r : CXF c hcE h) : CN T Nm h ∧ uq T Nm := ⟨r.cn hq x.2.1, x.2.2.1⟩
theorem lk_mem {T : tkD} {Nm : List nmE} {v : Int64} {y : Int32 × Int32} (h : lk T Nm v = some y) : ∃ x ∈ Nm, x.2 = y := by
  rcases fl T v Nm with ⟨_, b⟩ | ⟨i, x, a1, a2, a3, a4, a5, a6⟩
  · rw [b] at h; cases h
  · rw [a4] at h; cases h; exact ⟨x, a2, rfl⟩
theorem uF_var {T : tkD} {Nm : List nmE} {v : Int64} (h : uF (lk T Nm v) 0 = 0) : ∃ y, lk T Nm v = some y ∧ VN Nm y.2 := by
  cases hl : lk T Nm v with
  | none => rw [hl] at h; exact absurd h (by decide)
  | some y =>
    obtain ⟨x, x1, x2⟩ := lk_mem hl
    rw [hl] at h
    refine ⟨y, rfl, x, x1, ?_, by rw [x2]⟩
    simp only [uF, if_true] at h
    have h3 : y.1 + 1 = 3 := Classical.byContradiction fun q => by rw [if_neg q] at h; exact absurd h (by decide)
    rw [x2]; grind
theorem uF_arr {T : tkD} {Nm : List nmE} {v : Int64} (h : uF (lk T Nm v) 1 = 0) : ∃ y, lk T Nm v = some y ∧ AN Nm y.2 := by
  cases hl : lk T Nm v with
  | none => rw [hl] at h; exact absurd h (by decide)
  | some y =>
    obtain ⟨x, x1, x2⟩ := lk_mem hl
    rw [hl] at h
    refine ⟨y, rfl, x, x1, ?_, by rw [x2]⟩
    have e : (if (1 : Int32) = 0 then (3 : Int32) else 1) = 1 := by decide
    simp only [uF] at h
    rw [e] at h
    have h3 : y.1 + 1 = 1 := Classical.byContradiction fun q => by rw [if_neg q] at h; exact absurd h (by decide)
    rw [x2]; grind
section EXPR3
variable {G : qG} {D : Nat} {T : tkD} {c p e : Nat} {Nm : List nmE} {Cd0 : List cod} {Pt0 : List prt} {wk0 : Nat} {hcE hmE : qh}
/-- the reference's unary, where no sign of one stands -/
theorem m_un {d a dp : Nat} {fk fp : Int32} {hm : qh} (hd : 1 ≤ d) (R : TR T) (b : MB T a dp fk fp hm) (ha : a < T.n) (h45 : ¬ T.k a = 45) (h33 : ¬ T.k a = 33) (h126 : ¬ T.k a = 126) (hx : qh) (Q : qr → qh → Prop)
    (h2 : T.k a = 2 → q_M0 G d yX12_part [.ref 43, .int (Int32.ofNat a)] (mg hx hm) (q_rv (fun h28 => q_M0 G d yX12_is [.ref 43, .int 91] (h28.sI 43 14 ((h28.I 43 14) + 1)) (q_ri (fun r30 h29 => q_M0 G d yX12_uses [.ref 43, .int (Int32.ofNat a), .int r30] h29 (q_ri (fun r32 h31 => q_M0 G d yX12_is [.ref 43, .int 91] h31 (q_ri (fun r34 h33 => (r34 = 0 → (q_M0 G d yX12_code [.ref 43, .int 1, .int r32] h33 (q_rv (fun h35 => Q (.inl none) h35) (fun E h => Q (.inr E) h)))) ∧ (¬ r34 = 0 → (q_M0 G d yX12_opens [.ref 43, .int 91] h33 (q_rv (fun h36 => q_M0 G d yX12_binary [.ref 43, .int 0] h36 (q_rv (fun h37 => q_M0 G d yX12_closes [.ref 43, .int 93] h37 (q_rv (fun h38 => q_M0 G d yX12_code [.ref 43, .int 2, .int r32] h38 (q_rv (fun h39 => Q (.inl none) h39) (fun E h => Q (.inr E) h))) (fun E h => Q (.inr E) h))) (fun E h => Q (.inr E) h))) (fun E h => Q (.inr E) h))))) (fun E h => Q (.inr E) h))) (fun E h => Q (.inr E) h))) (fun E h => Q (.inr E) h))) (fun E h => Q (.inr E) h)))
    (h3 : T.k a = 3 → q_M0 G d yX12_part [.ref 43, .int (Int32.ofNat a)] (mg hx hm) (q_rv (fun h40 => vp_in (Int32.ofNat a) 2001 ∧ (q_M0 G d yX12_code [.ref 43, .int 0, .int (h40.I 49 a)] (h40.sI 43 14 ((h40.I 43 14) + 1)) (q_rv (fun h42 => Q (.inl none) h42) (fun E h => Q (.inr E) h)))) (fun E h => Q (.inr E) h)))
    (h4 : ¬ T.k a = 2 → ¬ T.k a = 3 → q_M0 G d yX12_opens [.ref 43, .int 40] (mg hx hm) (q_rv (fun h25 => q_M0 G d yX12_binary [.ref 43, .int 0] h25 (q_rv (fun h26 => q_M0 G d yX12_closes [.ref 43, .int 41] h26 (q_rv (fun h27 => Q (.inl none) h27) (fun E h => Q (.inr E) h))) (fun E h => Q (.inr E) h))) (fun E h => Q (.inr E) h))) :
    q_M0 G (d + 1) yX12_unary [.ref 43] (mg hx hm) Q := by
  have hn := R.2.1
  have i45 := m_is0 (G := G) (d := d) hd R b ha (s := 45) (by decide) h45
  have i33 := m_is0 (G := G) (d := d) hd R b ha (s := 33) (by decide) h33
  have i126 := m_is0 (G := G) (d := d) hd R b ha (s := 126) (by decide) h126
  refine x_X12_unary G d _ Q (i45 hx _ ⟨fun q => absurd rfl q, fun _ => i33 hx _ ⟨fun q => absurd rfl q, fun _ => i126 hx _ ⟨fun _ => ?_, fun q => absurd rfl q⟩⟩⟩)
  rw [mI (by decide), b.1.1, n_N (by omega), mI (by decide), b.2.2.1]
  have hin := m_inA R ha
  exact ⟨hin, fun q3 => ⟨hin, fun q2 => h4 (fun w => q2 ((tk_name R ha).mp w)) (fun w => q3 ((tk_num R ha).mp w)), fun q2 => h2 ((tk_name R ha).mpr q2)⟩, fun q3 => h3 ((tk_num R ha).mpr q3)⟩
theorem e_U (R : TR T) (hq : q_cir c) (hp : q_prg p) {a : Nat} (IU : ∀ a', a < a' → sU G D T c p e Nm Cd0 Pt0 wk0 hcE hmE a') (IB : ∀ a', a < a' → sB G D T c p e Nm Cd0 Pt0 wk0 hcE hmE a' 0) : sU G D T c p e Nm Cd0 Pt0 wk0 hcE hmE a := by
  intro dp fk fp wk Wt Wi Mk Pt Cd s i d hc hm Km P X hW hMk hi hd hok hfail
  obtain ⟨d, rfl⟩ : ∃ d', d = d' + 1 := ⟨d - 1, by omega⟩
  obtain ⟨x1, x2, ⟨x3, x4, x5, x6⟩, x7, x8, x9, x10⟩ := X
  have hn := R.2.1
  have hwn : ¬ hc.I 27 9 = 0 := by rw [x1.2.1.2.2.2.2.2.2.2.2.2]; decide
  have hord : ¬ fk = 0 → ¬ fk ≤ 0 ∧ fp < T.p a := fun h0 => by have := x7.lt R x3 h0; exact ⟨this.1, this.2.2⟩
  by_cases k3 : T.k a = 3
  · -- a NUMBER
    have ha1 := tk_more' R x3 k3 (by decide)
    have hpn := tk_pn R ha1
    obtain ⟨h1, v, Pt', r1, r2, r3, r4, -⟩ := c_opNum (G := G) (d := D + 3) (by omega) hq x1 (by omega) (by omega) hn ha1 k3
    obtain ⟨m1, b1, b2, b3⟩ := m_part (G := G) (d := d) (by omega) hp R x2 (by omega) x3
    obtain ⟨k1, k2⟩ := wK_eq (k := cnt wk) hord
    rw [k1, k2] at b2
    have r43 := R43.sI m1 14 (Int32.ofNat (a + 1)) (by decide)
    have b4 := b2.r43 hp (b2.1.seta (a + 1)) r43
    obtain ⟨m3, g1, g2, g3⟩ := m_code (G := G) (d := d) (by omega) hp b4 (by omega) 0 (T.vm a)
    refine s_op (by omega) hwn r1 (s_WO (by omega) r2.2.1.2.2.2.2.2.2.2.2.2 ?_)
    refine J.m (Wm' := fun hx Q => Km (mg hx m3) Q) (fun hx Q hF => m_un (by omega) R x2.1 x3 (by rw [k3]; decide) (by rw [k3]; decide) (by rw [k3]; decide) hx _ (fun q => absurd (k3.symm.trans q) (by decide)) (fun _ => b1 hx _ ⟨m_inA R x3, ?_⟩) (fun _ q => absurd k3 q)) ?_
    · show q_M0 G d yX12_code [.ref 43, .int 0, .int ((mg hx m1).I 49 a)] ((mg hx m1).sI 43 14 ((mg hx m1).I 43 14 + 1)) _
      rw [mI (by decide), b2.1.2.2.2.2, mI (by decide), b2.1.1.1, n_add1, mg_sI_m (by decide)]
      exact g1 hx _ hF
    · refine hok (a + 1) _ _ _ v Pt' _ (i + 1) h1 m3 (by omega) ⟨r2, g2, ⟨ha1, x4, by rw [List.length_cons]; omega, by omega⟩, x7.blame R x3 (cnt_or wk) hpn, x8.tr r3, x9.tr (b3.tr ((r43.xf hp).tr g3)), fun h0 => ?_⟩ (fun h0 => bK_keep h0) (by omega)
      refine ((x10 (bK_zero h0).1).count (bK_zero h0).2).emit r4 (Or.inl ⟨rfl, ?_, rfl⟩)
      obtain ⟨q, q1, q2, q3⟩ := R.2.2.2.2.2.2.1 a x3 k3
      rw [q2, q3, Int32.toInt32_toInt64]
  by_cases k2 : T.k a = 2
  · have ha1 := tk_more' R x3 k2 (by decide)
    have hpn := tk_pn R ha1
    have n45 : ¬ T.k a = 45 := by rw [k2]; decide
    have n33 : ¬ T.k a = 33 := by rw [k2]; decide
    have n126 : ¬ T.k a = 126 := by rw [k2]; decide
    obtain ⟨m1, b1, b2, b3⟩ := m_part (G := G) (d := d) (by omega) hp R x2 (by omega) x3
    have r43 := R43.sI m1 14 (Int32.ofNat (a + 1)) (by decide)
    have b4 := b2.r43 hp (b2.1.seta (a + 1)) r43
    have e14 : ∀ hx, (mg hx m1).sI 43 14 ((mg hx m1).I 43 14 + 1) = mg hx (m1.sI 43 14 (Int32.ofNat (a + 1))) := fun hx => by rw [mI (by decide), b2.1.1.1, n_add1, mg_sI_m (by decide)]
    by_cases k91 : T.k (a + 1) = 91
    · have ha2 := tk_more' R ha1 k91 (by decide)
      have hpn2 : T.pn (a + 1) < T.pn (a + 2) := tk_pn R ha2
      obtain ⟨m2, f1, f2, f3⟩ := m_uses (G := G) (d := d) (by omega) R b4.1 b4.2.2.2.1 x3 k2 (b := 1) (Or.inr rfl)
      have b5 := b4.r43 hp f2 f3
      have i1 := m_is1 (G := G) (d := d) (by omega) R b4.1 ha1 (s := 91) (by decide) k91
      have i2 := m_is1 (G := G) (d := d) (by omega) R b5.1 ha1 (s := 91) (by decide) k91
      by_cases hdp : dp < 16
      · obtain ⟨h1, f, num, r1, r2, r3, r4, r5⟩ := c_opIdx (G := G) (d := D + 3) (by omega) hq x1 (by omega) hn ha2 k2 k91 hdp (by omega)
        obtain ⟨m3, g1, g2, g3⟩ := m_opens (G := G) (d := d) (by omega) R b5.1 ha1 (s := 91) (by decide) k91 hdp
        have b6 := b5.r43 hp g2 g3
        obtain ⟨u1, u2⟩ := use_eq (f := f) hord (fun h0 => (r5 Nm ((x10 h0).cn hq x8).1 ((x10 h0).cn hq x8).2).1) (cnt_or' wk) (uF_or (lk T Nm (T.v a)) 1)
        rw [u1, u2] at b6
        have hcl : bK (bK fk f) (cnt wk) = 0 → fk = 0 ∧ cnt wk = 0 ∧ AN Nm (uN (lk T Nm (T.v a))) ∧ num = uN (lk T Nm (T.v a)) := fun h0 => by
          have z1 := bK_zero h0
          have z2 := bK_zero z1.1
          have r6 := r5 Nm ((x10 z2.1).cn hq x8).1 ((x10 z2.1).cn hq x8).2
          obtain ⟨y, y1, y2⟩ := uF_arr (r6.1.symm.trans z2.2)
          refine ⟨z2.1, z1.2, by rw [y1]; exact y2, by rw [y1]; exact r6.2 y y1⟩
        have X1 : XI T c p e Nm Cd0 Pt0 wk0 hcE hmE (a + 2) (dp + 1) (bK (bK fk f) (cnt wk)) (bP (bK fk f) (bP fk fp f (T.p a)) (cnt wk) (T.p a)) (wk + 1) (91 :: Wt) (num :: Wi) Mk 1 Pt Cd (s + 1) h1 m3 :=
          ⟨r2, b6, ⟨ha2, by omega, by omega, by omega⟩, ((x7.next (by omega)).at R x3 (f_or r4) (by omega)).at R x3 (cnt_or wk) (by omega), x8.tr r3, x9.tr (b3.tr ((r43.xf hp).tr ((f3.xf hp).tr (g3.xf hp)))), fun h0 => (x10 (hcl h0).1).count (hcl h0).2.1⟩
        refine s_op (by omega) hwn r1 ?_
        refine J.m (Wm' := fun hx Q => q_M0 G d yX12_binary [.ref 43, .int (Int32.ofNat 0)] (mg hx m3) (q_rv (fun h1 => kIdx G d (uN (lk T Nm (T.v a))) Km h1 Q) (fun E h => Q (.inr E) h))) (fun hx Q hF => m_un (by omega) R x2.1 x3 n45 n33 n126 hx _ (fun _ => b1 hx _ ?_) (fun q => absurd q k3) (fun q _ => absurd k2 q)) ?_
        · show q_M0 G d yX12_is [.ref 43, .int 91] ((mg hx m1).sI 43 14 ((mg hx m1).I 43 14 + 1)) _
          rw [e14]
          exact i1 hx _ (f1 hx _ (i2 hx _ ⟨fun q => absurd q (by decide), fun _ => g1 hx _ hF⟩))
        · refine IB (a + 2) (by omega) (dp + 1) _ _ _ _ _ _ _ _ (s + 1) (i + 1) d h1 m3 _ P X1 (fun s' r' q => by cases q; exact ⟨by decide, by decide⟩) (by rw [List.length_cons]; omega) (by rw [List.length_cons]; omega) (by omega) (by omega) ?_ hfail
          intro a' fk' fp' wk' v2 Pt' Cd' i' hc' hm' ha' X' hk' hi' hlv'
          obtain ⟨y1, y2, ⟨y3, y4, y5, y6⟩, y7, y8, y9, y10⟩ := X'
          have hz : fk' = 0 → bK (bK fk f) (cnt wk) = 0 := fun h0 => Classical.byContradiction fun q => q ((hk' q).1.symm.trans h0)
          by_cases k93 : T.k a' = 93
          · have ha3 := tk_more' R y3 k93 (by decide)
            have hpn3 := tk_pn R ha3
            obtain ⟨h4, v', Pt4, j1, j2, j3, j4, -⟩ := c_closeB (G := G) (d := D + 3) (by omega) hq y1 hn ha3 k93 (by omega)
            obtain ⟨m4, l1, l2, l3⟩ := m_closes (G := G) (d := d) (by omega) R y2.1 y3 (s := 93) (by decide) k93
            obtain ⟨m5, o1, o2, o3⟩ := m_code (G := G) (d := d) (by omega) hp (y2.r43 hp l2 l3) (by omega) 2 (uN (lk T Nm (T.v a)))
            refine s_cl y1 (by decide) (by omega) j1 (s_WO (by omega) j2.2.1.2.2.2.2.2.2.2.2.2 ?_)
            refine J.m (Wm' := fun hx Q => Km (mg hx m5) Q) (fun hx Q hF => l1 hx _ (o1 hx _ hF)) ?_
            refine hok (a' + 1) _ _ _ v' Pt4 _ (i' + 1) h4 m5 (by omega) ⟨j2, o2, ⟨ha3, x4, by rw [List.length_cons]; omega, by omega⟩, y7.next (by omega), y8.tr j3, y9.tr ((l3.xf hp).tr o3), fun h0 => ?_⟩ (fun h0 => ?_) (by omega)
            · have hc2 := hcl (hz h0)
              refine (y10 h0).emit j4 (Or.inr (Or.inr (Or.inl ⟨v2, Mk, rfl, rfl, Or.inl ⟨rfl, hc2.2.2.1, by rw [hc2.2.2.2]⟩⟩)))
            · have z1 := bK_keep (fp := fp) (k := f) (p := T.p a) h0
              have z2 := bK_keep (fk := bK fk f) (fp := bP fk fp f (T.p a)) (k := cnt wk) (p := T.p a) (by rw [z1.1]; exact h0)
              have z3 := hk' (by rw [z2.1, z1.1]; exact h0)
              exact ⟨z3.1.trans (z2.1.trans z1.1), z3.2.trans (z2.2.trans z1.2)⟩
          · obtain ⟨h4, j1, j2, j3⟩ := c_closeNo (G := G) (d := D + 3) (by omega) hq y1 (by rw [if_pos rfl]; exact k93)
            obtain ⟨m4, l1, l2, l3⟩ := m_closesNo (G := G) (d := d) (by omega) R y2.1 y3 (s := 93) (by decide) k93
            refine s_clNo y1 (by decide) (by omega) j1 ?_
            refine J.m (Wm' := fun hx Q => Q rxx (mg hx m4)) (fun hx Q hF => l1 hx _ hF) (J.end (hfail _ _ ⟨1, T.p a', Or.inl rfl, j2, l2, y8.tr j3, y9.tr (l3.xf hp)⟩))
      · obtain ⟨h1, r1, r2, r3⟩ := c_opIdxDeep (G := G) (d := D + 3) (by omega) hq x1 (by omega) hn ha1 k2 k91 (by omega)
        obtain ⟨m3, g1, g2, g3⟩ := m_opensDeep (G := G) (d := d) (by omega) R b5.1 ha1 (s := 91) (by decide) k91 (by omega)
        refine s_opNo (by omega) hwn r1 ?_
        refine J.m (Wm' := fun hx Q => Q rxx (mg hx m3)) (fun hx Q hF => m_un (by omega) R x2.1 x3 n45 n33 n126 hx _ (fun _ => b1 hx _ ?_) (fun q => absurd q k3) (fun q _ => absurd k2 q)) (J.end (hfail _ _ ⟨7, T.p (a + 1), Or.inr rfl, r2, g2, x8.tr r3, x9.tr (b3.tr ((r43.xf hp).tr ((f3.xf hp).tr (g3.xf hp))))⟩))
        show q_M0 G d yX12_is [.ref 43, .int 91] ((mg hx m1).sI 43 14 ((mg hx m1).I 43 14 + 1)) _
        rw [e14]
        exact i1 hx _ (f1 hx _ (i2 hx _ ⟨fun q => absurd q (by decide), fun _ => g1 hx _ hF⟩))
    · obtain ⟨m2, f1, f2, f3⟩ := m_uses (G := G) (d := d) (by omega) R b4.1 b4.2.2.2.1 x3 k2 (b := 0) (Or.inl rfl)
      have b5 := b4.r43 hp f2 f3
      have i1 := m_is0 (G := G) (d := d) (by omega) R b4.1 ha1 (s := 91) (by decide) k91
      have i2 := m_is0 (G := G) (d := d) (by omega) R b5.1 ha1 (s := 91) (by decide) k91
      obtain ⟨h1, v, Pt', f, num, r1, r2, r3, r4, -, r5, r6⟩ := c_opName (G := G) (d := D + 3) (by omega) hq x1 (by omega) (by omega) hn ha1 k2 k91
      obtain ⟨u1, u2⟩ := use_eq (f := f) hord (fun h0 => (r6 Nm ((x10 h0).cn hq x8).1 ((x10 h0).cn hq x8).2).1) (cnt_or' wk) (uF_or (lk T Nm (T.v a)) 0)
      rw [u1, u2] at b5
      obtain ⟨m3, g1, g2, g3⟩ := m_code (G := G) (d := d) (by omega) hp b5 (by omega) 1 (uN (lk T Nm (T.v a)))
      refine s_op (by omega) hwn r1 (s_WO (by omega) r2.2.1.2.2.2.2.2.2.2.2.2 ?_)
      refine J.m (Wm' := fun hx Q => Km (mg hx m3) Q) (fun hx Q hF => m_un (by omega) R x2.1 x3 n45 n33 n126 hx _ (fun _ => b1 hx _ ?_) (fun q => absurd q k3) (fun q _ => absurd k2 q)) ?_
      · show q_M0 G d yX12_is [.ref 43, .int 91] ((mg hx m1).sI 43 14 ((mg hx m1).I 43 14 + 1)) _
        rw [e14]
        exact i1 hx _ (f1 hx _ (i2 hx _ ⟨fun _ => g1 hx _ hF, fun q => absurd rfl q⟩))
      · refine hok (a + 1) _ _ _ v Pt' _ (i + 1) h1 m3 (by omega) ⟨r2, g2, ⟨ha1, x4, by rw [List.length_cons]; omega, by omega⟩, ((x7.next (by omega)).at R x3 (f_or r5) hpn).at R x3 (cnt_or wk) hpn, x8.tr r3, x9.tr (b3.tr ((r43.xf hp).tr ((f3.xf hp).tr g3))), fun h0 => ?_⟩ (fun h0 => ?_) (by omega)
        · have z1 := bK_zero h0
          have z2 := bK_zero z1.1
          have r7 := r6 Nm ((x10 z2.1).cn hq x8).1 ((x10 z2.1).cn hq x8).2
          obtain ⟨y, y1, y2⟩ := uF_var (r7.1.symm.trans z2.2)
          have hnum := r7.2 y y1
          refine ((x10 z2.1).count z1.2).emit r4 (Or.inr (Or.inl ⟨rfl, ?_, ?_, rfl⟩))
          · rw [y1]; exact y2
          · rw [y1, hnum]; rfl
        · have z1 := bK_keep (fp := fp) (k := f) (p := T.p a) h0
          have z2 := bK_keep (fk := bK fk f) (fp := bP fk fp f (T.p a)) (k := cnt wk) (p := T.p a) (by rw [z1.1]; exact h0)
          exact ⟨z2.1.trans z1.1, z2.2.trans z1.2⟩
  by_cases k40 : T.k a = 40
  · have ha1 := tk_more' R x3 k40 (by decide)
    have hpn := tk_pn R ha1
    have n45 : ¬ T.k a = 45 := by rw [k40]; decide
    have n33 : ¬ T.k a = 33 := by rw [k40]; decide
    have n126 : ¬ T.k a = 126 := by rw [k40]; decide
    by_cases hdp : dp < 16
    · obtain ⟨h1, r1, r2, r3⟩ := c_opPar (G := G) (d := D + 3) (by omega) hq x1 hn ha1 k40 hdp (by omega)
      obtain ⟨m3, g1, g2, g3⟩ := m_opens (G := G) (d := d) (by omega) R x2.1 x3 (s := 40) (by decide) k40 hdp
      have X1 : XI T c p e Nm Cd0 Pt0 wk0 hcE hmE (a + 1) (dp + 1) fk fp wk (40 :: Wt) (-1 :: Wi) Mk 1 Pt Cd s h1 m3 :=
        ⟨r2, x2.r43 hp g2 g3, ⟨ha1, by omega, by omega, by omega⟩, x7.next (by omega), x8.tr r3, x9.tr (g3.xf hp), x10⟩
      refine s_op (by omega) hwn r1 ?_
      refine J.m (Wm' := fun hx Q => q_M0 G d yX12_binary [.ref 43, .int (Int32.ofNat 0)] (mg hx m3) (q_rv (fun h1 => kPar G d Km h1 Q) (fun E h => Q (.inr E) h))) (fun hx Q hF => m_un (by omega) R x2.1 x3 n45 n33 n126 hx _ (fun q => absurd q k2) (fun q => absurd q k3) (fun _ _ => g1 hx _ hF)) ?_
      refine IB (a + 1) (by omega) (dp + 1) _ _ _ _ _ _ _ _ s (i + 1) d h1 m3 _ P X1 (fun s' r' q => by cases q; exact ⟨by decide, by decide⟩) (by rw [List.length_cons]; omega) (by rw [List.length_cons]; omega) (by omega) (by omega) ?_ hfail
      intro a' fk' fp' wk' v2 Pt' Cd' i' hc' hm' ha' X' hk' hi' hlv'
      obtain ⟨y1, y2, ⟨y3, y4, y5, y6⟩, y7, y8, y9, y10⟩ := X'
      by_cases k41 : T.k a' = 41
      · have ha3 := tk_more' R y3 k41 (by decide)
        have hpn3 := tk_pn R ha3
        obtain ⟨h4, j1, j2, j3⟩ := c_closeP (G := G) (d := D + 3) (by omega) hq y1 hn ha3 k41 (by omega)
        obtain ⟨m4, l1, l2, l3⟩ := m_closes (G := G) (d := d) (by omega) R y2.1 y3 (s := 41) (by decide) k41
        refine s_cl y1 (by decide) (by omega) j1 (s_WO (by omega) j2.2.1.2.2.2.2.2.2.2.2.2 ?_)
        refine J.m (Wm' := fun hx Q => Km (mg hx m4) Q) (fun hx Q hF => l1 hx _ hF) ?_
        exact hok (a' + 1) _ _ _ v2 Pt' _ (i' + 1) h4 m4 (by omega) ⟨j2, y2.r43 hp l2 l3, ⟨ha3, x4, by omega, by omega⟩, y7.next (by omega), y8.tr j3, y9.tr (l3.xf hp), y10⟩ hk' (by omega)
      · obtain ⟨h4, j1, j2, j3⟩ := c_closeNo (G := G) (d := D + 3) (by omega) hq y1 (by rw [if_neg (by decide)]; exact k41)
        obtain ⟨m4, l1, l2, l3⟩ := m_closesNo (G := G) (d := d) (by omega) R y2.1 y3 (s := 41) (by decide) k41
        refine s_clNo y1 (by decide) (by omega) j1 ?_
        exact J.m (Wm' := fun hx Q => Q rxx (mg hx m4)) (fun hx Q hF => l1 hx _ hF) (J.end (hfail _ _ ⟨1, T.p a', Or.inl rfl, j2, l2, y8.tr j3, y9.tr (l3.xf hp)⟩))
    · obtain ⟨h1, r1, r2, r3⟩ := c_opParDeep (G := G) (d := D + 3) (by omega) hq x1 k40 (by omega)
      obtain ⟨m3, g1, g2, g3⟩ := m_opensDeep (G := G) (d := d) (by omega) R x2.1 x3 (s := 40) (by decide) k40 (by omega)
      refine s_opNo (by omega) hwn r1 ?_
      exact J.m (Wm' := fun hx Q => Q rxx (mg hx m3)) (fun hx Q hF => m_un (by omega) R x2.1 x3 n45 n33 n126 hx _ (fun q => absurd q k2) (fun q => absurd q k3) (fun _ _ => g1 hx _ hF)) (J.end (hfail _ _ ⟨7, T.p a, Or.inr rfl, r2, g2, x8.tr r3, x9.tr (g3.xf hp)⟩))
  by_cases k1 : T.k a = 33 ∨ T.k a = 45 ∨ T.k a = 126
  · -- a sign of one
    obtain ⟨sg, hsg⟩ : ∃ sg, sg = T.k a := ⟨_, rfl⟩
    have ks : T.k a = sg := hsg.symm
    rw [ks] at k1
    have hs33 : 33 ≤ sg := by rcases k1 with q | q | q <;> rw [q] <;> decide
    have hvm : T.vm a = sg := ((tk_sign R x3 hs33).mp ks).2
    have ha1 := tk_more' R x3 ks (Int32.le_trans (by decide) hs33)
    have hpn := tk_pn R ha1
    have isn : ∀ s', 33 ≤ s' → ¬ sg = s' → mR G d yX12_is [.ref 43, .int s'] hm (riv 0) hm := fun s' h1 h2 => m_is0 (by omega) R x2.1 x3 h1 (by rw [ks]; exact h2)
    have iss := m_is1 (G := G) (d := d) (by omega) R x2.1 x3 hs33 ks
    by_cases hdp : dp < 16
    · obtain ⟨h1, r1, r2, r3⟩ := c_opOne (G := G) (d := D + 3) (by omega) hq x1 (by omega) hn ha1 k1 ks hdp (by omega)
      obtain ⟨m0, g1, g2, g3⟩ := m_enters (G := G) (d := d) (by omega) x2.1 hdp
      obtain ⟨m1, b1, b2, b3⟩ := m_part (G := G) (d := d) (by omega) hp R (x2.r43 hp g2 g3) (by omega) x3
      obtain ⟨q1, q2⟩ := wK_eq (k := cnt wk) hord
      rw [q1, q2] at b2
      have X1 : XI T c p e Nm Cd0 Pt0 wk0 hcE hmE (a + 1) (dp + 1) (bK fk (cnt wk)) (bP fk fp (cnt wk) (T.p a)) (wk + 1) (-sg :: Wt) (-1 :: Wi) Mk 1 Pt Cd (s + 1) h1 m1 :=
        ⟨r2, b2, ⟨ha1, by omega, by omega, by omega⟩, x7.blame R x3 (cnt_or wk) hpn, x8.tr r3, x9.tr ((g3.xf hp).tr b3), fun h0 => (x10 (bK_zero h0).1).count (bK_zero h0).2⟩
      refine s_op (by omega) hwn r1 ?_
      refine J.m (Wm' := fun hx Q => q_M0 G d yX12_unary [.ref 43] (mg hx m1) (q_rv (fun h1 => kOne G d a Km h1 Q) (fun E h => Q (.inr E) h))) (fun hx Q hF => ?_) ?_
      · have e14 : (mg hx hm).I 43 14 = Int32.ofNat a := by rw [mI (by decide)]; exact x2.1.1.1
        have F := b1 hx (q_rv (fun h4 => q_M0 G d yX12_unary [.ref 43] h4 (q_rv (fun h1 => kOne G d a Km h1 Q) (fun E h => Q (.inr E) h))) (fun E h => Q (.inr E) h)) hF
        have F2 := g1 hx (q_rv (fun h3 => q_M0 G d yX12_part [.ref 43, .int (Int32.ofNat a)] h3 (q_rv (fun h4 => q_M0 G d yX12_unary [.ref 43] h4 (q_rv (fun h1 => kOne G d a Km h1 Q) (fun E h => Q (.inr E) h))) (fun E h => Q (.inr E) h))) (fun E h => Q (.inr E) h)) F
        refine x_X12_unary G d _ _ ?_
        rw [e14, n_N (by omega)]
        rcases k1 with rfl | rfl | rfl
        · exact isn 45 (by decide) (by decide) hx _ ⟨fun q => absurd rfl q, fun _ => iss hx _ ⟨fun _ => F2, fun q => absurd q (by decide)⟩⟩
        · exact iss hx _ ⟨fun _ => F2, fun q => absurd q (by decide)⟩
        · exact isn 45 (by decide) (by decide) hx _ ⟨fun q => absurd rfl q, fun _ => isn 33 (by decide) (by decide) hx _ ⟨fun q => absurd rfl q, fun _ => iss hx _ ⟨fun q => absurd q (by decide), fun _ => F2⟩⟩⟩
      · refine IU (a + 1) (by omega) (dp + 1) _ _ _ _ _ _ _ _ (s + 1) (i + 1) d h1 m1 _ P X1 (by rw [List.length_cons]; omega) (by rw [List.length_cons]; omega) (by omega) (by omega) ?_ hfail
        intro a' fk' fp' wk' v2 Pt' Cd' i' hc' hm' ha' X' hk' hi'
        obtain ⟨y1, y2, ⟨y3, y4, y5, y6⟩, y7, y8, y9, y10⟩ := X'
        have hneg : -sg < 0 := by rcases k1 with rfl | rfl | rfl <;> decide
        obtain ⟨h4, v', Pt4, j1, j2, j3, j4⟩ := s_one (G := G) (D := D) (i := i') hq y1 hneg (by omega)
        have r43 := R43.sI hm' 15 (Int32.ofNat dp) (by decide)
        have y2' := y2.r43 hp (y2.1.setd dp) r43
        obtain ⟨op, hop⟩ : ∃ op : Int32, op = if sg = 45 then 4 else if sg = 33 then 5 else 6 := ⟨_, rfl⟩
        obtain ⟨m5, o1, o2, o3⟩ := m_code (G := G) (d := d) (by omega) hp y2' (by omega) op 0
        refine J.c j4 ?_
        refine J.m (Wm' := fun hx Q => Km (mg hx m5) Q) (fun hx Q hF => ?_) ?_
        · have e49 : (mg hx hm').I 49 a = sg := by rw [mI (by decide), y2.1.2.2.2.2]; exact hvm
          have e15 : (mg hx hm').sI 43 15 ((mg hx hm').I 43 15 - 1) = mg hx (hm'.sI 43 15 (Int32.ofNat dp)) := by rw [mI (by decide), y2.1.1.2.1, n_sub1, mg_sI_m (by decide)]
          have F := o1 hx (q_rv (fun h9 => Km h9 Q) (fun E h => Q (.inr E) h)) hF
          unfold kOne
          rw [e49, e15]
          rcases k1 with rfl | rfl | rfl
          · rw [show op = 5 from hop] at F
            exact ⟨m_inA R x3, fun _ => ⟨m_inA R x3, F⟩, fun q => absurd q (by decide)⟩
          · rw [show op = 4 from hop] at F
            exact ⟨m_inA R x3, fun q => absurd rfl q, fun _ => F⟩
          · rw [show op = 6 from hop] at F
            exact ⟨m_inA R x3, fun _ => ⟨m_inA R x3, F⟩, fun q => absurd q (by decide)⟩
        · refine hok a' _ _ _ v' Pt4 _ i' h4 m5 (by omega) ⟨j1, o2, ⟨y3, x4, by rw [List.length_cons]; omega, y6⟩, y7, y8.tr j2, y9.tr ((r43.xf hp).tr o3), fun h0 => ?_⟩ (fun h0 => ?_) hi'
          · refine (y10 h0).emit j3 (Or.inr (Or.inr (Or.inl ⟨v2, Mk, rfl, rfl, ?_⟩)))
            rcases k1 with rfl | rfl | rfl
            · exact Or.inr (Or.inr (Or.inl ⟨hop, rfl⟩))
            · exact Or.inr (Or.inl ⟨hop, rfl⟩)
            · exact Or.inr (Or.inr (Or.inr ⟨hop, rfl⟩))
          · have z1 := bK_keep (fp := fp) (k := cnt wk) (p := T.p a) h0
            have z3 := hk' (by rw [z1.1]; exact h0)
            exact ⟨z3.1.trans z1.1, z3.2.trans z1.2⟩
    · obtain ⟨h1, r1, r2, r3⟩ := c_opOneDeep (G := G) (d := D + 3) (by omega) hq x1 (by omega) k1 ks (by omega)
      obtain ⟨m0, g1, g2, g3⟩ := m_entersDeep (G := G) (d := d) (by omega) R x2.1 x3 (by omega)
      refine s_opNo (by omega) hwn r1 ?_
      refine J.m (Wm' := fun hx Q => Q rxx (mg hx m0)) (fun hx Q hF => ?_) (J.end (hfail _ _ ⟨7, T.p a, Or.inr rfl, r2, g2, x8.tr r3, x9.tr (g3.xf hp)⟩))
      refine x_X12_unary G d _ _ ?_
      rcases k1 with rfl | rfl | rfl
      · exact isn 45 (by decide) (by decide) hx _ ⟨fun q => absurd rfl q, fun _ => iss hx _ ⟨fun _ => g1 hx _ hF, fun q => absurd q (by decide)⟩⟩
      · exact iss hx _ ⟨fun _ => g1 hx _ hF, fun q => absurd q (by decide)⟩
      · exact isn 45 (by decide) (by decide) hx _ ⟨fun q => absurd rfl q, fun _ => isn 33 (by decide) (by decide) hx _ ⟨fun q => absurd rfl q, fun _ => iss hx _ ⟨fun q => absurd q (by decide), fun _ => g1 hx _ hF⟩⟩⟩
  · have n33 : ¬ T.k a = 33 := fun q => k1 (Or.inl q)
    have n45 : ¬ T.k a = 45 := fun q => k1 (Or.inr (Or.inl q))
    have n126 : ¬ T.k a = 126 := fun q => k1 (Or.inr (Or.inr q))
    obtain ⟨h1, r1, r2, r3⟩ := c_opNo (G := G) (d := D + 3) (by omega) hq x1 k2 k3 n33 k40 n45 n126
    obtain ⟨m3, g1, g2, g3⟩ := m_opensNo (G := G) (d := d) (by omega) R x2.1 x3 (s := 40) (by decide) k40
    refine s_opNo (by omega) hwn r1 ?_
    exact J.m (Wm' := fun hx Q => Q rxx (mg hx m3)) (fun hx Q hF => m_un (by omega) R x2.1 x3 n45 n33 n126 hx _ (fun q => absurd q k2) (fun q => absurd q k3) (fun _ _ => g1 hx _ hF)) (J.end (hfail _ _ ⟨1, T.p a, Or.inl rfl, r2, g2, x8.tr r3, x9.tr (g3.xf hp)⟩))
theorem e_all (R : TR T) (hq : q_cir c) (hp : q_prg p) : ∀ (N a : Nat), T.n - a ≤ N → sU G D T c p e Nm Cd0 Pt0 wk0 hcE hmE a ∧ ∀ l, l ≤ 10 → sB G D T c p e Nm Cd0 Pt0 wk0 hcE hmE a l
  | N, a, hN => by
    have IH : ∀ a', a < a' → sU G D T c p e Nm Cd0 Pt0 wk0 hcE hmE a' ∧ ∀ l, l ≤ 10 → sB G D T c p e Nm Cd0 Pt0 wk0 hcE hmE a' l := fun a' h => by
      rcases Nat.lt_or_ge a T.n with q | q
      · exact e_all R hq hp (N - 1) a' (by omega)
      · refine ⟨fun dp fk fp wk Wt Wi Mk Pt Cd s i d hc hm Km P X => ?_, fun l _ dp fk fp wk Wt Wi Mk Pt Cd s i d hc hm Km P X => ?_⟩
        · have := X.2.2.1.1; omega
        · have := X.2.2.1.1; omega
    have hU := e_U R hq hp (fun a' h => (IH a' h).1) (fun a' h => (IH a' h).2 0 (by omega))
    refine ⟨hU, fun l hl => ?_⟩
    have key : ∀ m, m ≤ 10 → sB G D T c p e Nm Cd0 Pt0 wk0 hcE hmE a (10 - m) := fun m => by
      induction m with
      | zero => exact fun _ => e_B10 R hU
      | succ m ih =>
        intro hm
        have h1 := ih (by omega)
        have e1 : 10 - m = (10 - (m + 1)) + 1 := by omega
        rw [e1] at h1
        exact e_B R hq hp (by omega) h1 (fun a' h => (IH a' h).2 _ (by omega))
    have := key (10 - l) (by omega)
    rwa [show 10 - (10 - l) = l by omega] at this
termination_by N a => T.n - a
decreasing_by omega
end EXPR3
