/-! ===== STATEMENTS: BLOCK, and all of them ===== -/
section ST10
variable {G : qG} {T : tkD} {c p e na : Nat} {hc0 hm0 : qh} {a dp : Nat} {fk fp : Int32} {wk : Nat} {Pt : List prt} {Cd : List cod} {Nm : List nmE} {st nv nl jn wh : Nat} {ag bh : Int32} {hc hm : qh}
theorem j_block (R : TR T) (hq : q_cir c) (hp : q_prg p) (he : q_end e) (IH : ∀ a', a < a' → stS G T c p e na hc0 hm0 a') {d D : Nat} (hd : 16 * (17 - dp) + 20 ≤ d) (hD : 3 * (17 - dp) + 10 ≤ D) (x1 : CSt T c a dp fk fp wk Pt jn nv nl ag bh hc) (x2 : MSt T p e a dp fk fp wk Cd Nm st nv nl wh hm) (b1 : a < T.n) (b2 : dp ≤ 16) (b3 : Cd.length ≤ a) (b4 : wk ≤ a) (b5 : st ≤ a + 1) (b6 : nv ≤ a) (b7 : nl ≤ a) (b8 : Nm.length ≤ a) (b9 : wh ≤ a) (b10 : jn ≤ 80) (x4 : FG T a fk fp) (x5 : PFc c hc0 hc) (x6 : PFm p e hm0 hm) (x7 : fk = 0 → SCl T na a wk Pt Nm jn nv nl wh ag bh hc) :
    J (fun hx Q => q_M0 G D yX2_readBlock [.ref 21] (mg hc hx) Q) (fun hx Q => q_M0 G d yX12_block [.ref 43] (mg hx hm) Q) (PP (kOk T c p e na hc0 hm0 a (dp + 1) fk fp wk Pt Cd Nm st nv nl jn wh ag bh hc hm dp) (pFail c p e hc0 hm0)) := by
  obtain ⟨D, rfl⟩ : ∃ D', D = D' + 1 := ⟨D - 1, by omega⟩
  obtain ⟨d, rfl⟩ : ∃ d', d = d' + 1 := ⟨d - 1, by omega⟩
  have hn := R.2.1
  refine J.c (fun hx Q hF => x_X2_readBlock G D _ Q hF) ?_
  refine J.m (fun hx Q hF => x_X12_block G d _ Q hF) ?_
  have e27 : ∀ hx, (mg hx hm).I 43 27 = Int32.ofNat Nm.length := fun hx => by rw [mI (by decide)]; exact x2.1.2.2.2.1.1
  refine J.m (fun hx Q hF => by rw [e27]; exact hF) ?_
  by_cases k123 : T.k a = 123
  · have ha1 := tk_more' R b1 k123 (by decide)
    have hpn := tk_pn R ha1
    by_cases h16 : dp < 16
    · obtain ⟨h1, g1, g2, g3⟩ := c_enter (G := G) (d := D) (by omega) x1.1 k123 h16 ha1 hn
      have z1 := x1.r22 hq g2 g3
      obtain ⟨m1, l1, l2, l3⟩ := m_opens (G := G) (d := d) (by omega) R x2.1.1 b1 (s := 123) (by decide) k123 h16
      have y1 := x2.r43 hp l2 l3
      obtain ⟨n, hn25, en⟩ := z1.2.2.2.1
      have e23 : ∀ hx, (mg h1 hx).I 23 3 = Int32.ofNat n := fun hx => by rw [cI (by decide)]; exact en
      refine J.ci g1 (J.c4 (by decide) (J.mv l1 ?_))
      refine J.c (fun hx Q hF => by rw [e23]; exact hF) ?_
      have hcn : fk = 0 → n = Nm.length := fun h0 => by
        have q := (g3.xf hq).cn hq (x7 h0).2.1
        have h25 := q.2.1
        exact (n_eq (by omega) (by omega)).mp (en.symm.trans q.1)
      have SN : SI T c p e na hc0 hm0 (a + 1) (dp + 1) fk fp wk Pt Cd ([] ++ Nm) st nv nl jn wh ag bh h1 m1 := by
        refine ⟨z1, y1, ⟨ha1, by omega, by omega, by omega, by omega, by omega, by omega, by show Nm.length ≤ _; omega, by omega, b10⟩, x4.next (by omega), x5.tr (g3.pf hq), x6.tr (l3.pf hp), fun h0 => ?_⟩
        obtain ⟨e1, e2, e3, e4, e5, e6, e7, e8, e9, e10, e11⟩ := x7 h0
        exact ⟨e1, (g3.xf hq).cn hq e2, e3, e4, e5, e6, by clear e10 e11 e9; omega, e8, e9, e10, e11⟩
      refine st_loop R hq hp he a IH rfl (by omega) (by omega) hn25 hcn ((Classical.em (fk = 0)).imp (fun q => (x7 q).2.1) id) (T.n - (a + 1)) (a + 1) (Nat.le_refl _) fk fp wk Pt Cd [] st nv nl jn 0 (-1) (-1) h1 m1 (by omega) (by omega) SN (fun _ => ⟨rfl, rfl⟩) (by omega) (Or.inl rfl) (fun h0 => ⟨⟨h0, (g3.xf hq).sf hq, (l3.xf hp).sf hp he, Nat.le_refl _, Nat.le_refl _, Nat.le_refl _, ⟨[], rfl⟩, ⟨[], rfl⟩, Nat.le_refl _, by omega⟩, Or.inl ⟨rfl, rfl, rfl⟩⟩)
    · obtain ⟨h1, g1, g2, g3⟩ := c_enterDeep (G := G) (d := D) (by omega) x1.1 k123 (by omega)
      obtain ⟨m1, l1, l2, l3⟩ := m_opensDeep (G := G) (d := d) (by omega) R x2.1.1 b1 (s := 123) (by decide) k123 (by omega)
      refine J.ci g1 (J.c3 rfl ?_)
      exact J.mxv l1 (J.fail ⟨7, T.p a, Or.inr rfl, g2, l2, x5.tr (g3.pf hq), x6.tr (l3.pf hp)⟩)
  · obtain ⟨h1, g1, g2, g3⟩ := c_enterNo (G := G) (d := D) (by omega) x1.1 k123
    obtain ⟨m1, l1, l2, l3⟩ := m_opensNo (G := G) (d := d) (by omega) R x2.1.1 b1 (s := 123) (by decide) k123
    refine J.ci g1 (J.c3 rfl ?_)
    exact J.mxv l1 (J.fail ⟨1, T.p a, Or.inl rfl, g2, l2, x5.tr (g3.pf hq), x6.tr (l3.pf hp)⟩)
theorem st_block (R : TR T) (hq : q_cir c) (hp : q_prg p) (he : q_end e) (IH : ∀ a', a < a' → stS G T c p e na hc0 hm0 a') {d D : Nat} (hd : 16 * (17 - dp) + 30 ≤ d) (hD : 3 * (17 - dp) + 12 ≤ D) (S : SI T c p e na hc0 hm0 a dp fk fp wk Pt Cd Nm st nv nl jn wh ag bh hc hm) (hk : T.k a = 123) :
    J (fun hx Q => q_M0 G D yX2_readStatement [.ref 21] (mg hc hx) Q) (fun hx Q => q_M0 G d yX12_statement [.ref 43] (mg hx hm) Q) (PP (sOk T c p e na hc0 hm0 a dp fk fp wk Pt Cd Nm st nv nl jn wh ag bh hc hm) (pFail c p e hc0 hm0)) := by
  obtain ⟨D, rfl⟩ : ∃ D', D = D' + 1 := ⟨D - 1, by omega⟩
  obtain ⟨d, rfl⟩ : ∃ d', d = d' + 1 := ⟨d - 1, by omega⟩
  obtain ⟨x1, x2, ⟨b1, b2, b3, b4, b5, b6, b7, b8, b9, b10⟩, x4, x5, x6, x7⟩ := S
  have hn := R.2.1
  have hpl := prg_lt hp
  have hel := end_lt he
  have hp6 : 43 ≤ p + 6 := by omega
  have ha1 := tk_more' R b1 hk (by decide)
  have hsb : st < 2147483648 := by omega
  have hin : vp_in (Int32.ofNat st) 2000 := n_in (by omega) (by omega)
  obtain ⟨m1, s1, s2, s3, s4, s5⟩ := sm_new (G := G) (d := d) (by omega) hp he x2 (by omega) 7
  have i1 := m_is1 (G := G) (d := d) (by omega) R x2.1.1 b1 (s := 123) (by decide) hk
  refine J.c (fun hx Q hF => cd_123 ((c_at x1 hx).trans hk) hF) ?_
  refine J.m (fun hx Q hF => md_4 (m_at R x2 b1 hx).1 hp (m_at R x2 b1 hx).2.1 ((m_at R x2 b1 hx).2.2.1.trans ((tk_sign R b1 (s := 123) (by decide)).mp hk).1) hF) ?_
  refine J.mi i1 (J.m4 (by decide) (J.mi s1 ?_))
  refine J.callii (j_block R hq hp he IH (by omega) (by omega) x1 s2 b1 b2 b3 b4 (by omega) b6 b7 b8 b9 b10 x4 x5 (x6.tr s3) x7) ?_ ?_
  · rintro x hc' hm' ⟨a', fk', fp', wk', Pt', Cd', st', nv', nl', jn', o1, ⟨y1, y2, ⟨t1, t2, t3, t4, t5, t6, t7, t8, t9, t10⟩, y4, y5, y6, y7⟩, o3, o4⟩
    refine J.ca' (fun _ => Or.inr rfl) (J.ma' (fun _ => hin) ?_)
    have row6 := y2.row hp (o := 6) (by decide) (by decide) st x
    have pf6 : PFm p e hm' (hm'.sI (p + 6) st x) := PFm.sI hp he _ _ _ _ (by omega)
    refine J.m (Wm' := fun hx Q => Q (riv (Int32.ofNat st)) (mg hx (hm'.sI (p + 6) st x))) (fun hx Q hF => by rw [n_N hsb, mg_sI_m hp6]; exact hF) ?_
    refine J.ok ⟨rfl, a', fk', fp', wk', Pt', Cd', [], st', nv', nl', jn', o1, ⟨y1, row6, ⟨t1, t2, t3, t4, t5, t6, t7, t8, t9, t10⟩, y4, y5, y6.tr pf6, y7⟩, o3, fun h0 => ?_⟩
    obtain ⟨⟨q1, q2, q3, q4, q5, q6, q7, q8, q9, q10⟩, L, L1, L2⟩ := o4 h0
    have rowF : ∀ o i, 2 ≤ o → o ≤ 8 → ¬ (o = 6 ∧ i = st) → (hm'.sI (p + 6) st x).I (p + o) i = hm'.I (p + o) i := fun o i c1 c2 c3 => by rw [sI_I, if_neg (by omega)]
    have hL := LC.to' (s0 := st + 1) (B := Pt'.length) (S' := st') (hm' := hm'.sI (p + 6) st x) (F' := fun V t a b => SC c p e hc' (hm'.sI (p + 6) st x) (AK na) st' Cd'.length jn jn' (17 - (dp + 1)) V t a b ag bh) (Nat.le_refl _) (fun o c1 c2 i c3 _ => rowF o i c1 c2 (by omega)) (fun V V' s a b hV h1 h2 hb q => SC.to (B := Pt'.length) (fun _ q => q) (Nat.le_refl _) (Nat.le_refl _) (Nat.le_refl _) (Nat.le_refl _) _ V V' s a b ag bh hV h2 hb ⟨fun _ _ => rfl, fun i _ => by unfold cAt; rw [sI_row _ (by omega), sI_row _ (by omega)], fun i _ => by rw [sI_row _ (by omega)], fun _ _ _ => rfl, fun o c1 c2 i c3 c4 => rowF o i c1 (by omega) (by omega), fun i c3 c4 => rowF 8 i (by decide) (by decide) (by omega)⟩ q) (fun V s a b q => by have := SC.le _ _ _ _ _ _ _ q; omega) L (VN Nm) (VN Nm) x Pt.length Pt'.length (-1) (fun _ q => q) L1 (Nat.le_refl _) L2
    refine ⟨q1, q2, ?_, by omega, q5, q6, q7, q8, ?_, fun y q => Or.inl q, ?_, q9, q10⟩
    · refine ⟨fun o c1 c2 i c3 => by rw [rowF o i c1 c2 (by omega), q3.1 o c1 c2 i (by omega), (s4 0).1 o c1 c2 i c3], fun i c1 => by rw [sI_row _ (by omega), q3.2.1 i c1, (s4 Cd.length).2.1 i c1], by rw [sI_row _ (by omega), q3.2.2.1, (s4 0).2.2.1], fun k hk => by rw [sI_row _ (by omega), q3.2.2.2 k hk, (s4 0).2.2.2 k hk]⟩
    · rw [show 17 - dp = (16 - dp) + 1 by omega]
      refine Or.inr (Or.inr (Or.inr (Or.inr (Or.inr (Or.inr (Or.inr ⟨?_, L, fun t ht => by have := L1 t ht; omega, ?_⟩))))))
      · rw [rowF 2 st (by decide) (by decide) (by omega), q3.1 2 (by decide) (by decide) st (by omega)]; exact s5.1
      · rw [sI_I, if_pos ⟨rfl, rfl⟩]
        have := hL.1
        rw [show 17 - (dp + 1) = 16 - dp by omega] at this
        exact this
    · rw [rowF 8 st (by decide) (by decide) (by omega), q3.1 8 (by decide) (by decide) st (by omega)]; exact s5.2.2.2
  · intro hc' hm' hf
    exact J.ca' (fun _ => Or.inl rfl) (J.fail hf)
theorem st_no (R : TR T) (hq : q_cir c) (hp : q_prg p) {d D : Nat} (hd : 3 ≤ d) (hD : 3 ≤ D) (S : SI T c p e na hc0 hm0 a dp fk fp wk Pt Cd Nm st nv nl jn wh ag bh hc hm) (h2 : ¬ T.k a = 2) (h4 : ¬ T.k a = 4) (h5 : ¬ T.k a = 5) (h7 : ¬ T.k a = 7) (h8 : ¬ T.k a = 8) (h9 : ¬ T.k a = 9) (h10 : ¬ T.k a = 10) (h123 : ¬ T.k a = 123) :
    J (fun hx Q => q_M0 G D yX2_readStatement [.ref 21] (mg hc hx) Q) (fun hx Q => q_M0 G d yX12_statement [.ref 43] (mg hx hm) Q) (PP (sOk T c p e na hc0 hm0 a dp fk fp wk Pt Cd Nm st nv nl jn wh ag bh hc hm) (pFail c p e hc0 hm0)) := by
  obtain ⟨D, rfl⟩ : ∃ D', D = D' + 1 := ⟨D - 1, by omega⟩
  obtain ⟨d, rfl⟩ : ∃ d', d = d' + 1 := ⟨d - 1, by omega⟩
  obtain ⟨x1, x2, ⟨b1, b2, b3, b4, b5, b6, b7, b8, b9, b10⟩, x4, x5, x6, x7⟩ := S
  obtain ⟨h1, g1, g2, g3⟩ := c_refuse (G := G) (d := D) (by omega) x1.1
  have i1 := m_is0 (G := G) (d := d) (by omega) R x2.1.1 b1 (s := 123) (by decide) h123
  obtain ⟨m1, l1, l2, l3⟩ := m_refuse (G := G) (d := d) (by omega) R x2.1.1 b1 1
  refine J.c (fun hx Q hF => cd_no (by rw [c_at x1 hx]; exact h2) (by rw [c_at x1 hx]; exact h4) (by rw [c_at x1 hx]; exact h5) (by rw [c_at x1 hx]; exact h7) (by rw [c_at x1 hx]; exact h8) (by rw [c_at x1 hx]; exact h9) (by rw [c_at x1 hx]; exact h10) (by rw [c_at x1 hx]; exact h123) hF) ?_
  refine J.ci g1 (J.ca' (fun _ => Or.inl rfl) ?_)
  have hw : ∀ (s : Int32), 4 ≤ s → s ≤ 10 → ¬ T.k a = s → ¬ T.km a = s + 1 := fun s c1 c2 c3 q => c3 ((tk_word R b1 c1 c2).mpr q)
  refine J.m (fun hx Q hF => md_no (m_at R x2 b1 hx).1 hp (m_at R x2 b1 hx).2.1 (by rw [(m_at R x2 b1 hx).2.2.1]; exact fun q => h2 ((tk_name R b1).mpr q)) (by rw [(m_at R x2 b1 hx).2.2.1]; exact hw 4 (by decide) (by decide) h4) (by rw [(m_at R x2 b1 hx).2.2.1]; exact hw 5 (by decide) (by decide) h5) (by rw [(m_at R x2 b1 hx).2.2.1]; exact hw 7 (by decide) (by decide) h7) (by rw [(m_at R x2 b1 hx).2.2.1]; exact hw 8 (by decide) (by decide) h8) (by rw [(m_at R x2 b1 hx).2.2.1]; exact hw 9 (by decide) (by decide) h9) (by rw [(m_at R x2 b1 hx).2.2.1]; exact hw 10 (by decide) (by decide) h10) hF) ?_
  refine J.mi i1 (J.m3 rfl ?_)
  exact J.mxv l1 (J.fail ⟨1, T.p a, Or.inl rfl, g2, l2, x5.tr (g3.pf hq), x6.tr (l3.pf hp)⟩)
/-- EVERY STATEMENT is read alike -/
theorem st_all (R : TR T) (hq : q_cir c) (hp : q_prg p) (he : q_end e) : ∀ (N a : Nat), T.n - a ≤ N → stS G T c p e na hc0 hm0 a
  | N, a, hN => by
    intro dp fk fp wk Pt Cd Nm st nv nl jn wh ag bh hc hm d D S hd hD
    have b1 := S.2.2.1.1
    have IH : ∀ a', a < a' → stS G T c p e na hc0 hm0 a' := fun a' h => st_all R hq hp he (N - 1) a' (by omega)
    by_cases h2 : T.k a = 2
    · exact st_set R hq hp he (by omega) (by omega) S h2
    by_cases h4 : T.k a = 4
    · exact st_tell R hq hp he (by omega) (by omega) S h4
    by_cases h5 : T.k a = 5
    · exact st_if R hq hp he IH hd hD S h5
    by_cases h7 : T.k a = 7
    · exact st_while R hq hp he IH hd hD S h7
    by_cases h8 : T.k a = 8
    · exact st_leap R hq hp he (by omega) (by omega) S (Or.inl h8)
    by_cases h9 : T.k a = 9
    · exact st_leap R hq hp he (by omega) (by omega) S (Or.inr h9)
    by_cases h10 : T.k a = 10
    · exact st_ret R hq hp he (by omega) (by omega) S h10
    by_cases h123 : T.k a = 123
    · exact st_block R hq hp he IH hd hD S h123
    · exact st_no R hq hp (by omega) (by omega) S h2 h4 h5 h7 h8 h9 h10 h123
termination_by N a => T.n - a
decreasing_by omega
end ST10
