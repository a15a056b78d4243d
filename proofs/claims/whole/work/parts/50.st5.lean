/-! ===== STATEMENTS: the STATEMENT of an if or while ===== -/
def bOk (T : tkD) (c p e na : Nat) (hc0 hm0 : qh) (a dp : Nat) (fk fp : Int32) (wk : Nat) (Pt : List prt) (Cd : List cod) (Nm : List nmE) (st nv nl jn wh : Nat) (ag bh : Int32) (hc hm : qh) (a' : Nat) (fk' fp' : Int32) (wk' : Nat) (Pt' : List prt) (Cd' : List cod) (st' nv' nl' jn' : Nat) (hc' hm' : qh) : Prop :=
  a < a' ∧ SI T c p e na hc0 hm0 a' dp fk' fp' wk' Pt' Cd' Nm st' nv' nl' jn' wh ag bh hc' hm' ∧ (¬ fk = 0 → fk' = fk ∧ fp' = fp) ∧
    (fk' = 0 → fk = 0 ∧ SFc c jn hc hc' ∧ SFm p e st Cd.length hm hm' ∧ st < st' ∧ jn ≤ jn' ∧ nv ≤ nv' ∧ (∃ Ce, Cd' = Ce ++ Cd) ∧ (∃ Pe, Pt' = Pe ++ Pt) ∧ SC c p e hc' hm' (AK na) st' Cd'.length jn jn' (17 - dp) (VN Nm) st Pt.length Pt'.length ag bh ∧ jn' + 2 * nl ≤ jn + 2 * nl' ∧ 6 * Pt'.length + 12 * wk + 30 * nl + T.pn a ≤ 6 * Pt.length + 12 * wk' + 30 * nl' + T.pn a')
theorem SAg.rows {c p e s S N J0 J1 B : Nat} {hc hm hc' hm' : qh} (hq : q_cir c) (hp : q_prg p) (he : q_end e) (h1 : ∀ o, o ≤ 14 → hc'.I o = hc.I o) (h2 : ∀ o, (51 ≤ o ∧ o ≤ 72) ∨ o = 81 ∨ o = 82 → hm'.I o = hm.I o) : SAg c p e s S N J0 J1 B hc hm hc' hm' := by
  have := cir_lt hq
  have := prg_lt hp
  have := end_lt he
  refine ⟨fun i _ => ?_, fun i _ => ?_, fun i _ => by rw [h2 e (by omega)], fun j _ _ => by rw [h1 _ (by omega)], fun o _ _ i _ _ => by rw [h2 _ (by omega)], fun i _ _ => by rw [h2 _ (by omega)]⟩
  · unfold pAt; rw [h1 _ (by omega), h1 _ (by omega), h1 _ (by omega), h1 _ (by omega)]
  · unfold cAt; rw [h2 _ (by omega), h2 _ (by omega)]
def stS (G : qG) (T : tkD) (c p e na : Nat) (hc0 hm0 : qh) (a : Nat) : Prop := ∀ dp fk fp wk Pt Cd Nm st nv nl jn wh ag bh hc hm d D, SI T c p e na hc0 hm0 a dp fk fp wk Pt Cd Nm st nv nl jn wh ag bh hc hm → 16 * (17 - dp) + 30 ≤ d → 3 * (17 - dp) + 12 ≤ D →
  J (fun hx Q => q_M0 G D yX2_readStatement [.ref 21] (mg hc hx) Q) (fun hx Q => q_M0 G d yX12_statement [.ref 43] (mg hx hm) Q) (PP (sOk T c p e na hc0 hm0 a dp fk fp wk Pt Cd Nm st nv nl jn wh ag bh hc hm) (pFail c p e hc0 hm0))
section ST5
variable {G : qG} {T : tkD} {c p e na : Nat} {hc0 hm0 : qh} {a dp : Nat} {fk fp : Int32} {wk : Nat} {Pt : List prt} {Cd : List cod} {Nm : List nmE} {st nv nl jn wh : Nat} {ag bh : Int32} {hc hm : qh}
theorem j_body {P : qr → qh → qr → qh → Prop} {F Fm : (qr → qh → Prop) → Int32 → qh → Prop} {X Xm : (qr → qh → Prop) → String → qh → Prop} (hq : q_cir c) (hp : q_prg p) (he : q_end e) {d D : Nat} (S : SI T c p e na hc0 hm0 a dp fk fp wk Pt Cd Nm st nv nl jn wh ag bh hc hm)
    (h : J (fun hx Q => q_M0 G D yX2_readStatement [.ref 21] (mg hc hx) Q) (fun hx Q => q_M0 G d yX12_statement [.ref 43] (mg hx hm) Q) (PP (sOk T c p e na hc0 hm0 a dp fk fp wk Pt Cd Nm st nv nl jn wh ag bh hc hm) (pFail c p e hc0 hm0)))
    (k1 : ∀ a' fk' fp' wk' Pt' Cd' st' nv' nl' jn' hc' hm', bOk T c p e na hc0 hm0 a dp fk fp wk Pt Cd Nm st nv nl jn wh ag bh hc hm a' fk' fp' wk' Pt' Cd' st' nv' nl' jn' hc' hm' → J (fun hx Q => F Q 1 (mg hc' hx)) (fun hx Q => Fm Q (Int32.ofNat st) (mg hx hm')) P)
    (k2 : ∀ hc' hm', pFail c p e hc0 hm0 hc' hm' → J (fun hx Q => F Q 0 (mg hc' hx)) (fun hx Q => Xm Q "java/lang/IllegalStateException" (mg hx hm')) P) :
    J (fun hx Q => q_M0 G (D + 1) yX2_readBody [.ref 21] (mg hc hx) (q_ri (F Q) (X Q))) (fun hx Q => q_M0 G (d + 1) yX12_within [.ref 43] (mg hx hm) (q_ri (Fm Q) (Xm Q))) P := by
  have hc8 := cir_lt hq
  have hpl := prg_lt hp
  have hel := end_lt he
  obtain ⟨x1, x2, -, -, -, -, x7⟩ := S
  obtain ⟨n, hn, en⟩ := x1.2.2.2.1
  have e23 : ∀ hx, (mg hc hx).I 23 3 = Int32.ofNat n := fun hx => by rw [cI (by decide)]; exact en
  have e27 : ∀ hx, (mg hx hm).I 43 27 = Int32.ofNat Nm.length := fun hx => by rw [mI (by decide)]; exact x2.1.2.2.2.1.1
  refine J.c (fun hx Q hF => x_X2_readBody G D _ _ hF) ?_
  refine J.c (fun hx Q hF => by rw [e23]; exact hF) ?_
  refine J.m (fun hx Q hF => x_X12_within G d _ _ hF) ?_
  refine J.m (fun hx Q hF => by rw [e27]; exact hF) ?_
  refine J.callii h ?_ ?_
  · rintro x' hc' hm' ⟨rfl, a', fk', fp', wk', Pt', Cd', X', st', nv', nl', jn', o1, ⟨s1, s2, ⟨t1, t2, t3, t4, t5, t6, t7, t8, t9, t10⟩, s4, s5, s6, s7⟩, o3, o4⟩
    refine J.ca' (fun _ => Or.inr rfl) ?_
    refine J.c (Wc' := fun hx Q => F Q 1 (mg (hc'.sI 23 3 (Int32.ofNat n)) hx)) (fun hx Q hF => by rw [mg_sI_c (by decide)]; exact hF) ?_
    refine J.m (Wm' := fun hx Q => Fm Q (Int32.ofNat st) (mg hx (hm'.sI 43 27 (Int32.ofNat Nm.length)))) (fun hx Q hF => by rw [mg_sI_m (by decide)]; exact hF) ?_
    have pc : PFc c hc' (hc'.sI 23 3 (Int32.ofNat n)) := PFc.sI _ _ _ _ (by omega)
    have pm : PFm p e hm' (hm'.sI 43 27 (Int32.ofNat Nm.length)) := PFm.sI hp he _ _ _ _ (by omega)
    rw [List.length_append] at t8
    refine k1 a' fk' fp' wk' Pt' Cd' st' nv' nl' jn' _ _ ⟨o1, ⟨s1.s23 hq hn, s2.cut hp, ⟨t1, t2, t3, t4, t5, t6, t7, by omega, t9, t10⟩, s4, s5.tr pc, s6.tr pm, fun h0 => ?_⟩, o3, fun h0 => ?_⟩
    · obtain ⟨q1, -⟩ := o4 h0
      obtain ⟨e1, e2, e3, e4, e5, e6, e7, e8, e9, e10, e11⟩ := s7 h0
      rw [List.length_append] at e8
      have hnn : n = Nm.length := by
        have := (x7 q1).2.1
        have h25 := this.2.1
        exact (n_eq (by omega) (by omega)).mp (en.symm.trans this.1)
      refine ⟨e1, by rw [hnn]; exact e2.cut, uq_tail e3, e4, e5, e6, e7, by clear e10 e11 e9; omega, fun z hz => e9 z (List.mem_append_right _ hz), e10, e11⟩
    · obtain ⟨q1, q2, q3, q4, q5, q6, q7, q8, q9, -, -, q10, q11⟩ := o4 h0
      exact ⟨q1, q2.tr (SFc.row hq _ _ _ _ (by decide)) (Nat.le_refl jn), q3.tr (SFm.s43 hp he _ _) (Nat.le_refl _) (Nat.le_refl _), q4, q5, q6, q7, q8, SC.to (B := Pt'.length) (fun _ q => q) (Nat.le_refl _) (Nat.le_refl _) (Nat.le_refl _) (Nat.le_refl _) _ _ _ _ _ _ _ _ (fun _ q => q) q4 (Nat.le_refl _) (SAg.rows hq hp he (fun o ho => sI_row _ (by omega)) (fun o ho => sI_row _ (by omega))) q9, q10, q11⟩
  · rintro hc' hm' ⟨k, t, q1, q2, q3, q4, q5⟩
    refine J.ca' (fun _ => Or.inl rfl) ?_
    refine J.c (Wc' := fun hx Q => F Q 0 (mg (hc'.sI 23 3 (Int32.ofNat n)) hx)) (fun hx Q hF => by rw [mg_sI_c (by decide)]; exact hF) ?_
    refine k2 _ _ ⟨k, t, q1, ?_, q3, q4.tr (PFc.sI _ _ _ _ (by omega)), q5⟩
    exact ⟨by rw [sI_row _ (by decide)]; exact q2.1, by rw [sI_row _ (by decide)]; exact q2.2⟩
end ST5
