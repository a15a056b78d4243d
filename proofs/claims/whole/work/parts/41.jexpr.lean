/-! ===== an E, as the STATEMENTS take it ===== -/
def PFc (c : Nat) (h h' : qh) : Prop := (∀ o, ¬ (21 ≤ o ∧ o ≤ 30) → ¬ (c ≤ o ∧ o ≤ c + 6) → h'.I o = h.I o) ∧ (∀ o, ¬ (21 ≤ o ∧ o ≤ 30) → h'.L o = h.L o) ∧ h'.R = h.R ∧ (cOK c h → cOK c h')
def PFm (p e : Nat) (h h' : qh) : Prop := (∀ o, o ≠ 43 → ¬ (73 ≤ o ∧ o ≤ 75) → ¬ (p ≤ o ∧ o ≤ p + 10) → o ≠ e → h'.I o = h.I o) ∧ h'.L = h.L ∧ h'.R = h.R ∧ (∀ k, (k < 14 ∨ k = 16 ∨ (20 < k ∧ k ≠ 27 ∧ k ≠ 40)) → h'.I 43 k = h.I 43 k)
theorem PFc.rf (c : Nat) (h : qh) : PFc c h h := ⟨fun _ _ _ => rfl, fun _ _ => rfl, rfl, id⟩
theorem PFm.rf (p e : Nat) (h : qh) : PFm p e h h := ⟨fun _ _ _ _ _ => rfl, rfl, rfl, fun _ _ => rfl⟩
theorem PFc.tr {c : Nat} {h h1 h2 : qh} (a : PFc c h h1) (b : PFc c h1 h2) : PFc c h h2 := ⟨fun o e1 e2 => (b.1 o e1 e2).trans (a.1 o e1 e2), fun o e => (b.2.1 o e).trans (a.2.1 o e), b.2.2.1.trans a.2.2.1, fun x => b.2.2.2 (a.2.2.2 x)⟩
theorem PFm.tr {p e : Nat} {h h1 h2 : qh} (a : PFm p e h h1) (b : PFm p e h1 h2) : PFm p e h h2 := ⟨fun o e1 e2 e3 e4 => (b.1 o e1 e2 e3 e4).trans (a.1 o e1 e2 e3 e4), b.2.1.trans a.2.1, b.2.2.1.trans a.2.2.1, fun k e => (b.2.2.2 k e).trans (a.2.2.2 k e)⟩
theorem CXF.pf {c : Nat} {h h' : qh} (r : CXF c h h') : PFc c h h' := ⟨fun o e1 e2 => r.1 o (by omega) (by omega) (by omega), fun o e => r.2.1 o (by omega), r.2.2.1⟩
/-- what an E leaves as it was in the reference; its end is written at n -/
def MEF (p e n : Nat) (h h' : qh) : Prop := (∀ o, o ≠ 43 → o ≠ p → o ≠ p + 9 → o ≠ p + 10 → o ≠ e → h'.I o = h.I o) ∧ h'.L = h.L ∧ h'.R = h.R ∧ (∀ k, (k < 14 ∨ k = 16 ∨ 20 < k) → h'.I 43 k = h.I 43 k) ∧ (∀ k, k ≠ 4 → k ≠ 6 → h'.I p k = h.I p k) ∧ (∀ j, j ≠ n → h'.I e j = h.I e j)
theorem MXF.ef {p e n : Nat} {h h' : qh} (hp : q_prg p) (he : q_end e) (r : MXF p h h') : MEF p e n h h' := by
  have := prg_lt hp
  have := end_lt he
  exact ⟨fun o e1 e2 e3 e4 _ => r.1 o e1 e2 e3 e4, r.2.1, r.2.2.1, r.2.2.2.1, r.2.2.2.2, fun j _ => by rw [r.1 e (by omega) (by omega) (by omega) (by omega)]⟩
theorem MEF.pf {p e n : Nat} {h h' : qh} (r : MEF p e n h h') : PFm p e h h' := ⟨fun o e1 e2 e3 e4 => r.1 o e1 (by omega) (by omega) (by omega) e4, r.2.1, r.2.2.1, fun k e => r.2.2.2.1 k (by omega)⟩
theorem MXF.pf {p e : Nat} {h h' : qh} (r : MXF p h h') : PFm p e h h' := ⟨fun o e1 e2 e3 e4 => r.1 o e1 (by omega) (by omega) (by omega), r.2.1, r.2.2.1, fun k e => r.2.2.2.1 k (by omega)⟩
section JEXPR
variable {G : qG} {T : tkD} {c p e a dp : Nat} {fk fp : Int32} {wk : Nat} {Pt : List prt} {Cd : List cod} {Nm : List nmE} {hc hm : qh}
def eOk (T : tkD) (c p e a dp : Nat) (fk fp : Int32) (wk : Nat) (Pt : List prt) (Cd : List cod) (Nm : List nmE) (hc hm : qh) (a' : Nat) (fk' fp' : Int32) (wk' : Nat) (v : Int32) (Pt' : List prt) (Cd' : List cod) (hc' hm' : qh) : Prop :=
  a < a' ∧ a' < T.n ∧ CB T a' dp fk' fp' hc' ∧ CF [] [] [v] wk' 0 hc' ∧ CC c Pt' hc' ∧ CXF c hc hc' ∧ MX T p e a' dp fk' fp' wk' Cd' Nm hm' ∧ MEF p e Cd.length hm hm' ∧ hm'.I e Cd.length = Int32.ofNat Cd'.length ∧ Cd'.length ≤ a' ∧ wk' ≤ a' ∧ FG T a' fk' fp' ∧ (¬ fk = 0 → fk' = fk ∧ fp' = fp) ∧ (fk' = 0 → fk = 0 ∧ wk' ≤ 400 ∧ ∃ Ce Pe, Cd' = Ce ++ Cd ∧ Pt' = Pe ++ Pt ∧ EC (VN Nm) (AN Nm) Ce Pe Pt.length [v] ∧ Ce.length + wk ≤ wk')
def pFail (c p e : Nat) (hc hm hc' hm' : qh) : Prop := ∃ k t, (k = 1 ∨ k = 7) ∧ CFail k t hc' ∧ MFail k t hm' ∧ PFc c hc hc' ∧ PFm p e hm hm'
theorem j_expr (R : TR T) (hq : q_cir c) (hp : q_prg p) (he : q_end e) {d D : Nat} (hd : 13 * (17 - dp) + 18 ≤ d) (b : CB T a dp fk fp hc) (w : hc.I 27 8 = Int32.ofNat wk) (x : CC c Pt hc) (ck : CK hc) (r1 : hc.R 27 5 = some c) (r2 : hc.R 21 3 = some c) (m : MX T p e a dp fk fp wk Cd Nm hm) (ha : a < T.n) (hdp : dp ≤ 16) (hC : Cd.length ≤ a) (hw : wk ≤ a) (f : FG T a fk fp) (cl : fk = 0 → wk ≤ 400 ∧ CN T Nm hc ∧ uq T Nm ∧ Pt.length < 1000 + wk) :
    J (fun hx Q => q_M0 G (D + 4) yX1_read [.ref 27] (mg hc hx) Q) (fun hx Q => q_M0 G d yX12_expression [.ref 43] (mg hx hm) Q) (fun rc hc' rm hm' => (rc = riv 1 ∧ rm = riv (Int32.ofNat Cd.length) ∧ ∃ a' fk' fp' wk' v Pt' Cd', eOk T c p e a dp fk fp wk Pt Cd Nm hc hm a' fk' fp' wk' v Pt' Cd' hc' hm') ∨ (rc = riv 0 ∧ rm = rxx ∧ pFail c p e hc hm hc' hm')) := by
  obtain ⟨d, rfl⟩ : ∃ d', d = d' + 1 := ⟨d - 1, by omega⟩
  have hn := R.2.1
  have hpl := prg_lt hp
  have hel := end_lt he
  obtain ⟨hcE, hE⟩ : ∃ hcE, hcE = ((hc.sI 27 6 0).sI 27 7 0).sI 27 9 1 := ⟨_, rfl⟩
  have r27 : R27 hc hcE := by rw [hE]; exact ((R27.sI _ _ _ _ (by decide)).tr (R27.sI _ _ _ _ (by decide))).tr (R27.sI _ _ _ _ (by decide))
  have cf : CF [] [] [] wk 1 hcE := by
    rw [hE]
    refine ⟨rfl, rfl, by decide, trivial, trivial, rfl, by decide, trivial, ?_, rfl⟩
    rw [sI_I, if_neg (by decide), sI_I, if_neg (by decide), sI_I, if_neg (by decide)]
    exact w
  have X : XI T c p e Nm Cd Pt wk hcE hm a dp fk fp wk [] [] [] 1 Pt Cd 0 hcE hm := by
    refine ⟨⟨r27.cb b, cf, r27.cc hq x, ck.to (r27.1 23 (by decide)), by rw [r27.2.2]; exact r1, by rw [r27.2.2]; exact r2⟩, m, ⟨ha, hdp, by omega, hw⟩, f, CXF.rf _ _, MXF.rf _ _, fun h0 => ?_⟩
    obtain ⟨c1, c2, c3, c4⟩ := cl h0
    exact ⟨c1, (r27.xf hq).cn hq c2, c3, c4, [], [], rfl, rfl, ⟨rfl, rfl⟩, by show 0 + wk + 0 ≤ wk; omega⟩
  refine J.c (Wc' := wR G D 0 hcE) (fun hx Q hF => x_X1_read G (D + 3) _ Q ?_) ?_
  · rw [mg_sI_c (by decide), mg_sI_c (by decide), mg_sI_c (by decide), ← hE]
    exact hF
  refine J.m (Wm' := fun hx Q => q_M0 G d yX12_binary [.ref 43, .int (Int32.ofNat 0)] (mg hx hm) (q_rv (fun h2 => (fun h2 (Q : qr → qh → Prop) => ∃ c3, h2.R 43 42 = some c3 ∧ q_end c3 ∧ (∃ c4, h2.R 43 22 = some c4 ∧ q_prg c4 ∧ (vp_in (Int32.ofNat Cd.length) 2000 ∧ (Q (.inl (some (.int (Int32.ofNat Cd.length)))) (h2.sI c3 Cd.length (h2.I c4 6)))))) h2 Q) (fun E h => Q (.inr E) h))) (fun hx Q hF => x_X12_expression G d _ Q ⟨p, by rw [mRr (by decide)]; exact m.2.2.2.2.1, hp, ?_⟩) ?_
  · rw [mI (by omega), m.2.1.1, n_N (by omega)]
    exact hF
  refine (e_all (G := G) (D := D) R hq hp (T.n - a) a (Nat.le_refl _)).2 0 (by omega) dp fk fp wk [] [] [] Pt Cd 0 0 d hcE hm _ _ X (fun s r q => by cases q) (Nat.zero_le _) (Nat.zero_le _) (Nat.zero_le _) (by omega) ?_ ?_
  · intro a' fk' fp' wk' v Pt' Cd' i' hc' hm' ha' X' hk' hi' hlv'
    obtain ⟨y1, y2, ⟨y3, y4, y5, y6⟩, y7, y8, y9, y10⟩ := X'
    refine s_fin y1 (by omega) ?_
    refine J.m (Wm' := fun hx Q => Q (riv (Int32.ofNat Cd.length)) (mg hx (hm'.sI e Cd.length (Int32.ofNat Cd'.length)))) (fun hx Q hF => ⟨e, by rw [mRr (by decide)]; exact y2.2.2.2.2.2, he, p, by rw [mRr (by decide)]; exact y2.2.2.2.2.1, hp, n_in (by omega) (by omega), ?_⟩) ?_
    · rw [mI (by omega), y2.2.1.1, mg_sI_m (by omega)]
      exact hF
    refine J.end (Or.inl ⟨rfl, rfl, a', fk', fp', wk', v, Pt', Cd', ha', y3, y1.1, y1.2.1, y1.2.2.1, (r27.xf hq).tr y8, ?_, ?_, ?_, by omega, y6, y7, hk', fun h0 => ?_⟩)
    · refine ⟨y2.1.to (fun o ho => sI_row _ (by omega)), y2.2.1.to (by rw [sI_row _ (by omega)]) (sI_row _ (by omega)) (sI_row _ (by omega)), by rw [sI_row _ (by omega)]; exact y2.2.2.1, y2.2.2.2.1.to (by rw [sI_row _ (by omega)]) (fun o _ _ => sI_row _ (by omega)), y2.2.2.2.2⟩
    · have q := y9.ef (n := Cd.length) hp he
      refine ⟨fun o e1 e2 e3 e4 e5 => (sI_row _ e5).trans (q.1 o e1 e2 e3 e4 e5), q.2.1, q.2.2.1, fun k e1 => ?_, fun k e1 e2 => ?_, fun j e1 => ?_⟩
      · rw [sI_row _ (by omega)]; exact q.2.2.2.1 k e1
      · rw [sI_row _ (by omega)]; exact q.2.2.2.2.1 k e1 e2
      · rw [sI_I, if_neg (fun w => e1 w.2)]; exact q.2.2.2.2.2 j e1
    · rw [sI_I]; exact if_pos ⟨rfl, rfl⟩
    · obtain ⟨z1, z2, z3, z4, Ce, Pe, z5, z6, z7, z8⟩ := y10 h0
      exact ⟨Classical.byContradiction fun q => q ((hk' q).1.symm.trans h0), z1, Ce, Pe, z5, z6, z7, by omega⟩
  · intro hc' hm' ⟨k, t, q1, q2, q3, q4, q5⟩
    exact Or.inr ⟨rfl, rfl, k, t, q1, q2, q3, ((r27.xf hq).tr q4).pf, q5.pf⟩
end JEXPR
