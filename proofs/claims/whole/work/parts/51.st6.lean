/-! ===== STATEMENTS: the E of an if or while ===== -/
def MCF (p e n s0 : Nat) (h h' : qh) : Prop := (∀ o, 1 ≤ o → o ≤ 8 → ∀ i, ¬ (o = 4 ∧ i = s0) → h'.I (p + o) i = h.I (p + o) i) ∧ (∀ j, j ≠ n → h'.I e j = h.I e j) ∧ (∀ k, (k = 0 ∨ k = 1 ∨ k = 7) → h'.I p k = h.I p k)
theorem MCF.sf {p e n s0 : Nat} {h h' : qh} (r : MCF p e n s0 h h') : SFm p e s0 n h h' :=
  ⟨fun o h1 h2 i h3 => r.1 o (by omega) h2 i (by omega), fun i hi => r.2.1 i (by omega), by funext i; exact r.1 1 (by decide) (by decide) i (by omega), r.2.2⟩
def CO (T : tkD) (c p e : Nat) (hc0 hm0 : qh) (a dp : Nat) (fk fp : Int32) (wk : Nat) (Pt : List prt) (Cd : List cod) (Nm : List nmE) (s0 st nv nl jn wh : Nat) (ag bh : Int32) (hc hm : qh) (a' : Nat) (fk' fp' : Int32) (wk' : Nat) (v : Int32) (Pt' : List prt) (Cd' : List cod) (hc' hm' : qh) : Prop :=
  a < a' ∧ a' < T.n ∧ CSt T c a' dp fk' fp' wk' Pt' jn nv nl ag bh hc' ∧ CF [] [] [v] wk' 0 hc' ∧ MSt T p e a' dp fk' fp' wk' Cd' Nm st nv nl wh hm' ∧ PFc c hc0 hc' ∧ PFm p e hm0 hm' ∧ Cd'.length ≤ a' ∧ wk' ≤ a' ∧ FG T a' fk' fp' ∧ (¬ fk = 0 → fk' = fk ∧ fp' = fp) ∧ CXF c hc hc' ∧ MCF p e Cd.length s0 hm hm' ∧ hm'.I (p + 4) s0 = Int32.ofNat Cd.length ∧ hm'.I e Cd.length = Int32.ofNat Cd'.length ∧ (fk' = 0 → fk = 0 ∧ wk' ≤ 400 ∧ ∃ Ce Pe, Cd' = Ce ++ Cd ∧ Pt' = Pe ++ Pt ∧ EC (VN Nm) (AN Nm) Ce Pe Pt.length [v] ∧ Ce.length + wk ≤ wk' ∧ 1 ≤ Ce.length)
section ST6
variable {G : qG} {T : tkD} {c p e na : Nat} {hc0 hm0 : qh} {a dp : Nat} {fk fp : Int32} {wk : Nat} {Pt : List prt} {Cd : List cod} {Nm : List nmE} {s0 st nv nl jn wh : Nat} {ag bh : Int32} {hc hm : qh}
theorem j_cond {P : qr → qh → qr → qh → Prop} {F : (qr → qh → Prop) → Int32 → qh → Prop} {X : (qr → qh → Prop) → String → qh → Prop} {KM : qh → (qr → qh → Prop) → Prop} (R : TR T) (hq : q_cir c) (hp : q_prg p) (he : q_end e) {d D : Nat} (hd : 13 * (17 - dp) + 18 ≤ d) (x : CSt T c a dp fk fp wk Pt jn nv nl ag bh hc) (m : MSt T p e a dp fk fp wk Cd Nm st nv nl wh hm) (ha : a < T.n) (hdp : dp ≤ 16) (hC : Cd.length ≤ a) (hw : wk ≤ a) (hs0 : s0 < 2000) (f : FG T a fk fp) (f1 : PFc c hc0 hc) (f2 : PFm p e hm0 hm) (cl : fk = 0 → wk ≤ 400 ∧ CN T Nm hc ∧ uq T Nm ∧ Pt.length < 1000 + wk)
    (k1 : ∀ a' fk' fp' wk' v Pt' Cd' hc' hm', CO T c p e hc0 hm0 a dp fk fp wk Pt Cd Nm s0 st nv nl jn wh ag bh hc hm a' fk' fp' wk' v Pt' Cd' hc' hm' → J (fun hx Q => F Q 1 (mg hc' hx)) (fun hx Q => KM (mg hx hm') Q) P)
    (k2 : ∀ hc' hm', pFail c p e hc0 hm0 hc' hm' → J (fun hx Q => F Q 0 (mg hc' hx)) (fun hx Q => Q rxx (mg hx hm')) P) :
    J (fun hx Q => q_M0 G (D + 5) yX2_readCondition [.ref 21] (mg hc hx) (q_ri (F Q) (X Q))) (fun hx Q => q_M0 G d yX12_opens [.ref 43, .int 40] (mg hx hm) (q_rv (fun h6 => q_M0 G d yX12_expression [.ref 43] h6 (q_ri (fun r8 h7 => vp_in (Int32.ofNat s0) 2000 ∧ (q_M0 G d yX12_closes [.ref 43, .int 41] (h7.sI (p + 4) (Int32.ofNat s0).toNatClampNeg r8) (q_rv (fun h10 => KM h10 Q) (fun E h => Q (.inr E) h)))) (fun E h => Q (.inr E) h))) (fun E h => Q (.inr E) h))) P := by
  have hn := R.2.1
  have hpl := prg_lt hp
  have hel := end_lt he
  have hp4 : 43 ≤ p + 4 := by omega
  have hsb : s0 < 2147483648 := by omega
  have hin : vp_in (Int32.ofNat s0) 2000 := n_in (by omega) hs0
  refine J.c (fun hx Q hF => x_X2_readCondition G (D + 4) _ _ hF) ?_
  by_cases k40 : T.k a = 40
  · have ha1 := tk_more' R ha k40 (by decide)
    have hpn := tk_pn R ha1
    by_cases h16 : dp < 16
    · obtain ⟨h1, j1, j2, j3⟩ := c_enter (G := G) (d := D + 4) (by omega) x.1 k40 h16 ha1 hn
      have z1 := x.r22 hq j2 j3
      obtain ⟨m1, l1, l2, l3⟩ := m_opens (G := G) (d := d) (by omega) R m.1.1 ha (s := 40) (by decide) k40 h16
      have y1 := m.r43 hp l2 l3
      refine J.ci j1 (J.c2 (by decide) (J.mv l1 ?_))
      refine j_E (D := D) R hq hp he (by omega) z1 y1 ha1 (by omega) (by omega) (by omega) (f.next (by omega)) (f1.tr (j3.pf hq)) (f2.tr (l3.pf hp)) (fun h0 => ?_) ?_ ?_
      · obtain ⟨c1, c2, c3, c4⟩ := cl h0
        exact ⟨c1, (j3.xf hq).cn hq c2, c3, c4⟩
      · rintro a' fk' fp' wk' v Pt' Cd' hc' hm' ⟨o1, o2, o3, o4, o5, o6, o7, o8, o9, o10, o11, o12, o13, o14, o15⟩
        refine J.ma' (fun _ => hin) ?_
        refine J.c4 (by decide) ?_
        have v1 := o5.row hp (o := 4) (by decide) (by decide) s0 (Int32.ofNat Cd.length)
        have v2 : PFm p e hm' (hm'.sI (p + 4) s0 (Int32.ofNat Cd.length)) := PFm.sI hp he _ _ _ _ (by omega)
        refine J.m (fun hx Q hF => by rw [n_N hsb, mg_sI_m hp4]; exact hF) ?_
        obtain ⟨h6, B1, B2, B3⟩ := c_leave (G := G) (d := D + 4) (by omega) o3.1 (by omega)
        have z6 := o3.r22 hq B2 B3
        refine J.cv B1 ?_
        by_cases k41 : T.k a' = 41
        · have ha4 := tk_more' R o2 k41 (by decide)
          have hpn4 := tk_pn R ha4
          obtain ⟨h7, A1, A2, A3⟩ := c_pass (G := G) (d := D + 4) (by omega) z6.1 k41 ha4 hn
          have z7 := z6.r22 hq A2 A3
          obtain ⟨m6, H1, H2, H3⟩ := m_closes (G := G) (d := d) (by omega) R v1.1.1 o2 (s := 41) (by decide) k41
          have y6 := v1.r43 hp H2 H3
          refine J.ci A1 (J.ca' (fun _ => Or.inr rfl) (J.mv H1 ?_))
          refine k1 (a' + 1) fk' fp' wk' v Pt' Cd' h7 m6 ⟨by omega, ha4, z7, A3.cf (B3.cf o4), y6, o6.tr ((B3.pf hq).tr (A3.pf hq)), o7.tr (v2.tr (H3.pf hp)), by omega, by omega, o10.next (by omega), o11, (j3.xf hq).tr (o12.tr ((B3.xf hq).tr (A3.xf hq))), ⟨fun o h1 h2 i h3 => ?_, fun j hj => ?_, fun k hk => ?_⟩, ?_, ?_, o15⟩
          · rw [H3.1 _ (by omega), sI_I, if_neg (by omega), o13.1 _ (by omega) (by omega) (by omega) (by omega) (by omega), l3.1 _ (by omega)]
          · rw [H3.1 e (by omega), sI_row _ (by omega), o13.2.2.2.2.2 j hj, l3.1 e (by omega)]
          · rw [H3.1 p (by omega), sI_row _ (by omega), o13.2.2.2.2.1 k (by omega) (by omega), l3.1 p (by omega)]
          · rw [H3.1 _ (by omega), sI_I]; exact if_pos ⟨rfl, rfl⟩
          · rw [H3.1 e (by omega), sI_row _ (by omega)]; exact o14
        · obtain ⟨h7, A1, A2, A3⟩ := c_passNo (G := G) (d := D + 4) (by omega) z6.1 k41
          obtain ⟨m6, H1, H2, H3⟩ := m_closesNo (G := G) (d := d) (by omega) R v1.1.1 o2 (s := 41) (by decide) k41
          refine J.ci A1 (J.ca' (fun _ => Or.inl rfl) ?_)
          exact J.mxv H1 (k2 _ _ ⟨1, T.p a', Or.inl rfl, A2, H2, o6.tr ((B3.pf hq).tr (A3.pf hq)), o7.tr (v2.tr (H3.pf hp))⟩)
      · intro hc' hm' hf
        exact J.c3 rfl (k2 _ _ hf)
    · obtain ⟨h3, j1, j2, j3⟩ := c_enterDeep (G := G) (d := D + 4) (by omega) x.1 k40 (by omega)
      obtain ⟨m4, l1, l2, l3⟩ := m_opensDeep (G := G) (d := d) (by omega) R m.1.1 ha (s := 40) (by decide) k40 (by omega)
      refine J.ci j1 (J.c1 rfl ?_)
      exact J.mxv l1 (k2 _ _ ⟨7, T.p a, Or.inr rfl, j2, l2, f1.tr (j3.pf hq), f2.tr (l3.pf hp)⟩)
  · obtain ⟨h3, j1, j2, j3⟩ := c_enterNo (G := G) (d := D + 4) (by omega) x.1 k40
    obtain ⟨m4, l1, l2, l3⟩ := m_opensNo (G := G) (d := d) (by omega) R m.1.1 ha (s := 40) (by decide) k40
    refine J.ci j1 (J.c1 rfl ?_)
    exact J.mxv l1 (k2 _ _ ⟨1, T.p a, Or.inl rfl, j2, l2, f1.tr (j3.pf hq), f2.tr (l3.pf hp)⟩)
end ST6
