/-! ===== STATEMENTS: BLOCK ===== -/
def vL (p : Nat) (hm : qh) (V : Int32 → Prop) (L : List Nat) : Int32 → Prop := L.foldl (fun V s => vaft p hm V s) V
theorem vL_to {p : Nat} {hm hm' : qh} : ∀ (L : List Nat) (V : Int32 → Prop), (∀ s ∈ L, hm'.I (p + 2) s = hm.I (p + 2) s ∧ hm'.I (p + 3) s = hm.I (p + 3) s) → vL p hm' V L = vL p hm V L
  | [], _, _ => rfl
  | s :: r, V, h => by
    have e : vaft p hm' V s = vaft p hm V s := by unfold vaft; rw [(h s (by simp)).1, (h s (by simp)).2]
    show vL p hm' (vaft p hm' V s) r = vL p hm (vaft p hm V s) r
    rw [e]
    exact vL_to r _ (fun t ht => h t (List.mem_cons_of_mem _ ht))
theorem LC.snoc {p S : Nat} {hm : qh} {F : (Int32 → Prop) → Nat → Nat → Nat → Prop} {l x0 x : Nat} {g : Int32} (hl : l < S) (hg : hm.I (p + 8) l = g) : ∀ (L : List Nat) (V : Int32 → Prop) (f : Int32) (a : Nat), LC p hm S F V L f a x0 (Int32.ofNat l) → F (vL p hm V L) l x0 x → LC p hm S F V (L ++ [l]) f a x g
  | [], V, f, a, ⟨h1, h2⟩, h => by
    subst h2
    exact ⟨h1, hl, x, h, hg, rfl⟩
  | s :: r, V, f, a, ⟨h1, h2, y, h3, h4⟩, h => ⟨h1, h2, y, h3, LC.snoc hl hg r _ _ _ h4 h⟩
theorem LC.to' {p S S' : Nat} {hm hm' : qh} {F F' : (Int32 → Prop) → Nat → Nat → Nat → Prop} {s0 B : Nat} (hS : S ≤ S') (e1 : ∀ o, 2 ≤ o → o ≤ 8 → ∀ i, s0 ≤ i → i < S → hm'.I (p + o) i = hm.I (p + o) i) (hF : ∀ (V V' : Int32 → Prop) s a b, (∀ x, V x → V' x) → s0 ≤ s → s < S → b ≤ B → F V s a b → F' V' s a b) (hle : ∀ V s a b, F V s a b → a ≤ b) : ∀ (L : List Nat) (V V' : Int32 → Prop) (f : Int32) (a b : Nat) (g : Int32), (∀ x, V x → V' x) → (∀ t ∈ L, s0 ≤ t) → b ≤ B → LC p hm S F V L f a b g → LC p hm' S' F' V' L f a b g ∧ a ≤ b
  | [], V, V', f, a, b, g, _, _, _, h => ⟨h, by rw [h.2]; exact Nat.le_refl _⟩
  | s :: r, V, V', f, a, b, g, hV, hL, hb, ⟨h1, h2, x, h3, h4⟩ => by
    have hs := hL s (by simp)
    have E3 := e1 8 (by decide) (by decide) s hs h2
    have E1 := e1 2 (by decide) (by decide) s hs h2
    have E2 := e1 3 (by decide) (by decide) s hs h2
    obtain ⟨i1, i2⟩ := LC.to' hS e1 hF hle r (vaft p hm V s) (vaft p hm' V' s) _ x b g (fun y q => by
      rcases q with q | q
      · exact Or.inl (hV y q)
      · exact Or.inr ⟨E1.trans q.1, q.2.trans E2.symm⟩) (fun t ht => hL t (List.mem_cons_of_mem _ ht)) hb h4
    refine ⟨⟨h1, by omega, x, hF V V' s a x hV hs h2 (by omega) h3, ?_⟩, by have := hle _ _ _ _ h3; omega⟩
    rw [E3]
    exact i1
section ST9
variable (T : tkD) (c p e na : Nat) (hc0 hm0 : qh) (aB dp : Nat) (fkB fpB : Int32) (wkB : Nat) (PtB : List prt) (CdB : List cod) (Nm0 : List nmE) (stB nvB nlB jnB wh : Nat) (ag bh : Int32) (hcB hmB : qh)
/-- what a BLOCK has added so far -/
def kB (a : Nat) (wk : Nat) (Pt : List prt) (Cd : List cod) (st nv nl jn : Nat) (hc hm : qh) : Prop := fkB = 0 ∧ SFc c jnB hcB hc ∧ SFm p e stB CdB.length hmB hm ∧ stB ≤ st ∧ jnB ≤ jn ∧ nvB ≤ nv ∧ (∃ Ce, Cd = Ce ++ CdB) ∧ (∃ Pe, Pt = Pe ++ PtB) ∧ jn + 2 * nlB ≤ jnB + 2 * nl ∧ 6 * Pt.length + 12 * wkB + 30 * nlB + T.pn aB ≤ 6 * PtB.length + 12 * wk + 30 * nl + T.pn a
def kL (X : List nmE) (Pt : List prt) (Cd : List cod) (st jn : Nat) (first last : Int32) (hc hm : qh) : Prop :=
  (first = -1 ∧ Pt = PtB ∧ X = []) ∨ (∃ L0 l x0, last = Int32.ofNat l ∧ ¬ first = -1 ∧ stB ≤ l ∧ l < st ∧ (∀ t ∈ L0, stB ≤ t ∧ t < l) ∧ x0 ≤ Pt.length ∧ LC p hm l (fun V t a b => SC c p e hc hm (AK na) l Cd.length jnB jn (17 - dp) V t a b ag bh) (VN Nm0) L0 first PtB.length x0 (Int32.ofNat l) ∧ SC c p e hc hm (AK na) st Cd.length jnB jn (17 - dp) (vL p hm (VN Nm0) L0) l x0 Pt.length ag bh ∧ hm.I (p + 8) l = -1 ∧ ∀ y, VN (X ++ Nm0) y → vaft p hm (vL p hm (VN Nm0) L0) l y)
/-- a BLOCK was read -/
def kOk (dpo : Nat) (x : Int32) (hc' hm' : qh) : Prop := ∃ a' fk' fp' wk' Pt' Cd' st' nv' nl' jn', aB < a' ∧ SI T c p e na hc0 hm0 a' dpo fk' fp' wk' Pt' Cd' Nm0 st' nv' nl' jn' wh ag bh hc' hm' ∧ (¬ fkB = 0 → fk' = fkB ∧ fp' = fpB) ∧ (fk' = 0 → kB T c p e aB fkB wkB PtB CdB stB nvB nlB jnB hcB hmB a' wk' Pt' Cd' st' nv' nl' jn' hc' hm' ∧ ∃ L, (∀ t ∈ L, stB ≤ t) ∧ LC p hm' st' (fun V t a b => SC c p e hc' hm' (AK na) st' Cd'.length jnB jn' (17 - dp) V t a b ag bh) (VN Nm0) L x PtB.length Pt'.length (-1))
variable {T} {c} {p} {e} {na} {hc0} {hm0} {aB} {dp} {fkB} {fpB} {wkB} {PtB} {CdB} {Nm0} {stB} {nvB} {nlB} {jnB} {wh} {ag} {bh} {hcB} {hmB}
set_option maxRecDepth 100000 in
theorem st_loop {G : qG} (R : TR T) (hq : q_cir c) (hp : q_prg p) (he : q_end e) (a0 : Nat) (IH : ∀ a', a0 < a' → stS G T c p e na hc0 hm0 a') {d D dpo : Nat} (hdpo : dp = dpo + 1) (hd : 16 * (17 - dp) + 30 ≤ d) (hD : 3 * (17 - dp) + 12 ≤ D) {n : Nat} (hn25 : n ≤ 25) (hcn : fkB = 0 → n = Nm0.length) (hnb : CN T Nm0 hcB ∨ ¬ fkB = 0) : ∀ (M a : Nat), T.n - a ≤ M → ∀ fk fp wk Pt Cd X st nv nl jn i first last hc hm, a0 < a → aB ≤ a → SI T c p e na hc0 hm0 a dp fk fp wk Pt Cd (X ++ Nm0) st nv nl jn wh ag bh hc hm → (¬ fkB = 0 → fk = fkB ∧ fp = fpB) → i ≤ a → (first = -1 ∨ ∃ l, last = Int32.ofNat l ∧ l < 2000) →
    (fk = 0 → kB T c p e aB fkB wkB PtB CdB stB nvB nlB jnB hcB hmB a wk Pt Cd st nv nl jn hc hm ∧ kL c p e na dp PtB Nm0 stB jnB ag bh X Pt Cd st jn first last hc hm) →
    J (fun hx Q => q_N0 G m_X2_readBlock (D + 1) Q 24 [.ref 21, .int (Int32.ofNat n), .int (Int32.ofNat i)] [] (mg hc hx)) (fun hx Q => q_N0 G m_X12_block (d + 1) Q 15 [.ref 43, .int (Int32.ofNat Nm0.length), .int first, .int last, .null] [] (mg hx hm)) (PP (kOk T c p e na hc0 hm0 aB dp fkB fpB wkB PtB CdB Nm0 stB nvB nlB jnB wh ag bh hcB hmB dpo) (pFail c p e hc0 hm0))
  | M, a, hM, fk, fp, wk, Pt, Cd, X, st, nv, nl, jn, i, first, last, hc, hm, ha0, haB, S, hkp, hi, hla, hcl => by
    have S' := S
    obtain ⟨x1, x2, ⟨b1, b2, b3, b4, b5, b6, b7, b8, b9, b10⟩, x4, x5, x6, x7⟩ := S
    have hn := R.2.1
    have hpl := prg_lt hp
    have hel := end_lt he
    have hc8 := cir_lt hq
    have hp8 : 43 ≤ p + 8 := by omega
    have h2001 : ¬ (2001 : Int32) ≤ Int32.ofNat i := fun q => absurd ((n_le (a := 2001) (by omega) (by omega)).mp q) (by omega)
    have e3 : ∀ hx, (mg hc hx).I 22 3 = T.k a := c_at x1
    refine J.c (fun hx Q hF => x_X2_readBlock_24 G D _ _ _ Q hF) ?_
    refine J.c2 h2001 ?_
    refine J.m (fun hx Q hF => x_X12_block_15 G d _ _ _ _ Q hF) ?_
    rw [List.length_append] at b8
    by_cases k125 : T.k a = 125
    · have ha1 := tk_more' R b1 k125 (by decide)
      have hpn := tk_pn R ha1
      have z1 := x1.s23 hq hn25
      obtain ⟨h2, B1, B2, B3⟩ := c_leave (G := G) (d := D) (by omega) (dp := dpo) (by rw [← hdpo]; exact z1.1) (by omega)
      have z2 := z1.r22 hq B2 B3
      obtain ⟨h3, A1, A2, A3⟩ := c_pass (G := G) (d := D) (by omega) B2 k125 ha1 hn
      have z3 := z2.r22 hq A2 A3
      have i1 := m_is1 (G := G) (d := d) (by omega) R x2.1.1 b1 (s := 125) (by decide) k125
      obtain ⟨m1, H1, H2, H3⟩ := m_closes (G := G) (d := d) (by omega) R (dp := dpo) (by rw [← hdpo]; exact x2.1.1) b1 (s := 125) (by decide) k125
      have y1 := x2.r43 hp H2 H3
      have y2 := y1.cut hp
      refine J.c1' (fun hx => (e3 hx).trans k125) ?_
      refine J.c (fun hx Q hF => by rw [mg_sI_c (by decide)]; exact hF) ?_
      refine J.cv B1 (J.ci A1 (J.ca' (fun _ => Or.inr rfl) ?_))
      refine J.mi i1 (J.m4 (by decide) (J.mv H1 ?_))
      refine J.m (Wm' := fun hx Q => Q (riv first) (mg hx (m1.sI 43 27 (Int32.ofNat Nm0.length)))) (fun hx Q hF => by rw [mg_sI_m (by decide)]; exact hF) ?_
      have pfF : PFm p e hm (m1.sI 43 27 (Int32.ofNat Nm0.length)) := (H3.pf hp).tr (PFm.sI hp he _ _ _ _ (by omega))
      have rowc : ∀ o, o ≤ 14 → h3.I o = hc.I o := fun o ho => by rw [A3.1 o (by omega), B3.1 o (by omega), sI_row _ (by omega)]
      have rowm : ∀ o, (51 ≤ o ∧ o ≤ 72) ∨ o = 81 ∨ o = 82 → (m1.sI 43 27 (Int32.ofNat Nm0.length)).I o = hm.I o := fun o ho => by rw [sI_row _ (by omega), H3.1 o (by omega)]
      refine J.ok ⟨a + 1, fk, fp, wk, Pt, Cd, st, nv, nl, jn, by omega, ⟨z3, y2, ⟨ha1, by omega, by omega, by omega, by omega, by omega, by omega, by omega, by omega, b10⟩, x4.next (by omega), x5.tr ((PFc.sI _ _ _ _ (by omega)).tr ((B3.pf hq).tr (A3.pf hq))), x6.tr pfF, fun h0 => ?_⟩, hkp, fun h0 => ?_⟩
      · obtain ⟨⟨q1, -⟩, -⟩ := hcl h0
        obtain ⟨e1, e2, e3', e4, e5, e6, e7, e8, e9, e10, e11⟩ := x7 h0
        rw [List.length_append] at e8
        refine ⟨e1, (A3.xf hq).cn hq ((B3.xf hq).cn hq (by rw [hcn q1]; exact e2.cut)), uq_tail e3', e4, e5, e6, by clear e10 e11 e9; omega, by clear e10 e11 e9; omega, fun z hz => e9 z (List.mem_append_right _ hz), e10, e11⟩
      · obtain ⟨⟨q1, q2, q3, q4, q5, q6, q7, q8, q9, q10⟩, qL⟩ := hcl h0
        refine ⟨⟨q1, ?_, ?_, q4, q5, q6, q7, q8, q9, by omega⟩, ?_⟩
        · refine q2.tr (jn' := jnB) ⟨fun j _ => by rw [rowc _ (by omega)], rowc _ (by omega), fun k _ => by rw [rowc c (by omega)]⟩ (Nat.le_refl _)
        · refine q3.tr (st' := stB) (n' := CdB.length) ⟨fun o c1 c2 j _ => by rw [rowm _ (by omega)], fun j _ => by rw [rowm e (by omega)], rowm _ (by omega), fun k _ => by rw [rowm p (by omega)]⟩ (Nat.le_refl _) (Nat.le_refl _)
        · rcases qL with ⟨r1, r2, r3⟩ | ⟨L0, l, x0, r1, r2, r3, r4, r5, r5', r6, r7, r8, r9⟩
          · exact ⟨[], (fun t ht => by cases ht), r1, by rw [r2]⟩
          · refine ⟨L0 ++ [l], fun t ht => ?_, ?_⟩
            · rcases List.mem_append.mp ht with q | q
              · exact (r5 t q).1
              · rw [List.mem_singleton.mp q]; exact r3
            · have hag : ∀ s S', SAg c p e s S' Cd.length jnB jn Pt.length hc hm h3 (m1.sI 43 27 (Int32.ofNat Nm0.length)) := fun s S' => SAg.rows hq hp he rowc rowm
              have vle : vL p (m1.sI 43 27 (Int32.ofNat Nm0.length)) (VN Nm0) L0 = vL p hm (VN Nm0) L0 := vL_to _ _ (fun s _ => ⟨by rw [rowm _ (by omega)], by rw [rowm _ (by omega)]⟩)
              have hL := LC.to' (s0 := stB) (B := Pt.length) (S' := st) (hm' := m1.sI 43 27 (Int32.ofNat Nm0.length)) (F' := fun V t a b => SC c p e h3 (m1.sI 43 27 (Int32.ofNat Nm0.length)) (AK na) st Cd.length jnB jn (17 - dp) V t a b ag bh) (by omega) (fun o c1 c2 j _ _ => by rw [rowm _ (by omega)]) (fun V V' s a b hV h1 h2 hb q => SC.to (B := Pt.length) (fun _ q => q) (by omega) (Nat.le_refl _) (Nat.le_refl _) (Nat.le_refl _) _ V V' s a b ag bh hV h2 hb (hag s l) q) (fun V s a b q => by have := SC.le _ _ _ _ _ _ _ q; omega) L0 (VN Nm0) (VN Nm0) first PtB.length x0 (Int32.ofNat l) (fun _ q => q) (fun t ht => (r5 t ht).1) r5' r6
              refine LC.snoc r4 ?_ L0 (VN Nm0) first PtB.length hL.1 ?_
              · rw [rowm _ (by omega)]; exact r8
              · rw [vle]
                exact SC.to (B := Pt.length) (fun _ q => q) (Nat.le_refl _) (Nat.le_refl _) (Nat.le_refl _) (Nat.le_refl _) _ _ _ l x0 Pt.length ag bh (fun _ q => q) r4 (Nat.le_refl _) (hag l st) r7
    · have i1 := m_is0 (G := G) (d := d) (by omega) R x2.1.1 b1 (s := 125) (by decide) k125
      refine J.c2' (fun hx => by rw [e3]; exact k125) ?_
      refine J.mi i1 (J.m3 rfl ?_)
      refine J.callii (IH a ha0 dp fk fp wk Pt Cd (X ++ Nm0) st nv nl jn wh ag bh hc hm d D S' hd hD) ?_ ?_
      · rintro x hc' hm' ⟨rfl, a', fk', fp', wk', Pt', Cd', X', st', nv', nl', jn', o1, o2, o3, o4⟩
        obtain ⟨y1, y2, ⟨t1, t2, t3, t4, t5, t6, t7, t8, t9, t10⟩, y4, y5, y6, y7⟩ := o2
        refine J.c4 (by decide) ?_
        refine J.c (fun hx Q hF => by rw [n_add1]; exact hF) ?_
        -- the reference hangs the STATEMENT behind the last
        obtain ⟨hm2, f2, l2, ehm, hstep⟩ : ∃ hm2 f2 l2, (hm2 = hm' ∧ first = -1 ∧ f2 = Int32.ofNat st ∧ l2 = Int32.ofNat st ∨ ∃ l, hm2 = hm'.sI (p + 8) l (Int32.ofNat st) ∧ last = Int32.ofNat l ∧ l < 2000 ∧ ¬ first = -1 ∧ f2 = first ∧ l2 = Int32.ofNat st) ∧ ∀ hx Q, q_N0 G m_X12_block (d + 1) Q 15 [.ref 43, .int (Int32.ofNat Nm0.length), .int f2, .int l2, .null] [] (mg hx hm2) → (¬ first = -1 → ∃ c7, (mg hx hm').R 43 22 = some c7 ∧ q_prg c7 ∧ (vp_in last 2000 ∧ q_N0 G m_X12_block (d + 1) Q 15 [.ref 43, .int (Int32.ofNat Nm0.length), .int first, .int (Int32.ofNat st), .null] [] ((mg hx hm').sI (c7 + 8) last.toNatClampNeg (Int32.ofNat st)))) ∧ (first = -1 → q_N0 G m_X12_block (d + 1) Q 15 [.ref 43, .int (Int32.ofNat Nm0.length), .int (Int32.ofNat st), .int (Int32.ofNat st), .null] [] (mg hx hm')) := by
          by_cases hf : first = -1
          · exact ⟨hm', _, _, Or.inl ⟨rfl, hf, rfl, rfl⟩, fun hx Q q => ⟨fun w => absurd hf w, fun _ => q⟩⟩
          · rcases hla with w | ⟨l, w1, w2⟩
            · exact absurd w hf
            · refine ⟨hm'.sI (p + 8) l (Int32.ofNat st), _, _, Or.inr ⟨l, rfl, w1, w2, hf, rfl, rfl⟩, fun hx Q q => ⟨fun _ => ⟨p, by rw [mRr (by decide)]; exact y2.1.2.2.2.2.1, hp, ?_, ?_⟩, fun w => absurd w hf⟩⟩
              · rw [w1]; exact n_in (by omega) (by omega)
              · rw [w1, n_N (by omega), mg_sI_m hp8]; exact q
        refine J.m hstep ?_
        have ko' : ¬ fkB = 0 → fk' = fkB ∧ fp' = fpB := fun h0 => by
          have w1 := hkp h0
          have w2 := o3 (by rw [w1.1]; exact h0)
          exact ⟨w2.1.trans w1.1, w2.2.trans w1.2⟩
        have y2b : MSt T p e a' dp fk' fp' wk' Cd' (X' ++ (X ++ Nm0)) st' nv' nl' wh hm2 := by
          rcases ehm with ⟨w, -⟩ | ⟨l, w, -⟩
          · rw [w]; exact y2
          · rw [w]; exact y2.row hp (by decide) (by decide) _ _
        have pf2 : PFm p e hm' hm2 := by
          rcases ehm with ⟨w, -⟩ | ⟨l, w, -⟩
          · rw [w]; exact PFm.rf _ _ _
          · rw [w]; exact PFm.sI hp he _ _ _ _ (by omega)
        rw [← List.append_assoc] at y2b t8 y7
        have SN : SI T c p e na hc0 hm0 a' dp fk' fp' wk' Pt' Cd' ((X' ++ X) ++ Nm0) st' nv' nl' jn' wh ag bh hc' hm2 := ⟨y1, y2b, ⟨t1, t2, t3, t4, t5, t6, t7, t8, t9, t10⟩, y4, y5, y6.tr pf2, y7⟩
        refine st_loop R hq hp he a0 IH hdpo hd hD hn25 hcn hnb (M - 1) a' (by omega) fk' fp' wk' Pt' Cd' (X' ++ X) st' nv' nl' jn' (i + 1) f2 l2 hc' hm2 (by omega) (by omega) SN ko' (by omega) ?_ (fun h0 => ?_)
        · rcases ehm with ⟨w, w1, w2, w3⟩ | ⟨l, w, w1, w2, w3, w4, w5⟩
          · exact Or.inr ⟨st, w3, by omega⟩
          · exact Or.inr ⟨st, w5, by omega⟩
        · obtain ⟨O1, O2, O3, O4, O5, O6, ⟨Ce, O7⟩, ⟨Pe, O8⟩, O9, O10, O11, O12, O13⟩ := o4 h0
          obtain ⟨⟨q1, q2, q3, q4, q5, q6, ⟨Ce', q7⟩, ⟨Pe', q8⟩, q9, q10⟩, qL⟩ := hcl O1
          have prc : prts hc' c Pt := by have := y1.2.2.1.2.2; rw [O8] at this; exact prts_tail this
          have cdc : cds hm2 p Cd := by have := y2b.1.2.1.2; rw [O7] at this; exact cds_tail this
          have fin : ∀ (hS : SFm p e stB CdB.length hmB hm2) (hL : kL c p e na dp PtB Nm0 stB jnB ag bh (X' ++ X) Pt' Cd' st' jn' f2 l2 hc' hm2), kB T c p e aB fkB wkB PtB CdB stB nvB nlB jnB hcB hmB a' wk' Pt' Cd' st' nv' nl' jn' hc' hm2 ∧ kL c p e na dp PtB Nm0 stB jnB ag bh (X' ++ X) Pt' Cd' st' jn' f2 l2 hc' hm2 := fun hS hL =>
            ⟨⟨q1, q2.tr O2 q5, hS, by omega, by omega, by omega, ⟨Ce ++ Ce', by rw [O7, q7, List.append_assoc]⟩, ⟨Pe ++ Pe', by rw [O8, q8, List.append_assoc]⟩, by omega, by omega⟩, hL⟩
          have lcd : CdB.length ≤ Cd.length := by rw [q7, List.length_append]; omega
          rcases qL with ⟨r1, r2, r3⟩ | ⟨L0, l, x0, r1, r2, r3, r4, r5, r5', r6, r7, r8, r9⟩
          · rcases ehm with ⟨w, w1, w2, w3⟩ | ⟨l, w, w1, w2, w3, w4, w5⟩
            · subst r3
              subst w
              refine fin (q3.tr O3 q4 lcd) (Or.inr ⟨[], st, PtB.length, w3, by rw [w2]; exact n_ne1 (by omega), q4, O4, (fun t ht => by cases ht), by rw [O8, r2, List.length_append]; omega, ⟨w2, rfl⟩, ?_, O11, fun y hy => ?_⟩)
              · rw [← r2]
                exact SC.to (B := Pt'.length) (fun _ q => q) (Nat.le_refl _) (Nat.le_refl _) q5 (Nat.le_refl _) _ _ _ st Pt.length Pt'.length ag bh (fun _ q => q) O4 (Nat.le_refl _) (SAg.rows hq hp he (fun _ _ => rfl) (fun _ _ => rfl)) O9
              · rw [List.append_nil] at hy
                exact O10 y hy
            · exact absurd r1 w3
          · rcases ehm with ⟨w, w1, w2, w3⟩ | ⟨l', w, w1, w2, w3, w4, w5⟩
            · exact absurd w1 r2
            · have ll : l' = l := (n_eq (by omega) (by omega)).mp (w1.symm.trans r1)
              subst ll
              have rw2 : ∀ o i, 2 ≤ o → o ≤ 8 → ¬ (o = 8 ∧ i = l') → hm2.I (p + o) i = hm'.I (p + o) i := fun o i c1 c2 c3 => by rw [w, sI_I, if_neg (by omega)]
              have rowm : ∀ o i, 2 ≤ o → o ≤ 8 → i < st → ¬ (o = 8 ∧ i = l') → hm2.I (p + o) i = hm.I (p + o) i := fun o i c1 c2 c3 c4 => by rw [rw2 o i c1 c2 c4, O3.1 o c1 c2 i c3]
              have erow : ∀ i, hm2.I e i = hm'.I e i := fun i => by rw [w, sI_row _ (by omega)]
              have hS2 : SFm p e stB CdB.length hmB hm2 := by
                refine (q3.tr O3 q4 lcd).tr (st' := stB) (n' := CdB.length) ?_ (Nat.le_refl _) (Nat.le_refl _)
                rw [w]; exact SFm.row hp he _ _ (by decide) (by decide) r3
              have vle : vL p hm2 (VN Nm0) L0 = vL p hm (VN Nm0) L0 := vL_to _ _ (fun s hs => ⟨rowm 2 s (by decide) (by decide) (by have := (r5 s hs).2; omega) (by omega), rowm 3 s (by decide) (by decide) (by have := (r5 s hs).2; omega) (by omega)⟩)
              have pe : ∀ i, i < Pt.length → pAt hc' c i = pAt hc c i := fun i hi => prts_eq x1.2.2.1.2.2 prc i hi
              have ce : ∀ i, i < Cd.length → cAt hm2 p i = cAt hm p i := fun i hi => cds_eq x2.1.2.1.2 cdc i hi
              have ee : ∀ i, i < Cd.length → hm2.I e i = hm.I e i := fun i hi => by rw [erow, O3.2.1 i hi]
              have je : ∀ j, jnB ≤ j → j < jn → hc'.I (c + 5) j = hc.I (c + 5) j := fun j _ hj => O2.1 j hj
              have hL1 := LC.to' (s0 := stB) (B := Pt.length) (S' := st) (hm' := hm2) (F' := fun V t a b => SC c p e hc' hm2 (AK na) st Cd'.length jnB jn' (17 - dp) V t a b ag bh) (by omega) (fun o c1 c2 i _ h2 => rowm o i c1 c2 (by omega) (by omega)) (fun V V' s a b hV h1 h2 hb q => SC.to (B := Pt.length) (fun _ q => q) (by omega) (by rw [O7, List.length_append]; omega) (Nat.le_refl _) O5 _ V V' s a b ag bh hV h2 hb ⟨pe, ce, ee, je, fun o c1 c2 i c3 c4 => rowm o i c1 (by omega) (by omega) (by omega), fun i c3 c4 => rowm 8 i (by decide) (by decide) (by omega) (by omega)⟩ q) (fun V s a b q => by have := SC.le _ _ _ _ _ _ _ q; omega) L0 (VN Nm0) (VN Nm0) first PtB.length x0 (Int32.ofNat l') (fun _ q => q) (fun t ht => (r5 t ht).1) r5' r6
              have hSl : SC c p e hc' hm2 (AK na) st Cd'.length jnB jn' (17 - dp) (vL p hm2 (VN Nm0) L0) l' x0 Pt.length ag bh := by
                rw [vle]
                exact SC.to (B := Pt.length) (fun _ q => q) (Nat.le_refl _) (by rw [O7, List.length_append]; omega) (Nat.le_refl _) O5 _ _ _ l' x0 Pt.length ag bh (fun _ q => q) r4 (Nat.le_refl _) ⟨pe, ce, ee, je, fun o c1 c2 i c3 c4 => rowm o i c1 (by omega) c4 (by omega), fun i c3 c4 => rowm 8 i (by decide) (by decide) c4 (by omega)⟩ r7
              have vap : vL p hm2 (VN Nm0) (L0 ++ [l']) = vaft p hm2 (vL p hm2 (VN Nm0) L0) l' := by unfold vL; rw [List.foldl_append]; rfl
              have vimp : ∀ y, VN (X ++ Nm0) y → vL p hm2 (VN Nm0) (L0 ++ [l']) y := fun y hy => by
                rw [vap]
                have := r9 y hy
                unfold vaft at this ⊢
                rw [vle, rowm 2 l' (by decide) (by decide) r4 (by omega), rowm 3 l' (by decide) (by decide) r4 (by omega)]
                exact this
              refine fin hS2 (Or.inr ⟨L0 ++ [l'], st, Pt.length, w5, by rw [w4]; exact r2, q4, O4, fun t ht => ?_, by rw [O8, List.length_append]; omega, ?_, ?_, ?_, fun y hy => ?_⟩)
              · rcases List.mem_append.mp ht with q | q
                · have := r5 t q; exact ⟨this.1, by omega⟩
                · rw [List.mem_singleton.mp q]; exact ⟨r3, r4⟩
              · rw [w4]
                refine LC.snoc r4 ?_ L0 (VN Nm0) first PtB.length hL1.1 hSl
                rw [w, sI_I]; exact if_pos ⟨rfl, rfl⟩
              · exact SC.to (B := Pt'.length) (fun _ q => q) (Nat.le_refl _) (Nat.le_refl _) q5 (Nat.le_refl _) _ _ _ st Pt.length Pt'.length ag bh vimp O4 (Nat.le_refl _) ⟨fun _ _ => rfl, fun i _ => by unfold cAt; rw [w, sI_row _ (by omega), sI_row _ (by omega)], fun i _ => erow i, fun _ _ _ => rfl, fun o c1 c2 i c3 c4 => rw2 o i c1 (by omega) (by omega), fun i c3 c4 => rw2 8 i (by decide) (by decide) (by omega)⟩ O9
              · rw [rw2 8 st (by decide) (by decide) (by omega)]; exact O11
              · rw [List.append_assoc] at hy
                rcases O10 y hy with q | ⟨q, q'⟩
                · exact Or.inl (vimp y q)
                · exact Or.inr ⟨by rw [rw2 2 st (by decide) (by decide) (by omega)]; exact q, by rw [rw2 3 st (by decide) (by decide) (by omega)]; exact q'⟩
      · intro hc' hm' hf
        exact J.c3 rfl (J.fail hf)
termination_by M a => T.n - a
decreasing_by omega
end ST9
