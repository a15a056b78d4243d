/-! ===== feed; build ===== -/
theorem TFc.tr {a b c : qh} (x : TFc a b) (y : TFc b c) : TFc a c := ⟨fun o e1 e2 => (y.1 o e1 e2).trans (x.1 o e1 e2), fun k e => (y.2.1 k e).trans (x.2.1 k e), y.2.2.1.trans x.2.2.1, y.2.2.2.trans x.2.2.2⟩
theorem TFm.tr {a b c : qh} (x : TFm a b) (y : TFm b c) : TFm a c := ⟨fun o e1 e2 => (y.1 o e1 e2).trans (x.1 o e1 e2), fun k e => (y.2.1 k e).trans (x.2.1 k e), y.2.2.1.trans x.2.2.1, y.2.2.2.trans x.2.2.2⟩
section FEEDS
variable {G : qG} {D d u n c p e c0 p0 e0 : Nat} {B : Nat → Nat} {hc hm : qh}
theorem tp_int (t : TP u B hc hm) (hu : u + 4 ≤ 2000) (w : Int32) : ∃ B' hc' hm', cR G (D + 1) yX7_add [.ref 15, .int w] hc rvv hc' ∧ mR G (d + 1) yX12_four [.ref 43, .int w] hm rvv hm' ∧ TP (u + 4) B' hc' hm' ∧ TFc hc hc' ∧ TFm hm hm' := by
  obtain ⟨B1, h1, m1, a1, a2, a3, a4, a5⟩ := tp_step (G := G) (D := D) (d := d) t (by omega) w 24 16 (by decide) (by decide)
  obtain ⟨B2, h2, m2, b1, b2, b3, b4, b5⟩ := tp_step (G := G) (D := D) (d := d) a3 (by omega) w 16 8 (by decide) (by decide)
  obtain ⟨B3, h3, m3, c1, c2, c3, c4, c5⟩ := tp_step (G := G) (D := D) (d := d) b3 (by omega) w 8 0 (by decide) (by decide)
  obtain ⟨B4, h4, m4, d1, d2, d3, d4, d5⟩ := tp_step (G := G) (D := D) (d := d) c3 (by omega) w 0 (-8) (by decide) (by decide)
  refine ⟨B4, h4, m4, fun hx Q H => x_X7_add G D _ _ Q (a1 hx Q (b1 hx Q (c1 hx Q (d1 hx Q (x_X7_add_3 G D _ _ _ Q ⟨fun _ => H, fun q => absurd (by decide) q⟩))))), fun hx Q H => x_X12_four G d _ _ Q (a2 hx Q (b2 hx Q (c2 hx Q (d2 hx Q (x_X12_four_3 G d _ _ _ Q ⟨fun _ => H, fun q => absurd (by decide) q⟩))))), d3, ((a4.tr b4).tr c4).tr d4, ((a5.tr b5).tr c5).tr d5⟩
theorem INV.tape (x : INV hc hm) {hc' hm' : qh} {u : Nat} {B : Nat → Nat} (t : TP u B hc' hm') (f : TFc hc hc') (g : TFm hm hm') : INV hc' hm' := by
  obtain ⟨u0, B0, c0, c, p0, p, e0, e, _, rc, rm, re, ff, lt, ls, z, ip, mem, gv, it, f40⟩ := x
  obtain ⟨f1, f2, f3, f4⟩ := f
  obtain ⟨g1, g2, g3, g4⟩ := g
  have c31 := f1 31 (by decide) (by decide)
  have c38 := f1 38 (by decide) (by decide)
  refine ⟨u, B, c0, c, p0, p, e0, e, t, by rw [f4]; exact rc, by rw [g4]; exact rm, by rw [g4]; exact re, ?_, ⟨?_, ?_⟩, by rw [f3, g3]; exact ls, by rw [c38, c31]; exact z, ip.to rc.2.2.1 rm.2.2.1 re.2.2.1 (fun o ho => f1 o (by omega) (by omega)) (g2 23 (by decide)) (fun o o1 o2 => g1 o (by omega) (by omega)) (fun o o1 o2 => g1 o (by omega) (by omega)), ?_, ?_, ?_, ?_⟩
  · rw [f1 0 (by decide) (by decide), g2 3 (by decide), g2 4 (by decide)]; exact ff
  · obtain ⟨R, R1, R2, R3⟩ := lt.1
    exact ⟨R, by rw [c31]; exact R1, R2, by rw [f1 33 (by decide) (by decide)]; exact R3⟩
  · rw [c31, g2 6 (by decide)]; exact lt.2
  · rw [f1 32 (by decide) (by decide), g1 76 (by decide) (by decide)]; exact mem
  · rw [f1 42 (by decide) (by decide), g1 77 (by decide) (by decide)]; exact gv
  · unfold IT KW at *
    rw [c38, c31, f1 37 (by decide) (by decide), f1 34 (by decide) (by decide), f1 35 (by decide) (by decide), f1 36 (by decide) (by decide), g1 79 (by decide) (by decide), g2 31 (by decide), g2 32 (by decide), g2 33 (by decide), g2 34 (by decide), g2 36 (by decide), g2 37 (by decide)]
    exact it
  · rw [f1 40 (by decide) (by decide)]; exact f40
theorem j_feed (x : INV hc hm) (v1 v2 v3 v4 v5 : Int32) : ∃ r hc' hm', cR G (D + 2) yX10_feed [.ref 0, .int v1, .int v2, .int v3, .int v4, .int v5] hc (riv r) hc' ∧ mR G (d + 2) yX12_feed [.ref 43, .int v1, .int v2, .int v3, .int v4, .int v5] hm (riv r) hm' ∧ INV hc' hm' := by
  obtain ⟨u, B, c0, c, p0, p, e0, e, t, _⟩ := id x
  have e1 : ∀ hx, (mg hc hx).I 15 1 = Int32.ofNat u := fun hx => by rw [cI (by decide)]; exact t.1
  have e2 : ∀ hx, (mg hx hm).I 43 2 = Int32.ofNat u := fun hx => by rw [mI (by decide)]; exact t.2.1
  have hu := t.2.2.1
  have e3 : (Int32.ofNat u + 20 ≤ 2000) ↔ u + 20 ≤ 2000 := by
    rw [show (20 : Int32) = Int32.ofNat 20 from rfl, n_add]
    exact n_le (b := 2000) (by omega) (by omega)
  by_cases h : u + 20 ≤ 2000
  · have t0 : TP u B hc (hm.sI 43 0 0) := t
    obtain ⟨B1, h1, m1, a1, a2, a3, a4, a5⟩ := tp_int (G := G) (D := D) (d := d) t0 (by omega) v1
    obtain ⟨B2, h2, m2, b1, b2, b3, b4, b5⟩ := tp_int (G := G) (D := D) (d := d) a3 (by omega) v2
    obtain ⟨B3, h3, m3, c1, c2, c3, c4, c5⟩ := tp_int (G := G) (D := D) (d := d) b3 (by omega) v3
    obtain ⟨B4, h4, m4, d1, d2, d3, d4, d5⟩ := tp_int (G := G) (D := D) (d := d) c3 (by omega) v4
    obtain ⟨B5, h5, m5, f1, f2, f3, f4, f5⟩ := tp_int (G := G) (D := D) (d := d) d3 (by omega) v5
    refine ⟨Int32.ofNat (u + 4 + 4 + 4 + 4 + 4), h5, m5, fun hx Q H => x_X10_feed G (D + 1) _ _ _ _ _ _ Q ?_, fun hx Q H => x_X12_feed G (d + 1) _ _ _ _ _ _ Q ?_, (x.thr 0).tape f3 ((((a4.tr b4).tr c4).tr d4).tr f4) ((((a5.tr b5).tr c5).tr d5).tr f5)⟩
    · rw [e1]
      refine ⟨fun _ => a1 hx _ (b1 hx _ (c1 hx _ (d1 hx _ (f1 hx _ ?_)))), fun q => absurd (e3.mpr h) q⟩
      show Q (.inl (some (.int ((mg h5 hx).I 15 1)))) (mg h5 hx)
      rw [cI (by decide), f3.1]; exact H
    · rw [e2, mg_sI_m (by decide)]
      refine ⟨fun _ => a2 hx _ (b2 hx _ (c2 hx _ (d2 hx _ (f2 hx _ ?_)))), fun q => absurd (e3.mpr h) q⟩
      show Q (.inl (some (.int ((mg hx m5).I 43 2)))) (mg hx m5)
      rw [mI (by decide), f3.2.1]; exact H
  · refine ⟨-1, hc, hm.sI 43 0 0, fun hx Q H => x_X10_feed G (D + 1) _ _ _ _ _ _ Q ?_, fun hx Q H => x_X12_feed G (d + 1) _ _ _ _ _ _ Q ?_, x.thr 0⟩
    · rw [e1]; exact ⟨fun q => absurd (e3.mp q) h, fun _ => H⟩
    · rw [e2]
      rw [← mg_sI_m (by decide)] at H
      exact ⟨fun q => absurd (e3.mp q) h, fun _ => H⟩
/-- what a build leaves alone -/
def FBc (c : Nat) (hc hc3 : qh) : Prop := (∀ o, o ≠ 15 → ¬ (17 ≤ o ∧ o ≤ 30) → ¬ (c ≤ o ∧ o ≤ c + 6) → hc3.I o = hc.I o) ∧ hc3.I 15 1 = 0 ∧ hc3.L 37 = hc.L 37 ∧ hc3.R 0 = hc.R 0
def FBm (p e : Nat) (hm hmF : qh) : Prop := (∀ o, o ≠ 43 → ¬ (46 ≤ o ∧ o ≤ 49) → ¬ (73 ≤ o ∧ o ≤ 75) → ¬ (p ≤ o ∧ o ≤ p + 10) → o ≠ e → hmF.I o = hm.I o) ∧ (∀ k, (k = 3 ∨ k = 4 ∨ k = 6 ∨ k = 23 ∨ (30 < k ∧ k < 40)) → hmF.I 43 k = hm.I 43 k) ∧ hmF.I 43 2 = 0 ∧ hmF.L = hm.L ∧ hmF.R = hm.R
theorem fbc {hc1 hc3 : qh} (hq : q_cir c) (a : CFR hc hc1) (b : PGc c (hc1.sI 15 1 0) hc3) : FBc c hc hc3 := by
  have hcl := cir_lt hq
  refine ⟨fun o e1 e2 e3 => ?_, ?_, ?_, ?_⟩
  · rw [b.1 o (by omega) e3, sI_row _ e1, a.1 o (by omega) (by omega) (by omega)]
  · rw [b.1 15 (by omega) (by omega), sI_I, if_pos ⟨rfl, rfl⟩]
  · rw [b.2.1 37 (by omega), sI_L, a.2.1 37 (by decide)]
  · rw [b.2.2 0 (by decide) (by decide), sI_R, a.2.2]
theorem fbm {hmB hmD hmF : qh} (hp : q_prg p) (he : q_end e) (a : F1 46 ((hm.sI 43 0 0).sI 43 9 (Int32.ofNat n)) hmB) (b : MFR (hmB.sI 43 2 0) hmD) (f : PFm p e (mS1 p (mS0 hmD)) hmF) : FBm p e hm hmF := by
  have hpl := prg_lt hp
  have hel := end_lt he
  obtain ⟨s1, s2, s3, s4⟩ := mS_f hp hmD
  refine ⟨fun o e1 e2 e3 e4 e5 => ?_, fun k hk => ?_, ?_, ?_, ?_⟩
  · rw [f.1 o e1 e3 e4 e5, s1 o e1 (by omega), b.1 o e1 (by omega) (by omega) (by omega), sI_row _ e1, a.1 o (by omega), sI_row _ e1, sI_row _ e1]
  · rw [f.2.2.2 k (by omega), s2 k (by omega) (by omega) (by omega) (by omega) (by omega) (by omega), b.2.1 k (by omega), sI_I, if_neg (by omega), a.1 43 (by decide), sI_I, if_neg (by omega), sI_I, if_neg (by omega)]
  · rw [f.2.2.2 2 (by omega), s2 2 (by omega) (by omega) (by omega) (by omega) (by omega) (by omega), b.2.1 2 (by omega), sI_I, if_pos ⟨rfl, rfl⟩]
  · rw [f.2.1, s3, b.2.2.1, sI_L, a.2.1]; rfl
  · rw [f.2.2.1, s4, b.2.2.2, sI_R, a.2.2]; rfl
theorem j_buildI (hD : 80 ≤ D) (hd : 330 ≤ d) (x : INV hc hm) (w : Int32) : ∃ r hc' hm', cR G (D + 1) yX10_build [.ref 0, .int w] hc (riv r) hc' ∧ mR G (d + 1) yX12_build [.ref 43, .int w] hm (riv r) hm' ∧ INV hc' hm' := by
  obtain ⟨u, B, c0, c, p0, p, e0, e, t, rc, rm, re, f, lt, ls, z, ip, mem, gv, it, f40⟩ := id x
  have no : (w < 0 ∨ ¬ w ≤ hm.I 43 2) → ∃ r hc' hm', cR G (D + 1) yX10_build [.ref 0, .int w] hc (riv r) hc' ∧ mR G (d + 1) yX12_build [.ref 43, .int w] hm (riv r) hm' ∧ INV hc' hm' := fun h => by
    obtain ⟨a, b⟩ := j_build2 (G := G) (D := D) (d := d) w (t.1.trans t.2.1.symm) h
    exact ⟨-2, hc, _, a, b, x.thr 0⟩
  by_cases h0 : w < 0
  · exact no (Or.inl h0)
  by_cases h1 : w ≤ hm.I 43 2
  · obtain ⟨n, n1, n2⟩ := n_of h0
    have hu := t.2.2.1
    have hnu : n ≤ u := by
      rw [t.2.1, n2] at h1
      exact (n_le (by omega) (by omega)).mp h1
    have hcl := cir_lt rc.2.2.2.1
    have hcl0 := cir_lt rc.2.2.1
    have hpl := prg_lt rm.2.2.2.1
    have hpl0 := prg_lt rm.2.2.1
    have hel := end_lt re.2.2.2.1
    have hel0 := end_lt re.2.2.1
    have dis : ∀ o, c0 ≤ o → o ≤ c0 + 6 → ¬ (c ≤ o ∧ o ≤ c + 6) := fun o o1 o2 => by
      rcases rc.2.2.1 with q | q <;> rcases rc.2.2.2.1 with q' | q' <;> have := rc.2.2.2.2 <;> omega
    have disp : ∀ o, p0 ≤ o → o ≤ p0 + 10 → ¬ (p ≤ o ∧ o ≤ p + 10) := fun o o1 o2 => by
      rcases rm.2.2.1 with q | q <;> rcases rm.2.2.2.1 with q' | q' <;> have := rm.2.2.2.2 <;> omega
    have c1 : 1 ≤ c ∧ 1 ≤ c0 := ⟨by rcases rc.2.2.2.1 with q | q <;> omega, by rcases rc.2.2.1 with q | q <;> omega⟩
    obtain ⟨r1, hc', r2, hm', A, M, hc1, hc3, hmB, hmD, hmF, f1, f2, f3, f4, f5, K⟩ := j_build (G := G) (D := D) (d := d) hD hd hnu hu t.1 t.2.1 (fun x hx => (t.2.2.2 x hx).1) (fun x hx => (t.2.2.2 x hx).2.1) (fun x hx => (t.2.2.2 x hx).2.2) rc.1 rc.2.1 rc.2.2.2.1 rc.2.2.1 rm.1 rm.2.1 re.1 re.2.1 rm.2.2.2.1 rm.2.2.1 re.2.2.2.1 re.2.2.1
    obtain ⟨u1, u2, u3, u4⟩ := fbc rc.2.2.2.1 f1 f2
    obtain ⟨v1, v2, v3, v4, v5⟩ := fbm rm.2.2.2.1 re.2.2.2.1 f3 f4 f5
    rcases K with ⟨k1, k2, k3, k4, ⟨k5, k6, k7, k8, k9⟩, k10⟩ | ⟨k1, k2, kk, tt, k3, k4, k5⟩
    · subst k1 k2
      rw [n2]
      refine ⟨0, hc', hm', A, M, ?_⟩
      obtain ⟨⟨g1, g2, g3, g4, g5⟩, g6, g7, ⟨g8, g9, g10, g11, g12, g13, g14⟩, g15, g16, g17, g18, g19, g20, g21⟩ := k4
      have K43 : ∀ k, k ≠ 3 → k ≠ 4 → k ≠ 23 → k ≠ 31 → hm'.I 43 k = hmF.I 43 k := fun k e1 e2 e3 e4 => by
        rw [k7 43 (by decide) (by decide)]
        unfold hmK
        rw [sI_I, if_neg (by omega), sI_I, if_neg (by omega), sR_I, sR_I, sR_I, sR_I, sI_I, if_neg (by omega), sI_I, if_neg (by omega)]
      have c31 : ∀ k, k ≠ 6 → k ≠ 7 → k ≠ 8 → hc'.I 31 k = hc.I 31 k := fun k e1 e2 e3 => by rw [g19 k e1 e2 e3, u1 31 (by decide) (by decide) (by omega)]
      have c38 : ∀ k, k ≠ 9 → k ≠ 10 → k ≠ 11 → hc'.I 38 k = hc.I 38 k := fun k e1 e2 e3 => by rw [g21 k e1 e2 e3, u1 38 (by decide) (by decide) (by omega)]
      refine ⟨0, B, c, c0, p, p0, e, e0, ⟨?_, ?_, by omega, fun y hy => by omega⟩, ⟨g4, g5, rc.2.2.2.1, rc.2.2.1, fun q => rc.2.2.2.2 q.symm⟩, ⟨?_, ?_, rm.2.2.2.1, rm.2.2.1, fun q => rm.2.2.2.2 q.symm⟩, ⟨?_, ?_, re.2.2.2.1, re.2.2.1, fun q => re.2.2.2.2 q.symm⟩, ⟨?_, ?_⟩, ⟨?_, ?_⟩, ?_, ⟨?_, ?_, ?_, ?_⟩, Or.inr ⟨g3, ?_, k10⟩, fun i hi => ?_, fun i hi => ?_, Or.inl ⟨?_, g12, g13, g14, g8, g9, g11⟩, ?_⟩
      · rw [g15 15 (by decide) (by decide) (by decide) (by decide) (by decide) (by decide), u2]; rfl
      · rw [K43 2 (by decide) (by decide) (by decide) (by decide), v3]; rfl
      · rw [k9]; rfl
      · rw [k9]; rfl
      · rw [k9]; rfl
      · rw [k9]; rfl
      · rw [g1, k7 43 (by decide) (by decide)]; rfl
      · rw [g2, k3, k7 43 (by decide) (by decide)]; rfl
      · obtain ⟨R, R1, R2, R3⟩ := lt.1
        exact ⟨R, by rw [c31 5 (by decide) (by decide) (by decide)]; exact R1, R2, by rw [g15 33 (by decide) (by decide) (by decide) (by decide) (by decide) (by decide), u1 33 (by decide) (by decide) (by omega)]; exact R3⟩
      · rw [c31 5 (by decide) (by decide) (by decide), K43 6 (by decide) (by decide) (by decide) (by decide), v2 6 (by omega)]; exact lt.2
      · rw [g16, u3, k8, v4]; exact ls
      · rw [c38 13 (by decide) (by decide) (by decide)]; exact z.1
      · rw [c38 14 (by decide) (by decide) (by decide)]; exact z.2.1
      · rw [c38 15 (by decide) (by decide) (by decide)]; exact z.2.2.1
      · rw [c31 9 (by decide) (by decide) (by decide)]; exact z.2.2.2
      · rw [k7 43 (by decide) (by decide)]; rfl
      · rw [g7 i hi, k5 i hi]
      · rw [g6 i hi, k6 i hi]
      · rw [k7 43 (by decide) (by decide)]; rfl
      · rw [g15 40 (by decide) (by decide) (by decide) (by decide) (by decide) (by decide), u1 40 (by decide) (by decide) (by omega)]; exact f40
    · subst k1 k2
      rw [n2]
      refine ⟨-1, hc', hm', A, M, ?_⟩
      have ci : ∀ o, o ≠ 0 → hc'.I o = hc3.I o := fun o ho => by rw [k4, sI_row _ ho, sI_row _ ho]
      have c0k : ∀ k, k ≠ 10 → k ≠ 11 → hc'.I 0 k = hc3.I 0 k := fun k e1 e2 => by rw [k4, sI_I, if_neg (by omega), sI_I, if_neg (by omega)]
      have mi : ∀ o, o ≠ 43 → hm'.I o = hmF.I o := fun o ho => by
        rcases k5 with q | q
        · rw [q, sI_row _ ho, sI_row _ ho]
        · rw [q, sI_row _ ho, sI_row _ ho, sI_row _ ho]
      have mk : ∀ k, k ≠ 3 → k ≠ 4 → k ≠ 19 → hm'.I 43 k = hmF.I 43 k := fun k e1 e2 e3 => by
        rcases k5 with q | q
        · rw [q, sI_I, if_neg (by omega), sI_I, if_neg (by omega)]
        · rw [q, sI_I, if_neg (by omega), sI_I, if_neg (by omega), sI_I, if_neg (by omega)]
      have mL : hm'.L = hmF.L := by rcases k5 with q | q <;> rw [q] <;> rfl
      have mRr' : hm'.R = hmF.R := by rcases k5 with q | q <;> rw [q] <;> rfl
      have cR' : hc'.R 0 = hc.R 0 := by rw [k4]; exact u4
      have c31 : hc'.I 31 = hc.I 31 := (ci 31 (by decide)).trans (u1 31 (by decide) (by decide) (by omega))
      have c38 : hc'.I 38 = hc.I 38 := (ci 38 (by decide)).trans (u1 38 (by decide) (by decide) (by omega))
      have mv : ∀ k, (k = 6 ∨ k = 23 ∨ (30 < k ∧ k < 40)) → hm'.I 43 k = hm.I 43 k := fun k hk => (mk k (by omega) (by omega) (by omega)).trans (v2 k (by omega))
      refine ⟨0, B, c0, c, p0, p, e0, e, ⟨?_, ?_, by omega, fun y hy => by omega⟩, by rw [cR']; exact rc, by rw [mRr', v5]; exact rm, by rw [mRr', v5]; exact re, ⟨?_, ?_⟩, ⟨?_, ?_⟩, ?_, by rw [c38, c31]; exact z, ?_, ?_, ?_, ?_, ?_⟩
      · rw [ci 15 (by decide), u2]; rfl
      · rw [mk 2 (by decide) (by decide) (by decide), v3]; rfl
      · rw [k4, sI_I, if_neg (by decide), sI_I, if_pos ⟨rfl, rfl⟩]
        rcases k5 with q | q <;> rw [q] <;> rfl
      · rw [k4, sI_I, if_pos ⟨rfl, rfl⟩]
        rcases k5 with q | q <;> rw [q] <;> rfl
      · obtain ⟨R, R1, R2, R3⟩ := lt.1
        exact ⟨R, by rw [c31]; exact R1, R2, by rw [ci 33 (by decide), u1 33 (by decide) (by decide) (by omega)]; exact R3⟩
      · rw [c31, mv 6 (by omega)]; exact lt.2
      · rw [k4, sI_L, sI_L, u3, mL, v4]; exact ls
      · unfold IP at *
        rw [c0k 9 (by decide) (by decide), u1 0 (by decide) (by decide) (by omega), mv 23 (by omega), ci c0 (by omega), u1 c0 (by omega) (by omega) (dis c0 (by omega) (by omega))]
        rcases ip with q | ⟨q1, q2, na, np, nv, nl, P, jn, q3⟩
        · exact Or.inl q
        · refine Or.inr ⟨q1, q2, na, np, nv, nl, P, jn, q3.to (fun o o1 o2 => ?_) (fun o o1 o2 => ?_) ?_⟩
          · rw [ci o (by omega), u1 o (by omega) (by omega) (dis o o1 o2)]
          · rw [mi o (by omega), v1 o (by omega) (by omega) (by omega) (disp o o1 o2) (by omega)]
          · rw [mi e0 (by omega), v1 e0 (by omega) (by omega) (by omega) (by omega) (fun q => re.2.2.2.2 q.symm)]
      · rw [ci 32 (by decide), u1 32 (by decide) (by decide) (by omega), mi 76 (by decide), v1 76 (by decide) (by decide) (by decide) (by omega) (by omega)]; exact mem
      · rw [ci 42 (by decide), u1 42 (by decide) (by decide) (by omega), mi 77 (by decide), v1 77 (by decide) (by decide) (by decide) (by omega) (by omega)]; exact gv
      · unfold IT KW at *
        rw [c38, c31, ci 37 (by decide), u1 37 (by decide) (by decide) (by omega), ci 34 (by decide), u1 34 (by decide) (by decide) (by omega), ci 35 (by decide), u1 35 (by decide) (by decide) (by omega), ci 36 (by decide), u1 36 (by decide) (by decide) (by omega), mi 79 (by decide), v1 79 (by decide) (by decide) (by decide) (by omega) (by omega), mv 31 (by omega), mv 32 (by omega), mv 33 (by omega), mv 34 (by omega), mv 36 (by omega), mv 37 (by omega)]
        exact it
      · rw [ci 40 (by decide), u1 40 (by decide) (by decide) (by omega)]; exact f40
  · exact no (Or.inr h1)
end FEEDS
