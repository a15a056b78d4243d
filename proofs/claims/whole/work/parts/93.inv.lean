/-! ===== what holds between two calls ===== -/
def IT (hc hm : qh) : Prop := (hm.I 43 31 = 0 ∧ hc.I 38 9 = -1 ∧ hc.I 38 10 = 0 ∧ hc.I 38 11 = 0 ∧ hc.I 31 6 = 0 ∧ hc.I 31 7 = 0 ∧ hc.I 37 1 = 0) ∨ (hm.I 43 31 = 1 ∧ hc.I 38 9 = hm.I 43 32 ∧ (hc.I 38 9 = 0 ∨ hc.I 38 9 = 1) ∧ hc.I 38 10 = hm.I 43 33 ∧ hc.I 38 11 = hm.I 43 34 ∧ hc.I 31 6 = hm.I 43 36 ∧ (∃ w : Nat, hc.I 31 7 = Int32.ofNat w ∧ hm.I 43 37 = Int32.ofNat w ∧ w < 2147483648 ∧ KW w hc hm) ∧ hc.I 37 1 = 1 - hc.I 38 9)
def IP (c p e : Nat) (hc hm : qh) : Prop := (hc.I 0 9 = 0 ∧ hm.I 43 23 = 0 ∧ hc.I c 8 = 0 ∧ hc.I c 9 = 0 ∧ hc.I c 10 = 0 ∧ hc.I c 11 = 0) ∨ (hc.I 0 9 = 1 ∧ hm.I 43 23 = 1 ∧ ∃ na np nv nl P jn, PR c p e na np nv nl P jn hc hm)
def INV (hc hm : qh) : Prop := ∃ (u : Nat) (B : Nat → Nat) (c0 c p0 p e0 e : Nat), TP u B hc hm ∧ (hc.R 0 7 = some c0 ∧ hc.R 0 8 = some c ∧ q_cir c0 ∧ q_cir c ∧ c ≠ c0) ∧ (hm.R 43 21 = some p0 ∧ hm.R 43 22 = some p ∧ q_prg p0 ∧ q_prg p ∧ p ≠ p0) ∧ (hm.R 43 41 = some e0 ∧ hm.R 43 42 = some e ∧ q_end e0 ∧ q_end e ∧ e ≠ e0) ∧ (hc.I 0 10 = hm.I 43 3 ∧ hc.I 0 11 = hm.I 43 4) ∧ (LT hc ∧ hc.I 31 5 = hm.I 43 6) ∧ hc.L 37 0 = hm.L 43 7 ∧ (hc.I 38 13 = 0 ∧ hc.I 38 14 = 0 ∧ hc.I 38 15 = 0 ∧ hc.I 31 9 = 0) ∧ IP c0 p0 e0 hc hm ∧ (∀ i, i < 2048 → hc.I 32 i = hm.I 76 i) ∧ (∀ i, i < 4 → hc.I 42 i = hm.I 77 i) ∧ IT hc hm ∧ (∀ y, y < 1400 → hc.I 40 y = 0)
/-- how a RUN of the reference begins -/
def HMB (np : Nat) (lm : Int32) (h h0 : qh) : Prop := (∀ o, o ≠ 43 → o ≠ 78 → h0.I o = h.I o) ∧ (∀ k, k ≠ 0 → k ≠ 31 → k ≠ 33 → k ≠ 34 → k ≠ 35 → k ≠ 36 → k ≠ 37 → h0.I 43 k = h.I 43 k) ∧ (h0.I 43 31 = 1 ∧ h0.I 43 33 = 0 ∧ h0.I 43 34 = 0 ∧ h0.I 43 35 = lm ∧ h0.I 43 36 = 0 ∧ h0.I 43 37 = 0) ∧ (∀ y, y < np → h0.I 78 y = h.I 77 y) ∧ h0.L = h.L ∧ h0.R = h.R
theorem FI.cyc {h0 m0 hF mF : qh} {ans : Int32} (f : FI h0 m0 ans hF mF) (v : Int32) : FI h0 m0 ans (hF.sI 38 12 v) mF := by
  obtain ⟨⟨E1, E2, E3, E4, E5, E6⟩, m, ⟨f1, f2, f3, f4, f5⟩, ⟨f6, f7⟩, ⟨w, f8, f9, f10, f11⟩, f12, f13, f14⟩ := f
  refine ⟨⟨fun o q => ?_, fun k q1 q2 q3 => ?_, fun k q1 q2 q3 q4 q5 q6 => ?_, fun k q => ?_, E5, E6⟩, m, ⟨?_, ?_, ?_, ?_, ?_⟩, ⟨?_, ?_⟩, ⟨w, ?_, f9, f10, ?_⟩, ?_, ?_, fun q => ?_⟩
  · rw [sI_row _ (by omega)]; exact E1 o q
  · rw [sI_row _ (by decide)]; exact E2 k q1 q2 q3
  · rw [sI_I, if_neg (by omega)]; exact E3 k q1 q2 q3 q4 q5 q6
  · rw [sI_row _ (by decide)]; exact E4 k q
  · rw [sI_I, if_neg (by decide)]; exact f1
  · rw [sI_I, if_neg (by decide)]; exact f2
  · rw [sI_I, if_neg (by decide)]; exact f3
  · rw [sI_I, if_neg (by decide)]; exact f4
  · rw [sI_row _ (by decide)]; exact f5
  · rw [sI_I, if_neg (by decide)]; exact f6
  · rw [sI_row _ (by decide)]; exact f7
  · rw [sI_row _ (by decide)]; exact f8
  · unfold KW; rw [sI_row _ (by decide), sI_row _ (by decide), sI_row _ (by decide)]; exact f11
  · rw [sI_row _ (by decide)]; exact f12
  · rw [sI_row _ (by decide)]; exact f13
  · rw [sI_I, if_neg (by decide)]; exact f14 q
section JRUN
variable {G : qG} {d D c p e P np na nv nl jn lim : Nat} {hc hm : qh}
theorem m_runbeg (hp : q_prg p) (hn : np ≤ 4) (hR : hm.R 43 21 = some p) (h1 : hm.I p 1 = Int32.ofNat np) (h23 : ¬ hm.I 43 23 = 0) (l1 : 1 ≤ lim) (l2 : lim ≤ 3000) : ∃ h0, HMB np (Int32.ofNat lim) hm h0 ∧ ∀ (hx : qh) (Q : qr → qh → Prop), q_N0 G m_X12_run (d + 1) Q 58 [.ref 43, .int (Int32.ofNat lim), .int (Int32.ofNat np)] [] (mg hx h0) → q_M0 G (d + 1) yX12_run [.ref 43, .int (Int32.ofNat lim)] (mg hx hm) Q := by
  have hpl := prg_lt hp
  obtain ⟨hF, eF⟩ : ∃ hF : qh, hF = ((((((hm.sI 43 0 0).sI 43 31 1).sI 43 35 (Int32.ofNat lim)).sI 43 34 0).sI 43 36 0).sI 43 37 0).sI 43 33 0 := ⟨_, rfl⟩
  have F1' : ∀ o, o ≠ 43 → hF.I o = hm.I o := fun o a => by
    rw [eF, sI_row _ a, sI_row _ a, sI_row _ a, sI_row _ a, sI_row _ a, sI_row _ a, sI_row _ a]
  obtain ⟨h', a1, a2, a3⟩ := m_run58 (G := G) (d := d) hp hn (Int32.ofNat lim) np 0 hF (by omega) (by rw [eF]; exact hR) (by rw [F1' p (by omega)]; exact h1)
  have e43 := a2.1 43 (by decide)
  refine ⟨h', ⟨fun o e1 e2 => by rw [a2.1 o e2, F1' o e1], fun k e1 e2 e3 e4 e5 e6 e7 => ?_, ⟨?_, ?_, ?_, ?_, ?_, ?_⟩, fun y hy => ?_, ?_, ?_⟩, fun hx Q H => ?_⟩
  · rw [e43, eF, sI_I, if_neg (by omega), sI_I, if_neg (by omega), sI_I, if_neg (by omega), sI_I, if_neg (by omega), sI_I, if_neg (by omega), sI_I, if_neg (by omega), sI_I, if_neg (by omega)]
  · rw [e43, eF]; rfl
  · rw [e43, eF]; rfl
  · rw [e43, eF]; rfl
  · rw [e43, eF]; rfl
  · rw [e43, eF]; rfl
  · rw [e43, eF]; rfl
  · rw [a3, if_pos (by omega), F1' 77 (by decide)]
  · rw [a2.2.1, eF]; rfl
  · rw [a2.2.2, eF]; rfl
  · refine x_X12_run G d _ _ Q ?_
    rw [show (mg hx hm).I 43 23 = hm.I 43 23 from by rw [mI (by decide)]]
    refine ⟨fun q => absurd q h23, fun _ => ⟨fun q => absurd ((n_lt (b := 1) (by omega) (by omega)).mp q) (by omega), fun _ => ⟨fun _ => ?_, fun q => absurd ((n_le (b := 3000) (by omega) (by omega)).mpr l2) q⟩⟩⟩
    rw [mg_sI_m (by decide), mg_sI_m (by decide), mg_sI_m (by decide), mg_sI_m (by decide), mg_sI_m (by decide), mg_sI_m (by decide), mg_sI_m (by decide), ← eF]
    exact a1 hx Q H
/-- the whole of a RUN -/
theorem r_run (hq : q_cir c) (hp : q_prg p) (he : q_end e) (pr : PR c p e na np nv nl P jn hc hm) (r1 : hm.R 43 21 = some p) (r2 : hm.R 43 41 = some e) (h23 : ¬ hm.I 43 23 = 0) (lt : LT hc) (mem : ∀ i, i < 2048 → hc.I 32 i = hm.I 76 i) (gv : ∀ i, i < 4 → hc.I 42 i = hm.I 77 i) (h40 : ∀ y, y < 1400 → hc.I 40 y = 0) (l1 : 1 ≤ lim) (l2 : lim ≤ 3000) :
    ∃ (ans : Int32) (h0 m0 hF mF : qh), (ans = 0 ∨ ans = 1) ∧ HCB c (Int32.ofNat lim) hc h0 ∧ HMB np (Int32.ofNat lim) hm m0 ∧ FI h0 m0 ans hF mF ∧ cR G (D + 5) yX9_perform [.ref 38, .ref c, .ref 42, .int (Int32.ofNat lim)] hc (riv ans) (if ans = 0 then hF.sI 38 13 (hF.I 38 13 + hF.I 38 8) else hF) ∧ mR G (d + 38) yX12_run [.ref 43, .int (Int32.ofNat lim)] hm (riv ans) (if ans = 1 then (mF.sI 43 32 1).sI 43 33 0 else mF.sI 43 32 0) := by
  have hcl := cir_lt hq
  have hpl := prg_lt hp
  have hel := end_lt he
  have PRc := pr
  obtain ⟨⟨x1, x2, x3, x4⟩, ⟨y1, y2, y3⟩, ⟨y4, y5, y6⟩, ⟨y7, y8, y9, y10⟩, _, _⟩ := PRc
  obtain ⟨h0, c1, c2⟩ := c_runbeg (G := G) (d := D + 2) (lm := Int32.ofNat lim) hq x2 x1
  obtain ⟨m0, b1, b2⟩ := m_runbeg (G := G) (d := d + 37) hp y6 r1 y5 h23 l1 l2
  obtain ⟨C1, C2, C3, C4, C5, C6, C7, C8, C9, C10, C11, C12⟩ := c1
  obtain ⟨M1, M2, M3, M4, M5, M6⟩ := b1
  have pr0 := pr.to (hc' := h0) (hm' := m0) (fun o o1 o2 => C1 o (by omega) (by omega) (by omega) (by omega) (by omega)) (fun o o1 o2 => M1 o (by omega) (by omega)) (M1 e (by omega) (by omega))
  obtain ⟨⟨x1, x2, x3, x4⟩, ⟨y1, y2, y3⟩, ⟨y4, y5, y6⟩, ⟨y7, y8, y9, y10⟩, ⟨y11, y12, y13⟩, y14, L, S, N, b, z1, z2, z3, z4, z5, z6, z7⟩ := pr0
  have B : RB c p e h0 m0 P jn na lim := ⟨⟨hq, hp, he⟩, ⟨C11, by rw [M6]; exact r1, by rw [M6]; exact r2⟩, ⟨x1, x2⟩, ⟨x3, x4⟩, ⟨y1, y3⟩, y14, by
    obtain ⟨R, R1, R2, R3⟩ := lt
    exact ⟨R, by rw [C2 5 (by decide) (by decide) (by decide)]; exact R1, R2, by rw [C1 33 (by decide) (by decide) (by decide) (by decide) (by decide)]; exact R3⟩, C7.2.1, M3.2.2.2.1, l1, l2, C7.2.2.2.1, C7.2.2.2.2.1, M3.2.1, C5⟩
  have br : BR h0 m0 (VP np) 0 0 0 h0 m0 := ⟨⟨fun _ _ => rfl, fun _ _ _ _ => rfl, fun _ _ _ _ => rfl, rfl, rfl⟩, ⟨fun _ _ _ _ _ _ => rfl, fun _ _ _ _ => rfl, rfl, rfl⟩, ⟨C7.2.2.2.2.2, M3.2.2.1⟩, ⟨0, C3.2.2, Nat.le_refl _⟩, ⟨C3.2.1, M3.2.2.2.2.2, Nat.le_refl _⟩, C3.1.trans M3.2.2.2.2.1.symm, fun i hi => by rw [C1 32 (by decide) (by decide) (by decide) (by decide) (by decide), M1 76 (by decide) (by decide)]; exact mem i hi, fun i hi => by omega, fun y hy => by
    obtain ⟨k, k1, k2⟩ := hy
    exact ⟨k, by omega, k2, by rw [C9 k (by omega), M4 k k1]; exact gv k (by omega)⟩⟩
  have le := LC.le (fun V s a b h => by have := SC.le _ _ _ _ _ _ _ h; omega) _ _ _ _ _ _ z4
  -- the end of perform
  have fin : ∀ (C' : Nat) (ans : Int32) (hF mF : qh), FI h0 m0 ans hF mF → C' < 268800000 → cS G (D + 4) c (Int32.ofNat lim) h0 0 hF C' → cR G (D + 5) yX9_perform [.ref 38, .ref c, .ref 42, .int (Int32.ofNat lim)] hc (riv ans) (if ans = 0 then (hF.sI 38 12 (Int32.ofNat C')).sI 38 13 ((hF.sI 38 12 (Int32.ofNat C')).I 38 13 + (hF.sI 38 12 (Int32.ofNat C')).I 38 8) else hF.sI 38 12 (Int32.ofNat C')) := fun C' ans hF mF f hC' cs hx Q H => by
    obtain ⟨_, _, ⟨f1, f2, f3, _⟩, _⟩ := f
    have e6 : (mg hF hx).I 38 6 = -1 := by rw [cI (by decide)]; exact f1
    have e9 : (mg hF hx).I 38 9 = ans := by rw [cI (by decide)]; exact f3
    have e8 : (mg hF hx).I 38 8 = hF.I 38 8 := by rw [cI (by decide)]
    have e13 : (mg hF hx).I 38 13 = hF.I 38 13 := by rw [cI (by decide)]
    refine c2 hx Q (cs hx Q (x_X9_perform_14 G (D + 4) _ _ _ _ Q hq ⟨fun _ => ⟨fun _ => ?_, fun q => absurd ((n_lt (b := 268800000) (by omega) (by omega)).mpr hC') q⟩, fun q => absurd e6 q⟩))
    rw [e9, e8, e13]
    refine ⟨fun q => ?_, fun q => ?_⟩
    · rw [if_neg q] at H
      rw [mg_sI_c (by decide)]; exact H
    · rw [if_pos q, sI_I, if_neg (by decide), sI_I, if_neg (by decide)] at H
      rw [mg_sI_c (by decide), mg_sI_c (by decide)]; exact H
  have run : ∀ (hm1 mF : qh) (r : Int32), MK p 0 hm1 → hm1.I p 7 = m0.I p 7 → mR G (d + 37) yX12_begins [.ref 43] m0 (riv 1) hm1 → mR G (d + 37) yX12_goes [.ref 43, .int (m0.I p 7)] hm1 (riv r) mF → mR G (d + 38) yX12_run [.ref 43, .int (Int32.ofNat lim)] hm (riv (if r = 4 then 1 else 0)) (if (if r = 4 then (1 : Int32) else 0) = 1 then (mF.sI 43 32 1).sI 43 33 0 else mF.sI 43 32 0) := fun hm1 mF r k e7 bg gs hx Q H => by
    refine b2 hx Q (x_X12_run_58 G (d + 37) _ _ _ Q ⟨p, by rw [mRr (by decide), M6]; exact r1, hp, ?_⟩)
    rw [mI (by omega), y5]
    refine ⟨fun _ => bg hx _ ⟨p, k.rr hx, hp, ?_⟩, fun q => absurd ((n_le (by omega) (by omega)).mpr (Nat.le_refl _)) q⟩
    rw [mI (by omega), e7]
    refine gs hx _ ⟨fun q => ?_, fun q => ?_⟩
    · rw [if_neg q] at H
      by_cases h4 : r = 4
      · exact absurd (if_pos h4) q
      · rw [if_neg h4] at H ⊢
        rw [mg_sI_m (by decide)]; exact H
    · rw [if_pos q] at H
      rw [q] at H ⊢
      rw [mg_sI_m (by decide), mg_sI_m (by decide)]; exact H
  rcases r_step0 (G := G) (d := d + 36) (D := D) (lm := Int32.ofNat lim) (x := 0) B br (C8 h40) C7.2.2.1 C7.1 (by omega) z3 (by omega) (by omega) with ⟨h1, hm1, q1, q2, q3⟩ | ⟨h1, q1, q2, q3, q4⟩
  · obtain ⟨k1, k2⟩ := B.mk q3.1 (s := 0) (by omega)
    have e7 : hm1.I p 7 = m0.I p 7 := by
      have := (B.mR5 q3.1).2.2.2.2.1 0 (by omega)
      rw [show p + 0 = p from rfl] at this
      rw [this]
    obtain ⟨r, C2', h2, m2, o1, o2, o3⟩ := r_list (d := d) (ag := -1) (bh := -1) B (r_all B z1 z2 16) z1 (Or.inl rfl) (Or.inl rfl) (m0.I p 7) L (VP np) _ 1 b 1 0 1 h1 hm1 z4 (by omega) q3 (by unfold CY; omega)
    have gs : mR G (d + 37) yX12_goes [.ref 43, .int (m0.I p 7)] hm1 (riv r) m2 := fun hx Q H => x_X12_goes G (d + 36) _ _ Q (o1 hx Q H)
    have rn := run hm1 m2 r k1 e7 q2 gs
    rcases o3 with ⟨rfl, st', w', w1, w2, w3⟩ | ⟨_, w1, _⟩ | ⟨_, w1, _⟩ | ⟨rfl, w1⟩ | ⟨rfl, w1⟩
    · have hb14 : b + 2 ≤ 1400 := by omega
      have s1 := w2.2.2.2.2.1
      have s2 := w2.2.2.2.2.2
      have w3' := w3
      unfold CY at w3'
      have w0 : wkh h2 (-1) (-1) b = h2.sI 38 6 (Int32.ofNat (b + 1)) := by unfold wkh; rw [tkn_m, tkn_m]
      have em0 : (wkh h2 (-1) (-1) b).I 40 b = 0 := by rw [w0, sI_row _ (by decide)]; exact w2.2.1 b (by omega)
      have cs1 := c_ord (G := G) (D := D) (lm := Int32.ofNat lim) (v := 0) B w2.1 w2.2.2.2.1 (by omega) (by omega) z5 (fl_m _) (fl_m _) (by rw [tkn_m]; exact fl_m _) (w2.2.1 b (by omega)) em0 (fun hy Q H => ⟨fun _ => H, fun q => absurd q (by decide), fun q => absurd q (by decide), fun q => absurd q (by decide), fun q => absurd q (by decide), fun q => absurd q (by decide), fun q => absurd q (by decide), fun q => absurd q (by decide), fun q => absurd q (by decide), fun q => absurd rfl q.1⟩)
      have bA := (w2.1.mono (V' := VP np) (C' := C2' + 1) (fun _ q => q) (by omega)).tok ((tA.wk1 h2 (-1) (-1) b).tr (tA.hd1 _ b 0)) (mA.sI m2 0 0)
      obtain ⟨hA, eA⟩ : ∃ hA : qh, hA = hnd (wkh h2 (-1) (-1) b) b 0 := ⟨_, rfl⟩
      have tk : TKK h2 hA (m2.sI 80 0 0) 0 0 [Int32.ofNat b] (b + 1) := by
        rw [eA, w0]
        have tk0 : TKK h2 h2 m2 0 0 [] b := ⟨trivial, fun y _ y2 _ => w2.2.1 y y2, fun y hy => by omega, by rw [w2.2.2.1]; rfl⟩
        refine TKK.hd1 (hm := m2) (r := []) (tk0.turn _) (by omega) (by omega) ?_ (fun n hn => by simp at hn)
        rw [sI_I, if_pos ⟨rfl, rfl⟩]
      rw [← eA] at bA cs1
      have t6 : hA.I 38 6 = Int32.ofNat (b + 1) := by rw [eA]; exact hnd_turn _ _ _ _ _ _
      have es : ES h0 m0 h2 (VP np) st' w' (C2' + 1) 0 0 [Int32.ofNat b] (b + 1) hA (m2.sI 80 0 0) := ⟨bA, tk, t6⟩
      obtain ⟨p1, p2, p3, p4, p5⟩ := es.one (by omega) (by omega) w2.2.1
      have bA2 := (w2.1.mono (V' := VP np) (C' := C2' + 1) (fun _ q => q) (by omega)).tok ((tA.wk1 h2 (-1) (-1) b).tr (tA.hd1 _ b 0)) (mA.rf m2)
      rw [← eA] at bA2
      obtain ⟨sp, hF, e0, e1, e2⟩ := r_answer (G := G) (D := D) (lm := Int32.ofNat lim) (hm' := m2) (u := 0) B bA2 t6 p1 (by rw [p2, sI_I, if_pos ⟨rfl, rfl⟩]) p3 p5 p4 z6 (by omega) (by omega) (fun _ _ => rfl) (fun _ _ => rfl) rfl rfl (by rw [w2.1.2.1.2.1 33 (by decide) (by decide) (by decide)]; exact M3.2.1)
      exact ⟨0, h0, m0, hF.sI 38 12 (Int32.ofNat (C2' + 1 + sp)), m2, Or.inl rfl, ⟨C1, C2, C3, C4, C5, C6, C7, C8, C9, C10, C11, C12⟩, ⟨M1, M2, M3, M4, M5, M6⟩, e2.cyc _, fin _ 0 hF m2 e2 (by omega) ((q1.tr o2).tr (cs1.tr e1)), rn⟩
    · exact absurd rfl w1
    · exact absurd rfl w1
    · exact ⟨0, h0, m0, h2.sI 38 12 (Int32.ofNat C2'), m2, Or.inl rfl, ⟨C1, C2, C3, C4, C5, C6, C7, C8, C9, C10, C11, C12⟩, ⟨M1, M2, M3, M4, M5, M6⟩, w1.1.cyc _, fin _ 0 h2 m2 w1.1 w1.2 (q1.tr o2), rn⟩
    · exact ⟨1, h0, m0, h2.sI 38 12 (Int32.ofNat C2'), m2, Or.inr rfl, ⟨C1, C2, C3, C4, C5, C6, C7, C8, C9, C10, C11, C12⟩, ⟨M1, M2, M3, M4, M5, M6⟩, w1.1.cyc _, fin _ 1 h2 m2 w1.1 w1.2 (q1.tr o2), rn⟩
  · exact absurd l1 (by omega)
end JRUN
