/-! ===== the RUN: every STATEMENT goes alike ===== -/
def GJ (jn : Nat) (x : Int32) : Prop := x = -1 ∨ ∃ j : Nat, x = Int32.ofNat j ∧ j < jn
def LD (c : Nat) (hc0 : qh) (x : Int32) : Int32 := hc0.I (c + 5) x.toNatClampNeg
/-- how a STATEMENT ends: on, broke, again, left, unended -/
def OUT (c : Nat) (hc0 hm0 : qh) (lim : Nat) (V V' : Int32 → Prop) (st b : Nat) (ag bh r : Int32) (C' : Nat) (hc' hm' : qh) : Prop :=
  (r = 0 ∧ ∃ st' w', st ≤ st' ∧ RR hc0 hm0 lim V' st' w' C' (Int32.ofNat b) hc' hm' ∧ CY st' b C') ∨
  (r = 1 ∧ ¬ bh = -1 ∧ ∃ st' w', st ≤ st' ∧ RR hc0 hm0 lim V st' w' C' (LD c hc0 bh) hc' hm' ∧ CY st' 1399 C') ∨
  (r = 2 ∧ ¬ ag = -1 ∧ ∃ st' w', st ≤ st' ∧ RR hc0 hm0 lim V st' w' C' (LD c hc0 ag) hc' hm' ∧ CY st' 1399 C') ∨
  (r = 3 ∧ FI hc0 hm0 0 hc' hm' ∧ C' < 268800000) ∨ (r = 4 ∧ FI hc0 hm0 1 hc' hm' ∧ C' < 268800000)
/-- every STATEMENT that is nested at most n deep -/
def RSt (G : qG) (d D c p e : Nat) (hc0 hm0 : qh) (lm : Int32) (P jn na lim S N n : Nat) : Prop := ∀ (V : Int32 → Prop) (s a b : Nat) (ag bh : Int32) (st w C : Nat) (hc hm : qh), SC c p e hc0 hm0 (AK na) S N 0 jn n V s a b ag bh → s < S → b + 2 ≤ P → GJ jn ag → GJ jn bh → RR hc0 hm0 lim V st w C (Int32.ofNat a) hc hm → CY st a C → ∃ r C' hc' hm', mR G (d + 2 * n + 4) yX12_goesOne [.ref 43, .int (Int32.ofNat s)] hm (riv r) hm' ∧ cS G (D + 4) c lm hc C hc' C' ∧ OUT c hc0 hm0 lim V (vaft p hm0 V s) st b ag bh r C' hc' hm'
section RSTM
variable {G : qG} {d D c p e P jn na lim S N n : Nat} {lm : Int32} {hc0 hm0 hc hm hc' hm' : qh} {V V' V1 V2 : Int32 → Prop} {st st1 w C C' a b b1 x s : Nat} {ag bh r : Int32}
theorem OUT.pass (o : OUT c hc0 hm0 lim V V1 st1 b1 ag bh r C' hc' hm') (hr : ¬ r = 0) (hs : st ≤ st1) (hV : ∀ y, V2 y → V y) : OUT c hc0 hm0 lim V2 V' st b ag bh r C' hc' hm' := by
  rcases o with ⟨q, _⟩ | ⟨q1, q2, s', w', q3, q4, q5⟩ | ⟨q1, q2, s', w', q3, q4, q5⟩ | q | q
  · exact absurd q hr
  · exact Or.inr (Or.inl ⟨q1, q2, s', w', by omega, q4.mono hV (Nat.le_refl _), q5⟩)
  · exact Or.inr (Or.inr (Or.inl ⟨q1, q2, s', w', by omega, q4.mono hV (Nat.le_refl _), q5⟩))
  · exact Or.inr (Or.inr (Or.inr (Or.inl q)))
  · exact Or.inr (Or.inr (Or.inr (Or.inr q)))
theorem OUT.on (o : OUT c hc0 hm0 lim V V1 st b ag bh 0 C' hc' hm') : ∃ st' w', st ≤ st' ∧ RR hc0 hm0 lim V1 st' w' C' (Int32.ofNat b) hc' hm' ∧ CY st' b C' := by
  rcases o with ⟨_, q⟩ | ⟨q, _⟩ | ⟨q, _⟩ | ⟨q, _⟩ | ⟨q, _⟩
  · exact q
  all_goals exact absurd q (by decide)
theorem vaft_ne (h : ¬ hm0.I (p + 2) s = 0) : ∀ y, vaft p hm0 V s y → V y := fun y q => by
  rcases q with q | q
  · exact q
  · exact absurd q.1 h
theorem RB.mk (B : RB c p e hc0 hm0 P jn na lim) (b : BR hc0 hm0 V st w C hc hm) (hs : s < 2000) : MK p s hm ∧ ∀ o, o ≤ 10 → hm.I (p + o) s = hm0.I (p + o) s := by
  obtain ⟨m1, m2, m3, m4, m5, m6⟩ := B.mR5 b
  exact ⟨⟨B.1.2.1, hs, m1⟩, fun o ho => by rw [m5 o ho]⟩
theorem RB.bd (B : RB c p e hc0 hm0 P jn na lim) : P ≤ 1400 ∧ lim ≤ 3000 := ⟨B.2.2.1.2, B.2.2.2.2.2.2.2.2.2.2.1⟩
/-- a STEP, with the cycles counted -/
theorem r_stp (B : RB c p e hc0 hm0 P jn na lim) (R : RR hc0 hm0 lim V st w C (Int32.ofNat x) hc hm) (hp : pAt hc0 c x = stp) (hx : x < P) (hC : CY st 1399 C) :
    (∃ hc' hm', cS G (D + 4) c lm hc C hc' (C + 1) ∧ mR G (d + 1) yX12_begins [.ref 43] hm (riv 1) hm' ∧ RR hc0 hm0 lim V (st + 1) w (C + 1) (Int32.ofNat (x + 1)) hc' hm' ∧ CY (st + 1) (x + 1) (C + 1)) ∨ (∃ hc', cS G (D + 4) c lm hc C hc' (C + 1) ∧ mR G (d + 1) yX12_begins [.ref 43] hm (riv 0) hm ∧ FI hc0 hm0 1 hc' hm ∧ C + 1 < 268800000) := by
  obtain ⟨l1, l2⟩ := B.bd
  have s1 := R.2.2.2.2.1
  have s2 := R.2.2.2.2.2
  unfold CY at hC
  rcases r_step (G := G) (d := d) (D := D) (lm := lm) B R hp hx (by omega) with ⟨h1, h2, q1, q2, q3⟩ | ⟨h1, q1, q2, q3⟩
  · exact Or.inl ⟨h1, h2, q1, q2, q3, by unfold CY; omega⟩
  · exact Or.inr ⟨h1, q1, q2, q3, by omega⟩
/-- the last STEP of an if or while -/
theorem r_join (B : RB c p e hc0 hm0 P jn na lim) (R : RR hc0 hm0 lim V st w C (Int32.ofNat x) hc hm) (hp : pAt hc0 c x = stp) (hx : x < P) (hC : CY st 1399 C) :
    ∃ z hc' hm', mR G (d + 1) yX12_begins [.ref 43] hm (riv z) hm' ∧ cS G (D + 4) c lm hc C hc' (C + 1) ∧ ∀ (V1 V2 : Int32 → Prop) (st1 : Nat) (ag bh : Int32), (∀ y, V2 y → V y) → st1 ≤ st → OUT c hc0 hm0 lim V1 V2 st1 (x + 1) ag bh (if z = 0 then 4 else 0) (C + 1) hc' hm' := by
  rcases r_stp (G := G) (d := d) (D := D) (lm := lm) B R hp hx hC with ⟨h1, h2, q1, q2, q3, q4⟩ | ⟨h1, q1, q2, q3⟩
  · exact ⟨1, h1, h2, q2, q1, fun V1 V2 s1 ag bh hV hs => Or.inl ⟨rfl, st + 1, w, by omega, q3.mono hV (Nat.le_refl _), q4⟩⟩
  · exact ⟨0, h1, hm, q2, q1, fun V1 V2 s1 ag bh hV hs => Or.inr (Or.inr (Or.inr (Or.inr ⟨rfl, q3⟩)))⟩
theorem CY.le {y : Nat} (h : CY st x C) (hy : x ≤ y) : CY st y C := by unfold CY at *; omega
theorem CY.up {y k : Nat} (h : CY st x C) (hy : x + k ≤ y) {z : Nat} (hz : z ≤ C + 64 * k) : CY st y z := by unfold CY at *; omega
/-- one arm of an if: its STEP, its STATEMENT, the way to where the arms meet -/
theorem r_arm {t y0 y : Nat} (B : RB c p e hc0 hm0 P jn na lim) (ih : RSt G d D c p e hc0 hm0 lm P jn na lim S N n) (hS : S ≤ 2000) (g1 : GJ jn ag) (g2 : GJ jn bh) (R : RR hc0 hm0 lim V st w C (Int32.ofNat y0) hc hm) (hC : CY st 1399 C) (hp : pAt hc0 c y0 = stp) (hsc : SC c p e hc0 hm0 (AK na) S N 0 jn n V t (y0 + 1) x ag bh) (ht : t < S) (hx : x + 2 ≤ P) (hx0 : y0 ≤ x) (hy : y < P) (hpy : pAt hc0 c y = stp)
    (K : ∀ st' w' C' hc' hm', RR hc0 hm0 lim V st' w' C' (Int32.ofNat x) hc' hm' → CY st' x C' → ∃ hc'' C'', cS G (D + 4) c lm hc' C' hc'' C'' ∧ RR hc0 hm0 lim V st' w' C'' (Int32.ofNat y) hc'' hm' ∧ CY st' 1399 C'') :
    ∃ r C' hc' hm', (∀ hy Q, Q (riv r) (mg hy hm') → Iw G (d + 2 * n + 4) (Int32.ofNat t) (mg hy hm) Q) ∧ cS G (D + 4) c lm hc C hc' C' ∧ OUT c hc0 hm0 lim V V st (y + 1) ag bh r C' hc' hm' := by
  have hn1 : ¬ Int32.ofNat t = -1 := n_ne1 (by omega)
  rcases r_stp (G := G) (d := d + 2 * n + 3) (D := D) (lm := lm) B R hp (by omega) hC with ⟨h1, m1, q1, q2, q3, q4⟩ | ⟨h1, q1, q2, q3⟩
  · obtain ⟨r, C2, h2, m2, a1, a2, a3⟩ := ih V t (y0 + 1) x ag bh (st + 1) w (C + 1) h1 m1 hsc ht (by omega) g1 g2 q3 q4
    by_cases hr : r = 0
    · subst hr
      obtain ⟨st', w', b1, b2, b3⟩ := a3.on
      obtain ⟨h3, C3, k1, k2, k3⟩ := K st' w' C2 h2 m2 (b2.mono (fun y q => Or.inl q) (Nat.le_refl _)) b3
      obtain ⟨z, h4, m4, e1, e2, e3⟩ := r_join (G := G) (d := d + 2 * n + 3) (D := D) (lm := lm) B k2 hpy hy k3
      refine ⟨_, C3 + 1, h4, m4, fun hz Q H => ⟨fun q => absurd q hn1, fun _ => q2 hz _ ⟨fun _ => a1 hz _ ⟨fun _ => e1 hz _ H, fun q => absurd rfl q⟩, fun q => absurd q (by decide)⟩⟩, (q1.tr a2).tr (k1.tr e2), e3 V V st ag bh (fun _ q => q) (by omega)⟩
    · exact ⟨r, C2, h2, m2, fun hz Q H => ⟨fun q => absurd q hn1, fun _ => q2 hz _ ⟨fun _ => a1 hz _ ⟨fun q => absurd q hr, fun _ => H⟩, fun q => absurd q (by decide)⟩⟩, q1.tr a2, a3.pass hr (by omega) (fun _ q => q)⟩
  · exact ⟨4, C + 1, h1, hm, fun hz Q H => ⟨fun q => absurd q hn1, fun _ => q2 hz _ ⟨fun q => absurd rfl q, fun _ => H⟩⟩, q1, Or.inr (Or.inr (Or.inr (Or.inr ⟨rfl, q3⟩)))⟩
/-- once and again round a while -/
theorem r_loop {f m j j2 t : Nat} {v : Int32} (B : RB c p e hc0 hm0 P jn na lim) (ih : RSt G d D c p e hc0 hm0 lm P jn na lim S N n) (hS : S ≤ 2000) (hN : N ≤ 2000) (hs : s < S) (q1 : hm0.I (p + 4) s = Int32.ofNat f) (q3 : j < jn) (q5 : j2 < jn) (q6 : hc0.I (c + 5) j = Int32.ofNat a) (q7 : pAt hc0 c a = stp) (q8 : EP c p e hc0 hm0 V (AK na) N f (a + 1) m v) (q9 : pAt hc0 c (a + 1 + m) = (6, v, -1, Int32.ofNat j2)) (q10 : pAt hc0 c (a + 1 + m + 1) = stp) (q11 : hm0.I (p + 6) s = Int32.ofNat t) (q13 : t < S) (q14 : SC c p e hc0 hm0 (AK na) S N 0 jn n V t (a + 1 + m + 2) x (Int32.ofNat j) (Int32.ofNat j2)) (q15 : pAt hc0 c x = (8, -1, -1, Int32.ofNat j)) (q16 : hc0.I (c + 5) j2 = Int32.ofNat (x + 1)) (q17 : pAt hc0 c (x + 1) = stp) (hx : x + 4 ≤ P) :
    ∀ (k st w C : Nat) (hc hm : qh), lim < st + k → RR hc0 hm0 lim V st w C (Int32.ofNat a) hc hm → CY st 1399 C → ∃ r C' hc' hm', mW G (d + 2 * n + 4) s hm r hm' ∧ cS G (D + 4) c lm hc C hc' C' ∧ OUT c hc0 hm0 lim V V st (x + 2) ag bh r C' hc' hm'
  | 0, st, w, C, hc, hm, hk, R, _ => by
    have := R.2.2.2.2.2
    omega
  | k + 1, st, w, C, hc, hm, hk, R, hC => by
    obtain ⟨l1, l2⟩ := B.bd
    have hle := SC.le _ _ _ _ _ _ _ q14
    have hj80 := B.2.2.2.1.2
    have hn1 : ¬ Int32.ofNat j = -1 := n_ne1 (by omega)
    rcases r_stp (G := G) (d := d + 2 * n + 3) (D := D) (lm := lm) B R q7 (by omega) hC with ⟨h1, m1, w1, w2, w3, w4⟩ | ⟨h1, w1, w2, w3⟩
    · obtain ⟨k1, k2⟩ := B.mk w3.1 (s := s) (by omega)
      have s1 := w3.2.2.2.2.1
      have s2 := w3.2.2.2.2.2
      have w4' := w4
      unfold CY at w4'
      obtain ⟨C2, h2, m2, a1, a2, a3, a4, a5⟩ := e_tell (G := G) (d := d + 2 * n) (D := D) (lm := lm) B hN q8 w3.es (by omega) (by omega)
      have c2 : CY (st + 1) (a + 1 + m) C2 := w4.up (k := m) (Nat.le_refl _) a2
      have c2' := c2
      unfold CY at c2'
      obtain ⟨f1, f2⟩ := r_fork (G := G) (D := D) (lm := lm) B a5 (by omega) w3.2.1 q9 q5 (by omega) (by omega) s1 s2
      have c3 : CY (st + 1) (a + 1 + m + 1) (C2 + 1) := c2.up (k := 1) (Nat.le_refl _) (by omega)
      by_cases hu : m2.I 80 0 = 0
      · obtain ⟨h3, g1, g2⟩ := f2 hu
        rw [q16] at g2
        obtain ⟨z, h4, m4, e1, e2, e3⟩ := r_join (G := G) (d := d + 2 * n + 3) (D := D) (lm := lm) B g2 q17 (by omega) (c3.le (by omega))
        rw [hu] at a4
        exact ⟨_, _, h4, m4, mw_0 w2 k1 ((k2 4 (by omega)).trans q1) a4 e1, (w1.tr a3).tr (g1.tr e2), e3 V V st ag bh (fun _ q => q) (by omega)⟩
      · obtain ⟨h3, g1, g2⟩ := f1 hu
        rcases r_stp (G := G) (d := d + 2 * n + 3) (D := D) (lm := lm) B g2 q10 (by omega) (c3.le (by omega)) with ⟨h4, m4, u1, u2, u3, u4⟩ | ⟨h4, u1, u2, u3⟩
        · obtain ⟨k3, k4⟩ := B.mk u3.1 (s := s) (by omega)
          obtain ⟨r0, C5, h5, m5, b1, b2, b3⟩ := ih V t (a + 1 + m + 2) x _ _ _ w _ h4 m4 q14 q13 (by omega) (Or.inr ⟨j, rfl, q3⟩) (Or.inr ⟨j2, rfl, q5⟩) u3 u4
          have go : ∀ r hm' , _ → mW G (d + 2 * n + 4) s hm r hm' := fun r hm' K => mw_r (r := r) (hm' := hm') w2 k1 ((k2 4 (by omega)).trans q1) a4 hu u2 k3 ((k4 6 (by omega)).trans q11) b1 K
          have cs := ((w1.tr a3).tr (g1.tr u1)).tr b2
          rcases b3 with ⟨rfl, st', w', z1, z2, z3⟩ | ⟨rfl, _, st', w', z1, z2, z3⟩ | ⟨rfl, _, st', w', z1, z2, z3⟩ | ⟨rfl, z⟩ | ⟨rfl, z⟩
          · have c5 := z3
            unfold CY at c5
            have t1 := z2.2.2.2.2.1
            have t2 := z2.2.2.2.2.2
            obtain ⟨h6, y1, y2⟩ := r_wire (G := G) (D := D) (lm := lm) B z2 q15 q3 (by omega) (by omega)
            rw [q6] at y2
            obtain ⟨r, C7, h7, m7, x1, x2, x3⟩ := r_loop B ih hS hN hs q1 q3 q5 q6 q7 q8 q9 q10 q11 q13 q14 q15 q16 q17 hx k st' w' (C5 + 1) h6 m5 (by omega) (y2.mono (fun y q => Or.inl q) (Nat.le_refl _)) (z3.up (k := 1) (by omega) (by omega))
            refine ⟨r, C7, h7, m7, go r m7 (Or.inr (Or.inr (Or.inr ⟨Or.inl rfl, x1⟩))), cs.tr (y1.tr x2), ?_⟩
            by_cases hr : r = 0
            · subst hr
              obtain ⟨s9, w9, o1, o2, o3⟩ := x3.on
              exact Or.inl ⟨rfl, s9, w9, by omega, o2, o3⟩
            · exact x3.pass hr (by omega) (fun _ q => q)
          · unfold LD at z2
            rw [n_N (by omega), q16] at z2
            obtain ⟨z, h6, m6, e1, e2, e3⟩ := r_join (G := G) (d := d + 2 * n + 3) (D := D) (lm := lm) B z2 q17 (by omega) z3
            exact ⟨_, _, h6, m6, go _ m6 (Or.inl ⟨rfl, z, e1, rfl⟩), cs.tr e2, e3 V V st ag bh (fun _ q => q) (by omega)⟩
          · unfold LD at z2
            rw [n_N (by omega), q6] at z2
            obtain ⟨r, C7, h7, m7, x1, x2, x3⟩ := r_loop B ih hS hN hs q1 q3 q5 q6 q7 q8 q9 q10 q11 q13 q14 q15 q16 q17 hx k st' w' C5 h5 m5 (by omega) z2 z3
            refine ⟨r, C7, h7, m7, go r m7 (Or.inr (Or.inr (Or.inr ⟨Or.inr rfl, x1⟩))), cs.tr x2, ?_⟩
            by_cases hr : r = 0
            · subst hr
              obtain ⟨s9, w9, o1, o2, o3⟩ := x3.on
              exact Or.inl ⟨rfl, s9, w9, by omega, o2, o3⟩
            · exact x3.pass hr (by omega) (fun _ q => q)
          · exact ⟨3, C5, h5, m5, go 3 m5 (Or.inr (Or.inl ⟨rfl, rfl, rfl⟩)), cs, Or.inr (Or.inr (Or.inr (Or.inl ⟨rfl, z⟩)))⟩
          · exact ⟨4, C5, h5, m5, go 4 m5 (Or.inr (Or.inr (Or.inl ⟨rfl, rfl, rfl⟩))), cs, Or.inr (Or.inr (Or.inr (Or.inr ⟨rfl, z⟩)))⟩
        · exact ⟨4, _, h4, m2, mw_n w2 k1 ((k2 4 (by omega)).trans q1) a4 hu u2, (w1.tr a3).tr (g1.tr u1), Or.inr (Or.inr (Or.inr (Or.inr ⟨rfl, u3⟩)))⟩
    · exact ⟨4, C + 1, h1, hm, mw_no w2, w1, Or.inr (Or.inr (Or.inr (Or.inr ⟨rfl, w3⟩)))⟩
/-- a row of STATEMENTS -/
theorem r_list (B : RB c p e hc0 hm0 P jn na lim) (ih : RSt G d D c p e hc0 hm0 lm P jn na lim S N n) (hS : S ≤ 2000) (g1 : GJ jn ag) (g2 : GJ jn bh) (l1 : Int32) :
    ∀ (L : List Nat) (V : Int32 → Prop) (f : Int32) (a b st w C : Nat) (hc hm : qh), LC p hm0 S (fun V t a b => SC c p e hc0 hm0 (AK na) S N 0 jn n V t a b ag bh) V L f a b (-1) → b + 2 ≤ P → RR hc0 hm0 lim V st w C (Int32.ofNat a) hc hm → CY st a C → ∃ r C' hc' hm', mL G (d + 2 * n + 4) l1 f hm r hm' ∧ cS G (D + 4) c lm hc C hc' C' ∧ OUT c hc0 hm0 lim V V st b ag bh r C' hc' hm'
  | [], V, f, a, b, st, w, C, hc, hm, ⟨q1, q2⟩, hb, R, hC => by
    subst q1 q2
    exact ⟨0, C, hc, hm, ml_end, cS.rf _ _, Or.inl ⟨rfl, st, w, Nat.le_refl _, R, hC⟩⟩
  | s :: L, V, f, a, b, st, w, C, hc, hm, ⟨q1, q2, x, q3, q4⟩, hb, R, hC => by
    subst q1
    have hle := LC.le (fun V s a b h => by have := SC.le _ _ _ _ _ _ _ h; omega) _ _ _ _ _ _ q4
    obtain ⟨r, C1, h1, m1, a1, a2, a3⟩ := ih V s a x ag bh st w C hc hm q3 q2 (by omega) g1 g2 R hC
    by_cases hr : r = 0
    · subst hr
      obtain ⟨st', w', b1, b2, b3⟩ := a3.on
      obtain ⟨k1, k2⟩ := B.mk b2.1 (s := s) (by omega)
      obtain ⟨r, C2, h2, m2, e1, e2, e3⟩ := r_list B ih hS g1 g2 l1 L _ _ x b st' w' C1 h1 m1 q4 hb b2 b3
      refine ⟨r, C2, h2, m2, ml_on a1 k1 (k2 8 (by omega)) e1, a2.tr e2, ?_⟩
      by_cases hr : r = 0
      · subst hr
        obtain ⟨s9, w9, o1, o2, o3⟩ := e3.on
        exact Or.inl ⟨rfl, s9, w9, by omega, o2.mono (fun y q => Or.inl q) (Nat.le_refl _), o3⟩
      · exact e3.pass hr (by omega) (fun y q => Or.inl q)
    · exact ⟨r, C1, h1, m1, ml_out (by omega) a1 hr, a2, a3.pass hr (Nat.le_refl _) (fun _ q => q)⟩
end RSTM
