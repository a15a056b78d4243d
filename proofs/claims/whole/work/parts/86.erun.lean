/-! ===== the RUN: a whole E; what holds between two STATEMENTS ===== -/
section ERUN
variable {G : qG} {d D c p e P jn na lim : Nat} {lm : Int32} {hc0 hm0 hcA hmA hc hm hc' hm' : qh} {V : Int32 → Prop} {st w C a x : Nat} {H0 : Int32} {S r : List Int32}
theorem mT.tr {f n k n1 k1 n2 k2 : Nat} {h1 h2 : qh} (x : mT G d f hm n k h1 n1 k1) (y : mT G d f h1 n1 k1 h2 n2 k2) : mT G d f hm n k h2 n2 k2 := fun hx Q H => x hx Q (y hx Q H)
theorem er_all {f m : Nat} (B : RB c p e hc0 hm0 P jn na lim) (E : ES hc0 hm0 hcA V st w C a H0 [] a hcA hmA) (h3 : hm0.I e f = Int32.ofNat (f + m)) (hf : f + m ≤ 2000) (hx : a + m ≤ P) (hC : C + 64 * m ≤ 268800000) :
    ∀ (Ce : List cod) (Pe : List prt) (S : List Int32), EC V (AK na) Ce Pe a S → Ce.length ≤ m → prtsF hc0 c a Pe → cdsF hm0 p f Ce → ∃ C' hc' hm', C ≤ C' ∧ C' ≤ C + 64 * Ce.length ∧ cS G (D + 4) c lm hcA C hc' C' ∧ mT G (d + 3) f hmA 0 f hm' S.length (f + Ce.length) ∧ ES hc0 hm0 hcA V st w C' a H0 S (a + Ce.length) hc' hm' ∧ S.length ≤ Ce.length
  | [], Pe, S, h, _, _, _ => by
    obtain ⟨rfl, rfl⟩ := h
    exact ⟨C, hcA, hmA, Nat.le_refl _, by simp, cS.rf _ _, fun _ _ H => H, E, Nat.le_refl _⟩
  | o :: Ce, Pe, S, ⟨pt, Pe', S', q1, q2, q3⟩, hl, q4, q5 => by
    subst q1
    have hlen := q2.len
    rw [List.length_cons] at hl
    obtain ⟨C1, h1, m1, a1, a2, a3, a4, a5, a6⟩ := er_all B E h3 hf hx hC Ce Pe' S' q2 (by omega) q4.2 q5.2
    rw [hlen] at q3
    have p1 := q4.1
    rw [hlen] at p1
    obtain ⟨C2, h2, m2, b1, b2, b3, b4, b5, b6⟩ := e_step (G := G) (d := d) (D := D) (lm := lm) (m := m) B a5 q3 p1 q5.1 h3 (by omega) hf (by omega) (by omega) a6
    refine ⟨C2, h2, m2, by omega, by rw [List.length_cons]; omega, a3.tr b3, ?_, ?_, b6⟩
    · rw [List.length_cons]; exact a4.tr b4
    · rw [List.length_cons]; exact b5
/-- between two STATEMENTS: no token is left -/
def RR (hc0 hm0 : qh) (lim : Nat) (V : Int32 → Prop) (st w C : Nat) (x : Int32) (hc hm : qh) : Prop := BR hc0 hm0 V st w C hc hm ∧ (∀ y, y < 1400 → hc.I 40 y = 0) ∧ hc.I 38 8 = 0 ∧ hc.I 38 6 = x ∧ 1 ≤ st ∧ st ≤ lim
def CY (st x C : Nat) : Prop := C ≤ 64 * (1400 * (st - 1) + x)
/-- an E: what it makes on both sides -/
theorem e_tell {N f m : Nat} {v : Int32} (B : RB c p e hc0 hm0 P jn na lim) (hN : N ≤ 2000) (ep : EP c p e hc0 hm0 V (AK na) N f a m v) (E : ES hc0 hm0 hcA V st w C a H0 [] a hcA hmA) (hx : a + m ≤ P) (hC : C + 64 * m ≤ 268800000) :
    ∃ C' hc' hm', C ≤ C' ∧ C' ≤ C + 64 * m ∧ cS G (D + 4) c lm hcA C hc' C' ∧ mR G (d + 4) yX12_tells [.ref 43, .int (Int32.ofNat f)] hmA (riv (hm'.I 80 0)) hm' ∧ ES hc0 hm0 hcA V st w C' a H0 [v] (a + m) hc' hm' := by
  obtain ⟨Ce, Pe, e1, e2, e3, e4, e5, e6, e7⟩ := ep
  obtain ⟨C1, h1, m1, a1, a2, a3, a4, a5, a6⟩ := er_all (G := G) (d := d) (D := D) (lm := lm) (m := m) B E e5 (by omega) hx hC Ce Pe [v] e1 (by omega) e4 e3
  rw [e2] at a2 a4 a5
  obtain ⟨z1, z2, z3, z4, z5, z6⟩ := B.mR5 a5.1
  refine ⟨C1, h1, m1, a1, a2, a3, fun hx Q H => ?_, a5⟩
  exact x_X12_tells G (d + 3) _ _ Q (a4 hx Q (mt_end (m := m) B.1.2.2 z2 (by rw [z4]; exact e5) (by omega) rfl e7 hx Q H))
theorem RR.es (x : RR hc0 hm0 lim V st w C (Int32.ofNat a) hc hm) : ES hc0 hm0 hc V st w C a 0 [] a hc hm := by
  obtain ⟨x1, x2, x3, x4, x5⟩ := x
  exact ⟨x1, ⟨trivial, fun y _ h _ => x2 y h, fun _ _ => ⟨rfl, rfl⟩, by rw [x3]; rfl⟩, x4⟩
/-- any part at its turn -/
theorem c_any (B : RB c p e hc0 hm0 P jn na lim) (b : BR hc0 hm0 V st w C hc hm) {k l r t : Int32} {sp : Nat} (ht : hc.I 38 6 = Int32.ofNat x) (hx : x < P) (hC : C < 268800000) (hp : pAt hc0 c x = (k, l, r, t)) (hl : fll hc l) (hr' : fll hc r) (hr : fll (tkn hc l) r) (h0 : hc.I 40 x = 0) (s1 : 1 ≤ sp) (s2 : sp ≤ 65)
    (K : ∀ hy Q, Q (riv (Int32.ofNat sp)) (mg hc' hy) → Sw G (D + 3) c C x k t (tkv hc l) (tkv (tkn hc l) r) (mg (wkh hc l r x) hy) Q) : cS G (D + 4) c lm hc C hc' (C + sp) := by
  obtain ⟨r1, r2, r3, r4, r5, r6, r7, r8, r9⟩ := B.cR5 b
  have hP := B.2.2.1.2
  have hq := B.1.1
  exact c_iter hq (by omega) ht (by omega) hC (c_ready hq (by omega) r1 r2 hP ht hx h0 ((r5 x).trans hp) hl hr') (c_workS hq (by omega) r1 ht (by omega) ((r5 x).trans hp) hl hr K) s1 s2
/-- taking the one token that was left -/
theorem ES.one {v : Int32} {hi : Nat} (E : ES hc0 hm0 hcA V st w C a 0 [v] hi hc hm) (h : hi < 1400) (ha : a ≤ hi) (h0 : ∀ y, y < 1400 → hcA.I 40 y = 0) : fll hc v ∧ tkv hc v = hm.I 80 0 ∧ hc.I 40 hi = 0 ∧ (∀ y, y < 1400 → (tkn hc v).I 40 y = 0) ∧ (tkn hc v).I 38 8 = 0 := by
  obtain ⟨p1, p2, p3⟩ := E.2.1.pop (by omega)
  refine ⟨p1, p2, E.2.1.emp ha h, fun y hy => ?_, ?_⟩
  · rcases Nat.lt_or_ge y a with q | q
    · rw [(p3.2.2.1 y q).1]; exact h0 y hy
    · exact p3.2.1 y q hy (fun s hs => by simp at hs)
  · rw [p3.2.2.2]; rfl
/-- how a RUN ends -/
def EF (h0 h : qh) : Prop := (∀ o, (o < 31 ∨ o = 33 ∨ 42 ≤ o) → h.I o = h0.I o) ∧ (∀ k, k ≠ 6 → k ≠ 7 → k ≠ 8 → h.I 31 k = h0.I 31 k) ∧ (∀ k, k ≠ 6 → k ≠ 8 → k ≠ 9 → k ≠ 10 → k ≠ 11 → k ≠ 12 → h.I 38 k = h0.I 38 k) ∧ (∀ k, k ≠ 1 → h.I 37 k = h0.I 37 k) ∧ h.L = h0.L ∧ h.R = h0.R
def EM (h0 h : qh) : Prop := (∀ o, o ≠ 43 → o ≠ 76 → o ≠ 78 → o ≠ 79 → o ≠ 80 → h.I o = h0.I o) ∧ (∀ k, k ≠ 33 → k ≠ 34 → k ≠ 36 → k ≠ 37 → h.I 43 k = h0.I 43 k) ∧ h.L = h0.L ∧ h.R = h0.R
def FI (hc0 hm0 : qh) (ans : Int32) (hc hm : qh) : Prop := EF hc0 hc ∧ EM hm0 hm ∧ (hc.I 38 6 = -1 ∧ hc.I 38 8 = 0 ∧ hc.I 38 9 = ans ∧ hc.I 38 10 = hm.I 43 33 ∧ hc.I 37 1 = 1 - ans) ∧ (hc.I 38 11 = hm.I 43 34 ∧ hc.I 31 6 = hm.I 43 36) ∧ (∃ w : Nat, hc.I 31 7 = Int32.ofNat w ∧ hm.I 43 37 = Int32.ofNat w ∧ w < 2147483648 ∧ KW w hc hm) ∧ (∀ i, i < 2048 → hc.I 32 i = hm.I 76 i) ∧ (∀ y, y < 1400 → hc.I 40 y = 0) ∧ (ans = 1 → hc.I 38 10 = 0)
theorem BR.fi (B : RB c p e hc0 hm0 P jn na lim) (b : BR hc0 hm0 V st w C hc hm) (hC : C < 2147483648) (h8 : hc.I 38 8 = 0) (h40 : ∀ y, y < 1400 → hc.I 40 y = 0) : FI hc0 hm0 1 (hc.sI 38 6 (-1)) hm := by
  obtain ⟨x1, x2, x3, x4, ⟨x6, x7, x8⟩, x9, x10, x11, x12⟩ := b
  obtain ⟨_, _, _, _, _, _, _, _, _, _, _, k9, k10, k33, k37⟩ := B
  refine ⟨⟨fun o q => ?_, fun k q1 q2 q3 => ?_, fun k q1 q2 q3 q4 q5 q6 => ?_, fun k q => ?_, x1.2.2.2.1, x1.2.2.2.2⟩, ⟨x2.1, fun k _ q2 q3 q4 => x2.2.1 k q2 q3 q4, x2.2.2.1, x2.2.2.2⟩, ⟨?_, ?_, ?_, ?_, ?_⟩, ⟨?_, ?_⟩, ⟨w, ?_, x7, by omega, ?_⟩, ?_, ?_, fun _ => ?_⟩
  · rw [sI_row _ (by omega)]; exact x1.1 o (by omega)
  · rw [sI_row _ (by decide)]; exact x1.2.1 k q1 q2 q3
  · rw [sI_I, if_neg (by omega)]; exact x1.2.2.1 k q1 q2 q5
  · rw [sI_row _ (by decide), x1.1 37 (by omega)]
  · rw [sI_I, if_pos ⟨rfl, rfl⟩]
  · rw [sI_I, if_neg (by decide)]; exact h8
  · rw [sI_I, if_neg (by decide), x1.2.2.1 9 (by decide) (by decide) (by decide)]; exact k9
  · rw [sI_I, if_neg (by decide), x1.2.2.1 10 (by decide) (by decide) (by decide), k10, x2.2.1 33 (by decide) (by decide) (by decide), k33]
  · rw [sI_row _ (by decide), x1.1 37 (by omega), k37]; rfl
  · rw [sI_I, if_neg (by decide), x3.1, x3.2]
  · rw [sI_row _ (by decide)]; exact x9
  · rw [sI_row _ (by decide)]; exact x6
  · unfold KW; rw [sI_row _ (by decide), sI_row _ (by decide), sI_row _ (by decide)]; exact x11
  · rw [sI_row _ (by decide)]; exact x10
  · rw [sI_row _ (by decide)]; exact h40
  · rw [sI_I, if_neg (by decide), x1.2.2.1 10 (by decide) (by decide) (by decide)]; exact k10
theorem BR.turn (b : BR hc0 hm0 V st w C hc hm) (v : Int32) : BR hc0 hm0 V st w C (hc.sI 38 6 v) hm := b.tok (tA.sI _ _ (by omega)) (mA.rf _)
theorem BR.steps (b : BR hc0 hm0 V st w C hc hm) : BR hc0 hm0 V (st + 1) w C (hc.sI 38 11 (Int32.ofNat (st + 1))) (hm.sI 43 34 (Int32.ofNat (st + 1))) := by
  obtain ⟨x1, x2, x3, x4, x5, x9, x10, x11, x12⟩ := b
  refine ⟨⟨fun o q => ?_, fun k q1 q2 q3 => ?_, fun k q1 q2 q3 => ?_, x1.2.2.2.1, x1.2.2.2.2⟩, ⟨fun o q1 q2 q3 q4 q5 => ?_, fun k q1 q2 q3 => ?_, x2.2.2.1, x2.2.2.2⟩, ⟨?_, ?_⟩, ?_, ?_, ?_, ?_, ?_, ?_⟩
  · rw [sI_row _ (by omega)]; exact x1.1 o q
  · rw [sI_row _ (by decide)]; exact x1.2.1 k q1 q2 q3
  · rw [sI_I, if_neg (by omega)]; exact x1.2.2.1 k q1 q2 q3
  · rw [sI_row _ q1]; exact x2.1 o q1 q2 q3 q4 q5
  · rw [sI_I, if_neg (by omega)]; exact x2.2.1 k q1 q2 q3
  · rw [sI_I, if_pos ⟨rfl, rfl⟩]
  · rw [sI_I, if_pos ⟨rfl, rfl⟩]
  · rw [sI_row _ (by decide)]; exact x4
  · rw [sI_row _ (by decide), sI_I, if_neg (by decide)]; exact x5
  · rw [sI_row _ (by decide), sI_I, if_neg (by decide)]; exact x9
  · rw [sI_row _ (by decide), sI_row _ (by decide)]; exact x10
  · unfold KW; rw [sI_row _ (by decide), sI_row _ (by decide), sI_row _ (by decide), sI_row _ (by decide)]; exact x11
  · rw [sI_row _ (by decide), sI_row _ (by decide)]; exact x12
/-- a STEP begins on both sides, or the RUN is over -/
theorem r_step0 (B : RB c p e hc0 hm0 P jn na lim) (b : BR hc0 hm0 V st w C hc hm) (r0 : ∀ y, y < 1400 → hc.I 40 y = 0) (r8 : hc.I 38 8 = 0) (r6 : hc.I 38 6 = Int32.ofNat x) (r2 : st ≤ lim) (hp : pAt hc0 c x = stp) (hx : x < P) (hC : C < 268800000) :
    (∃ hc' hm', cS G (D + 4) c lm hc C hc' (C + 1) ∧ mR G (d + 1) yX12_begins [.ref 43] hm (riv 1) hm' ∧ RR hc0 hm0 lim V (st + 1) w (C + 1) (Int32.ofNat (x + 1)) hc' hm') ∨ (∃ hc', cS G (D + 4) c lm hc C hc' (C + 1) ∧ mR G (d + 1) yX12_begins [.ref 43] hm (riv 0) hm ∧ FI hc0 hm0 1 hc' hm ∧ ¬ st < lim) := by
  obtain ⟨s1, s2, s3, s4, s5, s6, s7, s8, s9⟩ := B.cR5 b
  obtain ⟨m1, m2, m3, m4, m5, m6⟩ := B.mR5 b
  have hP := B.2.2.1.2
  have hlim := B.2.2.2.2.2.2.2.2.2.2.1
  have w0 : wkh hc (-1) (-1) x = hc.sI 38 6 (Int32.ofNat (x + 1)) := by unfold wkh; rw [tkn_m, tkn_m]
  have b' := (b.mono (V' := V) (C' := C + 1) (fun _ q => q) (by omega)).turn (Int32.ofNat (x + 1))
  obtain ⟨t3, t4⟩ := b'.2.2.1
  have t7 := (B.cR5 b').2.2.2.2.2.2.2.2
  have e34 : ∀ hy, (mg hy hm).I 43 34 = Int32.ofNat st := fun hy => by rw [mI (by decide)]; exact t4
  have e35 : ∀ hy, (mg hy hm).I 43 35 = Int32.ofNat lim := fun hy => by rw [mI (by decide)]; exact m6
  by_cases h : st < lim
  · refine Or.inl ⟨_, _, c_any (hc' := (hc.sI 38 6 (Int32.ofNat (x + 1))).sI 38 11 (Int32.ofNat (st + 1))) (sp := 1) B b r6 hx hC hp (fl_m _) (fl_m _) (by rw [tkn_m]; exact fl_m _) (r0 x (by omega)) (by omega) (by omega) (fun hy Q H => ⟨fun q => absurd q (by decide), fun q => absurd q (by decide), fun q => absurd q (by decide), fun q => absurd q (by decide), fun q => absurd q (by decide), fun q => absurd q (by decide), fun _ => ?_, fun q => absurd q (by decide), fun q => absurd q (by decide), fun q => absurd rfl q.2.2.2.2.2.2.1⟩), fun hy Q H => ?_, b'.steps, ?_, ?_, ?_, by omega, by omega⟩
    · rw [w0]
      exact c_stepY (by omega) t3 t7 h (by omega) hy _ H
    · refine x_X12_begins G d _ Q ?_
      rw [e34, e35, n_add1, mg_sI_m (by decide)]
      exact ⟨fun _ => H, fun q => absurd ((n_eq (by omega) (by omega)).mp q) (by omega)⟩
    · intro y hy
      rw [sI_row _ (by decide), sI_row _ (by decide)]; exact r0 y hy
    · rw [sI_I, if_neg (by decide), sI_I, if_neg (by decide)]; exact r8
    · rw [sI_I, if_neg (by decide), sI_I, if_pos ⟨rfl, rfl⟩]
  · refine Or.inr ⟨(hc.sI 38 6 (Int32.ofNat (x + 1))).sI 38 6 (-1), c_any (sp := 1) B b r6 hx hC hp (fl_m _) (fl_m _) (by rw [tkn_m]; exact fl_m _) (r0 x (by omega)) (by omega) (by omega) (fun hy Q H => ⟨fun q => absurd q (by decide), fun q => absurd q (by decide), fun q => absurd q (by decide), fun q => absurd q (by decide), fun q => absurd q (by decide), fun q => absurd q (by decide), fun _ => ?_, fun q => absurd q (by decide), fun q => absurd q (by decide), fun q => absurd rfl q.2.2.2.2.2.2.1⟩), fun hy Q H => ?_, b'.fi B (by omega) (by rw [sI_I, if_neg (by decide)]; exact r8) (by rw [sI_row _ (by decide)]; exact r0), h⟩
    · rw [w0]
      exact c_stepN (by omega) t3 t7 h (by omega) hy _ H
    · refine x_X12_begins G d _ Q ?_
      rw [e34, e35]
      have : st = lim := by omega
      exact ⟨fun q => absurd (by rw [this]) q, fun _ => H⟩
theorem r_step (B : RB c p e hc0 hm0 P jn na lim) (R : RR hc0 hm0 lim V st w C (Int32.ofNat x) hc hm) (hp : pAt hc0 c x = stp) (hx : x < P) (hC : C < 268800000) :
    (∃ hc' hm', cS G (D + 4) c lm hc C hc' (C + 1) ∧ mR G (d + 1) yX12_begins [.ref 43] hm (riv 1) hm' ∧ RR hc0 hm0 lim V (st + 1) w (C + 1) (Int32.ofNat (x + 1)) hc' hm') ∨ (∃ hc', cS G (D + 4) c lm hc C hc' (C + 1) ∧ mR G (d + 1) yX12_begins [.ref 43] hm (riv 0) hm ∧ FI hc0 hm0 1 hc' hm) := by
  rcases r_step0 B R.1 R.2.1 R.2.2.1 R.2.2.2.1 R.2.2.2.2.2 hp hx hC with q | ⟨h, q1, q2, q3, _⟩
  · exact Or.inl q
  · exact Or.inr ⟨h, q1, q2, q3⟩
end ERUN
