/-! ===== the RUN: SET, STORE, FORK, WIRE, ANSWER ===== -/
section RPART
variable {G : qG} {d D c p e P jn na lim : Nat} {lm : Int32} {hc0 hm0 hcA hmA hc hm hc' hm' : qh} {V V' : Int32 → Prop} {st w C a x : Nat} {H0 : Int32} {S r : List Int32}
theorem RR.mono {C' : Nat} {t : Int32} (R : RR hc0 hm0 lim V st w C t hc hm) (hV : ∀ y, V' y → V y) (hC : C ≤ C') : RR hc0 hm0 lim V' st w C' t hc hm := ⟨R.1.mono hV hC, R.2⟩
theorem sw_8 {j : Nat} {t a b : Int32} {hT : qh} (hq : q_cir c) (hj : hT.I c 7 = Int32.ofNat jn) (h8 : jn ≤ 80) (hj2 : j < jn) (hy : qh) (Q : qr → qh → Prop) (H : Q (riv 1) (mg (hT.sI 38 6 (hT.I (c + 5) j)) hy)) : Sw G (D + 3) c C x 8 (Int32.ofNat j) a b (mg hT hy) Q := by
  refine ⟨fun q => absurd q (by decide), fun q => absurd q (by decide), fun q => absurd q (by decide), fun q => absurd q (by decide), fun q => absurd q (by decide), fun q => absurd q (by decide), fun q => absurd q (by decide), fun _ => c_leads hq (by omega) hj h8 hj2 hy _ ?_, fun q => absurd q (by decide), fun q => absurd rfl q.2.2.2.2.2.2.2.1⟩
  rw [← mg_sI_c (by decide)] at H
  exact H
theorem r_wire {j : Nat} (B : RB c p e hc0 hm0 P jn na lim) (R : RR hc0 hm0 lim V st w C (Int32.ofNat x) hc hm) (hp : pAt hc0 c x = (8, -1, -1, Int32.ofNat j)) (hj : j < jn) (hx : x < P) (hC : C < 268800000) : ∃ hc', cS G (D + 4) c lm hc C hc' (C + 1) ∧ RR hc0 hm0 lim V st w (C + 1) (hc0.I (c + 5) j) hc' hm := by
  obtain ⟨b, r0, r8, r6, r1, r2⟩ := R
  have hP := B.2.2.1.2
  have w0 : wkh hc (-1) (-1) x = hc.sI 38 6 (Int32.ofNat (x + 1)) := by unfold wkh; rw [tkn_m, tkn_m]
  have b' := (b.mono (V' := V) (C' := C + 1) (fun _ q => q) (by omega)).turn (Int32.ofNat (x + 1))
  obtain ⟨s1, s2, s3, s4, s5, s6, s7, s8, s9⟩ := B.cR5 b'
  refine ⟨(hc.sI 38 6 (Int32.ofNat (x + 1))).sI 38 6 (hc0.I (c + 5) j), c_any (sp := 1) B b r6 hx hC hp (fl_m _) (fl_m _) (by rw [tkn_m]; exact fl_m _) (r0 x (by omega)) (by omega) (by omega) (fun hy Q H => ?_), b'.turn _, fun y hy => ?_, ?_, ?_, r1, r2⟩
  · rw [w0]
    refine sw_8 (t := 0) B.1.1 s3 B.2.2.2.1.2 hj hy Q ?_
    rw [s6]; exact H
  · rw [sI_row _ (by decide), sI_row _ (by decide)]; exact r0 y hy
  · rw [sI_I, if_neg (by decide), sI_I, if_neg (by decide)]; exact r8
  · rw [sI_I, if_pos ⟨rfl, rfl⟩]
/-- what stands when the one token was taken and the turn went on -/
theorem ES.wk {v : Int32} (E : ES hc0 hm0 hcA V st w C a 0 [v] x hc hm) (h : x < 1400) (ha : a ≤ x) (h0 : ∀ y, y < 1400 → hcA.I 40 y = 0) : fll hc v ∧ tkv hc v = hm.I 80 0 ∧ hc.I 40 x = 0 ∧ BR hc0 hm0 V st w C (wkh hc v (-1) x) hm ∧ (∀ y, y < 1400 → (wkh hc v (-1) x).I 40 y = 0) ∧ (wkh hc v (-1) x).I 38 8 = 0 ∧ (wkh hc v (-1) x).I 38 6 = Int32.ofNat (x + 1) := by
  obtain ⟨p1, p2, p3, p4, p5⟩ := E.one h ha h0
  refine ⟨p1, p2, p3, E.1.tok (tA.wk1 _ _ _ _) (mA.rf _), fun y hy => ?_, ?_, ?_⟩
  · unfold wkh; rw [tkn_m, sI_row _ (by decide)]; exact p4 y hy
  · unfold wkh; rw [tkn_m, sI_I, if_neg (by decide)]; exact p5
  · unfold wkh; rw [sI_I, if_pos ⟨rfl, rfl⟩]
theorem r_fork {j : Nat} {v : Int32} (B : RB c p e hc0 hm0 P jn na lim) (E : ES hc0 hm0 hcA V st w C a 0 [v] x hc hm) (ha : a ≤ x) (h0 : ∀ y, y < 1400 → hcA.I 40 y = 0) (hp : pAt hc0 c x = (6, v, -1, Int32.ofNat j)) (hj : j < jn) (hx : x < P) (hC : C < 268800000) (h1 : 1 ≤ st) (h2 : st ≤ lim) :
    (¬ hm.I 80 0 = 0 → ∃ hc', cS G (D + 4) c lm hc C hc' (C + 1) ∧ RR hc0 hm0 lim V st w (C + 1) (Int32.ofNat (x + 1)) hc' hm) ∧ (hm.I 80 0 = 0 → ∃ hc', cS G (D + 4) c lm hc C hc' (C + 1) ∧ RR hc0 hm0 lim V st w (C + 1) (hc0.I (c + 5) j) hc' hm) := by
  have hP := B.2.2.1.2
  obtain ⟨p1, p2, p3, p4, p5, p6, p7⟩ := E.wk (by omega) ha h0
  obtain ⟨s1, s2, s3, s4, s5, s6, s7, s8, s9⟩ := B.cR5 p4
  have b4 := p4.mono (V' := V) (C' := C + 1) (fun _ q => q) (by omega)
  refine ⟨fun hn => ⟨(wkh hc v (-1) x).sI 38 6 (Int32.ofNat (x + 1)), c_any (sp := 1) B E.1 E.2.2 hx hC hp p1 (fl_m _) (fl_m _) p3 (by omega) (by omega) (fun hy Q H => ?_), b4.turn _, fun y hy => ?_, ?_, ?_, h1, h2⟩, fun hz => ⟨(wkh hc v (-1) x).sI 38 6 (hc0.I (c + 5) j), c_any (sp := 1) B E.1 E.2.2 hx hC hp p1 (fl_m _) (fl_m _) p3 (by omega) (by omega) (fun hy Q H => ?_), b4.turn _, fun y hy => ?_, ?_, ?_, h1, h2⟩⟩
  · rw [p2, ← mg_sI_c (by decide)] at *
    exact ⟨fun q => absurd q (by decide), fun q => absurd q (by decide), fun q => absurd q (by decide), fun q => absurd q (by decide), fun q => absurd q (by decide), fun _ => ⟨fun _ => H, fun q => absurd q hn⟩, fun q => absurd q (by decide), fun q => absurd q (by decide), fun q => absurd q (by decide), fun q => absurd rfl q.2.2.2.2.2.1⟩
  · rw [sI_row _ (by decide)]; exact p5 y hy
  · rw [sI_I, if_neg (by decide)]; exact p6
  · rw [sI_I, if_pos ⟨rfl, rfl⟩]
  · rw [p2]
    rw [← mg_sI_c (by decide)] at H
    refine ⟨fun q => absurd q (by decide), fun q => absurd q (by decide), fun q => absurd q (by decide), fun q => absurd q (by decide), fun q => absurd q (by decide), fun _ => ⟨fun q => absurd hz q, fun _ => c_leads B.1.1 (by omega) s3 B.2.2.2.1.2 hj hy _ ?_⟩, fun q => absurd q (by decide), fun q => absurd q (by decide), fun q => absurd q (by decide), fun q => absurd rfl q.2.2.2.2.2.1⟩
    rw [s6]; exact H
  · rw [sI_row _ (by decide)]; exact p5 y hy
  · rw [sI_I, if_neg (by decide)]; exact p6
  · rw [sI_I, if_pos ⟨rfl, rfl⟩]
theorem BR.setv (b : BR hc0 hm0 V st w C hc hm) {k : Nat} (hk : k < 16) (u : Int32) : BR hc0 hm0 (fun y => V y ∨ y = Int32.ofNat k) st w C (hc.sI 41 k u) (hm.sI 78 k u) := by
  obtain ⟨x1, x2, x3, x4, x5, x9, x10, x11, x12⟩ := b
  refine ⟨⟨fun o q => ?_, fun k q1 q2 q3 => ?_, fun k q1 q2 q3 => ?_, x1.2.2.2.1, x1.2.2.2.2⟩, ⟨fun o q1 q2 q3 q4 q5 => ?_, fun k q1 q2 q3 => ?_, x2.2.2.1, x2.2.2.2⟩, ?_, ?_, ?_, ?_, ?_, ?_, fun y hy => ?_⟩
  · rw [sI_row _ (by omega)]; exact x1.1 o q
  · rw [sI_row _ (by decide)]; exact x1.2.1 k q1 q2 q3
  · rw [sI_row _ (by decide)]; exact x1.2.2.1 k q1 q2 q3
  · rw [sI_row _ q3]; exact x2.1 o q1 q2 q3 q4 q5
  · rw [sI_row _ (by decide)]; exact x2.2.1 k q1 q2 q3
  · rw [sI_row _ (by decide), sI_row _ (by decide)]; exact x3
  · rw [sI_row _ (by decide)]; exact x4
  · rw [sI_row _ (by decide), sI_row _ (by decide)]; exact x5
  · rw [sI_row _ (by decide), sI_row _ (by decide)]; exact x9
  · rw [sI_row _ (by decide), sI_row _ (by decide)]; exact x10
  · unfold KW; rw [sI_row _ (by decide), sI_row _ (by decide), sI_row _ (by decide), sI_row _ (by decide)]; exact x11
  · rcases hy with hy | hy
    · obtain ⟨z, z1, z2, z3⟩ := x12 y hy
      refine ⟨z, z1, z2, ?_⟩
      rw [sI_I, sI_I]
      by_cases q : z = k
      · rw [if_pos ⟨rfl, q⟩, if_pos ⟨rfl, q⟩]
      · rw [if_neg (fun w => q w.2), if_neg (fun w => q w.2)]; exact z3
    · exact ⟨k, hk, hy, by rw [sI_I, if_pos ⟨rfl, rfl⟩, sI_I, if_pos ⟨rfl, rfl⟩]⟩
theorem r_set {k : Nat} {v : Int32} (B : RB c p e hc0 hm0 P jn na lim) (E : ES hc0 hm0 hcA V st w C a 0 [v] x hc hm) (ha : a ≤ x) (h0 : ∀ y, y < 1400 → hcA.I 40 y = 0) (hp : pAt hc0 c x = (4, v, -1, Int32.ofNat k)) (hk : k < 16) (hx : x < P) (hC : C < 268800000) (h1 : 1 ≤ st) (h2 : st ≤ lim) :
    ∃ hc', cS G (D + 4) c lm hc C hc' (C + 1) ∧ RR hc0 hm0 lim (fun y => V y ∨ y = Int32.ofNat k) st w (C + 1) (Int32.ofNat (x + 1)) hc' (hm.sI 78 k (hm.I 80 0)) := by
  have hP := B.2.2.1.2
  obtain ⟨p1, p2, p3, p4, p5, p6, p7⟩ := E.wk (by omega) ha h0
  have b4 := p4.mono (V' := V) (C' := C + 1) (fun _ q => q) (by omega)
  refine ⟨(wkh hc v (-1) x).sI 41 k (hm.I 80 0), c_any (sp := 1) B E.1 E.2.2 hx hC hp p1 (fl_m _) (fl_m _) p3 (by omega) (by omega) (fun hy Q H => ?_), b4.setv hk _, fun y hy => ?_, ?_, ?_, h1, h2⟩
  · rw [p2]
    refine ⟨fun q => absurd q (by decide), fun q => absurd q (by decide), fun q => absurd q (by decide), fun _ => c_isVar (by omega) hk hy _ ⟨fun q => absurd q (by decide), fun _ => ⟨n_in (by omega) hk, ?_⟩⟩, fun q => absurd q (by decide), fun q => absurd q (by decide), fun q => absurd q (by decide), fun q => absurd q (by decide), fun q => absurd q (by decide), fun q => absurd rfl q.2.2.2.1⟩
    rw [n_N (by omega), mg_sI_c (by decide)]
    exact H
  · rw [sI_row _ (by decide)]; exact p5 y hy
  · rw [sI_row _ (by decide)]; exact p6
  · rw [sI_row _ (by decide)]; exact p7
/-- the result is taken: the RUN is over -/
theorem r_answer {v u : Int32} (B : RB c p e hc0 hm0 P jn na lim) (b : BR hc0 hm0 V st w C hc hm) (ht : hc.I 38 6 = Int32.ofNat x) (hf : fll hc v) (hv : tkv hc v = u) (hem : hc.I 40 x = 0) (h8 : (tkn hc v).I 38 8 = 0) (h40 : ∀ y, y < 1400 → (tkn hc v).I 40 y = 0) (hp : pAt hc0 c x = (9, v, -1, -1)) (hx : x < P) (hC : C < 268800000) (g1 : ∀ o, o ≠ 43 → hm'.I o = hm.I o) (g2 : ∀ k, k ≠ 33 → hm'.I 43 k = hm.I 43 k) (g3 : hm'.L = hm.L) (g4 : hm'.R = hm.R) (g5 : hm'.I 43 33 = u) :
    ∃ sp hc', sp ≤ 65 ∧ cS G (D + 4) c lm hc C hc' (C + sp) ∧ FI hc0 hm0 0 hc' hm' := by
  have b1 := b.tok (tA.wk1 hc v (-1) x) (mA.rf hm)
  have w1 : wkh hc v (-1) x = (tkn hc v).sI 38 6 (Int32.ofNat (x + 1)) := by unfold wkh; rw [tkn_m]
  obtain ⟨hT, eT⟩ : ∃ hT : qh, hT = wkh hc v (-1) x := ⟨_, rfl⟩
  have t8 : hT.I 38 8 = 0 := by rw [eT, w1, sI_I, if_neg (by decide)]; exact h8
  rw [← eT] at b1
  obtain ⟨sp, s1, s2, s3⟩ := c_take (G := G) (d := D + 3) (hc := hT) (C := C) (by omega)
  refine ⟨sp, (((hT.sI 37 1 (hT.I 37 1 + 1)).sI 38 10 u).sI 38 9 0).sI 38 6 (-1), s2, c_any B b ht hx hC hp hf (fl_m _) (fl_m _) hem s1 s2 (fun hy Q H => ⟨fun q => absurd q (by decide), fun q => absurd q (by decide), fun q => absurd q (by decide), fun q => absurd q (by decide), fun q => absurd q (by decide), fun q => absurd q (by decide), fun q => absurd q (by decide), fun q => absurd q (by decide), fun _ => ?_, fun q => absurd rfl q.2.2.2.2.2.2.2.2⟩), ?_⟩
  · rw [← eT]
    refine s3 hy _ ?_
    rw [hv]
    rw [← mg_sI_c (by decide), ← mg_sI_c (by decide), ← mg_sI_c (by decide)] at H
    exact H
  · obtain ⟨x1, x2, x3, x4, ⟨x6, x7, x8⟩, x9, x10, x11, x12⟩ := b1
    obtain ⟨_, _, _, _, _, _, _, _, _, _, _, k9, k10, k33, k37⟩ := B
    refine ⟨⟨fun o q => ?_, fun k q1 q2 q3 => ?_, fun k q1 q2 q3 q4 q5 q6 => ?_, fun k q => ?_, x1.2.2.2.1, x1.2.2.2.2⟩, ⟨fun o q1 q2 q3 q4 q5 => (g1 o q1).trans (x2.1 o q1 q2 q3 q4 q5), fun k q1 q2 q3 q4 => (g2 k q1).trans (x2.2.1 k q2 q3 q4), g3.trans x2.2.2.1, g4.trans x2.2.2.2⟩, ⟨?_, ?_, ?_, ?_, ?_⟩, ⟨?_, ?_⟩, ⟨w, ?_, (g2 37 (by decide)).trans x7, by omega, ?_⟩, ?_, ?_, fun q => absurd q (by decide)⟩
    · rw [sI_row _ (by omega), sI_row _ (by omega), sI_row _ (by omega), sI_row _ (by omega)]; exact x1.1 o (by omega)
    · rw [sI_row _ (by decide), sI_row _ (by decide), sI_row _ (by decide), sI_row _ (by decide)]; exact x1.2.1 k q1 q2 q3
    · rw [sI_I, if_neg (by omega), sI_I, if_neg (by omega), sI_I, if_neg (by omega), sI_row _ (by decide)]; exact x1.2.2.1 k q1 q2 q5
    · rw [sI_row _ (by decide), sI_row _ (by decide), sI_row _ (by decide), sI_I, if_neg (by omega), x1.1 37 (by omega)]
    · rw [sI_I, if_pos ⟨rfl, rfl⟩]
    · rw [sI_I, if_neg (by decide), sI_I, if_neg (by decide), sI_I, if_neg (by decide), sI_row _ (by decide)]; exact t8
    · rw [sI_I, if_neg (by decide), sI_I, if_pos ⟨rfl, rfl⟩]
    · rw [sI_I, if_neg (by decide), sI_I, if_neg (by decide), sI_I, if_pos ⟨rfl, rfl⟩, g5]
    · rw [sI_row _ (by decide), sI_row _ (by decide), sI_row _ (by decide), sI_I, if_pos ⟨rfl, rfl⟩, x1.1 37 (by omega), k37]; rfl
    · rw [sI_I, if_neg (by decide), sI_I, if_neg (by decide), sI_I, if_neg (by decide), sI_row _ (by decide), g2 34 (by decide), x3.1, x3.2]
    · rw [sI_row _ (by decide), sI_row _ (by decide), sI_row _ (by decide), sI_row _ (by decide), g2 36 (by decide)]; exact x9
    · rw [sI_row _ (by decide), sI_row _ (by decide), sI_row _ (by decide), sI_row _ (by decide)]; exact x6
    · unfold KW
      rw [g1 79 (by decide)]
      exact x11
    · rw [sI_row _ (by decide), sI_row _ (by decide), sI_row _ (by decide), sI_row _ (by decide), g1 76 (by decide)]; exact x10
    · intro y hy
      rw [sI_row _ (by decide), sI_row _ (by decide), sI_row _ (by decide), sI_row _ (by decide), eT, w1, sI_row _ (by decide)]; exact h40 y hy
end RPART
