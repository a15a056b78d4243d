/-! ===== run against run ===== -/
section JRUN0
variable {G : qG} {d D c p P np : Nat} {lm : Int32} {hc hm h : qh}
theorem c_beg13 (hq : q_cir c) (hP : P ≤ 1400) : ∀ (k i : Nat) (h : qh), i + k = P → h.R 38 5 = some c → h.I c 6 = Int32.ofNat P → ∃ h', (∀ (hx : qh) (Q : qr → qh → Prop), q_N0 G m_X9_begin (d + 1) Q 50 [.ref 38, .ref c, .ref 42, .int lm, .int 0] [] (mg h' hx) → q_N0 G m_X9_begin (d + 1) Q 13 [.ref 38, .ref c, .ref 42, .int lm, .int (Int32.ofNat i)] [] (mg h hx)) ∧ F1 40 h h' ∧ (∀ y, h'.I 40 y = if i ≤ y ∧ y < P then 0 else h.I 40 y)
  | 0, i, h, hi, hR, h6 => by
    have hcl := cir_lt hq
    refine ⟨h, fun hx Q H => ?_, ⟨fun _ _ => rfl, rfl, rfl⟩, fun y => by rw [if_neg (by omega)]⟩
    refine x_X9_begin_13 G d _ _ _ _ Q hq ⟨c, by rw [cRr (by decide)]; exact hR, hq, ?_⟩
    rw [cI (by omega), h6]
    exact ⟨fun _ => H, fun q => absurd ((n_le (by omega) (by omega)).mpr (by omega)) q⟩
  | k + 1, i, h, hi, hR, h6 => by
    have hcl := cir_lt hq
    obtain ⟨h', a1, a2, a3⟩ := c_beg13 hq hP k (i + 1) (h.sI 40 i 0) (by omega) hR (by rw [sI_row _ (by omega)]; exact h6)
    refine ⟨h', fun hx Q H => ?_, ⟨fun o ho => by rw [a2.1 o ho, sI_row _ ho], a2.2.1, a2.2.2⟩, fun y => ?_⟩
    · refine x_X9_begin_13 G d _ _ _ _ Q hq ⟨c, by rw [cRr (by decide)]; exact hR, hq, ?_⟩
      rw [cI (by omega), h6]
      refine ⟨fun q => absurd ((n_le (by omega) (by omega)).mp q) (by omega), fun _ => ⟨fun q => absurd ((n_le (a := 1400) (by omega) (by omega)).mp q) (by omega), fun _ => ⟨n_in (by omega) (by omega), ?_⟩⟩⟩
      rw [n_N (by omega), n_add1, mg_sI_c (by decide)]
      exact a1 hx Q H
    · rw [a3, sI_I]
      by_cases q : y = i
      · rw [if_neg (by omega), if_pos ⟨rfl, q⟩, if_pos (by omega)]
      · rw [if_neg (c := 40 = 40 ∧ y = i) (fun z => q z.2)]
        by_cases z : i + 1 ≤ y ∧ y < P
        · rw [if_pos z, if_pos (by omega)]
        · rw [if_neg z, if_neg (by omega)]
theorem c_beg50 (hq : q_cir c) : ∀ (k i : Nat) (h : qh), i + k = 4 → ∃ h', (∀ (hx : qh) (Q : qr → qh → Prop), Q rvv (mg (((h'.sI 38 8 0).sI 38 9 1).sI 38 6 0) hx) → q_N0 G m_X9_begin (d + 1) Q 50 [.ref 38, .ref c, .ref 42, .int lm, .int (Int32.ofNat i)] [] (mg h hx)) ∧ F1 41 h h' ∧ (∀ y, h'.I 41 y = if i ≤ y ∧ y < 4 then h.I 42 y else h.I 41 y)
  | 0, i, h, hi => by
    refine ⟨h, fun hx Q H => ?_, ⟨fun _ _ => rfl, rfl, rfl⟩, fun y => by rw [if_neg (by omega)]⟩
    have e : i = 4 := by omega
    subst e
    refine x_X9_begin_50 G d _ _ _ _ Q hq ⟨fun _ => ?_, fun q => absurd (by decide) q⟩
    rw [mg_sI_c (by decide), mg_sI_c (by decide), mg_sI_c (by decide)]
    exact H
  | k + 1, i, h, hi => by
    obtain ⟨h', a1, a2, a3⟩ := c_beg50 hq k (i + 1) (h.sI 41 i (h.I 42 i)) (by omega)
    refine ⟨h', fun hx Q H => ?_, ⟨fun o ho => by rw [a2.1 o ho, sI_row _ ho], a2.2.1, a2.2.2⟩, fun y => ?_⟩
    · have e42 : (mg h hx).I 42 i = h.I 42 i := by rw [cI (by decide)]
      refine x_X9_begin_50 G d _ _ _ _ Q hq ⟨fun q => absurd ((n_le (a := 4) (by omega) (by omega)).mp q) (by omega), fun _ => ⟨fun q => absurd ((n_le (a := 16) (by omega) (by omega)).mp q) (by omega), fun _ => ⟨n_in (by omega) (by omega), n_in (by omega) (by omega), ?_⟩⟩⟩
      rw [n_N (by omega), n_add1, e42, mg_sI_c (by decide)]
      exact a1 hx Q H
    · have g1 : (h.sI 41 i (h.I 42 i)).I 42 y = h.I 42 y := by rw [sI_row _ (by decide)]
      have g2 : (h.sI 41 i (h.I 42 i)).I 41 y = if y = i then h.I 42 i else h.I 41 y := by rw [sI_I]; simp only [true_and]
      rw [a3, g1, g2]
      by_cases q : y = i
      · rw [if_neg (by omega), if_pos q, if_pos (by omega), q]
      · rw [if_neg q]
        by_cases z : i + 1 ≤ y ∧ y < 4
        · rw [if_pos z, if_pos (by omega)]
        · rw [if_neg z, if_neg (by omega)]
theorem m_run58 (hp : q_prg p) (hn : np ≤ 4) (l1 : Int32) : ∀ (k i : Nat) (h : qh), i + k = np → h.R 43 21 = some p → h.I p 1 = Int32.ofNat np → ∃ h', (∀ (hx : qh) (Q : qr → qh → Prop), q_N0 G m_X12_run (d + 1) Q 58 [.ref 43, .int l1, .int (Int32.ofNat np)] [] (mg hx h') → q_N0 G m_X12_run (d + 1) Q 58 [.ref 43, .int l1, .int (Int32.ofNat i)] [] (mg hx h)) ∧ F1 78 h h' ∧ (∀ y, h'.I 78 y = if i ≤ y ∧ y < np then h.I 77 y else h.I 78 y)
  | 0, i, h, hi, hR, h6 => by
    have e : i = np := by omega
    subst e
    exact ⟨h, fun hx Q H => H, ⟨fun _ _ => rfl, rfl, rfl⟩, fun y => by rw [if_neg (by omega)]⟩
  | k + 1, i, h, hi, hR, h6 => by
    have hpl := prg_lt hp
    obtain ⟨h', a1, a2, a3⟩ := m_run58 hp hn l1 k (i + 1) (h.sI 78 i (h.I 77 i)) (by omega) hR (by rw [sI_row _ (by omega)]; exact h6)
    refine ⟨h', fun hx Q H => ?_, ⟨fun o ho => by rw [a2.1 o ho, sI_row _ ho], a2.2.1, a2.2.2⟩, fun y => ?_⟩
    · have e77 : (mg hx h).I 77 i = h.I 77 i := by rw [mI (by decide)]
      refine x_X12_run_58 G d _ _ _ Q ⟨p, by rw [mRr (by decide)]; exact hR, hp, ?_⟩
      rw [mI (by omega), h6]
      refine ⟨fun q => absurd ((n_le (by omega) (by omega)).mp q) (by omega), fun _ => ⟨n_in (by omega) (by omega), n_in (by omega) (by omega), ?_⟩⟩
      rw [n_N (by omega), n_add1, e77, mg_sI_m (by decide)]
      exact a1 hx Q H
    · have g1 : (h.sI 78 i (h.I 77 i)).I 77 y = h.I 77 y := by rw [sI_row _ (by decide)]
      have g2 : (h.sI 78 i (h.I 77 i)).I 78 y = if y = i then h.I 77 i else h.I 78 y := by rw [sI_I]; simp only [true_and]
      rw [a3, g1, g2]
      by_cases q : y = i
      · rw [if_neg (by omega), if_pos q, if_pos (by omega), q]
      · rw [if_neg q]
        by_cases z : i + 1 ≤ y ∧ y < np
        · rw [if_pos z, if_pos (by omega)]
        · rw [if_neg z, if_neg (by omega)]
/-- how a RUN of the class begins -/
def HCB (c : Nat) (lm : Int32) (h h0 : qh) : Prop := (∀ o, o ≠ 31 → o ≠ 37 → o ≠ 38 → o ≠ 40 → o ≠ 41 → h0.I o = h.I o) ∧ (∀ k, k ≠ 6 → k ≠ 7 → k ≠ 8 → h0.I 31 k = h.I 31 k) ∧ (h0.I 31 6 = 0 ∧ h0.I 31 7 = 0 ∧ h0.I 31 8 = 0) ∧ (∀ k, k ≠ 1 → h0.I 37 k = h.I 37 k) ∧ h0.I 37 1 = 0 ∧ (∀ k, k ≠ 6 → k ≠ 7 → k ≠ 8 → k ≠ 9 → k ≠ 10 → k ≠ 11 → h0.I 38 k = h.I 38 k) ∧ (h0.I 38 6 = 0 ∧ h0.I 38 7 = lm ∧ h0.I 38 8 = 0 ∧ h0.I 38 9 = 1 ∧ h0.I 38 10 = 0 ∧ h0.I 38 11 = 0) ∧ ((∀ y, y < 1400 → h.I 40 y = 0) → ∀ y, y < 1400 → h0.I 40 y = 0) ∧ (∀ y, y < 4 → h0.I 41 y = h.I 42 y) ∧ h0.L = h.L ∧ h0.R 38 5 = some c ∧ (∀ o, o ≠ 38 → h0.R o = h.R o)
theorem c_runbeg (hq : q_cir c) (hP : P ≤ 1400) (h6 : hc.I c 6 = Int32.ofNat P) : ∃ h0, HCB c lm hc h0 ∧ ∀ (hx : qh) (Q : qr → qh → Prop), q_N0 G m_X9_perform (d + 3) Q 14 [.ref 38, .ref c, .ref 42, .int lm, .int 0] [] (mg h0 hx) → q_M0 G (d + 3) yX9_perform [.ref 38, .ref c, .ref 42, .int lm] (mg hc hx) Q := by
  have hcl := cir_lt hq
  obtain ⟨hF, eF⟩ : ∃ hF : qh, hF = ((((((hc.sI 31 6 0).sI 31 7 0).sI 31 8 0).sI 37 1 0).sI 38 9 (-1)).sI 38 10 0).sI 38 11 0 := ⟨_, rfl⟩
  have hf := c_forget (G := G) (d := d + 2) (by omega) hc
  rw [← eF] at hf
  have F1' : ∀ o, o ≠ 31 → o ≠ 37 → o ≠ 38 → hF.I o = hc.I o := fun o a b c => by
    rw [eF, sI_row _ c, sI_row _ c, sI_row _ c, sI_row _ b, sI_row _ a, sI_row _ a, sI_row _ a]
  have F31 : ∀ k, hF.I 31 k = if k = 6 ∨ k = 7 ∨ k = 8 then 0 else hc.I 31 k := fun k => by
    rw [eF, sI_row _ (by decide), sI_row _ (by decide), sI_row _ (by decide), sI_row _ (by decide), sI_I, sI_I, sI_I]
    by_cases a : k = 8
    · simp [a]
    · by_cases b : k = 7
      · simp [b]
      · by_cases c : k = 6
        · simp [c]
        · simp [a, b, c]
  have F37 : ∀ k, hF.I 37 k = if k = 1 then 0 else hc.I 37 k := fun k => by
    rw [eF, sI_row _ (by decide), sI_row _ (by decide), sI_row _ (by decide), sI_I, sI_row _ (by decide), sI_row _ (by decide), sI_row _ (by decide)]
    simp only [true_and]
  have F38 : ∀ k, hF.I 38 k = if k = 11 then 0 else if k = 10 then 0 else if k = 9 then -1 else hc.I 38 k := fun k => by
    rw [eF, sI_I, sI_I, sI_I, sI_row _ (by decide), sI_row _ (by decide), sI_row _ (by decide), sI_row _ (by decide)]
    simp only [true_and]
  have FL : hF.L = hc.L := by rw [eF]; rfl
  have FR : hF.R = hc.R := by rw [eF]; rfl
  obtain ⟨h1, a1, a2, a3⟩ := c_beg13 (G := G) (d := d + 1) (lm := lm) hq hP P 0 ((hF.sR 38 5 (some c)).sI 38 7 lm) (by omega) (by rw [sI_R, sR_R, if_pos ⟨rfl, rfl⟩]) (by rw [sI_row _ (by omega), sR_I, F1' c (by omega) (by omega) (by omega)]; exact h6)
  obtain ⟨h2, b1, b2, b3⟩ := c_beg50 (G := G) (d := d + 1) (c := c) (lm := lm) hq 4 0 h1 (by omega)
  refine ⟨((h2.sI 38 8 0).sI 38 9 1).sI 38 6 0, ⟨fun o e1 e2 e3 e4 e5 => ?_, fun k e1 e2 e3 => ?_, ⟨?_, ?_, ?_⟩, fun k e1 => ?_, ?_, fun k e1 e2 e3 e4 e5 e6 => ?_, ⟨?_, ?_, ?_, ?_, ?_, ?_⟩, fun hz y hy => ?_, fun y hy => ?_, ?_, ?_, fun o ho => ?_⟩, fun hx Q H => ?_⟩
  · rw [sI_row _ e3, sI_row _ e3, sI_row _ e3, b2.1 o e5, a2.1 o e4, sI_row _ e3, sR_I]; exact F1' o e1 e2 e3
  · rw [sI_row _ (by decide), sI_row _ (by decide), sI_row _ (by decide), b2.1 31 (by decide), a2.1 31 (by decide), sI_row _ (by decide), sR_I, F31, if_neg (by omega)]
  · rw [sI_row _ (by decide), sI_row _ (by decide), sI_row _ (by decide), b2.1 31 (by decide), a2.1 31 (by decide), sI_row _ (by decide), sR_I, F31]; rfl
  · rw [sI_row _ (by decide), sI_row _ (by decide), sI_row _ (by decide), b2.1 31 (by decide), a2.1 31 (by decide), sI_row _ (by decide), sR_I, F31]; rfl
  · rw [sI_row _ (by decide), sI_row _ (by decide), sI_row _ (by decide), b2.1 31 (by decide), a2.1 31 (by decide), sI_row _ (by decide), sR_I, F31]; rfl
  · rw [sI_row _ (by decide), sI_row _ (by decide), sI_row _ (by decide), b2.1 37 (by decide), a2.1 37 (by decide), sI_row _ (by decide), sR_I, F37, if_neg e1]
  · rw [sI_row _ (by decide), sI_row _ (by decide), sI_row _ (by decide), b2.1 37 (by decide), a2.1 37 (by decide), sI_row _ (by decide), sR_I, F37]; rfl
  · rw [sI_I, if_neg (by omega), sI_I, if_neg (by omega), sI_I, if_neg (by omega), b2.1 38 (by decide), a2.1 38 (by decide), sI_I, if_neg (by omega), sR_I, F38, if_neg e6, if_neg e5, if_neg e4]
  · rw [sI_I, if_pos ⟨rfl, rfl⟩]
  · rw [sI_I, if_neg (by decide), sI_I, if_neg (by decide), sI_I, if_neg (by decide), b2.1 38 (by decide), a2.1 38 (by decide), sI_I, if_pos ⟨rfl, rfl⟩]
  · rw [sI_I, if_neg (by decide), sI_I, if_neg (by decide), sI_I, if_pos ⟨rfl, rfl⟩]
  · rw [sI_I, if_neg (by decide), sI_I, if_pos ⟨rfl, rfl⟩]
  · rw [sI_I, if_neg (by decide), sI_I, if_neg (by decide), sI_I, if_neg (by decide), b2.1 38 (by decide), a2.1 38 (by decide), sI_I, if_neg (by decide), sR_I, F38]; rfl
  · rw [sI_I, if_neg (by decide), sI_I, if_neg (by decide), sI_I, if_neg (by decide), b2.1 38 (by decide), a2.1 38 (by decide), sI_I, if_neg (by decide), sR_I, F38]; rfl
  · rw [sI_row _ (by decide), sI_row _ (by decide), sI_row _ (by decide), b2.1 40 (by decide), a3]
    split
    · rfl
    · rw [sI_row _ (by decide), sR_I, F1' 40 (by decide) (by decide) (by decide)]; exact hz y hy
  · rw [sI_row _ (by decide), sI_row _ (by decide), sI_row _ (by decide), b3, if_pos (by omega), a2.1 42 (by decide), sI_row _ (by decide), sR_I, F1' 42 (by decide) (by decide) (by decide)]
  · rw [sI_L, sI_L, sI_L, b2.2.1, a2.2.1]; exact FL
  · rw [sI_R, sI_R, sI_R, b2.2.2, a2.2.2, sI_R, sR_R, if_pos ⟨rfl, rfl⟩]
  · rw [sI_R, sI_R, sI_R, b2.2.2, a2.2.2, sI_R]
    funext k
    rw [sR_R, if_neg (fun q => ho q.1), FR]
  · refine x_X9_perform G (d + 2) _ _ _ Q hq (hf hx _ (x_X9_begin G (d + 1) _ _ _ _ hq ?_))
    rw [show (mg hF hx).sR 38 5 (some c) = mg (hF.sR 38 5 (some c)) hx from mg_sR_c (by decide) _ _ _ _, mg_sI_c (by decide)]
    exact a1 hx _ (b1 hx _ H)
end JRUN0
