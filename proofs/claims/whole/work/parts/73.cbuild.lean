/-! ===== build: the class's side behind make ===== -/
def BG (c c0 : Nat) (h h' : qh) : Prop := (h'.I 0 10 = 0 ∧ h'.I 0 11 = h.I 22 7 ∧ h'.I 0 9 = 1 ∧ h'.R 0 7 = some c ∧ h'.R 0 8 = some c0) ∧ (∀ x, x < 4 → h'.I 42 x = 0) ∧ (∀ x, x < 2048 → h'.I 32 x = 0) ∧ (h'.I 31 6 = 0 ∧ h'.I 31 7 = 0 ∧ h'.I 31 8 = 0 ∧ h'.I 37 1 = 0 ∧ h'.I 38 9 = -1 ∧ h'.I 38 10 = 0 ∧ h'.I 38 11 = 0) ∧ (∀ o, o ≠ 0 → o ≠ 31 → o ≠ 32 → o ≠ 37 → o ≠ 38 → o ≠ 42 → h'.I o = h.I o) ∧ h'.L = h.L ∧ (∀ o, o ≠ 0 → h'.R o = h.R o) ∧ (∀ k, k ≠ 9 → k ≠ 10 → k ≠ 11 → h'.I 0 k = h.I 0 k) ∧ (∀ k, k ≠ 6 → k ≠ 7 → k ≠ 8 → h'.I 31 k = h.I 31 k) ∧ (∀ k, k ≠ 1 → h'.I 37 k = h.I 37 k) ∧ (∀ k, k ≠ 9 → k ≠ 10 → k ≠ 11 → h'.I 38 k = h.I 38 k)
section CBUILD
variable {G : qG} {D n u c c0 : Nat} {hc hc1 hc3 : qh}
theorem c_build0 (hD : 1 ≤ D) (hu : hc.I 15 1 = Int32.ofNat u) (hnu : n ≤ u) (hu2 : u ≤ 2000) (A1 : cR G D yX8_cut [.ref 17, .int (Int32.ofNat n)] hc rvv hc1) (r8 : hc1.R 0 8 = some c) (hq : q_cir c) (A2 : cR G D yX2_make [.ref 21, .ref c] (hc1.sI 15 1 0) rvv hc3) (hx : qh) (Q : qr → qh → Prop)
    (H : ((mg (hc3.sI 0 10 (hc3.I 22 6)) hx).I 0 10 = 0 → (∃ c8, (mg (hc3.sI 0 10 (hc3.I 22 6)) hx).R 0 7 = some c8 ∧ q_cir c8 ∧ (∃ c9, (mg (hc3.sI 0 10 (hc3.I 22 6)) hx).R 0 8 = some c9 ∧ q_cir c9 ∧ (q_M0 G D yJ7_fill_53178 [.ref 42, .int 0] (((((mg (hc3.sI 0 10 (hc3.I 22 6)) hx).sI 0 11 (hc3.I 22 7)).sR 0 7 (some c9)).sR 0 8 (some c8)).sI 0 9 1) (q_rv (fun h10 => q_M0 G D yX3_clear [.ref 31] h10 (q_rv (fun h11 => q_M0 G D yX9_forget [.ref 38] h11 (q_rv (fun h12 => Q (.inl (some (.int 0))) h12) (fun E h => Q (.inr E) h))) (fun E h => Q (.inr E) h))) (fun E h => Q (.inr E) h)))))) ∧ (¬ (mg (hc3.sI 0 10 (hc3.I 22 6)) hx).I 0 10 = 0 → (Q (.inl (some (.int (-1)))) ((mg (hc3.sI 0 10 (hc3.I 22 6)) hx).sI 0 11 (hc3.I 22 7))))) :
    q_M0 G (D + 1) yX10_build [.ref 0, .int (Int32.ofNat n)] (mg hc hx) Q := by
  obtain ⟨D, rfl⟩ := Nat.exists_eq_add_of_le' hD
  refine x_X10_build G (D + 1) _ _ Q ⟨fun q => absurd q (n_nneg (by omega)), fun _ => ⟨fun _ => ?_, fun q => absurd ?_ q⟩⟩
  · refine A1 hx _ ⟨c, ?_, hq, ?_⟩
    · rw [mg_R, if_pos (by decide)]; exact r8
    · rw [mg_sI_c (by decide)]
      refine A2 hx _ ?_
      refine x_X2_faultKind G D _ _ ?_
      show q_M0 G (D + 1) yX2_faultPlace [.ref 21] ((mg hc3 hx).sI 0 10 ((mg hc3 hx).I 22 6)) _
      have e6 : (mg hc3 hx).I 22 6 = hc3.I 22 6 := by rw [mg_I, if_pos (by decide)]
      rw [e6, mg_sI_c (by decide)]
      refine x_X2_faultPlace G D _ _ ?_
      have e7 : (mg (hc3.sI 0 10 (hc3.I 22 6)) hx).I 22 7 = hc3.I 22 7 := by rw [mg_I, if_pos (by decide)]; rfl
      rw [e7]
      exact H
  · rw [mg_I, if_pos (by decide), hu]
    exact (n_le (by omega) (by omega)).mpr hnu
theorem c_buildNo (hD : 1 ≤ D) (hu : hc.I 15 1 = Int32.ofNat u) (hnu : n ≤ u) (hu2 : u ≤ 2000) (A1 : cR G D yX8_cut [.ref 17, .int (Int32.ofNat n)] hc rvv hc1) (r8 : hc1.R 0 8 = some c) (hq : q_cir c) (A2 : cR G D yX2_make [.ref 21, .ref c] (hc1.sI 15 1 0) rvv hc3) (hf : ¬ hc3.I 22 6 = 0) : cR G (D + 1) yX10_build [.ref 0, .int (Int32.ofNat n)] hc (riv (-1)) ((hc3.sI 0 10 (hc3.I 22 6)).sI 0 11 (hc3.I 22 7)) := by
  intro hx Q hQ
  have e : (mg (hc3.sI 0 10 (hc3.I 22 6)) hx).I 0 10 = hc3.I 22 6 := by rw [mg_I, if_pos (by decide)]; rfl
  refine c_build0 hD hu hnu hu2 A1 r8 hq A2 hx Q ⟨fun q => absurd (e.symm.trans q) hf, fun _ => ?_⟩
  rw [mg_sI_c (by decide)]
  exact hQ
theorem c_buildYes (hD : 2 ≤ D) (hu : hc.I 15 1 = Int32.ofNat u) (hnu : n ≤ u) (hu2 : u ≤ 2000) (A1 : cR G D yX8_cut [.ref 17, .int (Int32.ofNat n)] hc rvv hc1) (r8 : hc1.R 0 8 = some c) (hq : q_cir c) (A2 : cR G D yX2_make [.ref 21, .ref c] (hc1.sI 15 1 0) rvv hc3) (hf : hc3.I 22 6 = 0) (r7 : hc3.R 0 7 = some c0) (hq0 : q_cir c0) (r8' : hc3.R 0 8 = some c) : ∃ hc', cR G (D + 1) yX10_build [.ref 0, .int (Int32.ofNat n)] hc (riv 0) hc' ∧ BG c c0 hc3 hc' := by
  obtain ⟨h5, e5h⟩ : ∃ h5, h5 = ((((hc3.sI 0 10 (hc3.I 22 6)).sI 0 11 (hc3.I 22 7)).sR 0 7 (some c)).sR 0 8 (some c0)).sI 0 9 1 := ⟨_, rfl⟩
  obtain ⟨h6, a1, a2, a3⟩ := c_fill42 (G := G) (d := D) (by omega) h5
  obtain ⟨h7, b1, b2, b3⟩ := c_clear (G := G) (d := D) (by omega) h6
  have f := c_forget (G := G) (d := D) (by omega) h7
  refine ⟨(((((((h7.sI 31 6 0).sI 31 7 0).sI 31 8 0).sI 37 1 0).sI 38 9 (-1)).sI 38 10 0).sI 38 11 0), fun hx Q hQ => ?_, ?_⟩
  · have e : (mg (hc3.sI 0 10 (hc3.I 22 6)) hx).I 0 10 = 0 := by rw [mg_I, if_pos (by decide)]; exact hf
    refine c_build0 (by omega) hu hnu hu2 A1 r8 hq A2 hx Q ⟨fun _ => ⟨c0, ?_, hq0, c, ?_, hq, ?_⟩, fun q => absurd e q⟩
    · rw [mg_R, if_pos (by decide)]; exact r7
    · rw [mg_R, if_pos (by decide)]; exact r8'
    · rw [mg_sI_c (by decide), mg_sR_c (by decide), mg_sR_c (by decide), mg_sI_c (by decide), ← e5h]
      exact a1 hx _ (b1 hx _ (f hx _ hQ))
  · have g : ∀ o, o ≠ 32 → o ≠ 42 → h7.I o = h5.I o := fun o x y => (b3.1 o x).trans (a3.1 o y)
    have g0 : h7.I 0 = h5.I 0 := g 0 (by decide) (by decide)
    have gL : h7.L = hc3.L := (b3.2.1.trans a3.2.1).trans (by rw [e5h]; rfl)
    have gR : h7.R = h5.R := b3.2.2.trans a3.2.2
    have h5o : ∀ o, o ≠ 0 → h5.I o = hc3.I o := fun o x => by rw [e5h, sI_row _ x, sR_I, sR_I, sI_row _ x, sI_row _ x]
    refine ⟨⟨?_, ?_, ?_, ?_, ?_⟩, fun x hx => ?_, fun x hx => ?_, ⟨rfl, rfl, rfl, rfl, rfl, rfl, rfl⟩, fun o o1 o2 o3 o4 o5 o6 => ?_, gL, fun o o1 => ?_, fun k k1 k2 k3 => ?_, fun k k1 k2 k3 => ?_, fun k k1 => ?_, fun k k1 k2 k3 => ?_⟩
    · show h7.I 0 10 = 0
      rw [g0, e5h]; exact hf
    · show h7.I 0 11 = _
      rw [g0, e5h]; rfl
    · show h7.I 0 9 = _
      rw [g0, e5h]; rfl
    · show h7.R 0 7 = _
      rw [gR, e5h]; rfl
    · show h7.R 0 8 = _
      rw [gR, e5h]; rfl
    · show h7.I 42 x = 0
      rw [b3.1 42 (by decide)]; exact a2 x hx
    · show h7.I 32 x = 0
      exact b2 x hx
    · rw [sI_row _ o5, sI_row _ o5, sI_row _ o5, sI_row _ o4, sI_row _ o2, sI_row _ o2, sI_row _ o2, g o o3 o6, h5o o o1]
    · show h7.R o = _
      rw [gR, e5h]
      funext k
      rw [sI_R, sR_R, if_neg (fun q => o1 q.1), sR_R, if_neg (fun q => o1 q.1)]; rfl
    · show h7.I 0 k = _
      rw [g0, e5h]
      simp only [sI_I, sR_I, k1, k2, k3, and_false, if_false]
    · simp only [sI_I, Nat.reduceEqDiff, false_and, k1, k2, k3, and_false, if_false]
      rw [g 31 (by decide) (by decide), h5o 31 (by decide)]
    · simp only [sI_I, Nat.reduceEqDiff, false_and, k1, and_false, if_false]
      rw [g 37 (by decide) (by decide), h5o 37 (by decide)]
    · simp only [sI_I, Nat.reduceEqDiff, false_and, k1, k2, k3, and_false, if_false]
      rw [g 38 (by decide) (by decide), h5o 38 (by decide)]
end CBUILD
