/-! ===== build: the reference's side ===== -/
def hmK (p0 p e0 e : Nat) (h : qh) : qh := (((((((h.sI 43 3 0).sI 43 4 (-1)).sR 43 21 (some p)).sR 43 22 (some p0)).sR 43 41 (some e)).sR 43 42 (some e0)).sI 43 23 1).sI 43 31 0
section MBUILD
variable {G : qG} {d n u p p0 e e0 : Nat} {hm hmB hmD hmF : qh}
theorem m_buildYes (hd : 2 ≤ d) (hu : hm.I 43 2 = Int32.ofNat u) (hnu : n ≤ u) (hu2 : u ≤ 2000) (cp : ∀ (hx : qh) (Q : qr → qh → Prop), q_N0 G m_X12_build (d + 1) Q 27 [.ref 43, .int (Int32.ofNat n), .int (Int32.ofNat n), .null, .null] [] (mg hx hmB) → q_N0 G m_X12_build (d + 1) Q 27 [.ref 43, .int (Int32.ofNat n), .int (Int32.ofNat 0), .null, .null] [] (mg hx ((hm.sI 43 0 0).sI 43 9 (Int32.ofNat n)))) (A1 : mR G d yX12_scans [.ref 43] (hmB.sI 43 2 0) rvv hmD) (r22 : hmD.R 43 22 = some p) (hp : q_prg p) (A2 : mR G d yX12_program [.ref 43] (mS1 p (mS0 hmD)) rvv hmF) (j17 : hmF.I 43 17 = 0) (j19 : hmF.I 43 19 = 0) (q21 : hmF.R 43 21 = some p0) (hp0 : q_prg p0) (q22 : hmF.R 43 22 = some p) (q41 : hmF.R 43 41 = some e0) (he0 : q_end e0) (q42 : hmF.R 43 42 = some e) (he : q_end e) :
    ∃ hm', mR G (d + 1) yX12_build [.ref 43, .int (Int32.ofNat n)] hm (riv 0) hm' ∧ (∀ x, x < 2048 → hm'.I 76 x = 0) ∧ (∀ x, x < 4 → hm'.I 77 x = 0) ∧ (∀ o, o ≠ 76 → o ≠ 77 → hm'.I o = (hmK p0 p e0 e hmF).I o) ∧ hm'.L = hmF.L ∧ hm'.R = (hmK p0 p e0 e hmF).R := by
  obtain ⟨h', k1, k2, k3, k4, k5, k6⟩ := m_clr222 (G := G) (d := d) hp0 he0 (Int32.ofNat n) 2048 0 (hmK p0 p e0 e hmF) rfl (fun x hx => absurd hx (by omega))
  refine ⟨h', fun hx Q hQ => ?_, k2, k3, k4, k5, k6⟩
  refine x_X12_build G d _ _ Q ⟨fun q => absurd q (n_nneg (by omega)), fun _ => ⟨fun _ => ?_, fun q => absurd ?_ q⟩⟩
  · rw [mg_sI_m (by decide), mg_sI_m (by decide)]
    refine cp hx Q ?_
    refine x_X12_build_27 G d _ _ _ Q ⟨fun _ => ?_, fun q => absurd ((n_le (by omega) (by omega)).mpr (Nat.le_refl _)) q⟩
    rw [mg_sI_m (by decide)]
    refine A1 hx _ ⟨p, ?_, hp, ?_⟩
    · rw [mg_R, if_neg (by decide)]; exact r22
    rw [mg_sI_m (by decide), mg_sI_m (by decide), mg_sI_m (by decide), mg_sI_m (by decide), mg_sI_m (by decide), mg_sI_m (by decide)]
    refine m_clearP (G := G) (d := d) (by omega) hp (mS0 hmD) hx _ ?_
    refine A2 hx _ ?_
    have i17 : (mg hx hmF).I 43 17 = 0 := by rw [mg_I, if_neg (by decide)]; exact j17
    have i19 : (mg hx hmF).I 43 19 = 0 := by rw [mg_I, if_neg (by decide)]; exact j19
    have l17 : (mg hx hmF).I 43 17 ≤ 0 := by rw [i17]; decide
    have l19 : (mg hx hmF).I 43 19 ≤ 0 := by rw [i19]; decide
    have R : (mg hx hmF).R 43 = hmF.R 43 := by rw [mg_R, if_neg (by decide)]
    refine ⟨fun _ => ⟨fun _ => ⟨fun _ => ⟨fun _ => ⟨p0, (by rw [R]; exact q21), hp0, p, (by rw [R]; exact q22), hp, e0, (by rw [R]; exact q41), he0, e, (by rw [R]; exact q42), he, ?_⟩, fun q => absurd l19 q⟩, fun q => absurd l19 q⟩, fun q => absurd l17 q⟩, fun q => absurd l17 q⟩
    rw [i19, mg_sI_m (by decide), mg_sI_m (by decide), mg_sR_m (by decide), mg_sR_m (by decide), mg_sR_m (by decide), mg_sR_m (by decide), mg_sI_m (by decide), mg_sI_m (by decide)]
    exact k1 hx Q hQ
  · rw [mg_I, if_neg (by decide), hu]
    exact (n_le (by omega) (by omega)).mpr hnu
theorem m_buildNo (hd : 2 ≤ d) (hu : hm.I 43 2 = Int32.ofNat u) (hnu : n ≤ u) (hu2 : u ≤ 2000) (cp : ∀ (hx : qh) (Q : qr → qh → Prop), q_N0 G m_X12_build (d + 1) Q 27 [.ref 43, .int (Int32.ofNat n), .int (Int32.ofNat n), .null, .null] [] (mg hx hmB) → q_N0 G m_X12_build (d + 1) Q 27 [.ref 43, .int (Int32.ofNat n), .int (Int32.ofNat 0), .null, .null] [] (mg hx ((hm.sI 43 0 0).sI 43 9 (Int32.ofNat n)))) (A1 : mR G d yX12_scans [.ref 43] (hmB.sI 43 2 0) rvv hmD) (r22 : hmD.R 43 22 = some p) (hp : q_prg p) (A2 : mR G d yX12_program [.ref 43] (mS1 p (mS0 hmD)) rvv hmF) (j17 : hmF.I 43 17 = 0) (j19 : ¬ hmF.I 43 19 ≤ 0) :
    mR G (d + 1) yX12_build [.ref 43, .int (Int32.ofNat n)] hm (riv (-1)) ((hmF.sI 43 3 (hmF.I 43 19)).sI 43 4 (hmF.I 43 20)) := by
  intro hx Q hQ
  refine x_X12_build G d _ _ Q ⟨fun q => absurd q (n_nneg (by omega)), fun _ => ⟨fun _ => ?_, fun q => absurd ?_ q⟩⟩
  · rw [mg_sI_m (by decide), mg_sI_m (by decide)]
    refine cp hx Q ?_
    refine x_X12_build_27 G d _ _ _ Q ⟨fun _ => ?_, fun q => absurd ((n_le (by omega) (by omega)).mpr (Nat.le_refl _)) q⟩
    rw [mg_sI_m (by decide)]
    refine A1 hx _ ⟨p, ?_, hp, ?_⟩
    · rw [mg_R, if_neg (by decide)]; exact r22
    rw [mg_sI_m (by decide), mg_sI_m (by decide), mg_sI_m (by decide), mg_sI_m (by decide), mg_sI_m (by decide), mg_sI_m (by decide)]
    refine m_clearP (G := G) (d := d) (by omega) hp (mS0 hmD) hx _ ?_
    refine A2 hx _ ?_
    have R : (mg hx hmF).I 43 = hmF.I 43 := by rw [mg_I, if_neg (by decide)]
    have l17 : (mg hx hmF).I 43 17 ≤ 0 := by rw [R, j17]; decide
    have l19 : ¬ (mg hx hmF).I 43 19 ≤ 0 := by rw [R]; exact j19
    refine ⟨fun _ => ⟨fun _ => ⟨fun q => absurd q l19, fun _ => ⟨fun q => absurd q l19, fun _ => ?_⟩⟩, fun q => absurd l17 q⟩, fun q => absurd l17 q⟩
    rw [R, mg_sI_m (by decide), mg_sI_m (by decide)]
    exact hQ
  · rw [mg_I, if_neg (by decide), hu]
    exact (n_le (by omega) (by omega)).mpr hnu
theorem m_buildX (hd : 2 ≤ d) (hu : hm.I 43 2 = Int32.ofNat u) (hnu : n ≤ u) (hu2 : u ≤ 2000) (cp : ∀ (hx : qh) (Q : qr → qh → Prop), q_N0 G m_X12_build (d + 1) Q 27 [.ref 43, .int (Int32.ofNat n), .int (Int32.ofNat n), .null, .null] [] (mg hx hmB) → q_N0 G m_X12_build (d + 1) Q 27 [.ref 43, .int (Int32.ofNat n), .int (Int32.ofNat 0), .null, .null] [] (mg hx ((hm.sI 43 0 0).sI 43 9 (Int32.ofNat n)))) (A1 : mR G d yX12_scans [.ref 43] (hmB.sI 43 2 0) rvv hmD) (r22 : hmD.R 43 22 = some p) (hp : q_prg p) (A2 : mR G d yX12_program [.ref 43] (mS1 p (mS0 hmD)) rxx hmF) (j17 : ¬ hmF.I 43 17 ≤ 0) :
    mR G (d + 1) yX12_build [.ref 43, .int (Int32.ofNat n)] hm (riv (-1)) (((hmF.sI 43 19 0).sI 43 3 (hmF.I 43 17)).sI 43 4 (hmF.I 43 18)) := by
  intro hx Q hQ
  refine x_X12_build G d _ _ Q ⟨fun q => absurd q (n_nneg (by omega)), fun _ => ⟨fun _ => ?_, fun q => absurd ?_ q⟩⟩
  · rw [mg_sI_m (by decide), mg_sI_m (by decide)]
    refine cp hx Q ?_
    refine x_X12_build_27 G d _ _ _ Q ⟨fun _ => ?_, fun q => absurd ((n_le (by omega) (by omega)).mpr (Nat.le_refl _)) q⟩
    rw [mg_sI_m (by decide)]
    refine A1 hx _ ⟨p, ?_, hp, ?_⟩
    · rw [mg_R, if_neg (by decide)]; exact r22
    rw [mg_sI_m (by decide), mg_sI_m (by decide), mg_sI_m (by decide), mg_sI_m (by decide), mg_sI_m (by decide), mg_sI_m (by decide)]
    refine m_clearP (G := G) (d := d) (by omega) hp (mS0 hmD) hx _ ?_
    refine A2 hx _ ?_
    have R : (mg hx hmF).I 43 = hmF.I 43 := by rw [mg_I, if_neg (by decide)]
    have l17 : ¬ (mg hx hmF).I 43 17 ≤ 0 := by rw [R]; exact j17
    refine ⟨rfl, fun q => absurd q l17, fun _ => ⟨fun q => absurd q l17, fun _ => ⟨fun q => absurd q l17, fun _ => ?_⟩⟩⟩
    rw [R, mg_sI_m (by decide), mg_sI_m (by decide), mg_sI_m (by decide)]
    exact hQ
  · rw [mg_I, if_neg (by decide), hu]
    exact (n_le (by omega) (by omega)).mpr hnu
end MBUILD
