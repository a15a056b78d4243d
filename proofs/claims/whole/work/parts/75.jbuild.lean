/-! ===== build against build ===== -/
/-- what a build of n bytes ends with: the heaps on the way are named, so that every frame can be read off -/
def bldP (n c c0 p p0 e e0 : Nat) (hc hm : qh) : qr → qh → qr → qh → Prop := fun rc hc' rm hm' => ∃ hc1 hc3 hmB hmD hmF : qh, CFR hc hc1 ∧ PGc c (hc1.sI 15 1 0) hc3 ∧ F1 46 ((hm.sI 43 0 0).sI 43 9 (Int32.ofNat n)) hmB ∧ MFR (hmB.sI 43 2 0) hmD ∧ PFm p e (mS1 p (mS0 hmD)) hmF ∧
  ((rc = riv 0 ∧ rm = riv 0 ∧ hc3.I 22 7 = -1 ∧ BG c c0 hc3 hc' ∧ ((∀ x, x < 2048 → hm'.I 76 x = 0) ∧ (∀ x, x < 4 → hm'.I 77 x = 0) ∧ (∀ o, o ≠ 76 → o ≠ 77 → hm'.I o = (hmK p0 p e0 e hmF).I o) ∧ hm'.L = hmF.L ∧ hm'.R = (hmK p0 p e0 e hmF).R) ∧ ∃ na np nv nl P jn, PR c p e na np nv nl P jn hc' hm') ∨
   (rc = riv (-1) ∧ rm = riv (-1) ∧ ∃ k t : Int32, ¬ k = 0 ∧ hc' = (hc3.sI 0 10 k).sI 0 11 t ∧ (hm' = (hmF.sI 43 3 k).sI 43 4 t ∨ hm' = ((hmF.sI 43 19 0).sI 43 3 k).sI 43 4 t)))
section JBUILD
variable {G : qG} {D d n u c c0 p p0 e e0 : Nat} {B : Nat → Nat} {hc hm : qh}
theorem j_build (hD : 80 ≤ D) (hd : 330 ≤ d) (hnu : n ≤ u) (hu2 : u ≤ 2000) (cu : hc.I 15 1 = Int32.ofNat u) (mu : hm.I 43 2 = Int32.ofNat u) (hB : ∀ x, x < u → B x < 256) (cb : ∀ x, x < u → hc.I 16 x = sb (B x)) (mb : ∀ x, x < u → hm.I 44 x = sb (B x)) (r7 : hc.R 0 7 = some c0) (r8 : hc.R 0 8 = some c) (hq : q_cir c) (hq0 : q_cir c0) (q21 : hm.R 43 21 = some p0) (q22 : hm.R 43 22 = some p) (q41 : hm.R 43 41 = some e0) (q42 : hm.R 43 42 = some e) (hp : q_prg p) (hp0 : q_prg p0) (he : q_end e) (he0 : q_end e0) :
    J (fun hx Q => q_M0 G (D + 1) yX10_build [.ref 0, .int (Int32.ofNat n)] (mg hc hx) Q) (fun hx Q => q_M0 G (d + 1) yX12_build [.ref 43, .int (Int32.ofNat n)] (mg hx hm) Q) (bldP n c c0 p p0 e e0 hc hm) := by
  have hpl := prg_lt hp
  have hel := end_lt he
  have hcl := cir_lt hq
  have hcl1 : 1 ≤ c := by rcases hq with q | q <;> omega
  obtain ⟨D', rfl⟩ : ∃ D', D = D' + 7 := ⟨D - 7, by omega⟩
  obtain ⟨d', rfl⟩ : ∃ d', d = d' + 4 := ⟨d - 4, by omega⟩
  -- the copy
  obtain ⟨hmB, cp, b1, -, b3⟩ := m_copy (G := G) (d := d' + 4) (show n ≤ 2000 by omega) n 0 ((hm.sI 43 0 0).sI 43 9 (Int32.ofNat n)) (by omega)
  have b44 : ∀ x, x < n → hmB.I 46 x = sb (B x) := fun x hx => by
    rw [b1 x (Nat.zero_le _) hx, sI_row _ (by decide), sI_row _ (by decide), mb x (by omega)]
    exact (sb_all _ (hB x (by omega))).2.2.2
  -- the tokens
  obtain ⟨rc1, hc1, rm1, hmD, A1, M1, e1, e2, f1, f2, T, R, ⟨t1, t2, t3, t4⟩, k1, k2, k3, k4⟩ := j_cut (G := G) (D := D') (d := d') (n := n) (B := B) (hc := hc) (hm := hmB.sI 43 2 0) (by omega) (fun x hx => hB x (by omega)) (fun x hx => cb x (by omega)) (fun x hx => by rw [sI_row _ (by decide)]; exact b44 x hx) (by
    show (hmB.sI 43 2 0).I 43 9 = _
    rw [sI_I, if_neg (by decide), b3.1 43 (by decide)]; rfl)
  subst e1 e2
  have RD : hmD.R = hm.R := f2.2.2.2.trans b3.2.2
  have r8' : hc1.R 0 8 = some c := by rw [f1.2.2]; exact r8
  have s22 : hmD.R 43 22 = some p := by rw [RD]; exact q22
  have s42 : hmD.R 43 42 = some e := by rw [RD]; exact q42
  obtain ⟨ms, ms0, ms1⟩ := m_start (T := T) (p := p) (e := e) hp k1 k2 k3 k4 s22 s42
  -- the PROGRAM
  obtain ⟨rc3, hc3, rm3, hmF, A2, M2, e3, g1, g2, g3⟩ := j_make (G := G) (T := T) (c := c) (p := p) (e := e) (hc := hc1.sI 15 1 0) (hm := mS1 p (mS0 hmD)) R hq hp he (D := D' + 7) (d := d' + 4) hD hd (by rw [sI_row _ (by decide)]; exact t1) (by rw [sI_row _ (by decide)]; exact t2) (by rw [sI_row _ (by decide)]; exact t3) t4 ms ms0 ms1
  subst e3
  have R3 : hc3.R 0 = hc.R 0 := (g1.2.2 0 (by decide) (by decide)).trans (by rw [sI_R, f1.2.2])
  have RF : hmF.R = hm.R := by rw [g2.2.2.1, (mS_f hp hmD).2.2.2, RD]
  rcases g3 with ⟨e4, fk, fp, v1, v2, v3, v4, v5, v6⟩ | ⟨e4, k, t, kk, v1, v2⟩
  · subst e4
    by_cases h0 : fk = 0
    · subst h0
      obtain ⟨w1, na, np, nv, nl, P, jn, w2⟩ := v6 rfl
      obtain ⟨hc', X1, X2⟩ := c_buildYes (G := G) (D := D' + 7) (by omega) cu hnu hu2 A1 r8' hq A2 v1 (by rw [R3]; exact r7) hq0 (by rw [R3]; exact r8)
      obtain ⟨hm', Y1, Y2, Y3, Y4, Y5, Y6⟩ := m_buildYes (G := G) (d := d' + 4) (by omega) mu hnu hu2 cp M1 s22 hp M2 v3 v4 (by rw [RF]; exact q21) hp0 (by rw [RF]; exact q22) (by rw [RF]; exact q41) he0 (by rw [RF]; exact q42) he
      refine ⟨_, hc', _, hm', X1, Y1, hc1, hc3, hmB, hmD, hmF, f1, g1, b3, f2, g2, Or.inl ⟨rfl, rfl, v2.trans w1, X2, ⟨Y2, Y3, Y4, Y5, Y6⟩, na, np, nv, nl, P, jn, ?_⟩⟩
      have Kf : ∀ o, o ≠ 43 → (hmK p0 p e0 e hmF).I o = hmF.I o := fun o ho => by
        unfold hmK
        rw [sI_row _ ho, sI_row _ ho, sR_I, sR_I, sR_I, sR_I, sI_row _ ho, sI_row _ ho]
      refine w2.to (fun o o1 o2 => X2.2.2.2.2.1 o (by omega) (by omega) (by omega) (by omega) (by omega) (by omega)) (fun o o1 o2 => (Y4 o (by omega) (by omega)).trans (Kf o (by omega))) ((Y4 e (by omega) (by omega)).trans (Kf e (by omega)))
    · have X := c_buildNo (G := G) (D := D' + 7) (by omega) cu hnu hu2 A1 r8' hq A2 (by rw [v1]; exact h0)
      have Y := m_buildNo (G := G) (d := d' + 4) (by omega) mu hnu hu2 cp M1 s22 hp M2 v3 (by rw [v4]; exact (v5 h0).2)
      rw [v1, v2] at X
      rw [v4, (v5 h0).1] at Y
      exact ⟨_, _, _, _, X, Y, hc1, hc3, hmB, hmD, hmF, f1, g1, b3, f2, g2, Or.inr ⟨rfl, rfl, fk, fp, h0, rfl, Or.inl rfl⟩⟩
  · subst e4
    have k0 : ¬ k = 0 := by rcases kk with q | q <;> (rw [q]; decide)
    have kl : ¬ k ≤ 0 := by rcases kk with q | q <;> (rw [q]; decide)
    have X := c_buildNo (G := G) (D := D' + 7) (by omega) cu hnu hu2 A1 r8' hq A2 (by rw [v1.1]; exact k0)
    have Y := m_buildX (G := G) (d := d' + 4) (by omega) mu hnu hu2 cp M1 s22 hp M2 (by rw [v2.1]; exact kl)
    rw [v1.1, v1.2] at X
    rw [v2.1, v2.2] at Y
    exact ⟨_, _, _, _, X, Y, hc1, hc3, hmB, hmD, hmF, f1, g1, b3, f2, g2, Or.inr ⟨rfl, rfl, k, t, k0, rfl, Or.inr rfl⟩⟩
end JBUILD
