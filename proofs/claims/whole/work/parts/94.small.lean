/-! ===== the small calls ===== -/
/-- what does not speak of tape, circuits and FAULTS -/
def INR (hc hm : qh) : Prop := (LT hc ∧ hc.I 31 5 = hm.I 43 6) ∧ hc.L 37 0 = hm.L 43 7 ∧ (hc.I 38 13 = 0 ∧ hc.I 38 14 = 0 ∧ hc.I 38 15 = 0 ∧ hc.I 31 9 = 0) ∧ (∀ i, i < 2048 → hc.I 32 i = hm.I 76 i) ∧ (∀ i, i < 4 → hc.I 42 i = hm.I 77 i) ∧ IT hc hm ∧ (∀ y, y < 1400 → hc.I 40 y = 0)
section SMALL
variable {G : qG} {D d : Nat} {hc hm hc' hm' : qh}
theorem INV.inr (x : INV hc hm) : INR hc hm := by
  obtain ⟨u, B, c0, c, p0, p, e0, e, t, rc, rm, re, f, lt, ls, z, ip, mem, gv, it, f40⟩ := x
  exact ⟨lt, ls, z, mem, gv, it, f40⟩
theorem IP.to {c p e : Nat} (x : IP c p e hc hm) (hq : q_cir c) (hp : q_prg p) (he : q_end e) (a1 : ∀ o, o ≤ 14 → hc'.I o = hc.I o) (m1 : hm'.I 43 23 = hm.I 43 23) (m3 : ∀ o, 51 ≤ o → o ≤ 72 → hm'.I o = hm.I o) (m4 : ∀ o, 81 ≤ o → o ≤ 82 → hm'.I o = hm.I o) : IP c p e hc' hm' := by
  have hcl := cir_lt hq
  have hpl := prg_lt hp
  have hel := end_lt he
  unfold IP at *
  rw [a1 0 (by omega), a1 c (by omega), m1]
  rcases x with x | ⟨x1, x2, na, np, nv, nl, P, jn, x3⟩
  · exact Or.inl x
  · exact Or.inr ⟨x1, x2, na, np, nv, nl, P, jn, x3.to (fun o o1 o2 => a1 o (by omega)) (fun o o1 o2 => m3 o (by omega) (by omega)) (m4 e (by omega) (by omega))⟩
theorem INV.to (x : INV hc hm) (a1 : ∀ o, o ≤ 16 → hc'.I o = hc.I o) (a2 : hc'.R 0 = hc.R 0) (a3 : hm'.R 43 = hm.R 43) (m1 : hm'.I 43 2 = hm.I 43 2 ∧ hm'.I 43 3 = hm.I 43 3 ∧ hm'.I 43 4 = hm.I 43 4 ∧ hm'.I 43 23 = hm.I 43 23) (m2 : hm'.I 44 = hm.I 44) (m3 : ∀ o, 51 ≤ o → o ≤ 72 → hm'.I o = hm.I o) (m4 : ∀ o, 81 ≤ o → o ≤ 82 → hm'.I o = hm.I o) (b : INR hc' hm') : INV hc' hm' := by
  obtain ⟨u, B, c0, c, p0, p, e0, e, t, rc, rm, re, f, lt, ls, z, ip, mem, gv, it, f40⟩ := x
  obtain ⟨b1, b2, b3, b4, b5, b6, b7⟩ := b
  refine ⟨u, B, c0, c, p0, p, e0, e, ?_, by rw [a2]; exact rc, by rw [a3]; exact rm, by rw [a3]; exact re, ?_, b1, b2, b3, ip.to rc.2.2.1 rm.2.2.1 re.2.2.1 (fun o ho => a1 o (by omega)) m1.2.2.2 m3 m4, b4, b5, b6, b7⟩
  · unfold TP at *
    rw [a1 15 (by omega), a1 16 (by omega), m1.1, m2]; exact t
  · rw [a1 0 (by omega), m1.2.1, m1.2.2.1]; exact f
theorem INV.thr (x : INV hc hm) (v : Int32) : INV hc (hm.sI 43 0 v) := by
  refine x.to (fun _ _ => rfl) rfl rfl ⟨rfl, rfl, rfl, rfl⟩ (sI_row _ (by decide)) (fun o o1 o2 => sI_row _ (by omega)) (fun o o1 o2 => sI_row _ (by omega)) ?_
  exact x.inr
theorem INV.out (x : INV hc hm) (v : Int64) : INV hc (hm.sL 83 0 v) := by
  refine x.to (fun _ _ => rfl) rfl rfl ⟨rfl, rfl, rfl, rfl⟩ rfl (fun o o1 o2 => rfl) (fun o o1 o2 => rfl) ?_
  exact x.inr

theorem j_told (x : INV hc hm) (w : Int32) : ∃ r, cR G (D + 1) yX10_told [.ref 0, .int w] hc (riv r) hc ∧ mR G (d + 1) yX12_told_ [.ref 43, .int w] hm (riv r) (hm.sI 43 0 0) := by
  have it := x.inr.2.2.2.2.2.1
  have C : ∀ o, o < 43 → ∀ hx k, (mg hc hx).I o k = hc.I o k := fun o ho hx k => by rw [cI ho]
  have M : ∀ hx k, (mg hx hm).I 43 k = hm.I 43 k := fun hx k => by rw [mI (by decide)]
  by_cases w0 : w = 0
  · rcases it with ⟨t0, t1, t2, t3, t4, t5, t6⟩ | ⟨t0, t1, t2, t3, t4, t5, ⟨k, t6, t7, t8, t9⟩, t10⟩
    · refine ⟨(-1), fun hx Q hQ => x_X10_told G D _ _ Q ⟨fun _ => ?_, fun q => absurd (w0.symm.trans q) (by decide), fun q => absurd (w0.symm.trans q) (by decide), fun q => absurd (w0.symm.trans q) (by decide), fun q => absurd (w0.symm.trans q) (by decide), fun q => absurd (w0.symm.trans q) (by decide), fun q => absurd w0 (q.1)⟩, fun hx Q hQ => x_X12_told_ G d _ _ Q ⟨fun _ => ⟨fun _ => ?_, fun q => absurd ((M hx 31).trans t0) q⟩, fun q => absurd (w0.symm.trans q) (by decide), fun q => absurd (w0.symm.trans q) (by decide), fun q => absurd (w0.symm.trans q) (by decide), fun q => absurd (w0.symm.trans q) (by decide), fun q => absurd (w0.symm.trans q) (by decide), fun q => absurd w0 (q.1)⟩⟩
      · rw [C 38 (by decide), t1]; exact hQ
      · rw [mg_sI_m (by decide)]; exact hQ
    · have n31 : ∀ hx, ¬ (mg hx hm).I 43 31 = 0 := fun hx => by rw [M, t0]; decide
      refine ⟨hm.I 43 32, fun hx Q hQ => x_X10_told G D _ _ Q ⟨fun _ => ?_, fun q => absurd (w0.symm.trans q) (by decide), fun q => absurd (w0.symm.trans q) (by decide), fun q => absurd (w0.symm.trans q) (by decide), fun q => absurd (w0.symm.trans q) (by decide), fun q => absurd (w0.symm.trans q) (by decide), fun q => absurd w0 (q.1)⟩, fun hx Q hQ => x_X12_told_ G d _ _ Q ⟨fun _ => ⟨fun q => absurd q (n31 hx), fun _ => ?_⟩, fun q => absurd (w0.symm.trans q) (by decide), fun q => absurd (w0.symm.trans q) (by decide), fun q => absurd (w0.symm.trans q) (by decide), fun q => absurd (w0.symm.trans q) (by decide), fun q => absurd (w0.symm.trans q) (by decide), fun q => absurd w0 (q.1)⟩⟩
      · rw [C 38 (by decide), t1]; exact hQ
      · rw [M, mg_sI_m (by decide)]; exact hQ
  by_cases w1 : w = 1
  · rcases it with ⟨t0, t1, t2, t3, t4, t5, t6⟩ | ⟨t0, t1, t2, t3, t4, t5, ⟨k, t6, t7, t8, t9⟩, t10⟩
    · refine ⟨0, fun hx Q hQ => x_X10_told G D _ _ Q ⟨fun q => absurd (w1.symm.trans q) (by decide), fun _ => ?_, fun q => absurd (w1.symm.trans q) (by decide), fun q => absurd (w1.symm.trans q) (by decide), fun q => absurd (w1.symm.trans q) (by decide), fun q => absurd (w1.symm.trans q) (by decide), fun q => absurd w1 (q.2.1)⟩, fun hx Q hQ => x_X12_told_ G d _ _ Q ⟨fun q => absurd (w1.symm.trans q) (by decide), fun _ => ⟨fun _ => ?_, fun q => absurd ((M hx 31).trans t0) q⟩, fun q => absurd (w1.symm.trans q) (by decide), fun q => absurd (w1.symm.trans q) (by decide), fun q => absurd (w1.symm.trans q) (by decide), fun q => absurd (w1.symm.trans q) (by decide), fun q => absurd w1 (q.2.1)⟩⟩
      · rw [C 38 (by decide), t2]; exact hQ
      · rw [mg_sI_m (by decide)]; exact hQ
    · have n31 : ∀ hx, ¬ (mg hx hm).I 43 31 = 0 := fun hx => by rw [M, t0]; decide
      refine ⟨hm.I 43 33, fun hx Q hQ => x_X10_told G D _ _ Q ⟨fun q => absurd (w1.symm.trans q) (by decide), fun _ => ?_, fun q => absurd (w1.symm.trans q) (by decide), fun q => absurd (w1.symm.trans q) (by decide), fun q => absurd (w1.symm.trans q) (by decide), fun q => absurd (w1.symm.trans q) (by decide), fun q => absurd w1 (q.2.1)⟩, fun hx Q hQ => x_X12_told_ G d _ _ Q ⟨fun q => absurd (w1.symm.trans q) (by decide), fun _ => ⟨fun q => absurd q (n31 hx), fun _ => ?_⟩, fun q => absurd (w1.symm.trans q) (by decide), fun q => absurd (w1.symm.trans q) (by decide), fun q => absurd (w1.symm.trans q) (by decide), fun q => absurd (w1.symm.trans q) (by decide), fun q => absurd w1 (q.2.1)⟩⟩
      · rw [C 38 (by decide), t3]; exact hQ
      · rw [M, mg_sI_m (by decide)]; exact hQ
  by_cases w2 : w = 2
  · rcases it with ⟨t0, t1, t2, t3, t4, t5, t6⟩ | ⟨t0, t1, t2, t3, t4, t5, ⟨k, t6, t7, t8, t9⟩, t10⟩
    · refine ⟨0, fun hx Q hQ => x_X10_told G D _ _ Q ⟨fun q => absurd (w2.symm.trans q) (by decide), fun q => absurd (w2.symm.trans q) (by decide), fun _ => ?_, fun q => absurd (w2.symm.trans q) (by decide), fun q => absurd (w2.symm.trans q) (by decide), fun q => absurd (w2.symm.trans q) (by decide), fun q => absurd w2 (q.2.2.1)⟩, fun hx Q hQ => x_X12_told_ G d _ _ Q ⟨fun q => absurd (w2.symm.trans q) (by decide), fun q => absurd (w2.symm.trans q) (by decide), fun _ => ⟨fun _ => ?_, fun q => absurd ((M hx 31).trans t0) q⟩, fun q => absurd (w2.symm.trans q) (by decide), fun q => absurd (w2.symm.trans q) (by decide), fun q => absurd (w2.symm.trans q) (by decide), fun q => absurd w2 (q.2.2.1)⟩⟩
      · rw [C 38 (by decide), t3]; exact hQ
      · rw [mg_sI_m (by decide)]; exact hQ
    · have n31 : ∀ hx, ¬ (mg hx hm).I 43 31 = 0 := fun hx => by rw [M, t0]; decide
      refine ⟨hm.I 43 34, fun hx Q hQ => x_X10_told G D _ _ Q ⟨fun q => absurd (w2.symm.trans q) (by decide), fun q => absurd (w2.symm.trans q) (by decide), fun _ => ?_, fun q => absurd (w2.symm.trans q) (by decide), fun q => absurd (w2.symm.trans q) (by decide), fun q => absurd (w2.symm.trans q) (by decide), fun q => absurd w2 (q.2.2.1)⟩, fun hx Q hQ => x_X12_told_ G d _ _ Q ⟨fun q => absurd (w2.symm.trans q) (by decide), fun q => absurd (w2.symm.trans q) (by decide), fun _ => ⟨fun q => absurd q (n31 hx), fun _ => ?_⟩, fun q => absurd (w2.symm.trans q) (by decide), fun q => absurd (w2.symm.trans q) (by decide), fun q => absurd (w2.symm.trans q) (by decide), fun q => absurd w2 (q.2.2.1)⟩⟩
      · rw [C 38 (by decide), t4]; exact hQ
      · rw [M, mg_sI_m (by decide)]; exact hQ
  by_cases w3 : w = 3
  · rcases it with ⟨t0, t1, t2, t3, t4, t5, t6⟩ | ⟨t0, t1, t2, t3, t4, t5, ⟨k, t6, t7, t8, t9⟩, t10⟩
    · refine ⟨0, fun hx Q hQ => x_X10_told G D _ _ Q ⟨fun q => absurd (w3.symm.trans q) (by decide), fun q => absurd (w3.symm.trans q) (by decide), fun q => absurd (w3.symm.trans q) (by decide), fun _ => ?_, fun q => absurd (w3.symm.trans q) (by decide), fun q => absurd (w3.symm.trans q) (by decide), fun q => absurd w3 (q.2.2.2.1)⟩, fun hx Q hQ => x_X12_told_ G d _ _ Q ⟨fun q => absurd (w3.symm.trans q) (by decide), fun q => absurd (w3.symm.trans q) (by decide), fun q => absurd (w3.symm.trans q) (by decide), fun _ => ⟨fun _ => ?_, fun q => absurd ((M hx 31).trans t0) q⟩, fun q => absurd (w3.symm.trans q) (by decide), fun q => absurd (w3.symm.trans q) (by decide), fun q => absurd w3 (q.2.2.2.1)⟩⟩
      · rw [C 31 (by decide), t4]; exact hQ
      · rw [mg_sI_m (by decide)]; exact hQ
    · have n31 : ∀ hx, ¬ (mg hx hm).I 43 31 = 0 := fun hx => by rw [M, t0]; decide
      refine ⟨hm.I 43 36, fun hx Q hQ => x_X10_told G D _ _ Q ⟨fun q => absurd (w3.symm.trans q) (by decide), fun q => absurd (w3.symm.trans q) (by decide), fun q => absurd (w3.symm.trans q) (by decide), fun _ => ?_, fun q => absurd (w3.symm.trans q) (by decide), fun q => absurd (w3.symm.trans q) (by decide), fun q => absurd w3 (q.2.2.2.1)⟩, fun hx Q hQ => x_X12_told_ G d _ _ Q ⟨fun q => absurd (w3.symm.trans q) (by decide), fun q => absurd (w3.symm.trans q) (by decide), fun q => absurd (w3.symm.trans q) (by decide), fun _ => ⟨fun q => absurd q (n31 hx), fun _ => ?_⟩, fun q => absurd (w3.symm.trans q) (by decide), fun q => absurd (w3.symm.trans q) (by decide), fun q => absurd w3 (q.2.2.2.1)⟩⟩
      · rw [C 31 (by decide), t5]; exact hQ
      · rw [M, mg_sI_m (by decide)]; exact hQ
  by_cases w4 : w = 4
  · rcases it with ⟨t0, t1, t2, t3, t4, t5, t6⟩ | ⟨t0, t1, t2, t3, t4, t5, ⟨k, t6, t7, t8, t9⟩, t10⟩
    · refine ⟨0, fun hx Q hQ => x_X10_told G D _ _ Q ⟨fun q => absurd (w4.symm.trans q) (by decide), fun q => absurd (w4.symm.trans q) (by decide), fun q => absurd (w4.symm.trans q) (by decide), fun q => absurd (w4.symm.trans q) (by decide), fun _ => ?_, fun q => absurd (w4.symm.trans q) (by decide), fun q => absurd w4 (q.2.2.2.2.1)⟩, fun hx Q hQ => x_X12_told_ G d _ _ Q ⟨fun q => absurd (w4.symm.trans q) (by decide), fun q => absurd (w4.symm.trans q) (by decide), fun q => absurd (w4.symm.trans q) (by decide), fun q => absurd (w4.symm.trans q) (by decide), fun _ => ⟨fun _ => ?_, fun q => absurd ((M hx 31).trans t0) q⟩, fun q => absurd (w4.symm.trans q) (by decide), fun q => absurd w4 (q.2.2.2.2.1)⟩⟩
      · rw [C 31 (by decide), t5]; exact hQ
      · rw [mg_sI_m (by decide)]; exact hQ
    · have n31 : ∀ hx, ¬ (mg hx hm).I 43 31 = 0 := fun hx => by rw [M, t0]; decide
      refine ⟨hm.I 43 37, fun hx Q hQ => x_X10_told G D _ _ Q ⟨fun q => absurd (w4.symm.trans q) (by decide), fun q => absurd (w4.symm.trans q) (by decide), fun q => absurd (w4.symm.trans q) (by decide), fun q => absurd (w4.symm.trans q) (by decide), fun _ => ?_, fun q => absurd (w4.symm.trans q) (by decide), fun q => absurd w4 (q.2.2.2.2.1)⟩, fun hx Q hQ => x_X12_told_ G d _ _ Q ⟨fun q => absurd (w4.symm.trans q) (by decide), fun q => absurd (w4.symm.trans q) (by decide), fun q => absurd (w4.symm.trans q) (by decide), fun q => absurd (w4.symm.trans q) (by decide), fun _ => ⟨fun q => absurd q (n31 hx), fun _ => ?_⟩, fun q => absurd (w4.symm.trans q) (by decide), fun q => absurd w4 (q.2.2.2.2.1)⟩⟩
      · rw [C 31 (by decide), (t6.trans t7.symm)]; exact hQ
      · rw [M, mg_sI_m (by decide)]; exact hQ
  by_cases w5 : w = 5
  · rcases it with ⟨t0, t1, t2, t3, t4, t5, t6⟩ | ⟨t0, t1, t2, t3, t4, t5, ⟨k, t6, t7, t8, t9⟩, t10⟩
    · refine ⟨0, fun hx Q hQ => x_X10_told G D _ _ Q ⟨fun q => absurd (w5.symm.trans q) (by decide), fun q => absurd (w5.symm.trans q) (by decide), fun q => absurd (w5.symm.trans q) (by decide), fun q => absurd (w5.symm.trans q) (by decide), fun q => absurd (w5.symm.trans q) (by decide), fun _ => ?_, fun q => absurd w5 (q.2.2.2.2.2)⟩, fun hx Q hQ => x_X12_told_ G d _ _ Q ⟨fun q => absurd (w5.symm.trans q) (by decide), fun q => absurd (w5.symm.trans q) (by decide), fun q => absurd (w5.symm.trans q) (by decide), fun q => absurd (w5.symm.trans q) (by decide), fun q => absurd (w5.symm.trans q) (by decide), fun _ => ⟨fun _ => ?_, fun q => absurd ((M hx 31).trans t0) q⟩, fun q => absurd w5 (q.2.2.2.2.2)⟩⟩
      · rw [C 37 (by decide), t6]; exact hQ
      · rw [mg_sI_m (by decide)]; exact hQ
    · have n31 : ∀ hx, ¬ (mg hx hm).I 43 31 = 0 := fun hx => by rw [M, t0]; decide
      have e5 : hc.I 37 1 = if hm.I 43 32 = 0 then (1 : Int32) else 0 := by
        rw [t10, ← t1]
        rcases t2 with q | q <;> rw [q] <;> decide
      refine ⟨if hm.I 43 32 = 0 then 1 else 0, fun hx Q hQ => x_X10_told G D _ _ Q ⟨fun q => absurd (w5.symm.trans q) (by decide), fun q => absurd (w5.symm.trans q) (by decide), fun q => absurd (w5.symm.trans q) (by decide), fun q => absurd (w5.symm.trans q) (by decide), fun q => absurd (w5.symm.trans q) (by decide), fun _ => ?_, fun q => absurd w5 (q.2.2.2.2.2)⟩, fun hx Q hQ => x_X12_told_ G d _ _ Q ⟨fun q => absurd (w5.symm.trans q) (by decide), fun q => absurd (w5.symm.trans q) (by decide), fun q => absurd (w5.symm.trans q) (by decide), fun q => absurd (w5.symm.trans q) (by decide), fun q => absurd (w5.symm.trans q) (by decide), fun _ => ⟨fun q => absurd q (n31 hx), fun _ => ?_⟩, fun q => absurd w5 (q.2.2.2.2.2)⟩⟩
      · rw [C 37 (by decide), e5]; exact hQ
      · rw [M, mg_sI_m (by decide)]; exact hQ
  refine ⟨-1, fun hx Q hQ => x_X10_told G D _ _ Q ⟨fun q => absurd q w0, fun q => absurd q w1, fun q => absurd q w2, fun q => absurd q w3, fun q => absurd q w4, fun q => absurd q w5, fun _ => hQ⟩, fun hx Q hQ => x_X12_told_ G d _ _ Q ⟨fun q => absurd q w0, fun q => absurd q w1, fun q => absurd q w2, fun q => absurd q w3, fun q => absurd q w4, fun q => absurd q w5, fun _ => ?_⟩⟩
  rw [mg_sI_m (by decide)]; exact hQ
theorem j_count (x : INV hc hm) (w : Int32) : ∃ r, cR G (D + 1) yX10_count [.ref 0, .int w] hc (riv r) hc ∧ mR G (d + 1) yX12_count [.ref 43, .int w] hm (riv r) (hm.sI 43 0 0) := by
  obtain ⟨u, B, c0, c, p0, p, e0, e, t, rc, rm, re, f, lt, ls, z, ip, mem, gv, it, f40⟩ := x
  have hcl := cir_lt rc.2.2.1
  have hpl := prg_lt rm.2.2.1
  have C : ∀ o, o < 43 → ∀ hx k, (mg hc hx).I o k = hc.I o k := fun o ho hx k => by rw [cI ho]
  have M : ∀ o, 43 ≤ o → ∀ hx k, (mg hx hm).I o k = hm.I o k := fun o ho hx k => by rw [mI ho]
  have R7 : ∀ hx, (mg hc hx).R 0 7 = some c0 := fun hx => by rw [cRr (by decide)]; exact rc.1
  have R21 : ∀ hx, (mg hx hm).R 43 21 = some p0 := fun hx => by rw [mRr (by decide)]; exact rm.1
  by_cases w0 : w = 0
  · refine ⟨Int32.ofNat u, fun hx Q hQ => x_X10_count G D _ _ Q ⟨fun _ => ?_, fun q => absurd (w0.symm.trans q) (by decide), fun q => absurd (w0.symm.trans q) (by decide), fun q => absurd (w0.symm.trans q) (by decide), fun q => absurd (w0.symm.trans q) (by decide), fun q => absurd (w0.symm.trans q) (by decide), fun q => absurd (w0.symm.trans q) (by decide), fun q => absurd (w0.symm.trans q) (by decide), fun q => absurd (w0.symm.trans q) (by decide), fun q => absurd (w0.symm.trans q) (by decide), fun q => absurd (w0.symm.trans q) (by decide), fun q => absurd w0 (q.1)⟩, fun hx Q hQ => x_X12_count G d _ _ Q ⟨fun _ => ?_, fun q => absurd (w0.symm.trans q) (by decide), fun q => absurd (w0.symm.trans q) (by decide), fun q => absurd (w0.symm.trans q) (by decide), fun q => absurd (w0.symm.trans q) (by decide), fun q => absurd (w0.symm.trans q) (by decide), fun q => absurd (w0.symm.trans q) (by decide), fun q => absurd (w0.symm.trans q) (by decide), fun q => absurd (w0.symm.trans q) (by decide), fun q => absurd (w0.symm.trans q) (by decide), fun q => absurd (w0.symm.trans q) (by decide), fun q => absurd w0 (q.1)⟩⟩
    · rw [C 15 (by decide), t.1]; exact hQ
    · rw [M 43 (by decide), t.2.1, mg_sI_m (by decide)]; exact hQ
  by_cases w1 : w = 1
  · have e9 : hc.I 0 9 = hm.I 43 23 := by rcases ip with q | q <;> rw [q.1, q.2.1]
    refine ⟨if hm.I 43 23 = 0 then 0 else 1, fun hx Q hQ => x_X10_count G D _ _ Q ⟨fun q => absurd (w1.symm.trans q) (by decide), fun _ => ?_, fun q => absurd (w1.symm.trans q) (by decide), fun q => absurd (w1.symm.trans q) (by decide), fun q => absurd (w1.symm.trans q) (by decide), fun q => absurd (w1.symm.trans q) (by decide), fun q => absurd (w1.symm.trans q) (by decide), fun q => absurd (w1.symm.trans q) (by decide), fun q => absurd (w1.symm.trans q) (by decide), fun q => absurd (w1.symm.trans q) (by decide), fun q => absurd (w1.symm.trans q) (by decide), fun q => absurd w1 (q.2.1)⟩, fun hx Q hQ => x_X12_count G d _ _ Q ⟨fun q => absurd (w1.symm.trans q) (by decide), fun _ => ?_, fun q => absurd (w1.symm.trans q) (by decide), fun q => absurd (w1.symm.trans q) (by decide), fun q => absurd (w1.symm.trans q) (by decide), fun q => absurd (w1.symm.trans q) (by decide), fun q => absurd (w1.symm.trans q) (by decide), fun q => absurd (w1.symm.trans q) (by decide), fun q => absurd (w1.symm.trans q) (by decide), fun q => absurd (w1.symm.trans q) (by decide), fun q => absurd (w1.symm.trans q) (by decide), fun q => absurd w1 (q.2.1)⟩⟩
    · rw [C 0 (by decide), e9]; exact hQ
    · rw [M 43 (by decide), mg_sI_m (by decide)]; exact hQ
  by_cases w2 : w = 2
  · rcases ip with ⟨q1, q2, q8, q9, q10, q11⟩ | ⟨q1, q2, na, np, nv, nl, P, jn, q3, ⟨q4, q5, _⟩, ⟨q6, q7, _⟩, ⟨q8, q9, _⟩, ⟨q10, q11, _⟩, _⟩
    · refine ⟨0, fun hx Q hQ => x_X10_count G D _ _ Q ⟨fun q => absurd (w2.symm.trans q) (by decide), fun q => absurd (w2.symm.trans q) (by decide), fun _ => ⟨c0, R7 hx, rc.2.2.1, ?_⟩, fun q => absurd (w2.symm.trans q) (by decide), fun q => absurd (w2.symm.trans q) (by decide), fun q => absurd (w2.symm.trans q) (by decide), fun q => absurd (w2.symm.trans q) (by decide), fun q => absurd (w2.symm.trans q) (by decide), fun q => absurd (w2.symm.trans q) (by decide), fun q => absurd (w2.symm.trans q) (by decide), fun q => absurd (w2.symm.trans q) (by decide), fun q => absurd w2 (q.2.2.1)⟩, fun hx Q hQ => x_X12_count G d _ _ Q ⟨fun q => absurd (w2.symm.trans q) (by decide), fun q => absurd (w2.symm.trans q) (by decide), fun _ => ⟨fun _ => ?_, fun q => absurd ((M 43 (by decide) hx 23).trans q2) q⟩, fun q => absurd (w2.symm.trans q) (by decide), fun q => absurd (w2.symm.trans q) (by decide), fun q => absurd (w2.symm.trans q) (by decide), fun q => absurd (w2.symm.trans q) (by decide), fun q => absurd (w2.symm.trans q) (by decide), fun q => absurd (w2.symm.trans q) (by decide), fun q => absurd (w2.symm.trans q) (by decide), fun q => absurd (w2.symm.trans q) (by decide), fun q => absurd w2 (q.2.2.1)⟩⟩
      · rw [C c0 (by omega), q8]; exact hQ
      · rw [mg_sI_m (by decide)]; exact hQ
    · refine ⟨Int32.ofNat na, fun hx Q hQ => x_X10_count G D _ _ Q ⟨fun q => absurd (w2.symm.trans q) (by decide), fun q => absurd (w2.symm.trans q) (by decide), fun _ => ⟨c0, R7 hx, rc.2.2.1, ?_⟩, fun q => absurd (w2.symm.trans q) (by decide), fun q => absurd (w2.symm.trans q) (by decide), fun q => absurd (w2.symm.trans q) (by decide), fun q => absurd (w2.symm.trans q) (by decide), fun q => absurd (w2.symm.trans q) (by decide), fun q => absurd (w2.symm.trans q) (by decide), fun q => absurd (w2.symm.trans q) (by decide), fun q => absurd (w2.symm.trans q) (by decide), fun q => absurd w2 (q.2.2.1)⟩, fun hx Q hQ => x_X12_count G d _ _ Q ⟨fun q => absurd (w2.symm.trans q) (by decide), fun q => absurd (w2.symm.trans q) (by decide), fun _ => ⟨fun q => absurd ((M 43 (by decide) hx 23).symm.trans q) (by rw [q2]; decide), fun _ => ⟨p0, R21 hx, rm.2.2.1, ?_⟩⟩, fun q => absurd (w2.symm.trans q) (by decide), fun q => absurd (w2.symm.trans q) (by decide), fun q => absurd (w2.symm.trans q) (by decide), fun q => absurd (w2.symm.trans q) (by decide), fun q => absurd (w2.symm.trans q) (by decide), fun q => absurd (w2.symm.trans q) (by decide), fun q => absurd (w2.symm.trans q) (by decide), fun q => absurd (w2.symm.trans q) (by decide), fun q => absurd w2 (q.2.2.1)⟩⟩
      · rw [C c0 (by omega), q4]; exact hQ
      · rw [M p0 (by omega), q5, mg_sI_m (by decide)]; exact hQ
  by_cases w3 : w = 3
  · rcases ip with ⟨q1, q2, q8, q9, q10, q11⟩ | ⟨q1, q2, na, np, nv, nl, P, jn, q3, ⟨q4, q5, _⟩, ⟨q6, q7, _⟩, ⟨q8, q9, _⟩, ⟨q10, q11, _⟩, _⟩
    · refine ⟨0, fun hx Q hQ => x_X10_count G D _ _ Q ⟨fun q => absurd (w3.symm.trans q) (by decide), fun q => absurd (w3.symm.trans q) (by decide), fun q => absurd (w3.symm.trans q) (by decide), fun _ => ⟨c0, R7 hx, rc.2.2.1, ?_⟩, fun q => absurd (w3.symm.trans q) (by decide), fun q => absurd (w3.symm.trans q) (by decide), fun q => absurd (w3.symm.trans q) (by decide), fun q => absurd (w3.symm.trans q) (by decide), fun q => absurd (w3.symm.trans q) (by decide), fun q => absurd (w3.symm.trans q) (by decide), fun q => absurd (w3.symm.trans q) (by decide), fun q => absurd w3 (q.2.2.2.1)⟩, fun hx Q hQ => x_X12_count G d _ _ Q ⟨fun q => absurd (w3.symm.trans q) (by decide), fun q => absurd (w3.symm.trans q) (by decide), fun q => absurd (w3.symm.trans q) (by decide), fun _ => ⟨fun _ => ?_, fun q => absurd ((M 43 (by decide) hx 23).trans q2) q⟩, fun q => absurd (w3.symm.trans q) (by decide), fun q => absurd (w3.symm.trans q) (by decide), fun q => absurd (w3.symm.trans q) (by decide), fun q => absurd (w3.symm.trans q) (by decide), fun q => absurd (w3.symm.trans q) (by decide), fun q => absurd (w3.symm.trans q) (by decide), fun q => absurd (w3.symm.trans q) (by decide), fun q => absurd w3 (q.2.2.2.1)⟩⟩
      · rw [C c0 (by omega), q9]; exact hQ
      · rw [mg_sI_m (by decide)]; exact hQ
    · refine ⟨Int32.ofNat np, fun hx Q hQ => x_X10_count G D _ _ Q ⟨fun q => absurd (w3.symm.trans q) (by decide), fun q => absurd (w3.symm.trans q) (by decide), fun q => absurd (w3.symm.trans q) (by decide), fun _ => ⟨c0, R7 hx, rc.2.2.1, ?_⟩, fun q => absurd (w3.symm.trans q) (by decide), fun q => absurd (w3.symm.trans q) (by decide), fun q => absurd (w3.symm.trans q) (by decide), fun q => absurd (w3.symm.trans q) (by decide), fun q => absurd (w3.symm.trans q) (by decide), fun q => absurd (w3.symm.trans q) (by decide), fun q => absurd (w3.symm.trans q) (by decide), fun q => absurd w3 (q.2.2.2.1)⟩, fun hx Q hQ => x_X12_count G d _ _ Q ⟨fun q => absurd (w3.symm.trans q) (by decide), fun q => absurd (w3.symm.trans q) (by decide), fun q => absurd (w3.symm.trans q) (by decide), fun _ => ⟨fun q => absurd ((M 43 (by decide) hx 23).symm.trans q) (by rw [q2]; decide), fun _ => ⟨p0, R21 hx, rm.2.2.1, ?_⟩⟩, fun q => absurd (w3.symm.trans q) (by decide), fun q => absurd (w3.symm.trans q) (by decide), fun q => absurd (w3.symm.trans q) (by decide), fun q => absurd (w3.symm.trans q) (by decide), fun q => absurd (w3.symm.trans q) (by decide), fun q => absurd (w3.symm.trans q) (by decide), fun q => absurd (w3.symm.trans q) (by decide), fun q => absurd w3 (q.2.2.2.1)⟩⟩
      · rw [C c0 (by omega), q6]; exact hQ
      · rw [M p0 (by omega), q7, mg_sI_m (by decide)]; exact hQ
  by_cases w4 : w = 4
  · rcases ip with ⟨q1, q2, q8, q9, q10, q11⟩ | ⟨q1, q2, na, np, nv, nl, P, jn, q3, ⟨q4, q5, _⟩, ⟨q6, q7, _⟩, ⟨q8, q9, _⟩, ⟨q10, q11, _⟩, _⟩
    · refine ⟨0, fun hx Q hQ => x_X10_count G D _ _ Q ⟨fun q => absurd (w4.symm.trans q) (by decide), fun q => absurd (w4.symm.trans q) (by decide), fun q => absurd (w4.symm.trans q) (by decide), fun q => absurd (w4.symm.trans q) (by decide), fun _ => ⟨c0, R7 hx, rc.2.2.1, ?_⟩, fun q => absurd (w4.symm.trans q) (by decide), fun q => absurd (w4.symm.trans q) (by decide), fun q => absurd (w4.symm.trans q) (by decide), fun q => absurd (w4.symm.trans q) (by decide), fun q => absurd (w4.symm.trans q) (by decide), fun q => absurd (w4.symm.trans q) (by decide), fun q => absurd w4 (q.2.2.2.2.1)⟩, fun hx Q hQ => x_X12_count G d _ _ Q ⟨fun q => absurd (w4.symm.trans q) (by decide), fun q => absurd (w4.symm.trans q) (by decide), fun q => absurd (w4.symm.trans q) (by decide), fun q => absurd (w4.symm.trans q) (by decide), fun _ => ⟨fun _ => ?_, fun q => absurd ((M 43 (by decide) hx 23).trans q2) q⟩, fun q => absurd (w4.symm.trans q) (by decide), fun q => absurd (w4.symm.trans q) (by decide), fun q => absurd (w4.symm.trans q) (by decide), fun q => absurd (w4.symm.trans q) (by decide), fun q => absurd (w4.symm.trans q) (by decide), fun q => absurd (w4.symm.trans q) (by decide), fun q => absurd w4 (q.2.2.2.2.1)⟩⟩
      · rw [C c0 (by omega), q10]; exact hQ
      · rw [mg_sI_m (by decide)]; exact hQ
    · refine ⟨Int32.ofNat nv, fun hx Q hQ => x_X10_count G D _ _ Q ⟨fun q => absurd (w4.symm.trans q) (by decide), fun q => absurd (w4.symm.trans q) (by decide), fun q => absurd (w4.symm.trans q) (by decide), fun q => absurd (w4.symm.trans q) (by decide), fun _ => ⟨c0, R7 hx, rc.2.2.1, ?_⟩, fun q => absurd (w4.symm.trans q) (by decide), fun q => absurd (w4.symm.trans q) (by decide), fun q => absurd (w4.symm.trans q) (by decide), fun q => absurd (w4.symm.trans q) (by decide), fun q => absurd (w4.symm.trans q) (by decide), fun q => absurd (w4.symm.trans q) (by decide), fun q => absurd w4 (q.2.2.2.2.1)⟩, fun hx Q hQ => x_X12_count G d _ _ Q ⟨fun q => absurd (w4.symm.trans q) (by decide), fun q => absurd (w4.symm.trans q) (by decide), fun q => absurd (w4.symm.trans q) (by decide), fun q => absurd (w4.symm.trans q) (by decide), fun _ => ⟨fun q => absurd ((M 43 (by decide) hx 23).symm.trans q) (by rw [q2]; decide), fun _ => ⟨p0, R21 hx, rm.2.2.1, ?_⟩⟩, fun q => absurd (w4.symm.trans q) (by decide), fun q => absurd (w4.symm.trans q) (by decide), fun q => absurd (w4.symm.trans q) (by decide), fun q => absurd (w4.symm.trans q) (by decide), fun q => absurd (w4.symm.trans q) (by decide), fun q => absurd (w4.symm.trans q) (by decide), fun q => absurd w4 (q.2.2.2.2.1)⟩⟩
      · rw [C c0 (by omega), q8]; exact hQ
      · rw [M p0 (by omega), q9, mg_sI_m (by decide)]; exact hQ
  by_cases w5 : w = 5
  · rcases ip with ⟨q1, q2, q8, q9, q10, q11⟩ | ⟨q1, q2, na, np, nv, nl, P, jn, q3, ⟨q4, q5, _⟩, ⟨q6, q7, _⟩, ⟨q8, q9, _⟩, ⟨q10, q11, _⟩, _⟩
    · refine ⟨0, fun hx Q hQ => x_X10_count G D _ _ Q ⟨fun q => absurd (w5.symm.trans q) (by decide), fun q => absurd (w5.symm.trans q) (by decide), fun q => absurd (w5.symm.trans q) (by decide), fun q => absurd (w5.symm.trans q) (by decide), fun q => absurd (w5.symm.trans q) (by decide), fun _ => ⟨c0, R7 hx, rc.2.2.1, ?_⟩, fun q => absurd (w5.symm.trans q) (by decide), fun q => absurd (w5.symm.trans q) (by decide), fun q => absurd (w5.symm.trans q) (by decide), fun q => absurd (w5.symm.trans q) (by decide), fun q => absurd (w5.symm.trans q) (by decide), fun q => absurd w5 (q.2.2.2.2.2.1)⟩, fun hx Q hQ => x_X12_count G d _ _ Q ⟨fun q => absurd (w5.symm.trans q) (by decide), fun q => absurd (w5.symm.trans q) (by decide), fun q => absurd (w5.symm.trans q) (by decide), fun q => absurd (w5.symm.trans q) (by decide), fun q => absurd (w5.symm.trans q) (by decide), fun _ => ⟨fun _ => ?_, fun q => absurd ((M 43 (by decide) hx 23).trans q2) q⟩, fun q => absurd (w5.symm.trans q) (by decide), fun q => absurd (w5.symm.trans q) (by decide), fun q => absurd (w5.symm.trans q) (by decide), fun q => absurd (w5.symm.trans q) (by decide), fun q => absurd (w5.symm.trans q) (by decide), fun q => absurd w5 (q.2.2.2.2.2.1)⟩⟩
      · rw [C c0 (by omega), q11]; exact hQ
      · rw [mg_sI_m (by decide)]; exact hQ
    · refine ⟨Int32.ofNat nl, fun hx Q hQ => x_X10_count G D _ _ Q ⟨fun q => absurd (w5.symm.trans q) (by decide), fun q => absurd (w5.symm.trans q) (by decide), fun q => absurd (w5.symm.trans q) (by decide), fun q => absurd (w5.symm.trans q) (by decide), fun q => absurd (w5.symm.trans q) (by decide), fun _ => ⟨c0, R7 hx, rc.2.2.1, ?_⟩, fun q => absurd (w5.symm.trans q) (by decide), fun q => absurd (w5.symm.trans q) (by decide), fun q => absurd (w5.symm.trans q) (by decide), fun q => absurd (w5.symm.trans q) (by decide), fun q => absurd (w5.symm.trans q) (by decide), fun q => absurd w5 (q.2.2.2.2.2.1)⟩, fun hx Q hQ => x_X12_count G d _ _ Q ⟨fun q => absurd (w5.symm.trans q) (by decide), fun q => absurd (w5.symm.trans q) (by decide), fun q => absurd (w5.symm.trans q) (by decide), fun q => absurd (w5.symm.trans q) (by decide), fun q => absurd (w5.symm.trans q) (by decide), fun _ => ⟨fun q => absurd ((M 43 (by decide) hx 23).symm.trans q) (by rw [q2]; decide), fun _ => ⟨p0, R21 hx, rm.2.2.1, ?_⟩⟩, fun q => absurd (w5.symm.trans q) (by decide), fun q => absurd (w5.symm.trans q) (by decide), fun q => absurd (w5.symm.trans q) (by decide), fun q => absurd (w5.symm.trans q) (by decide), fun q => absurd (w5.symm.trans q) (by decide), fun q => absurd w5 (q.2.2.2.2.2.1)⟩⟩
      · rw [C c0 (by omega), q10]; exact hQ
      · rw [M p0 (by omega), q11, mg_sI_m (by decide)]; exact hQ
  by_cases w6 : w = 6
  · refine ⟨hm.I 43 6, fun hx Q hQ => x_X10_count G D _ _ Q ⟨fun q => absurd (w6.symm.trans q) (by decide), fun q => absurd (w6.symm.trans q) (by decide), fun q => absurd (w6.symm.trans q) (by decide), fun q => absurd (w6.symm.trans q) (by decide), fun q => absurd (w6.symm.trans q) (by decide), fun q => absurd (w6.symm.trans q) (by decide), fun _ => ?_, fun q => absurd (w6.symm.trans q) (by decide), fun q => absurd (w6.symm.trans q) (by decide), fun q => absurd (w6.symm.trans q) (by decide), fun q => absurd (w6.symm.trans q) (by decide), fun q => absurd w6 (q.2.2.2.2.2.2.1)⟩, fun hx Q hQ => x_X12_count G d _ _ Q ⟨fun q => absurd (w6.symm.trans q) (by decide), fun q => absurd (w6.symm.trans q) (by decide), fun q => absurd (w6.symm.trans q) (by decide), fun q => absurd (w6.symm.trans q) (by decide), fun q => absurd (w6.symm.trans q) (by decide), fun q => absurd (w6.symm.trans q) (by decide), fun _ => ?_, fun q => absurd (w6.symm.trans q) (by decide), fun q => absurd (w6.symm.trans q) (by decide), fun q => absurd (w6.symm.trans q) (by decide), fun q => absurd (w6.symm.trans q) (by decide), fun q => absurd w6 (q.2.2.2.2.2.2.1)⟩⟩
    · rw [C 31 (by decide), lt.2]; exact hQ
    · rw [M 43 (by decide), mg_sI_m (by decide)]; exact hQ
  by_cases w7 : w = 7
  · refine ⟨0, fun hx Q hQ => x_X10_count G D _ _ Q ⟨fun q => absurd (w7.symm.trans q) (by decide), fun q => absurd (w7.symm.trans q) (by decide), fun q => absurd (w7.symm.trans q) (by decide), fun q => absurd (w7.symm.trans q) (by decide), fun q => absurd (w7.symm.trans q) (by decide), fun q => absurd (w7.symm.trans q) (by decide), fun q => absurd (w7.symm.trans q) (by decide), fun _ => ?_, fun q => absurd (w7.symm.trans q) (by decide), fun q => absurd (w7.symm.trans q) (by decide), fun q => absurd (w7.symm.trans q) (by decide), fun q => absurd w7 (q.2.2.2.2.2.2.2.1)⟩, fun hx Q hQ => x_X12_count G d _ _ Q ⟨fun q => absurd (w7.symm.trans q) (by decide), fun q => absurd (w7.symm.trans q) (by decide), fun q => absurd (w7.symm.trans q) (by decide), fun q => absurd (w7.symm.trans q) (by decide), fun q => absurd (w7.symm.trans q) (by decide), fun q => absurd (w7.symm.trans q) (by decide), fun q => absurd (w7.symm.trans q) (by decide), fun _ => ?_, fun q => absurd (w7.symm.trans q) (by decide), fun q => absurd (w7.symm.trans q) (by decide), fun q => absurd (w7.symm.trans q) (by decide), fun q => absurd w7 (q.2.2.2.2.2.2.2.1)⟩⟩
    · rw [C 38 (by decide), z.1]; exact hQ
    · rw [mg_sI_m (by decide)]; exact hQ
  by_cases w8 : w = 8
  · refine ⟨0, fun hx Q hQ => x_X10_count G D _ _ Q ⟨fun q => absurd (w8.symm.trans q) (by decide), fun q => absurd (w8.symm.trans q) (by decide), fun q => absurd (w8.symm.trans q) (by decide), fun q => absurd (w8.symm.trans q) (by decide), fun q => absurd (w8.symm.trans q) (by decide), fun q => absurd (w8.symm.trans q) (by decide), fun q => absurd (w8.symm.trans q) (by decide), fun q => absurd (w8.symm.trans q) (by decide), fun _ => ?_, fun q => absurd (w8.symm.trans q) (by decide), fun q => absurd (w8.symm.trans q) (by decide), fun q => absurd w8 (q.2.2.2.2.2.2.2.2.1)⟩, fun hx Q hQ => x_X12_count G d _ _ Q ⟨fun q => absurd (w8.symm.trans q) (by decide), fun q => absurd (w8.symm.trans q) (by decide), fun q => absurd (w8.symm.trans q) (by decide), fun q => absurd (w8.symm.trans q) (by decide), fun q => absurd (w8.symm.trans q) (by decide), fun q => absurd (w8.symm.trans q) (by decide), fun q => absurd (w8.symm.trans q) (by decide), fun q => absurd (w8.symm.trans q) (by decide), fun _ => ?_, fun q => absurd (w8.symm.trans q) (by decide), fun q => absurd (w8.symm.trans q) (by decide), fun q => absurd w8 (q.2.2.2.2.2.2.2.2.1)⟩⟩
    · rw [C 38 (by decide), z.2.1]; exact hQ
    · rw [mg_sI_m (by decide)]; exact hQ
  by_cases w9 : w = 9
  · refine ⟨0, fun hx Q hQ => x_X10_count G D _ _ Q ⟨fun q => absurd (w9.symm.trans q) (by decide), fun q => absurd (w9.symm.trans q) (by decide), fun q => absurd (w9.symm.trans q) (by decide), fun q => absurd (w9.symm.trans q) (by decide), fun q => absurd (w9.symm.trans q) (by decide), fun q => absurd (w9.symm.trans q) (by decide), fun q => absurd (w9.symm.trans q) (by decide), fun q => absurd (w9.symm.trans q) (by decide), fun q => absurd (w9.symm.trans q) (by decide), fun _ => ?_, fun q => absurd (w9.symm.trans q) (by decide), fun q => absurd w9 (q.2.2.2.2.2.2.2.2.2.1)⟩, fun hx Q hQ => x_X12_count G d _ _ Q ⟨fun q => absurd (w9.symm.trans q) (by decide), fun q => absurd (w9.symm.trans q) (by decide), fun q => absurd (w9.symm.trans q) (by decide), fun q => absurd (w9.symm.trans q) (by decide), fun q => absurd (w9.symm.trans q) (by decide), fun q => absurd (w9.symm.trans q) (by decide), fun q => absurd (w9.symm.trans q) (by decide), fun q => absurd (w9.symm.trans q) (by decide), fun q => absurd (w9.symm.trans q) (by decide), fun _ => ?_, fun q => absurd (w9.symm.trans q) (by decide), fun q => absurd w9 (q.2.2.2.2.2.2.2.2.2.1)⟩⟩
    · rw [C 38 (by decide), z.2.2.1]; exact hQ
    · rw [mg_sI_m (by decide)]; exact hQ
  by_cases w10 : w = 10
  · refine ⟨0, fun hx Q hQ => x_X10_count G D _ _ Q ⟨fun q => absurd (w10.symm.trans q) (by decide), fun q => absurd (w10.symm.trans q) (by decide), fun q => absurd (w10.symm.trans q) (by decide), fun q => absurd (w10.symm.trans q) (by decide), fun q => absurd (w10.symm.trans q) (by decide), fun q => absurd (w10.symm.trans q) (by decide), fun q => absurd (w10.symm.trans q) (by decide), fun q => absurd (w10.symm.trans q) (by decide), fun q => absurd (w10.symm.trans q) (by decide), fun q => absurd (w10.symm.trans q) (by decide), fun _ => ?_, fun q => absurd w10 (q.2.2.2.2.2.2.2.2.2.2)⟩, fun hx Q hQ => x_X12_count G d _ _ Q ⟨fun q => absurd (w10.symm.trans q) (by decide), fun q => absurd (w10.symm.trans q) (by decide), fun q => absurd (w10.symm.trans q) (by decide), fun q => absurd (w10.symm.trans q) (by decide), fun q => absurd (w10.symm.trans q) (by decide), fun q => absurd (w10.symm.trans q) (by decide), fun q => absurd (w10.symm.trans q) (by decide), fun q => absurd (w10.symm.trans q) (by decide), fun q => absurd (w10.symm.trans q) (by decide), fun q => absurd (w10.symm.trans q) (by decide), fun _ => ?_, fun q => absurd w10 (q.2.2.2.2.2.2.2.2.2.2)⟩⟩
    · rw [C 31 (by decide), z.2.2.2]; exact hQ
    · rw [mg_sI_m (by decide)]; exact hQ
  refine ⟨-1, fun hx Q hQ => x_X10_count G D _ _ Q ⟨fun q => absurd q w0, fun q => absurd q w1, fun q => absurd q w2, fun q => absurd q w3, fun q => absurd q w4, fun q => absurd q w5, fun q => absurd q w6, fun q => absurd q w7, fun q => absurd q w8, fun q => absurd q w9, fun q => absurd q w10, fun _ => hQ⟩, fun hx Q hQ => x_X12_count G d _ _ Q ⟨fun q => absurd q w0, fun q => absurd q w1, fun q => absurd q w2, fun q => absurd q w3, fun q => absurd q w4, fun q => absurd q w5, fun q => absurd q w6, fun q => absurd q w7, fun q => absurd q w8, fun q => absurd q w9, fun q => absurd q w10, fun _ => ?_⟩⟩
  rw [mg_sI_m (by decide)]; exact hQ
/-- what size and isCell look up -/
theorem cs_no {c : Nat} {w : Int32} (hq : q_cir c) (h : w < 0 ∨ hc.I c 8 ≤ w) : cR G (D + 1) yX0_cellsOf [.ref c, .int w] hc (riv (-1)) hc := fun hx Q H => by
  have hcl := cir_lt hq
  refine x_X0_cellsOf G D c _ _ Q hq ?_
  rw [show (mg hc hx).I c 8 = hc.I c 8 from by rw [cI (by omega)]]
  exact ⟨fun _ => H, fun q => ⟨fun _ => H, fun q2 => absurd (h.resolve_left q) q2⟩⟩
/-- a cell that is there: on both sides; or on neither -/
theorem INV.cells (x : INV hc hm) (w : Int32) : ∃ c0 p0, hc.R 0 7 = some c0 ∧ q_cir c0 ∧ hm.R 43 21 = some p0 ∧ q_prg p0 ∧
    ((∃ j k : Nat, w = Int32.ofNat j ∧ j < 8 ∧ 1 ≤ k ∧ k ≤ 256 ∧ (∀ (G : qG) (D : Nat), cR G (D + 1) yX0_cellsOf [.ref c0, .int w] hc (riv (Int32.ofNat k)) hc) ∧ ¬ hm.I 43 23 = 0 ∧ ¬ hm.I p0 0 ≤ w ∧ hm.I (p0 + 1) j = Int32.ofNat k) ∨ ((∀ (G : qG) (D : Nat), cR G (D + 1) yX0_cellsOf [.ref c0, .int w] hc (riv (-1)) hc) ∧ (hm.I 43 23 = 0 ∨ w < 0 ∨ hm.I p0 0 ≤ w))) := by
  obtain ⟨u, B, c0, c, p0, p, e0, e, t, rc, rm, re, f, lt, ls, z, ip, mem, gv, it, f40⟩ := x
  refine ⟨c0, p0, rc.1, rc.2.2.1, rm.1, rm.2.2.1, ?_⟩
  by_cases hw : w < 0
  · exact Or.inr ⟨fun G D => cs_no rc.2.2.1 (Or.inl hw), Or.inr (Or.inl hw)⟩
  obtain ⟨j, j1, j2⟩ := n_of hw
  rcases ip with ⟨q1, q2, q8, q9, q10, q11⟩ | ⟨q1, q2, na, np, nv, nl, P, jn, q3, ⟨q4, q5, q6⟩, _, _, _, q7, _⟩
  · refine Or.inr ⟨fun G D => cs_no rc.2.2.1 (Or.inr ?_), Or.inl q2⟩
    rw [q8]
    exact Int32.not_lt.mp hw
  · by_cases hj : j < na
    · obtain ⟨k, k1, k2, k3, k4⟩ := q7 j hj
      refine Or.inl ⟨j, k, j2, by omega, k1, k2, fun G D => ?_, by rw [q2]; decide, fun q => ?_, k4⟩
      · have := c_cellsOf (G := G) (d := D + 1) rc.2.2.1 (by omega) q4 q6 hj
        rw [k3, ← j2] at this
        exact this
      · rw [q5, j2] at q
        exact absurd ((n_le (by omega) (by omega)).mp q) (by omega)
    · refine Or.inr ⟨fun G D => cs_no rc.2.2.1 (Or.inr ?_), Or.inr (Or.inr ?_)⟩
      · rw [q4, j2]; exact (n_le (by omega) (by omega)).mpr (by omega)
      · rw [q5, j2]; exact (n_le (by omega) (by omega)).mpr (by omega)
theorem j_size (x : INV hc hm) (w : Int32) : ∃ r, cR G (D + 2) yX10_size [.ref 0, .int w] hc (riv r) hc ∧ mR G (d + 1) yX12_size [.ref 43, .int w] hm (riv r) (hm.sI 43 0 0) := by
  obtain ⟨c0, p0, r1, hq, r2, hp, h⟩ := x.cells w
  have hpl := prg_lt hp
  have R7 : ∀ hx, (mg hc hx).R 0 7 = some c0 := fun hx => by rw [cRr (by decide)]; exact r1
  have R21 : ∀ hx, (mg hx hm).R 43 21 = some p0 := fun hx => by rw [mRr (by decide)]; exact r2
  have M : ∀ o, 43 ≤ o → ∀ hx k, (mg hx hm).I o k = hm.I o k := fun o ho hx k => by rw [mI ho]
  rcases h with ⟨j, k, j1, j2, k1, k2, h1, h2, h3, h4⟩ | ⟨h1, h2⟩
  · refine ⟨Int32.ofNat k, fun hx Q H => x_X10_size G (D + 1) _ _ Q ⟨c0, R7 hx, hq, h1 G D hx _ H⟩, fun hx Q H => x_X12_size G d _ _ Q ?_⟩
    rw [M 43 (by decide)]
    refine ⟨fun q => absurd q h2, fun _ => ⟨fun q => absurd q (by rw [j1]; exact n_nneg (by omega)), fun _ => ⟨p0, R21 hx, hp, ?_⟩⟩⟩
    rw [M p0 (by omega), mg_sI_m (by decide)]
    refine ⟨fun _ => ⟨by rw [j1]; exact n_in (by omega) j2, ?_⟩, fun q => absurd (Int32.not_le.mp h3) q⟩
    rw [show w.toNatClampNeg = j from by rw [j1]; exact n_N (by omega), M (p0 + 1) (by omega), h4]
    exact H
  · refine ⟨-1, fun hx Q H => x_X10_size G (D + 1) _ _ Q ⟨c0, R7 hx, hq, h1 G D hx _ H⟩, fun hx Q H => x_X12_size G d _ _ Q ?_⟩
    rw [M 43 (by decide), mg_sI_m (by decide)]
    refine ⟨fun _ => H, fun q1 => ⟨fun _ => H, fun q2 => ⟨p0, R21 hx, hp, ?_⟩⟩⟩
    rw [M p0 (by omega)]
    exact ⟨fun q => absurd ((h2.resolve_left q1).resolve_left q2) (Int32.not_le.mpr q), fun _ => H⟩
theorem j_free (x : INV hc hm) : ∃ r hc' hm', cR G (D + 1) yX10_free [.ref 0] hc (riv r) hc' ∧ mR G (d + 1) yX12_free [.ref 43] hm (riv r) hm' ∧ INV hc' hm' := by
  have y := x.inr
  refine ⟨hm.I 43 6, hc.sI 31 5 0, (hm.sI 43 0 0).sI 43 6 0, fun hx Q H => x_X10_free G D _ Q ?_, fun hx Q H => x_X12_free G d _ Q ?_, ?_⟩
  · rw [cI (by decide), y.1.2, mg_sI_c (by decide)]; exact H
  · rw [mI (by decide), mg_sI_m (by decide), mg_sI_m (by decide)]; exact H
  · refine (x.thr 0).to (fun o ho => sI_row _ (by omega)) rfl rfl ⟨rfl, rfl, rfl, rfl⟩ (sI_row _ (by decide)) (fun o o1 o2 => sI_row _ (by omega)) (fun o o1 o2 => sI_row _ (by omega)) ?_
    obtain ⟨_, y2, y3, y4, y5, y6, y7⟩ := y
    exact ⟨⟨⟨0, rfl, by omega, fun i hi => by omega⟩, rfl⟩, y2, y3, y4, y5, y6, y7⟩
theorem j_latency (x : INV hc hm) (w : Int32) : ∃ r hc' hm', cR G (D + 2) yX10_latency [.ref 0, .int w] hc (riv r) hc' ∧ mR G (d + 1) yX12_latency [.ref 43, .int w] hm (riv r) hm' ∧ INV hc' hm' := by
  have y := x.inr
  obtain ⟨⟨⟨R, r1, r2, r3⟩, r4⟩, y2, y3, y4, y5, y6, y7⟩ := y
  have no : (w < 1 ∨ 64 < w ∨ R = 32) → ∃ r hc' hm', cR G (D + 2) yX10_latency [.ref 0, .int w] hc (riv r) hc' ∧ mR G (d + 1) yX12_latency [.ref 43, .int w] hm (riv r) hm' ∧ INV hc' hm' := fun h => by
    refine ⟨-1, hc, hm.sI 43 0 0, fun hx Q H => x_X10_latency G (D + 1) _ _ Q ⟨fun _ => H, fun q1 => ⟨fun _ => H, fun q2 => ⟨fun q => ?_, fun _ => H⟩⟩⟩, fun hx Q H => x_X12_latency G d _ _ Q ?_, x.thr 0⟩
    · rw [cI (by decide), r1] at q
      have := (n_lt (b := 32) (by omega) (by omega)).mp q
      have := (h.resolve_left q1).resolve_left q2
      omega
    · rw [mg_sI_m (by decide), show (mg hx hm).I 43 6 = Int32.ofNat R from by rw [mI (by decide), ← r4]; exact r1]
      refine ⟨fun _ => H, fun q1 => ⟨fun _ => H, fun q2 => ⟨fun q => absurd ?_ q, fun _ => H⟩⟩⟩
      rw [(h.resolve_left q1).resolve_left q2]; rfl
  by_cases h1 : w < 1
  · exact no (Or.inl h1)
  by_cases h2 : 64 < w
  · exact no (Or.inr (Or.inl h2))
  by_cases h3 : R = 32
  · exact no (Or.inr (Or.inr h3))
  obtain ⟨v, v1, v2⟩ := n_of (x := w) (fun q => h1 (Int32.lt_of_lt_of_le q (by decide)))
  have v3 : 1 ≤ v ∧ v ≤ 64 := by
    rw [v2] at h1 h2
    have a1 : ¬ v < 1 := fun q => h1 ((n_lt (b := 1) (by omega) (by omega)).mpr q)
    have a2 : ¬ 64 < v := fun q => h2 ((n_lt (a := 64) (by omega) (by omega)).mpr q)
    omega
  have e5 : ∀ hx, (mg hc hx).I 31 5 = Int32.ofNat R := fun hx => by rw [cI (by decide)]; exact r1
  have e6 : ∀ hx, (mg hx hm).I 43 6 = Int32.ofNat R := fun hx => by rw [mI (by decide), ← r4]; exact r1
  refine ⟨Int32.ofNat (R + 1), (hc.sI 33 R w).sI 31 5 (Int32.ofNat (R + 1)), ((hm.sI 43 0 0).sI 45 R w).sI 43 6 (Int32.ofNat (R + 1)), fun hx Q H => x_X10_latency G (D + 1) _ _ Q ⟨fun q => absurd q h1, fun _ => ⟨fun q => absurd q h2, fun _ => ⟨fun _ => ?_, fun q => absurd ?_ q⟩⟩⟩, fun hx Q H => x_X12_latency G d _ _ Q ⟨fun q => absurd q h1, fun _ => ⟨fun q => absurd q h2, fun _ => ⟨fun _ => ?_, fun q => absurd ?_ h3⟩⟩⟩, ?_⟩
  · refine x_X3_addRow G D _ _ _ ?_
    rw [e5, n_N (by omega), n_add1, mg_sI_c (by decide), mg_sI_c (by decide)]
    refine ⟨fun q => absurd ((n_le (a := 32) (by omega) (by omega)).mp q) (by omega), fun _ => ⟨n_in (by omega) (by omega), ?_⟩⟩
    show Q (.inl (some (.int ((mg ((hc.sI 33 R w).sI 31 5 (Int32.ofNat (R + 1))) hx).I 31 5)))) _
    rw [cI (by decide), sI_I, if_pos ⟨rfl, rfl⟩]
    exact H
  · rw [e5]; exact (n_lt (b := 32) (by omega) (by omega)).mpr (by omega)
  · rw [e6, n_N (by omega), n_add1, mg_sI_m (by decide), mg_sI_m (by decide), mg_sI_m (by decide)]
    exact ⟨n_in (by omega) (by omega), H⟩
  · rw [e6] at q
    exact (n_eq (b := 32) (by omega) (by omega)).mp q
  · refine (x.thr 0).to (fun o ho => by rw [sI_row _ (by omega), sI_row _ (by omega)]) rfl rfl ⟨rfl, rfl, rfl, rfl⟩ (by rw [sI_row _ (by decide), sI_row _ (by decide)]) (fun o o1 o2 => by rw [sI_row _ (by omega), sI_row _ (by omega)]) (fun o o1 o2 => by rw [sI_row _ (by omega), sI_row _ (by omega)]) ?_
    refine ⟨⟨⟨R + 1, by rw [sI_I, if_pos ⟨rfl, rfl⟩], by omega, fun i hi => ?_⟩, ?_⟩, y2, y3, ?_, ?_, y6, y7⟩
    · rw [sI_row _ (by decide), sI_I]
      by_cases q : i = R
      · rw [if_pos ⟨rfl, q⟩]; exact ⟨v, v3.1, v3.2, v2⟩
      · rw [if_neg (fun z => q z.2)]; exact r3 i (by omega)
    · rw [sI_I, if_pos ⟨rfl, rfl⟩, sI_I, if_pos ⟨rfl, rfl⟩]
    · exact y4
    · exact y5
theorem j_stall (x : INV hc hm) (w : Int64) : ∃ (r : Int64) (hc' hm' : qh), (∀ hx Q, Q (.inl (some (.long r))) (mg hc' hx) → q_M0 G (D + 1) yX10_stall [.ref 0, .long w] (mg hc hx) Q) ∧ (∀ hx Q, Q (.inl (some (.long r))) (mg hx hm') → q_M0 G (d + 1) yX12_stall [.ref 43, .long w] (mg hx hm) Q) ∧ INV hc' hm' := by
  have y := x.inr
  have e1 : ∀ hx, (mg hc hx).L 37 0 = hm.L 43 7 := fun hx => by rw [cL (by decide)]; exact y.2.1
  have e2 : ∀ hx, (mg hx hm).L 43 7 = hm.L 43 7 := fun hx => by rw [mg_L, if_neg (by decide)]
  have fin : ∀ v : Int64, INV (hc.sL 37 0 v) ((hm.sI 43 0 0).sL 43 7 v) := fun v => by
    refine (x.thr 0).to (fun _ _ => rfl) rfl rfl ⟨rfl, rfl, rfl, rfl⟩ rfl (fun o o1 o2 => rfl) (fun o o1 o2 => rfl) ?_
    obtain ⟨y1, y2, y3, y4, y5, y6, y7⟩ := (x.thr 0).inr
    exact ⟨y1, by rw [sL_L, if_pos ⟨rfl, rfl⟩, sL_L, if_pos ⟨rfl, rfl⟩], y3, y4, y5, y6, y7⟩
  by_cases h : lg_cmp w (-1) = 0
  · refine ⟨hm.L 43 7, _, _, fun hx Q H => x_X10_stall G D _ _ Q ⟨fun q => absurd h q, fun _ => ?_⟩, fun hx Q H => x_X12_stall G d _ _ Q ⟨fun q => absurd h q, fun _ => ?_⟩, fin 0⟩
    · rw [e1, mg_sL_c (by decide)]; exact H
    · rw [e2, mg_sI_m (by decide), mg_sL_m (by decide)]; exact H
  · refine ⟨hm.L 43 7, _, _, fun hx Q H => x_X10_stall G D _ _ Q ⟨fun _ => ?_, fun q => absurd q h⟩, fun hx Q H => x_X12_stall G d _ _ Q ⟨fun _ => ?_, fun q => absurd q h⟩, fin w⟩
    · rw [e1, mg_sL_c (by decide)]; exact H
    · rw [e2, mg_sI_m (by decide), mg_sL_m (by decide)]; exact H
end SMALL
