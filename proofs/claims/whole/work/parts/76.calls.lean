/-! ===== the calls between builds and runs ===== -/
section CALLS
variable {G : qG} {D d : Nat} {hc hm : qh}
theorem j_fault (w : Int32) (e1 : hc.I 0 10 = hm.I 43 3) (e2 : hc.I 0 11 = hm.I 43 4) : ∃ r, cR G (D + 1) yX10_fault [.ref 0, .int w] hc (riv r) hc ∧ mR G (d + 1) yX12_fault [.ref 43, .int w] hm (riv r) (hm.sI 43 0 0) := by
  have C : ∀ hx k, (mg hc hx).I 0 k = hc.I 0 k := fun hx k => by rw [mg_I, if_pos (by decide)]
  have M : ∀ hx k, (mg hx hm).I 43 k = hm.I 43 k := fun hx k => by rw [mg_I, if_neg (by decide)]
  by_cases w0 : w = 0
  · refine ⟨hm.I 43 3, fun hx Q hQ => x_X10_fault G D _ _ Q ⟨fun _ => ?_, fun q => absurd (w0.symm.trans q) (by decide), fun q => absurd w0 q.1⟩, fun hx Q hQ => x_X12_fault G d _ _ Q ⟨fun q => absurd w0 q, fun _ => ?_⟩⟩
    · rw [C, e1]; exact hQ
    · rw [M, mg_sI_m (by decide)]; exact hQ
  · by_cases w1 : w = 1
    · refine ⟨hm.I 43 4, fun hx Q hQ => x_X10_fault G D _ _ Q ⟨fun q => absurd q w0, fun _ => ?_, fun q => absurd w1 q.2⟩, fun hx Q hQ => x_X12_fault G d _ _ Q ⟨fun _ => ⟨fun q => absurd w1 q, fun _ => ?_⟩, fun q => absurd q w0⟩⟩
      · rw [C, e2]; exact hQ
      · rw [M, mg_sI_m (by decide)]; exact hQ
    · refine ⟨-1, fun hx Q hQ => x_X10_fault G D _ _ Q ⟨fun q => absurd q w0, fun q => absurd q w1, fun _ => hQ⟩, fun hx Q hQ => x_X12_fault G d _ _ Q ⟨fun _ => ⟨fun _ => ?_, fun q => absurd q w1⟩, fun q => absurd q w0⟩⟩
      rw [mg_sI_m (by decide)]; exact hQ
/-- build of less than nothing, or of more than there is -/
theorem j_build2 (w : Int32) (e1 : hc.I 15 1 = hm.I 43 2) (h : w < 0 ∨ ¬ w ≤ hm.I 43 2) : cR G (D + 1) yX10_build [.ref 0, .int w] hc (riv (-2)) hc ∧ mR G (d + 1) yX12_build [.ref 43, .int w] hm (riv (-2)) (hm.sI 43 0 0) := by
  constructor
  · intro hx Q hQ
    refine x_X10_build G D _ _ Q ⟨fun _ => hQ, fun q => ⟨fun q' => absurd q' ?_, fun _ => hQ⟩⟩
    rw [mg_I, if_pos (by decide), e1]
    exact h.resolve_left q
  · intro hx Q hQ
    refine x_X12_build G d _ _ Q ⟨fun _ => ?_, fun q => ⟨fun q' => absurd q' ?_, fun _ => ?_⟩⟩
    · rw [mg_sI_m (by decide)]; exact hQ
    · rw [mg_I, if_neg (by decide)]
      exact h.resolve_left q
    · rw [mg_sI_m (by decide)]; exact hQ
end CALLS
