/-! ===== four bytes more ===== -/
section FOUR
variable {G : qG} {D d u : Nat} {B : Nat → Nat} {hc hm : qh}
theorem tp_step (t : TP u B hc hm) (hu : u < 2000) (w l l' : Int32) (hl : ¬ l < 0) (e : l + (-8) = l') : ∃ B' hc' hm', (∀ (hx : qh) (Q : qr → qh → Prop), q_N0 G m_X7_add (D + 1) Q 3 [.ref 15, .int w, .int l'] [] (mg hc' hx) → q_N0 G m_X7_add (D + 1) Q 3 [.ref 15, .int w, .int l] [] (mg hc hx)) ∧ (∀ (hx : qh) (Q : qr → qh → Prop), q_N0 G m_X12_four (d + 1) Q 3 [.ref 43, .int w, .int l'] [] (mg hx hm') → q_N0 G m_X12_four (d + 1) Q 3 [.ref 43, .int w, .int l] [] (mg hx hm)) ∧ TP (u + 1) B' hc' hm' ∧ TFc hc hc' ∧ TFm hm hm' := by
  obtain ⟨c, h1, h2⟩ := by8' ((w >>> (l &&& 31)).toInt8)
  refine ⟨_, _, _, fun hx Q H => ?_, fun hx Q H => ?_, t.add hu h1, ⟨fun o a b => ?_, fun k a => ?_, rfl, rfl⟩, ⟨fun o a b => ?_, fun k a => ?_, rfl, rfl⟩⟩
  · have f : (mg hc hx).I 15 1 = Int32.ofNat u := by rw [mg_I, if_pos (by decide)]; exact t.1
    refine x_X7_add_3 G D _ _ _ Q ⟨fun q => absurd q hl, fun _ => ⟨fun q => ?_, fun _ => ?_⟩⟩
    · rw [f] at q
      exact absurd ((n_le (a := 2000) (by omega) (by omega)).mp q) (by omega)
    · rw [f, n_N (by omega), n_add1, h2, e, mg_sI_c (by decide), mg_sI_c (by decide)]
      exact ⟨n_in (by omega) hu, H⟩
  · have f : (mg hx hm).I 43 2 = Int32.ofNat u := by rw [mg_I, if_neg (by decide)]; exact t.2.1
    refine x_X12_four_3 G d _ _ _ Q ⟨fun q => absurd q hl, fun _ => ?_⟩
    rw [f, n_N (by omega), n_add1, h2, e, mg_sI_m (by decide), mg_sI_m (by decide)]
    exact ⟨n_in (by omega) hu, H⟩
  · rw [sI_row _ a, sI_row _ b]
  · simp only [sI_I, Nat.reduceEqDiff, false_and, a, and_false, if_false]
  · rw [sI_row _ a, sI_row _ b]
  · simp only [sI_I, Nat.reduceEqDiff, false_and, a, and_false, if_false]
end FOUR
