/-! ===== a made PROGRAM stays, while other cells change ===== -/
theorem PR.to {c p e na np nv nl P jn : Nat} {hc hm hc' hm' : qh} (x : PR c p e na np nv nl P jn hc hm) (e1 : ∀ o, c ≤ o → o ≤ c + 6 → hc'.I o = hc.I o) (e2 : ∀ o, p ≤ o → o ≤ p + 10 → hm'.I o = hm.I o) (e3 : hm'.I e = hm.I e) : PR c p e na np nv nl P jn hc' hm' := by
  obtain ⟨x1, x2, x3, x4, x5, x6, L, st, N, b, y1, y2, y3, y4, y5, y6, y7⟩ := x
  have ec := e1 c (by omega) (by omega)
  have ep := e2 p (by omega) (by omega)
  have pa : ∀ i, pAt hc' c i = pAt hc c i := fun i => by
    unfold pAt
    rw [e1 (c + 1) (by omega) (by omega), e1 (c + 2) (by omega) (by omega), e1 (c + 3) (by omega) (by omega), e1 (c + 4) (by omega) (by omega)]
  unfold PR
  rw [ec, ep, e1 (c + 6) (by omega) (by omega), e2 (p + 1) (by omega) (by omega)]
  refine ⟨x1, x2, x3, x4, x5, x6, L, st, N, b, y1, y2, (pa _).trans y3, ?_, (pa _).trans y5, (pa _).trans y6, y7⟩
  refine (LC.to' (s0 := 0) (B := b) (Nat.le_refl _) (fun o h1 h2 i _ _ => by rw [e2 (p + o) (by omega) (by omega)]) (fun V V' s a b' hV _ hs hb h => SC.to (B := b) (fun _ z => z) (Nat.le_refl _) (Nat.le_refl _) (Nat.le_refl _) (Nat.le_refl _) 16 V V' s a b' (-1) (-1) hV hs hb ?_ h) (fun V s a b' h => ?_) L _ _ _ _ _ _ (fun _ z => z) (fun _ _ => Nat.zero_le _) (Nat.le_refl _) y4).1
  · refine ⟨fun i _ => pa i, fun i _ => ?_, fun i _ => by rw [e3], fun j _ _ => by rw [e1 (c + 5) (by omega) (by omega)], fun o h1 h2 i _ _ => by rw [e2 (p + o) (by omega) (by omega)], fun i _ _ => by rw [e2 (p + 8) (by omega) (by omega)]⟩
    unfold cAt
    rw [e2 (p + 9) (by omega) (by omega), e2 (p + 10) (by omega) (by omega)]
  · rcases SC.le _ _ _ _ _ _ _ h with q | q
    · exact Nat.le_of_lt q
    · exact q
