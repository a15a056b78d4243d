/-! ===== the reference, just before it reads a PROGRAM ===== -/
def mS0 (h : qh) : qh := (((((h.sI 43 14 0).sI 43 15 0).sI 43 27 0).sI 43 40 0).sI 43 17 0).sI 43 19 0
def mS1 (p : Nat) (h : qh) : qh := (((((((h.sI p 0 0).sI p 1 0).sI p 2 0).sI p 3 0).sI p 4 0).sI p 5 0).sI p 6 0).sI p 7 (-1)
theorem mS_f {p : Nat} (hp : q_prg p) (h : qh) : (∀ o, o ≠ 43 → o ≠ p → (mS1 p (mS0 h)).I o = h.I o) ∧ (∀ k, k ≠ 14 → k ≠ 15 → k ≠ 17 → k ≠ 19 → k ≠ 27 → k ≠ 40 → (mS1 p (mS0 h)).I 43 k = h.I 43 k) ∧ (mS1 p (mS0 h)).L = h.L ∧ (mS1 p (mS0 h)).R = h.R := by
  have := prg_lt hp
  refine ⟨fun o e1 e2 => ?_, fun k a b c d e f => ?_, rfl, rfl⟩
  · unfold mS1 mS0
    rw [sI_row _ e2, sI_row _ e2, sI_row _ e2, sI_row _ e2, sI_row _ e2, sI_row _ e2, sI_row _ e2, sI_row _ e2, sI_row _ e1, sI_row _ e1, sI_row _ e1, sI_row _ e1, sI_row _ e1, sI_row _ e1]
  · have n43 : (43 : Nat) ≠ p := by omega
    unfold mS1 mS0
    rw [sI_row _ n43, sI_row _ n43, sI_row _ n43, sI_row _ n43, sI_row _ n43, sI_row _ n43, sI_row _ n43, sI_row _ n43]
    simp only [sI_I, a, b, c, d, e, f, and_false, if_false]
theorem m_start {T : tkD} {p e : Nat} (hp : q_prg p) {hm : qh} (k1 : hm.I 46 = T.tx) (k2 : hm.I 47 = T.km) (k3 : hm.I 48 = T.fm) (k4 : hm.I 49 = T.vm) (r1 : hm.R 43 22 = some p) (r2 : hm.R 43 42 = some e) : MSt T p e 0 0 0 (-1) 0 [] [] 0 0 0 0 (mS1 p (mS0 hm)) ∧ (mS1 p (mS0 hm)).I p 0 = Int32.ofNat 0 ∧ (mS1 p (mS0 hm)).I p 1 = Int32.ofNat 0 := by
  obtain ⟨f1, -, -, f4⟩ := mS_f hp hm
  have f1' : ∀ o, 46 ≤ o → o ≤ 49 → (mS1 p (mS0 hm)).I o = hm.I o := fun o a b => f1 o (by omega) (by have := prg_lt hp; omega)
  refine ⟨⟨⟨⟨⟨?_, ?_, ?_, fun q => absurd rfl q, ?_⟩, (f1' 46 (by omega) (by omega)).trans k1, (f1' 47 (by omega) (by omega)).trans k2, (f1' 48 (by omega) (by omega)).trans k3, (f1' 49 (by omega) (by omega)).trans k4⟩, ⟨?_, trivial⟩, ?_, ⟨?_, Nat.zero_le _, trivial, fun x hx => absurd hx (by simp)⟩, by rw [f4]; exact r1, by rw [f4]; exact r2⟩, ?_, ?_, ?_, ?_⟩, ?_, ?_⟩
  all_goals (rcases hp with rfl | rfl <;> rfl)
section START
variable {G : qG} {d : Nat} {hm : qh}
theorem m_clearP (hd : 1 ≤ d) {p : Nat} (hp : q_prg p) (hm : qh) : mR G d yX11_clear [.ref p] hm rvv (mS1 p hm) := by
  obtain ⟨d, rfl⟩ := Nat.exists_eq_add_of_le' hd
  have := prg_lt hp
  have h43 : 43 ≤ p := by omega
  intro hx Q hQ
  refine x_X11_clear G d p _ Q hp ?_
  rw [mg_sI_m h43, mg_sI_m h43, mg_sI_m h43, mg_sI_m h43, mg_sI_m h43, mg_sI_m h43, mg_sI_m h43, mg_sI_m h43]
  exact hQ
theorem c_forget (hd : 2 ≤ d) (hc : qh) : cR G d yX9_forget [.ref 38] hc rvv (((((((hc.sI 31 6 0).sI 31 7 0).sI 31 8 0).sI 37 1 0).sI 38 9 (-1)).sI 38 10 0).sI 38 11 0) := by
  obtain ⟨d, rfl⟩ := Nat.exists_eq_add_of_le' hd
  intro hx Q hQ
  refine x_X9_forget G (d + 1) _ Q ?_
  refine x_X3_begin G d _ _ ?_
  show Q rvv _
  rw [mg_sI_c (by decide), mg_sI_c (by decide), mg_sI_c (by decide), mg_sI_c (by decide), mg_sI_c (by decide), mg_sI_c (by decide), mg_sI_c (by decide)]
  exact hQ
end START
