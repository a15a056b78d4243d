/-! ===== what build clears, and the text that it copies ===== -/
/-- only the rows of this cell have changed -/
def F1 (o : Nat) (h h' : qh) : Prop := (∀ p, p ≠ o → h'.I p = h.I p) ∧ h'.L = h.L ∧ h'.R = h.R
theorem F1.rf (o : Nat) (h : qh) : F1 o h h := ⟨fun _ _ => rfl, rfl, rfl⟩
theorem F1.tr {o : Nat} {a b c : qh} (x : F1 o a b) (y : F1 o b c) : F1 o a c := ⟨fun p e => (y.1 p e).trans (x.1 p e), y.2.1.trans x.2.1, y.2.2.trans x.2.2⟩
theorem F1.sI (o : Nat) (h : qh) (k : Nat) (v : Int32) : F1 o h (h.sI o k v) := ⟨fun _ e => sI_row _ e, rfl, rfl⟩
section FILLS
variable {G : qG} {d : Nat} {hc hm : qh}
theorem c_fill32_5 : ∀ k i (hc : qh), i + k = 2048 → (∀ x, x < i → hc.I 32 x = 0) → ∃ hc' : qh, (∀ (hx : qh) (Q : qr → qh → Prop), Q rvv (mg hc' hx) → q_N0 G m_J7_fill_53178 (d + 1) Q 5 [.ref 32, .int 0, .int (Int32.ofNat i), .int 2048] [] (mg hc hx)) ∧ (∀ x, x < 2048 → hc'.I 32 x = 0) ∧ F1 32 hc hc' := by
  intro k
  induction k with
  | zero =>
    intro i hc h1 h0
    obtain rfl : i = 2048 := by omega
    exact ⟨hc, fun hx Q hQ => f_fill_5 G d _ _ _ _ Q ⟨fun _ => hQ, fun q => absurd ((n_le (a := 2048) (b := 2048) (by omega) (by omega)).mpr (Nat.le_refl _)) q⟩, h0, F1.rf _ _⟩
  | succ k ih =>
    intro i hc h1 h0
    obtain ⟨h', a, b, c⟩ := ih (i + 1) (hc.sI 32 i 0) (by omega) (fun x hx => by
      rw [sI_I]
      by_cases z : x = i
      · rw [if_pos ⟨rfl, z⟩]
      · rw [if_neg (fun q => z q.2)]; exact h0 x (by omega))
    refine ⟨h', fun hx Q hQ => f_fill_5 G d _ _ _ _ Q ⟨fun q => absurd ((n_le (a := 2048) (by omega) (by omega)).mp q) (by omega), fun _ => ⟨n_in (by omega) (by omega), ?_⟩⟩, b, (F1.sI _ _ _ _).tr c⟩
    rw [n_N (by omega), n_add1, mg_sI_c (by decide)]
    exact a hx Q hQ
theorem c_fill32 (hd : 1 ≤ d) (hc : qh) : ∃ hc', cR G d yJ7_fill_53178 [.ref 32, .int 0] hc rvv hc' ∧ (∀ x, x < 2048 → hc'.I 32 x = 0) ∧ F1 32 hc hc' := by
  obtain ⟨d, rfl⟩ := Nat.exists_eq_add_of_le' hd
  obtain ⟨h', a, b, c⟩ := c_fill32_5 (G := G) (d := d) 2048 0 hc rfl (fun x hx => absurd hx (by omega))
  exact ⟨h', fun hx Q hQ => f_fill G d _ _ Q (a hx Q hQ), b, c⟩
theorem c_fill42_5 : ∀ k i (hc : qh), i + k = 4 → (∀ x, x < i → hc.I 42 x = 0) → ∃ hc' : qh, (∀ (hx : qh) (Q : qr → qh → Prop), Q rvv (mg hc' hx) → q_N0 G m_J7_fill_53178 (d + 1) Q 5 [.ref 42, .int 0, .int (Int32.ofNat i), .int 4] [] (mg hc hx)) ∧ (∀ x, x < 4 → hc'.I 42 x = 0) ∧ F1 42 hc hc' := by
  intro k
  induction k with
  | zero =>
    intro i hc h1 h0
    obtain rfl : i = 4 := by omega
    exact ⟨hc, fun hx Q hQ => x_J7_fill_53178_5 G d _ _ _ _ Q ⟨fun _ => hQ, fun q => absurd ((n_le (a := 4) (b := 4) (by omega) (by omega)).mpr (Nat.le_refl _)) q⟩, h0, F1.rf _ _⟩
  | succ k ih =>
    intro i hc h1 h0
    obtain ⟨h', a, b, c⟩ := ih (i + 1) (hc.sI 42 i 0) (by omega) (fun x hx => by
      rw [sI_I]
      by_cases z : x = i
      · rw [if_pos ⟨rfl, z⟩]
      · rw [if_neg (fun q => z q.2)]; exact h0 x (by omega))
    refine ⟨h', fun hx Q hQ => x_J7_fill_53178_5 G d _ _ _ _ Q ⟨fun q => absurd ((n_le (a := 4) (by omega) (by omega)).mp q) (by omega), fun _ => ⟨n_in (by omega) (by omega), ?_⟩⟩, b, (F1.sI _ _ _ _).tr c⟩
    rw [n_N (by omega), n_add1, mg_sI_c (by decide)]
    exact a hx Q hQ
theorem c_fill42 (hd : 1 ≤ d) (hc : qh) : ∃ hc', cR G d yJ7_fill_53178 [.ref 42, .int 0] hc rvv hc' ∧ (∀ x, x < 4 → hc'.I 42 x = 0) ∧ F1 42 hc hc' := by
  obtain ⟨d, rfl⟩ := Nat.exists_eq_add_of_le' hd
  obtain ⟨h', a, b, c⟩ := c_fill42_5 (G := G) (d := d) 4 0 hc rfl (fun x hx => absurd hx (by omega))
  exact ⟨h', fun hx Q hQ => x_J7_fill_53178 G d _ _ Q (a hx Q hQ), b, c⟩
theorem c_clear (hd : 2 ≤ d) (hc : qh) : ∃ hc', cR G d yX3_clear [.ref 31] hc rvv hc' ∧ (∀ x, x < 2048 → hc'.I 32 x = 0) ∧ F1 32 hc hc' := by
  obtain ⟨d, rfl⟩ := Nat.exists_eq_add_of_le' hd
  obtain ⟨h', a, b, c⟩ := c_fill32 (G := G) (d := d + 1) (by omega) hc
  exact ⟨h', fun hx Q hQ => x_X3_clear G (d + 1) _ Q (a hx _ hQ), b, c⟩
/-- the reference: memory and given are cleared -/
theorem m_clr247 {p e : Nat} (hp : q_prg p) (he : q_end e) (l1 : Int32) : ∀ k i (hm : qh), i + k = 4 → (∀ x, x < i → hm.I 77 x = 0) → ∃ hm' : qh, (∀ (hx : qh) (Q : qr → qh → Prop), Q (riv 0) (mg hx hm') → q_N0 G m_X12_build (d + 1) Q 247 [.ref 43, .int l1, .ref p, .ref e, .int (Int32.ofNat i)] [] (mg hx hm)) ∧ (∀ x, x < 4 → hm'.I 77 x = 0) ∧ F1 77 hm hm' := by
  intro k
  induction k with
  | zero =>
    intro i hm h1 h0
    obtain rfl : i = 4 := by omega
    exact ⟨hm, fun hx Q hQ => x_X12_build_247 G d _ _ _ _ _ Q hp he ⟨fun _ => hQ, fun q => absurd ((n_le (a := 4) (b := 4) (by omega) (by omega)).mpr (Nat.le_refl _)) q⟩, h0, F1.rf _ _⟩
  | succ k ih =>
    intro i hm h1 h0
    obtain ⟨h', a, b, c⟩ := ih (i + 1) (hm.sI 77 i 0) (by omega) (fun x hx => by
      rw [sI_I]
      by_cases z : x = i
      · rw [if_pos ⟨rfl, z⟩]
      · rw [if_neg (fun q => z q.2)]; exact h0 x (by omega))
    refine ⟨h', fun hx Q hQ => x_X12_build_247 G d _ _ _ _ _ Q hp he ⟨fun q => absurd ((n_le (a := 4) (by omega) (by omega)).mp q) (by omega), fun _ => ⟨n_in (by omega) (by omega), ?_⟩⟩, b, (F1.sI _ _ _ _).tr c⟩
    rw [n_N (by omega), n_add1, mg_sI_m (by decide)]
    exact a hx Q hQ
theorem m_clr222 {p e : Nat} (hp : q_prg p) (he : q_end e) (l1 : Int32) : ∀ k i (hm : qh), i + k = 2048 → (∀ x, x < i → hm.I 76 x = 0) → ∃ hm' : qh, (∀ (hx : qh) (Q : qr → qh → Prop), Q (riv 0) (mg hx hm') → q_N0 G m_X12_build (d + 1) Q 222 [.ref 43, .int l1, .ref p, .ref e, .int (Int32.ofNat i)] [] (mg hx hm)) ∧ (∀ x, x < 2048 → hm'.I 76 x = 0) ∧ (∀ x, x < 4 → hm'.I 77 x = 0) ∧ (∀ o, o ≠ 76 → o ≠ 77 → hm'.I o = hm.I o) ∧ hm'.L = hm.L ∧ hm'.R = hm.R := by
  intro k
  induction k with
  | zero =>
    intro i hm h1 h0
    obtain rfl : i = 2048 := by omega
    obtain ⟨h', a, b, c⟩ := m_clr247 (G := G) (d := d) hp he l1 4 0 hm rfl (fun x hx => absurd hx (by omega))
    refine ⟨h', fun hx Q hQ => x_X12_build_222 G d _ _ _ _ _ Q hp he ⟨fun _ => a hx Q hQ, fun q => absurd ((n_le (a := 2048) (b := 2048) (by omega) (by omega)).mpr (Nat.le_refl _)) q⟩, fun x hx => by rw [c.1 76 (by decide)]; exact h0 x hx, b, fun o _ e2 => c.1 o e2, c.2.1, c.2.2⟩
  | succ k ih =>
    intro i hm h1 h0
    obtain ⟨h', a, b, b2, c, c2, c3⟩ := ih (i + 1) (hm.sI 76 i 0) (by omega) (fun x hx => by
      rw [sI_I]
      by_cases z : x = i
      · rw [if_pos ⟨rfl, z⟩]
      · rw [if_neg (fun q => z q.2)]; exact h0 x (by omega))
    refine ⟨h', fun hx Q hQ => x_X12_build_222 G d _ _ _ _ _ Q hp he ⟨fun q => absurd ((n_le (a := 2048) (by omega) (by omega)).mp q) (by omega), fun _ => ⟨n_in (by omega) (by omega), ?_⟩⟩, b, b2, fun o e1 e2 => (c o e1 e2).trans (sI_row _ e1), c2, c3⟩
    rw [n_N (by omega), n_add1, mg_sI_m (by decide)]
    exact a hx Q hQ
/-- the reference copies the tape -/
theorem m_copy {n : Nat} (hn : n ≤ 2000) : ∀ k i (hm : qh), i + k = n → ∃ hm' : qh, (∀ (hx : qh) (Q : qr → qh → Prop), q_N0 G m_X12_build (d + 1) Q 27 [.ref 43, .int (Int32.ofNat n), .int (Int32.ofNat n), .null, .null] [] (mg hx hm') → q_N0 G m_X12_build (d + 1) Q 27 [.ref 43, .int (Int32.ofNat n), .int (Int32.ofNat i), .null, .null] [] (mg hx hm)) ∧ (∀ x, i ≤ x → x < n → hm'.I 46 x = (hm.I 44 x).toInt8.toInt32) ∧ (∀ x, x < i → hm'.I 46 x = hm.I 46 x) ∧ F1 46 hm hm' := by
  intro k
  induction k with
  | zero =>
    intro i hm h1
    obtain rfl : i = n := by omega
    exact ⟨hm, fun hx Q hQ => hQ, fun x a b => absurd a (by omega), fun _ _ => rfl, F1.rf _ _⟩
  | succ k ih =>
    intro i hm h1
    obtain ⟨h', a, b, b2, c⟩ := ih (i + 1) (hm.sI 46 i ((hm.I 44 i).toInt8.toInt32)) (by omega)
    refine ⟨h', fun hx Q hQ => x_X12_build_27 G d _ _ _ Q ⟨fun q => absurd ((n_le (by omega) (by omega)).mp q) (by omega), fun _ => ⟨n_in (by omega) (by omega), n_in (by omega) (by omega), ?_⟩⟩, fun x x1 x2 => ?_, fun x hx => ?_, (F1.sI _ _ _ _).tr c⟩
    · rw [n_N (by omega), n_add1, mg_I, if_neg (by decide), mg_sI_m (by decide)]
      exact a hx Q hQ
    · rcases Nat.lt_or_ge i x with z | z
      · rw [b x (by omega) x2, sI_row _ (by decide)]
      · obtain rfl : x = i := by omega
        rw [b2 x (by omega), sI_I, if_pos ⟨rfl, rfl⟩]
    · rw [b2 x (by omega), sI_I, if_neg (fun q => absurd q.2 (by omega))]
end FILLS
