/-! ===== the text cut into tokens: a token on both sides ===== -/
section LEXS
variable {G : qG} {d n : Nat} {B : Nat → Nat} {hc hm : qh}
theorem m_skip (L : LM' n B hm) {j : Nat} (l2 : Int32) (hx : qh) (Q : qr → qh → Prop) (H : q_N0 G m_X12_scans (d + 2) Q 13 [.ref 43, .int (Int32.ofNat j), .int l2, .null, .null, .null] [] (mg hx hm)) : ∀ k i, j - i = k → i ≤ j → (∀ x, i ≤ x → x < j → x < n ∧ blN (B x)) → q_N0 G m_X12_scans (d + 2) Q 13 [.ref 43, .int (Int32.ofNat i), .int l2, .null, .null, .null] [] (mg hx hm) := by
  intro k
  have hn := L.2.2.2
  induction k with
  | zero =>
    intro i h1 h2 hb
    obtain rfl : i = j := by omega
    exact H
  | succ k ih =>
    intro i h1 h2 hb
    obtain ⟨hi, hbi⟩ := hb i (Nat.le_refl _) (by omega)
    have IH := ih (i + 1) (by omega) (by omega) (fun x a b => hb x (by omega) b)
    have hB := L.2.2.1 i hi
    obtain ⟨-, s32, s10, -⟩ := sb_all _ hB
    refine x_X12_scans_13 G (d + 1) _ _ _ Q ?_
    simp only [mg_I, Nat.reduceLT, if_false, L.1, n_N (show i < 2147483648 by omega), L.2.1 i hi, n_add1, s32, s10]
    refine ⟨fun q => absurd ((n_le (by omega) (by omega)).mp q) (by omega), fun _ => ⟨n_in (by omega) (by omega), fun _ => IH, fun q => ⟨n_in (by omega) (by omega), fun q' => ?_, fun _ => IH⟩⟩⟩
    exact absurd hbi (by omega)
theorem m_run73 (L : LM n B hm) {s m : Nat} (hs : s + m ≤ n) (hall : ∀ x, x < m → smN (B (s + x)) ∨ dgN (B (s + x))) (l2 : Int32) (hx : qh) (Q : qr → qh → Prop) (H : q_N0 G m_X12_scans (d + 2) Q 73 [.ref 43, .int (Int32.ofNat (s + m)), .int l2, .int (Int32.ofNat s), .null, .null] [] (mg hx hm)) : ∀ k l, l + k = m → q_N0 G m_X12_scans (d + 2) Q 73 [.ref 43, .int (Int32.ofNat (s + l)), .int l2, .int (Int32.ofNat s), .null, .null] [] (mg hx hm) := by
  intro k
  have hn := L.2.2.2
  induction k with
  | zero =>
    intro l h1
    obtain rfl : l = m := by omega
    exact H
  | succ k ih =>
    intro l h1
    have IH := ih (l + 1) (by omega)
    have hl : s + l < n := by omega
    refine x_X12_scans_73 G (d + 1) _ _ _ _ Q ?_
    refine m_byte (G := G) (d := d + 1) (by omega) L (x := s + l) (by omega) hx _ ?_
    refine m_small (G := G) (d := d + 1) (by omega) (bm_sm L.2.2.1 (s + l)) hx _ ?_
    rw [n_add1]
    by_cases z : smN (B (s + l))
    · rw [if_pos (show s + l < n ∧ smN (B (s + l)) from ⟨hl, z⟩)]; exact ⟨fun _ => IH, fun q => absurd q (by decide)⟩
    · rw [if_neg (show ¬ (s + l < n ∧ smN (B (s + l))) from fun y => z y.2)]
      refine ⟨fun q => absurd rfl q, fun _ => ?_⟩
      refine m_byte (G := G) (d := d + 1) (by omega) L (x := s + l) (by omega) hx _ ?_
      refine m_digit (G := G) (d := d + 1) (by omega) (bm_dg L.2.2.1 (s + l)) hx _ ?_
      rw [if_pos (show s + l < n ∧ dgN (B (s + l)) from ⟨hl, (hall l (by omega)).resolve_left z⟩)]
      exact ⟨fun q => absurd q (by decide), fun _ => IH⟩
theorem m_run156 (L : LM n B hm) {s m : Nat} (hs : s + m ≤ n) (hall : ∀ x, x < m → dgN (B (s + x))) (l2 : Int32) (hx : qh) (Q : qr → qh → Prop) (H : q_N0 G m_X12_scans (d + 2) Q 156 [.ref 43, .int (Int32.ofNat (s + m)), .int l2, .int (Int32.ofNat s), .long (vM B s m), .null] [] (mg hx hm)) : ∀ k l, l + k = m → q_N0 G m_X12_scans (d + 2) Q 156 [.ref 43, .int (Int32.ofNat (s + l)), .int l2, .int (Int32.ofNat s), .long (vM B s l), .null] [] (mg hx hm) := by
  intro k
  have hn := L.2.2.2
  induction k with
  | zero =>
    intro l h1
    obtain rfl : l = m := by omega
    exact H
  | succ k ih =>
    intro l h1
    have IH := ih (l + 1) (by omega)
    have hl : s + l < n := by omega
    refine x_X12_scans_156 G (d + 1) _ _ _ _ _ Q ?_
    refine m_byte (G := G) (d := d + 1) (by omega) L (x := s + l) (by omega) hx _ ?_
    refine m_digit (G := G) (d := d + 1) (by omega) (bm_dg L.2.2.1 (s + l)) hx _ ?_
    rw [if_pos (show s + l < n ∧ dgN (B (s + l)) from ⟨hl, hall l (by omega)⟩)]
    refine ⟨fun q => absurd q (by decide), fun _ => ?_⟩
    refine m_byte (G := G) (d := d + 1) (by omega) L (x := s + l) (by omega) hx _ ?_
    rw [show bm n B (s + l) = Int32.ofNat (B (s + l)) from if_pos hl, n_add1]
    simp only [vM] at IH
    refine x_J9_min_f86c9 G d _ _ _ _ ⟨fun z => ?_, fun z => ?_⟩
    · rw [if_pos z] at IH; exact IH
    · rw [if_neg z] at IH; exact IH
theorem m_first (L : LM' n B hm) {s cnt : Nat} (hs : s < n) (hb : ¬ blN (B s)) (e13 : hm.I 43 13 = Int32.ofNat cnt) (hcn : cnt < 2001) (l2 v : Int32) (hx : qh) (Q : qr → qh → Prop) (hv : ¬ smN (B s) → ¬ dgN (B s) → mR G (d + 2) yX12_signAt [.ref 43, .int (Int32.ofNat s)] hm (riv v) hm)
    (H1 : smN (B s) → q_N0 G m_X12_scans (d + 3) Q 73 [.ref 43, .int (Int32.ofNat s), .int l2, .int (Int32.ofNat s), .null, .null] [] (mg hx hm))
    (H2 : ¬ smN (B s) → dgN (B s) → q_N0 G m_X12_scans (d + 3) Q 156 [.ref 43, .int (Int32.ofNat s), .int l2, .int (Int32.ofNat s), .long 0, .null] [] (mg hx hm))
    (H3 : ¬ smN (B s) → ¬ dgN (B s) → q_N0 G m_X12_scans (d + 3) Q 9 [.ref 43, .int (Int32.ofNat s + (if v ≤ 255 then (1 : Int32) else 2)), .int (if v ≤ 0 then (0 : Int32) else 1), .null, .null, .null] [] (mg hx (tokh hm cnt (if (if v ≤ 0 then (0 : Int32) else 1) = 0 then (1 : Int32) else 4) (Int32.ofNat s) v))) :
    q_N0 G m_X12_scans (d + 3) Q 13 [.ref 43, .int (Int32.ofNat s), .int l2, .null, .null, .null] [] (mg hx hm) := by
  have hn := L.2.2.2
  have hB := L.2.2.1 s hs
  obtain ⟨-, s32, s10, -⟩ := sb_all _ hB
  refine x_X12_scans_13 G (d + 2) _ _ _ Q ?_
  refine ⟨fun q => ?_, fun _ => ⟨n_in (by omega) (by omega), fun q => ?_, fun q => ⟨n_in (by omega) (by omega), fun q' => ⟨fun _ => ?_, fun q => ?_⟩, fun q => ?_⟩⟩⟩
  · simp only [mg_I, Nat.reduceLT, if_false, L.1] at q
    exact absurd ((n_le (by omega) (by omega)).mp q) (by omega)
  · simp only [mg_I, Nat.reduceLT, if_false, n_N (show s < 2147483648 by omega), L.2.1 s hs, s32] at q
    exact absurd (Or.inl q) hb
  · refine m_byte (G := G) (d := d + 2) (by omega) L.lm (x := s) (by omega) hx _ ?_
    refine m_small (G := G) (d := d + 2) (by omega) (bm_sm L.2.2.1 s) hx _ ?_
    by_cases z : smN (B s)
    · rw [if_pos (show s < n ∧ smN (B s) from ⟨hs, z⟩)]; exact ⟨fun q => absurd q (by decide), fun _ => H1 z⟩
    · rw [if_neg (show ¬ (s < n ∧ smN (B s)) from fun y => z y.2)]
      refine ⟨fun _ => ?_, fun q => absurd rfl q⟩
      refine m_byte (G := G) (d := d + 2) (by omega) L.lm (x := s) (by omega) hx _ ?_
      refine m_digit (G := G) (d := d + 2) (by omega) (bm_dg L.2.2.1 s) hx _ ?_
      by_cases z' : dgN (B s)
      · rw [if_pos (show s < n ∧ dgN (B s) from ⟨hs, z'⟩)]; exact ⟨fun q => absurd q (by decide), fun _ => H2 z z'⟩
      · rw [if_neg (show ¬ (s < n ∧ dgN (B s)) from fun y => z' y.2)]
        refine ⟨fun _ => ?_, fun q => absurd rfl q⟩
        refine hv z z' hx _ ?_
        refine m_token (G := G) (d := d + 2) (by omega) e13 hcn _ _ _ hx _ ?_
        exact H3 z z'
  · simp only [mg_I, Nat.reduceLT, if_false, L.1] at q
    exact absurd ((n_eq (by omega) (by omega)).mp q) (by omega)
  · simp only [mg_I, Nat.reduceLT, if_false, n_N (show s < 2147483648 by omega), L.2.1 s hs, s10] at q
    exact absurd (Or.inr q) hb
/-- behind a NAME -/
theorem m_end73 (L : LM n B hm) {s m cnt : Nat} (hs : s + m ≤ n) (hj : ¬ (s + m < n ∧ (smN (B (s + m)) ∨ dgN (B (s + m))))) (e13 : hm.I 43 13 = Int32.ofNat cnt) (hcn : cnt < 2001) (l2 : Int32) (hx : qh) (Q : qr → qh → Prop)
    (H1 : m ≤ 8 → q_N0 G m_X12_scans (d + 4) Q 9 [.ref 43, .int (Int32.ofNat (s + m)), .int 1, .null, .null, .null] [] (mg hx (tokh hm cnt (wr (pk B s m)) (Int32.ofNat s) (Int32.ofNat m))))
    (H2 : ¬ m ≤ 8 → q_N0 G m_X12_scans (d + 4) Q 9 [.ref 43, .int (Int32.ofNat (s + m)), .int 0, .null, .null, .null] [] (mg hx (tokh hm cnt 1 (Int32.ofNat s) (Int32.ofNat m)))) :
    q_N0 G m_X12_scans (d + 4) Q 73 [.ref 43, .int (Int32.ofNat (s + m)), .int l2, .int (Int32.ofNat s), .null, .null] [] (mg hx hm) := by
  have hn := L.2.2.2
  refine x_X12_scans_73 G (d + 3) _ _ _ _ Q ?_
  refine m_byte (G := G) (d := d + 3) (by omega) L (x := s + m) (by omega) hx _ ?_
  refine m_small (G := G) (d := d + 3) (by omega) (bm_sm L.2.2.1 (s + m)) hx _ ?_
  rw [if_neg (show ¬ (s + m < n ∧ smN (B (s + m))) from fun y => hj ⟨y.1, Or.inl y.2⟩)]
  refine ⟨fun q => absurd rfl q, fun _ => ?_⟩
  refine m_byte (G := G) (d := d + 3) (by omega) L (x := s + m) (by omega) hx _ ?_
  refine m_digit (G := G) (d := d + 3) (by omega) (bm_dg L.2.2.1 (s + m)) hx _ ?_
  rw [if_neg (show ¬ (s + m < n ∧ dgN (B (s + m))) from fun y => hj ⟨y.1, Or.inr y.2⟩)]
  refine ⟨fun _ => ?_, fun q => absurd rfl q⟩
  rw [n_sub (by omega), Nat.add_sub_cancel_left]
  have e8 : (8 : Int32) < Int32.ofNat m ↔ ¬ m ≤ 8 := by
    rw [show (8 : Int32) = Int32.ofNat 8 from rfl, n_lt (by omega) (by omega)]; omega
  by_cases z : m ≤ 8
  · rw [if_neg (show ¬ (8 : Int32) < Int32.ofNat m from fun q => (e8.mp q) z)]
    refine ⟨fun q => absurd q (by decide), fun _ => ?_⟩
    refine m_wordOf (G := G) (d := d + 3) (by omega) L hs hx _ ?_
    refine m_token (G := G) (d := d + 3) (by omega) e13 hcn _ _ _ hx _ ?_
    exact H1 z
  · rw [if_pos (e8.mpr z)]
    refine ⟨fun _ => ?_, fun q => absurd rfl q⟩
    refine m_token (G := G) (d := d + 3) (by omega) e13 hcn _ _ _ hx _ ?_
    exact H2 z
/-- behind a NUMBER -/
theorem m_end156 (L : LM n B hm) {s m cnt : Nat} (hs : s + m ≤ n) (hj : ¬ (s + m < n ∧ dgN (B (s + m)))) (hall : ∀ x, x < m → dgN (B (s + x))) (e13 : hm.I 43 13 = Int32.ofNat cnt) (hcn : cnt < 2001) (l2 : Int32) (hx : qh) (Q : qr → qh → Prop)
    (H1 : ¬ (2147483647 < nv B s m ∨ (s + m < n ∧ smN (B (s + m)))) → q_N0 G m_X12_scans (d + 4) Q 9 [.ref 43, .int (Int32.ofNat (s + m)), .int 1, .null, .null, .null] [] (mg hx (tokh hm cnt 3 (Int32.ofNat s) (vM B s m).toInt32)))
    (H2 : (2147483647 < nv B s m ∨ (s + m < n ∧ smN (B (s + m)))) → q_N0 G m_X12_scans (d + 4) Q 9 [.ref 43, .int (Int32.ofNat (s + m)), .int 0, .null, .null, .null] [] (mg hx (tokh hm cnt 1 (Int32.ofNat s) (vM B s m).toInt32))) :
    q_N0 G m_X12_scans (d + 4) Q 156 [.ref 43, .int (Int32.ofNat (s + m)), .int l2, .int (Int32.ofNat s), .long (vM B s m), .null] [] (mg hx hm) := by
  have hn := L.2.2.2
  refine x_X12_scans_156 G (d + 3) _ _ _ _ _ Q ?_
  refine m_byte (G := G) (d := d + 3) (by omega) L (x := s + m) (by omega) hx _ ?_
  refine m_digit (G := G) (d := d + 3) (by omega) (bm_dg L.2.2.1 (s + m)) hx _ ?_
  rw [if_neg hj]
  refine ⟨fun _ => ⟨fun q => ?_, fun q => ?_⟩, fun q => absurd rfl q⟩
  · refine m_token (G := G) (d := d + 3) (by omega) e13 hcn _ _ _ hx _ ?_
    exact H2 (Or.inl ((vM_gt hall).mp q))
  · refine m_byte (G := G) (d := d + 3) (by omega) L (x := s + m) (by omega) hx _ ?_
    refine m_small (G := G) (d := d + 3) (by omega) (bm_sm L.2.2.1 (s + m)) hx _ ?_
    refine m_token (G := G) (d := d + 3) (by omega) e13 hcn _ _ _ hx _ ?_
    by_cases z : s + m < n ∧ smN (B (s + m))
    · rw [if_pos z]; exact H2 (Or.inr z)
    · rw [if_neg z]; exact H1 (fun y => y.elim (fun u => q ((vM_gt hall).mpr u)) z)
end LEXS
