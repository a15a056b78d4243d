/-! ===== cut against scans: the loop ===== -/
section JCUT
variable {G : qG} {D d n : Nat} {B : Nat → Nat}
theorem j_cutEnd {i cnt : Nat} {hc hm : qh} (hin : i ≤ n) (hci : cnt ≤ i) (L : LB n B hc) (M : LM' n B hm) (c5 : hc.I 17 5 = Int32.ofNat i) (c6 : hc.I 17 6 = Int32.ofNat cnt) (m13 : hm.I 43 13 = Int32.ofNat cnt) (X : LXr n B cnt i (hc.I 18) (hc.I 19) (hc.L 20) (hm.I 47) (hm.I 48) (hm.I 49)) (l1 l2 : Int32) (n0 : l2 ≠ 0) (n1 : l2 ≠ 1) (s2 : n ≤ n) (s3 : ∀ x, i ≤ x → x < n → x < n ∧ blN (B x)) :
    J (fun hx Q => q_N0 G m_X8_cut (D + 7) Q 17 [.ref 17, .int l1, .int l2] [] (mg hc hx)) (fun hx Q => q_N0 G m_X12_scans (d + 4) Q 9 [.ref 43, .int (Int32.ofNat i), .int 1, .null, .null, .null] [] (mg hx hm)) (cutP hc hm) := by
  have hn := L.2.2.2
  have hcl : cnt < 2001 := by omega
  have s4 : ¬ (n < n ∧ blN (B n)) := fun q => absurd q.1 (by omega)
  have C : cR G (D + 6) yX8_cutToken [.ref 17, .int (bc n B n)] ((hc.sI 17 5 (Int32.ofNat n)).sI 19 cnt (Int32.ofNat n)) (riv 0) (hcE ((hc.sI 17 5 (Int32.ofNat n)).sI 19 cnt (Int32.ofNat n)) cnt n none) := by
    intro hx Q hQ
    have id2 : ((hc.sI 17 5 (Int32.ofNat n)).sI 19 cnt (Int32.ofNat n)).sI 17 5 (Int32.ofNat n) = (hc.sI 17 5 (Int32.ofNat n)).sI 19 cnt (Int32.ofNat n) := sI_id _ _ _ _ (by simp only [sI_I, Nat.reduceEqDiff, false_and, if_false, and_self, if_true])
    simp only [hcE, id2] at hQ
    refine x_X8_cutToken G (D + 5) _ _ Q ⟨fun q => absurd (if_neg (by omega)) q, fun _ => hQ⟩
  obtain ⟨f1, f2, f3, f4, f5, f6, f7, f8⟩ := hc3_f hc n cnt n none 0
  obtain ⟨g1, g2, g3, g4, g5, g6⟩ := tokh_f hm cnt 0 (Int32.ofNat n) 0
  have old : ∀ x, x < cnt → (hc3 hc n cnt n none 0).I 18 x = hc.I 18 x ∧ (hc3 hc n cnt n none 0).I 19 x = hc.I 19 x ∧ (hc3 hc n cnt n none 0).L 20 x = hc.L 20 x ∧ (tokh hm cnt 0 (Int32.ofNat n) 0).I 47 x = hm.I 47 x ∧ (tokh hm cnt 0 (Int32.ofNat n) 0).I 48 x = hm.I 48 x ∧ (tokh hm cnt 0 (Int32.ofNat n) 0).I 49 x = hm.I 49 x := fun x hx => by
    obtain ⟨a1, a2, a3⟩ := f5 x (by omega)
    obtain ⟨b1, b2, b3⟩ := g3 x (by omega)
    exact ⟨a1, a2, a3, b1, b2, b3⟩
  refine J.c (fun hx Q H => c_round L c5 c6 hin s2 s3 s4 hcl (l1 := l1) (l2 := l2) n0 n1 C hx Q H) ?_
  have tk := m_token (G := G) (d := d + 3) (by omega) m13 hcl 0 (Int32.ofNat n) 0
  have R' : ∀ (hx : qh) (Q : qr → qh → Prop), Q rvv (mg hx (tokh hm cnt 0 (Int32.ofNat n) 0)) → q_N0 G m_X12_scans (d + 4) Q 9 [.ref 43, .int (Int32.ofNat i), .int 1, .null, .null, .null] [] (mg hx hm) := fun hx Q H => by
    refine x_X12_scans_9 G (d + 3) _ _ _ Q ⟨fun q => absurd q (by decide), fun _ => m_skip (d := d + 2) M 1 hx Q ?_ (n - i) i rfl hin s3⟩
    have e9 : (mg hx hm).I 43 9 = Int32.ofNat n := by
      simp only [mg_I, Nat.reduceLT, if_false, M.1]
    refine x_X12_scans_13 G (d + 3) _ _ _ Q ⟨fun _ => ⟨fun q => absurd e9.symm q, fun _ => ⟨fun q => absurd q (by decide), fun _ => ?_⟩⟩, fun q => absurd ?_ q⟩
    · rw [e9]
      exact tk hx _ H
    · rw [e9]
      exact (n_le (by omega) (by omega)).mpr (Nat.le_refl _)
  refine J.m R' ?_
  refine J.c (fun hx Q H => x_X8_cut_17 G (D + 6) _ _ _ Q ⟨fun _ => H, fun q => absurd rfl q⟩) ?_
  exact J.end ⟨rfl, rfl, f1, g1, mkT cnt _ _ _ _ _ _ _, X.fin hn L.2.2.1 (tx := hm.I 46) M.2.1 (by omega) (Or.inl rfl) hin s2 old f6 f7 g4 g5, ⟨f4, rfl, rfl, rfl⟩, g1.1 46 (by decide) (by decide) (by decide) (by decide), rfl, rfl, rfl⟩
theorem j_cut17 : ∀ k i cnt (hc hm : qh), n - i ≤ k → i ≤ n → cnt ≤ i → LB n B hc → LM' n B hm → hc.I 17 5 = Int32.ofNat i → hc.I 17 6 = Int32.ofNat cnt → hm.I 43 13 = Int32.ofNat cnt → LXr n B cnt i (hc.I 18) (hc.I 19) (hc.L 20) (hm.I 47) (hm.I 48) (hm.I 49) → ∀ l1 l2 : Int32, l2 ≠ 0 → l2 ≠ 1 →
    J (fun hx Q => q_N0 G m_X8_cut (D + 7) Q 17 [.ref 17, .int l1, .int l2] [] (mg hc hx)) (fun hx Q => q_N0 G m_X12_scans (d + 4) Q 9 [.ref 43, .int (Int32.ofNat i), .int 1, .null, .null, .null] [] (mg hx hm)) (cutP hc hm) := by
  intro k
  induction k with
  | zero =>
    intro i cnt hc hm hk hin hci L M c5 c6 m13 X l1 l2 n0 n1
    exact j_cutEnd hin hci L M c5 c6 m13 X l1 l2 n0 n1 (Nat.le_refl _) (fun x a b => absurd a (by omega))
  | succ k ih =>
    intro i cnt hc hm hk hin hci L M c5 c6 m13 X l1 l2 n0 n1
    have hn := L.2.2.2
    obtain ⟨s, s1, s2, s3, s4⟩ := run_ex (n := n) (fun x => x < n ∧ blN (B x)) (fun x h => h.1) (n - i) i rfl hin
    rcases Nat.lt_or_ge s n with hs | hs
    · -- a token
      have L2 : LB n B ((hc.sI 17 5 (Int32.ofNat s)).sI 19 cnt (Int32.ofNat s)) := L
      obtain ⟨e, e', kc, V, kr, vr, C, R, ee, t⟩ := tok_one (G := G) (D := D) (d := d) (hc := (hc.sI 17 5 (Int32.ofNat s)).sI 19 cnt (Int32.ofNat s)) L2 M hs (fun q => s4 ⟨hs, q⟩) (by simp only [sI_I, Nat.reduceEqDiff, and_false, false_and, if_false, c6]) m13 (by omega)
      have id2 : ((hc.sI 17 5 (Int32.ofNat s)).sI 19 cnt (Int32.ofNat s)).sI 17 5 (Int32.ofNat s) = (hc.sI 17 5 (Int32.ofNat s)).sI 19 cnt (Int32.ofNat s) := sI_id _ _ _ _ (by simp only [sI_I, Nat.reduceEqDiff, false_and, if_false, and_self, if_true])
      rw [id2] at C
      obtain ⟨f1, f2, f3, f4, f5, f6, f7, f8⟩ := hc3_f hc s cnt e V kc
      obtain ⟨g1, g2, g3, g4, g5, g6⟩ := tokh_f hm cnt kr (Int32.ofNat s) vr
      have old : ∀ x, x < cnt → (hc3 hc s cnt e V kc).I 18 x = hc.I 18 x ∧ (hc3 hc s cnt e V kc).I 19 x = hc.I 19 x ∧ (hc3 hc s cnt e V kc).L 20 x = hc.L 20 x ∧ (tokh hm cnt kr (Int32.ofNat s) vr).I 47 x = hm.I 47 x ∧ (tokh hm cnt kr (Int32.ofNat s) vr).I 48 x = hm.I 48 x ∧ (tokh hm cnt kr (Int32.ofNat s) vr).I 49 x = hm.I 49 x := fun x hx => by
        obtain ⟨a1, a2, a3⟩ := f5 x (by omega)
        obtain ⟨b1, b2, b3⟩ := g3 x (by omega)
        exact ⟨a1, a2, a3, b1, b2, b3⟩
      have hcl : cnt < 2001 := by omega
      refine J.c (fun hx Q H => c_round L c5 c6 s1 s2 s3 s4 hcl (l1 := l1) (l2 := l2) n0 n1 C hx Q H) ?_
      have R' : ∀ hx Q, q_N0 G m_X12_scans (d + 4) Q 9 [.ref 43, .int (Int32.ofNat e'), .int (if kc = 1 then 0 else 1), .null, .null, .null] [] (mg hx (tokh hm cnt kr (Int32.ofNat s) vr)) → q_N0 G m_X12_scans (d + 4) Q 9 [.ref 43, .int (Int32.ofNat i), .int 1, .null, .null, .null] [] (mg hx hm) := fun hx Q H => x_X12_scans_9 G (d + 3) _ _ _ Q ⟨fun q => absurd q (by decide), fun _ => m_skip (d := d + 2) M 1 hx Q (R hx Q H) (s - i) i rfl s1 s3⟩
      refine J.m R' ?_
      by_cases k1 : kc = 1
      · subst k1
        rw [if_pos rfl]
        refine J.c (fun hx Q H => x_X8_cut_17 G (D + 6) _ _ _ Q ⟨fun q => absurd q (by decide), fun _ => ⟨fun _ => H, fun q => absurd rfl q⟩⟩) ?_
        refine J.m (fun hx Q H => x_X12_scans_9 G (d + 3) _ _ _ Q ⟨fun _ => ⟨fun _ => H, fun q => absurd rfl q⟩, fun q => absurd rfl q⟩) ?_
        refine J.end ⟨rfl, rfl, f1, g1, mkT cnt _ _ _ _ _ _ _, X.fin hn L.2.2.1 (tx := hm.I 46) M.2.1 (by omega) (Or.inr rfl) s1 s2 old f6 f7 (g4.trans ?_) g5, ⟨f4, rfl, rfl, rfl⟩, g1.1 46 (by decide) (by decide) (by decide) (by decide), rfl, rfl, rfl⟩
        rcases t.1 with w | w | w | w | w | w
        · exact absurd w.1 (by decide)
        · exact w.2
        · exact absurd w.1 (by decide)
        · exact absurd w.1 (by decide)
        · exact absurd w.1 (by decide)
        · exact absurd w.1 (by decide)
      · rw [if_neg k1, ee k1]
        have hse := t.2.2.1 k1
        refine J.mono (ih e (cnt + 1) (hc3 hc s cnt e V kc) (tokh hm cnt kr (Int32.ofNat s) vr) (by omega) hse.2 (by omega) (L.to f1 f2) (M.to g1) f3 f4 g2 (X.step t k1 s1 old f6 f7 f8 g4 g5 g6) l1 kc t.2.1 k1) ?_
        rintro rc hc' rm hm' ⟨a1, a2, a3, a4, a5⟩
        exact ⟨a1, a2, f1.tr a3, g1.tr a4, a5⟩
    · obtain rfl : s = n := by omega
      exact j_cutEnd s1 hci L M c5 c6 m13 X l1 l2 n0 n1 (Nat.le_refl _) s3
/-- cut against scans -/
theorem j_cut {hc hm : qh} (hn : n ≤ 2000) (hB : ∀ x, x < n → B x < 256) (hc16 : ∀ x, x < n → hc.I 16 x = sb (B x)) (hm46 : ∀ x, x < n → hm.I 46 x = sb (B x)) (hm9 : hm.I 43 9 = Int32.ofNat n) :
    J (fun hx Q => q_M0 G (D + 7) yX8_cut [.ref 17, .int (Int32.ofNat n)] (mg hc hx) Q) (fun hx Q => q_M0 G (d + 4) yX12_scans [.ref 43] (mg hx hm) Q) (cutP hc hm) := by
  refine J.c (Wc' := fun hx Q => q_N0 G m_X8_cut (D + 7) Q 17 [.ref 17, .int (Int32.ofNat n), .int 2] [] (mg (((hc.sI 17 4 (Int32.ofNat n)).sI 17 5 0).sI 17 6 0) hx)) (fun hx Q H => x_X8_cut G (D + 6) _ _ Q (by rw [mg_sI_c (by decide), mg_sI_c (by decide), mg_sI_c (by decide)]; exact H)) ?_
  refine J.m (Wm' := fun hx Q => q_N0 G m_X12_scans (d + 4) Q 9 [.ref 43, .int (Int32.ofNat 0), .int 1, .null, .null, .null] [] (mg hx (hm.sI 43 13 0))) (fun hx Q H => x_X12_scans G (d + 3) _ Q (by rw [mg_sI_m (by decide)]; exact H)) ?_
  have a1 : CFR hc (((hc.sI 17 4 (Int32.ofNat n)).sI 17 5 0).sI 17 6 0) := ⟨fun o e1 _ _ => by rw [sI_row _ e1, sI_row _ e1, sI_row _ e1], fun _ _ => rfl, rfl⟩
  have a2 : MFR hm (hm.sI 43 13 0) := ⟨fun o e1 _ _ _ => sI_row _ e1, fun k e => by simp only [sI_I, e, and_false, if_false], rfl, rfl⟩
  have L : LB n B (((hc.sI 17 4 (Int32.ofNat n)).sI 17 5 0).sI 17 6 0) := ⟨rfl, fun x hx => by rw [a1.1 16 (by decide) (by decide) (by decide), hc16 x hx]; exact (sb_all _ (hB x hx)).1, hB, hn⟩
  have M : LM' n B (hm.sI 43 13 0) := ⟨(a2.2.1 9 (by decide)).trans hm9, fun x hx => by rw [a2.1 46 (by decide) (by decide) (by decide) (by decide)]; exact hm46 x hx, hB, hn⟩
  refine J.mono (j_cut17 (G := G) (D := D) (d := d) n 0 0 _ _ (by omega) (Nat.zero_le _) (Nat.le_refl _) L M rfl rfl rfl ⟨fun _ => 0, fun _ => 0, fun x hx => absurd hx (by omega), fun x hx => absurd hx (by omega)⟩ (Int32.ofNat n) 2 (by decide) (by decide)) ?_
  rintro rc hc' rm hm' ⟨b1, b2, b3, b4, b5⟩
  exact ⟨b1, b2, a1.tr b3, a2.tr b4, b5⟩
end JCUT
