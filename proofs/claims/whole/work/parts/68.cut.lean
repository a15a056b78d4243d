/-! ===== cut against scans ===== -/
def CFR (hc hc' : qh) : Prop := (∀ o, o ≠ 17 → o ≠ 18 → o ≠ 19 → hc'.I o = hc.I o) ∧ (∀ o, o ≠ 20 → hc'.L o = hc.L o) ∧ hc'.R = hc.R
def MFR (hm hm' : qh) : Prop := (∀ o, o ≠ 43 → o ≠ 47 → o ≠ 48 → o ≠ 49 → hm'.I o = hm.I o) ∧ (∀ k, k ≠ 13 → hm'.I 43 k = hm.I 43 k) ∧ hm'.L = hm.L ∧ hm'.R = hm.R
theorem CFR.tr {a b c : qh} (x : CFR a b) (y : CFR b c) : CFR a c := ⟨fun o e1 e2 e3 => (y.1 o e1 e2 e3).trans (x.1 o e1 e2 e3), fun o e => (y.2.1 o e).trans (x.2.1 o e), y.2.2.trans x.2.2⟩
theorem MFR.tr {a b c : qh} (x : MFR a b) (y : MFR b c) : MFR a c := ⟨fun o e1 e2 e3 e4 => (y.1 o e1 e2 e3 e4).trans (x.1 o e1 e2 e3 e4), fun k e => (y.2.1 k e).trans (x.2.1 k e), y.2.2.1.trans x.2.2.1, y.2.2.2.trans x.2.2.2⟩
def cutP (hc hm : qh) : qr → qh → qr → qh → Prop := fun rc hc' rm hm' => rc = rvv ∧ rm = rvv ∧ CFR hc hc' ∧ MFR hm hm' ∧ ∃ T : tkD, TR T ∧ (hc'.I 17 6 = Int32.ofNat T.n ∧ hc'.I 18 = T.k ∧ hc'.I 19 = T.p ∧ hc'.L 20 = T.v) ∧ hm'.I 46 = T.tx ∧ hm'.I 47 = T.km ∧ hm'.I 48 = T.fm ∧ hm'.I 49 = T.vm
/-- the class's heap behind a round of the loop -/
def hc3 (hc : qh) (s cnt e : Nat) (V : Option Int64) (kc : Int32) : qh := ((hcE ((hc.sI 17 5 (Int32.ofNat s)).sI 19 cnt (Int32.ofNat s)) cnt e V).sI 18 cnt kc).sI 17 6 (Int32.ofNat (cnt + 1))
section CUT
variable {G : qG} {D d n : Nat} {B : Nat → Nat} {hc hm : qh}
theorem hc3_f (hc : qh) (s cnt e : Nat) (V : Option Int64) (kc : Int32) : CFR hc (hc3 hc s cnt e V kc) ∧ (hc3 hc s cnt e V kc).I 17 4 = hc.I 17 4 ∧ (hc3 hc s cnt e V kc).I 17 5 = Int32.ofNat e ∧ (hc3 hc s cnt e V kc).I 17 6 = Int32.ofNat (cnt + 1) ∧ (∀ x, x ≠ cnt → (hc3 hc s cnt e V kc).I 18 x = hc.I 18 x ∧ (hc3 hc s cnt e V kc).I 19 x = hc.I 19 x ∧ (hc3 hc s cnt e V kc).L 20 x = hc.L 20 x) ∧ (hc3 hc s cnt e V kc).I 18 cnt = kc ∧ (hc3 hc s cnt e V kc).I 19 cnt = Int32.ofNat s ∧ (∀ v, V = some v → (hc3 hc s cnt e V kc).L 20 cnt = v) := by
  unfold hc3
  cases V with
  | none =>
    simp only [hcE]
    refine ⟨⟨fun o e1 e2 e3 => ?_, fun o e => rfl, rfl⟩, rfl, rfl, rfl, fun x hx => ⟨?_, ?_, rfl⟩, ?_, ?_, fun v q => absurd q (by simp)⟩
    · rw [sI_row _ e1, sI_row _ e2, sI_row _ e1, sI_row _ e3, sI_row _ e1]
    · simp only [sI_I, Nat.reduceEqDiff, false_and, if_false, true_and, if_neg hx]
    · simp only [sI_I, Nat.reduceEqDiff, false_and, if_false, true_and, if_neg hx]
    · simp only [sI_I, Nat.reduceEqDiff, false_and, if_false, and_self, if_true]
    · simp only [sI_I, Nat.reduceEqDiff, false_and, if_false, and_self, if_true]
  | some v =>
    simp only [hcE]
    refine ⟨⟨fun o e1 e2 e3 => ?_, fun o e => ?_, rfl⟩, rfl, rfl, rfl, fun x hx => ⟨?_, ?_, ?_⟩, ?_, ?_, fun v q => ?_⟩
    · rw [sI_row _ e1, sI_row _ e2, sL_I, sI_row _ e1, sI_row _ e3, sI_row _ e1]
    · rw [sI_L, sI_L, sL_row _ e]; rfl
    · simp only [sI_I, sL_I, Nat.reduceEqDiff, false_and, if_false, true_and, if_neg hx]
    · simp only [sI_I, sL_I, Nat.reduceEqDiff, false_and, if_false, true_and, if_neg hx]
    · simp only [sI_L, sL_L, true_and, if_neg hx]
    · simp only [sI_I, sL_I, Nat.reduceEqDiff, false_and, if_false, and_self, if_true]
    · simp only [sI_I, sL_I, Nat.reduceEqDiff, false_and, if_false, and_self, if_true]
    · simp only [sI_L, sL_L, and_self, if_true]; exact Option.some.inj q
theorem tokh_f (hm : qh) (cnt : Nat) (k f v : Int32) : MFR hm (tokh hm cnt k f v) ∧ (tokh hm cnt k f v).I 43 13 = Int32.ofNat (cnt + 1) ∧ (∀ x, x ≠ cnt → (tokh hm cnt k f v).I 47 x = hm.I 47 x ∧ (tokh hm cnt k f v).I 48 x = hm.I 48 x ∧ (tokh hm cnt k f v).I 49 x = hm.I 49 x) ∧ (tokh hm cnt k f v).I 47 cnt = k ∧ (tokh hm cnt k f v).I 48 cnt = f ∧ (tokh hm cnt k f v).I 49 cnt = v := by
  unfold tokh
  refine ⟨⟨fun o e1 e2 e3 e4 => ?_, fun x e => ?_, rfl, rfl⟩, rfl, fun x hx => ⟨?_, ?_, ?_⟩, ?_, ?_, ?_⟩
  · rw [sI_row _ e1, sI_row _ e4, sI_row _ e3, sI_row _ e2]
  all_goals simp only [sI_I, Nat.reduceEqDiff, false_and, if_false, true_and, and_self, if_true, *]
theorem LB.to {h h' : qh} (L : LB n B h) (f : CFR h h') (e4 : h'.I 17 4 = h.I 17 4) : LB n B h' := ⟨e4.trans L.1, fun x hx => by rw [f.1 16 (by decide) (by decide) (by decide)]; exact L.2.1 x hx, L.2.2⟩
theorem LM'.to {h h' : qh} (L : LM' n B h) (f : MFR h h') : LM' n B h' := ⟨(f.2.1 9 (by decide)).trans L.1, fun x hx => by rw [f.1 46 (by decide) (by decide) (by decide) (by decide)]; exact L.2.1 x hx, L.2.2⟩
/-- a round of the class's loop -/
theorem c_round (L : LB n B hc) {i s cnt : Nat} (e5' : hc.I 17 5 = Int32.ofNat i) (e6 : hc.I 17 6 = Int32.ofNat cnt) (his : i ≤ s) (hsn : s ≤ n) (hbl : ∀ x, i ≤ x → x < s → x < n ∧ blN (B x)) (hns : ¬ (s < n ∧ blN (B s))) (hcn : cnt < 2001) {l1 l2 kc : Int32} (n0 : l2 ≠ 0) (n1 : l2 ≠ 1) {e : Nat} {V : Option Int64} (C : cR G (D + 6) yX8_cutToken [.ref 17, .int (bc n B s)] ((hc.sI 17 5 (Int32.ofNat s)).sI 19 cnt (Int32.ofNat s)) (riv kc) (hcE ((hc.sI 17 5 (Int32.ofNat s)).sI 19 cnt (Int32.ofNat s)) cnt e V)) (hx : qh) (Q : qr → qh → Prop)
    (H : q_N0 G m_X8_cut (D + 7) Q 17 [.ref 17, .int l1, .int kc] [] (mg (hc3 hc s cnt e V kc) hx)) : q_N0 G m_X8_cut (D + 7) Q 17 [.ref 17, .int l1, .int l2] [] (mg hc hx) := by
  have hn := L.2.2.2
  have hid : hc.sI 17 5 (Int32.ofNat i) = hc := sI_id _ _ _ _ e5'
  refine x_X8_cut_17 G (D + 6) _ _ _ Q ⟨fun q => absurd q n0, fun _ => ⟨fun q => absurd q n1, fun _ => ⟨fun q => ?_, fun _ => ?_⟩⟩⟩
  · simp only [mg_I, Nat.reduceLT, if_true, e6] at q
    exact absurd ((n_le (a := 2001) (by omega) (by omega)).mp q) (by omega)
  · refine x_X8_skipBlanks G (D + 5) _ _ ?_
    have sk := c_skip0 (G := G) (d := D + 4) hn hsn hns (s - i) i hc L rfl his hbl hx
    rw [hid] at sk
    refine sk _ ?_
    have f6 : (mg (hc.sI 17 5 (Int32.ofNat s)) hx).I 17 6 = Int32.ofNat cnt := by
      simp only [mg_I, Nat.reduceLT, if_true, sI_I, Nat.reduceEqDiff, and_false, if_false, e6]
    show vp_in ((mg (hc.sI 17 5 (Int32.ofNat s)) hx).I 17 6) 2001 ∧ _
    rw [f6, e5, n_N (by omega), mg_sI_c (by decide)]
    refine ⟨n_in (by omega) hcn, ?_⟩
    have L2 : LB n B ((hc.sI 17 5 (Int32.ofNat s)).sI 19 cnt (Int32.ofNat s)) := L
    refine c_byte (G := G) (d := D + 6) (by omega) L2 (x := s) (by omega) hx _ ?_
    refine C hx _ ?_
    have g6 : (mg (hcE ((hc.sI 17 5 (Int32.ofNat s)).sI 19 cnt (Int32.ofNat s)) cnt e V) hx).I 17 6 = Int32.ofNat cnt := by
      cases V <;> simp only [hcE, mg_I, Nat.reduceLT, if_true, sI_I, sL_I, Nat.reduceEqDiff, and_false, false_and, if_false, e6]
    show vp_in ((mg (hcE ((hc.sI 17 5 (Int32.ofNat s)).sI 19 cnt (Int32.ofNat s)) cnt e V) hx).I 17 6) 2001 ∧ _
    rw [g6, n_N (by omega), mg_sI_c (by decide), mg_sI_c (by decide), n_add1]
    exact ⟨n_in (by omega) hcn, H⟩
end CUT
