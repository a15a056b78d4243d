/-! ===== the reading: what the class does with the tokens, step by step ===== -/
/-- the tokens: how many, the class's kinds, places, values, the reference's kinds, places, values, the places as numbers, the reference's text -/
abbrev tkD : Type := Nat × (Nat → Int32) × (Nat → Int32) × (Nat → Int64) × (Nat → Int32) × (Nat → Int32) × (Nat → Int32) × (Nat → Nat) × (Nat → Int32)
abbrev tkD.n (T : tkD) : Nat := T.1
abbrev tkD.k (T : tkD) : Nat → Int32 := T.2.1
abbrev tkD.p (T : tkD) : Nat → Int32 := T.2.2.1
abbrev tkD.v (T : tkD) : Nat → Int64 := T.2.2.2.1
abbrev tkD.km (T : tkD) : Nat → Int32 := T.2.2.2.2.1
abbrev tkD.fm (T : tkD) : Nat → Int32 := T.2.2.2.2.2.1
abbrev tkD.vm (T : tkD) : Nat → Int32 := T.2.2.2.2.2.2.1
abbrev tkD.pn (T : tkD) : Nat → Nat := T.2.2.2.2.2.2.2.1
abbrev tkD.tx (T : tkD) : Nat → Int32 := T.2.2.2.2.2.2.2.2
/-- a token of the class and one of the reference are the same -/
def tkr (kc kr vr : Int32) : Prop := (kc = 0 ∧ kr = 0) ∨ (kc = 1 ∧ kr = 1) ∨ (kc = 2 ∧ kr = 2) ∨ (kc = 3 ∧ kr = 3) ∨ (4 ≤ kc ∧ kc ≤ 10 ∧ kr = kc + 1) ∨ (33 ≤ kc ∧ kr = 4 ∧ vr = kc)
def TR (T : tkD) : Prop := 1 ≤ T.n ∧ T.n ≤ 2001 ∧ (∀ i, i < T.n → tkr (T.k i) (T.km i) (T.vm i)) ∧ (∀ i, i < T.n → ((T.k i = 0 ∨ T.k i = 1) ↔ i + 1 = T.n)) ∧ (∀ i, i < T.n → T.p i = Int32.ofNat (T.pn i) ∧ T.fm i = Int32.ofNat (T.pn i) ∧ T.pn i ≤ 2000) ∧ (∀ i, i + 1 < T.n → T.pn i < T.pn (i + 1) ∧ ((T.k i = 8 ∨ T.k i = 9) → T.pn i + 5 ≤ T.pn (i + 1))) ∧
  (∀ i, i < T.n → T.k i = 3 → ∃ q : Nat, q < 2147483648 ∧ T.vm i = Int32.ofNat q ∧ T.v i = (Int32.ofNat q).toInt64) ∧
  (∀ i, i < T.n → T.k i = 2 → ∃ l : Nat, l ≤ 8 ∧ T.vm i = Int32.ofNat l ∧ T.pn i + l ≤ 2000) ∧
  (∀ i j, i < T.n → j < T.n → T.k i = 2 → T.k j = 2 → (T.v i = T.v j ↔ (T.vm i = T.vm j ∧ ∀ x, x < (T.vm i).toNatClampNeg → T.tx (T.pn i + x) = T.tx (T.pn j + x))))
/-- the class's reading stands at token a, dp deep, with this FAULT -/
def CB (T : tkD) (a dp : Nat) (fk fp : Int32) (h : qh) : Prop := (h.I 22 1 = Int32.ofNat a ∧ h.I 22 2 = Int32.ofNat dp ∧ h.I 22 3 = T.k a ∧ h.I 22 4 = T.p a ∧ h.L 22 5 = T.v a ∧ h.I 22 6 = fk ∧ h.I 22 7 = fp) ∧ h.I 17 6 = Int32.ofNat T.n ∧ h.I 18 = T.k ∧ h.I 19 = T.p ∧ h.L 20 = T.v
def CFail (k p : Int32) (h : qh) : Prop := h.I 22 6 = k ∧ h.I 22 7 = p
/-- the cells but those of the reading are as they were -/
def R22 (h h' : qh) : Prop := (∀ o, o ≠ 22 → h'.I o = h.I o) ∧ (∀ o, o ≠ 22 → h'.L o = h.L o) ∧ h'.R = h.R
theorem R22.rf (h : qh) : R22 h h := ⟨fun _ _ => rfl, fun _ _ => rfl, rfl⟩
theorem R22.tr {h h1 h2 : qh} (a : R22 h h1) (b : R22 h1 h2) : R22 h h2 := ⟨fun o e => (b.1 o e).trans (a.1 o e), fun o e => (b.2.1 o e).trans (a.2.1 o e), b.2.2.trans a.2.2⟩
theorem R22.sI (h : qh) (k : Nat) (v : Int32) : R22 h (h.sI 22 k v) := ⟨fun _ e => sI_row h e, fun _ _ => rfl, rfl⟩
theorem R22.sL (h : qh) (k : Nat) (v : Int64) : R22 h (h.sL 22 k v) := ⟨fun _ _ => rfl, fun _ e => sL_row h e, rfl⟩
theorem CB.to {T : tkD} {a dp : Nat} {fk fp : Int32} {h h' : qh} (c : CB T a dp fk fp h) (h22 : h'.I 22 = h.I 22) (l22 : h'.L 22 = h.L 22) (h17 : h'.I 17 = h.I 17) (h18 : h'.I 18 = h.I 18) (h19 : h'.I 19 = h.I 19) (l20 : h'.L 20 = h.L 20) : CB T a dp fk fp h' := by
  unfold CB
  rw [h22, l22, h17, h18, h19, l20]
  exact c
section CREAD
variable {G : qG} {d : Nat} {T : tkD} {a dp : Nat} {fk fp : Int32} {hc : qh}
theorem c_adv (hd : 1 ≤ d) (c : CB T a dp fk fp hc) (ha : a + 1 < T.n) (hn : T.n ≤ 2001) : ∃ hc', cR G d yX4_advance [.ref 22] hc rvv hc' ∧ CB T (a + 1) dp fk fp hc' ∧ R22 hc hc' := by
  obtain ⟨d, rfl⟩ := Nat.exists_eq_add_of_le' hd
  obtain ⟨⟨c1, c2, c3, c4, c5, c6, c7⟩, c8, c9, c10, c11⟩ := c
  refine ⟨(((hc.sI 22 1 (Int32.ofNat (a + 1))).sI 22 3 (T.k (a + 1))).sI 22 4 (T.p (a + 1))).sL 22 5 (T.v (a + 1)), fun hx Q hQ => ?_, ?_, ((R22.sI _ _ _).tr (R22.sI _ _ _)).tr ((R22.sI _ _ _).tr (R22.sL _ _ _))⟩
  · refine x_X4_advance G d _ Q ?_
    simp only [mg_I, mg_L, Nat.reduceLT, if_true, c1, c8, c9, c10, c11, n_add1, n_N (show a + 1 < 2147483648 by omega), mg_sI_c (show 22 < 43 by decide), mg_sL_c (show 22 < 43 by decide)]
    have hin := n_in (a := a + 1) (n := 2001) (by omega) (by omega)
    refine ⟨fun q => absurd ((n_le (by omega) (by omega)).mp q) (by omega), fun _ => ⟨fun q => absurd ((n_le (a := 2001) (by omega) (by omega)).mp q) (by omega), fun _ => ⟨hin, hin, hin, hQ⟩⟩⟩
  · simp only [CB, sL_I, sI_L, sI_I, sL_L, Nat.reduceEqDiff, and_true, and_false, and_self, if_true, if_false, c2, c6, c7]
    refine ⟨trivial, ?_, ?_, ?_, ?_⟩
    · exact c8
    · rw [sI_row _ (by decide), sI_row _ (by decide), sI_row _ (by decide)]; exact c9
    · rw [sI_row _ (by decide), sI_row _ (by decide), sI_row _ (by decide)]; exact c10
    · rw [sL_row _ (by decide)]; exact c11
theorem CB.set2 {k : Nat} {v : Int32} (c : CB T a dp fk fp hc) (hk : k = 2) : CB T a v.toNatClampNeg fk fp (hc.sI 22 k v) ∨ v < 0 := by
  subst hk
  rcases Classical.em (v < 0) with q | q
  · exact Or.inr q
  · obtain ⟨x, hx, rfl⟩ := n_of q
    rw [n_N hx]
    obtain ⟨⟨c1, c2, c3, c4, c5, c6, c7⟩, c8, c9, c10, c11⟩ := c
    refine Or.inl ⟨?_, c8, (sI_row _ (by decide)).trans c9, (sI_row _ (by decide)).trans c10, c11⟩
    simp only [sI_L, sI_I, Nat.reduceEqDiff, and_true, and_false, and_self, if_true, if_false, c1, c3, c4, c5, c6, c7]
theorem CB.setd (c : CB T a dp fk fp hc) {e : Nat} (he : e < 2147483648) : CB T a e fk fp (hc.sI 22 2 (Int32.ofNat e)) := by
  rcases c.set2 (k := 2) (v := Int32.ofNat e) rfl with q | q
  · rwa [n_N he] at q
  · exact absurd q (n_nneg he)
theorem CB.setf (c : CB T a dp fk fp hc) (k p : Int32) : CB T a dp k p ((hc.sI 22 6 k).sI 22 7 p) := by
  obtain ⟨⟨c1, c2, c3, c4, c5, c6, c7⟩, c8, c9, c10, c11⟩ := c
  refine ⟨?_, c8, ((sI_row _ (by decide)).trans (sI_row _ (by decide))).trans c9, ((sI_row _ (by decide)).trans (sI_row _ (by decide))).trans c10, c11⟩
  simp only [sI_L, sI_I, Nat.reduceEqDiff, and_true, and_false, and_self, if_true, if_false, c1, c2, c3, c4, c5]
theorem c_leave (hd : 1 ≤ d) (c : CB T a (dp + 1) fk fp hc) (hdp : dp ≤ 16) : ∃ hc', cR G d yX4_leave [.ref 22] hc rvv hc' ∧ CB T a dp fk fp hc' ∧ R22 hc hc' := by
  obtain ⟨d, rfl⟩ := Nat.exists_eq_add_of_le' hd
  refine ⟨hc.sI 22 2 (Int32.ofNat dp), fun hx Q hQ => ?_, c.setd (by omega), R22.sI _ _ _⟩
  refine x_X4_leave G d _ Q ?_
  simp only [mg_I, Nat.reduceLT, if_true, c.1.2.1, n_sub1, mg_sI_c (show 22 < 43 by decide)]
  exact hQ
theorem c_refuse (hd : 1 ≤ d) (c : CB T a dp fk fp hc) : ∃ hc', cR G d yX4_refuse [.ref 22] hc (riv 0) hc' ∧ CFail 1 (T.p a) hc' ∧ R22 hc hc' := by
  obtain ⟨d, rfl⟩ := Nat.exists_eq_add_of_le' hd
  refine ⟨(hc.sI 22 6 1).sI 22 7 (T.p a), fun hx Q hQ => ?_, ⟨rfl, rfl⟩, (R22.sI _ _ _).tr (R22.sI _ _ _)⟩
  refine x_X4_refuse G d _ Q ?_
  simp only [mg_I, Nat.reduceLT, if_true, c.1.2.2.2.1, mg_sI_c (show 22 < 43 by decide)]
  exact hQ
theorem c_pass (hd : 2 ≤ d) (c : CB T a dp fk fp hc) {w : Int32} (hk : T.k a = w) (ha : a + 1 < T.n) (hn : T.n ≤ 2001) : ∃ hc', cR G d yX4_pass [.ref 22, .int w] hc (riv 1) hc' ∧ CB T (a + 1) dp fk fp hc' ∧ R22 hc hc' := by
  obtain ⟨d, rfl⟩ := Nat.exists_eq_add_of_le' hd
  obtain ⟨h1, r1, r2, r3⟩ := c_adv (G := G) (d := d + 1) (by omega) c ha hn
  refine ⟨h1, fun hx Q hQ => x_X4_pass G (d + 1) w _ Q ⟨fun _ => r1 hx _ hQ, fun q => absurd ?_ q⟩, r2, r3⟩
  simp only [mg_I, Nat.reduceLT, if_true]
  exact c.1.2.2.1.trans hk
theorem c_passNo (hd : 2 ≤ d) (c : CB T a dp fk fp hc) {w : Int32} (hk : ¬ T.k a = w) : ∃ hc', cR G d yX4_pass [.ref 22, .int w] hc (riv 0) hc' ∧ CFail 1 (T.p a) hc' ∧ R22 hc hc' := by
  obtain ⟨d, rfl⟩ := Nat.exists_eq_add_of_le' hd
  obtain ⟨h1, r1, r2, r3⟩ := c_refuse (G := G) (d := d + 1) (by omega) c
  refine ⟨h1, fun hx Q hQ => x_X4_pass G (d + 1) w _ Q ⟨fun q => absurd ?_ hk, fun _ => r1 hx _ ⟨Or.inl rfl, hQ⟩⟩, r2, r3⟩
  simp only [mg_I, Nat.reduceLT, if_true] at q
  exact c.1.2.2.1.symm.trans q
theorem c_enter (hd : 2 ≤ d) (c : CB T a dp fk fp hc) {w : Int32} (hk : T.k a = w) (hdp : dp < 16) (ha : a + 1 < T.n) (hn : T.n ≤ 2001) : ∃ hc', cR G d yX4_enter [.ref 22, .int w] hc (riv 1) hc' ∧ CB T (a + 1) (dp + 1) fk fp hc' ∧ R22 hc hc' := by
  obtain ⟨d, rfl⟩ := Nat.exists_eq_add_of_le' hd
  obtain ⟨h1, r1, r2, r3⟩ := c_adv (G := G) (d := d + 1) (by omega) (c.setd (e := dp + 1) (by omega)) ha hn
  refine ⟨h1, fun hx Q hQ => x_X4_enter G (d + 1) w _ Q ⟨fun _ => ⟨fun _ => ?_, fun q => absurd ?_ q⟩, fun q => absurd ?_ q⟩, r2, (R22.sI _ _ _).tr r3⟩
  · simp only [mg_I, Nat.reduceLT, if_true, c.1.2.1, n_add1, mg_sI_c (show 22 < 43 by decide)]
    exact r1 hx _ hQ
  · simp only [mg_I, Nat.reduceLT, if_true, c.1.2.1]
    exact (n_lt (b := 16) (by omega) (by omega)).mpr hdp
  · simp only [mg_I, Nat.reduceLT, if_true]
    exact c.1.2.2.1.trans hk
theorem c_enterNo (hd : 2 ≤ d) (c : CB T a dp fk fp hc) {w : Int32} (hk : ¬ T.k a = w) : ∃ hc', cR G d yX4_enter [.ref 22, .int w] hc (riv 0) hc' ∧ CFail 1 (T.p a) hc' ∧ R22 hc hc' := by
  obtain ⟨d, rfl⟩ := Nat.exists_eq_add_of_le' hd
  obtain ⟨h1, r1, r2, r3⟩ := c_refuse (G := G) (d := d + 1) (by omega) c
  refine ⟨h1, fun hx Q hQ => x_X4_enter G (d + 1) w _ Q ⟨fun q => absurd ?_ hk, fun _ => r1 hx _ ⟨Or.inl rfl, hQ⟩⟩, r2, r3⟩
  simp only [mg_I, Nat.reduceLT, if_true] at q
  exact c.1.2.2.1.symm.trans q
theorem c_enterDeep (hd : 2 ≤ d) (c : CB T a dp fk fp hc) {w : Int32} (hk : T.k a = w) (hdp : dp = 16) : ∃ hc', cR G d yX4_enter [.ref 22, .int w] hc (riv 0) hc' ∧ CFail 7 (T.p a) hc' ∧ R22 hc hc' := by
  obtain ⟨d, rfl⟩ := Nat.exists_eq_add_of_le' hd
  refine ⟨(hc.sI 22 6 7).sI 22 7 (T.p a), fun hx Q hQ => x_X4_enter G (d + 1) w _ Q ⟨fun _ => ⟨fun q => absurd q ?_, fun _ => ?_⟩, fun q => absurd ?_ q⟩, ⟨rfl, rfl⟩, (R22.sI _ _ _).tr (R22.sI _ _ _)⟩
  · simp only [mg_I, Nat.reduceLT, if_true, c.1.2.1]
    exact fun q => absurd ((n_lt (b := 16) (by omega) (by omega)).mp q) (by omega)
  · simp only [mg_I, Nat.reduceLT, if_true, c.1.2.2.2.1, mg_sI_c (show 22 < 43 by decide)]
    exact hQ
  · simp only [mg_I, Nat.reduceLT, if_true]
    exact c.1.2.2.1.trans hk
/-- what blaming makes of a FAULT -/
def bK (fk k : Int32) : Int32 := if fk = 0 then k else fk
def bP (fk fp k p : Int32) : Int32 := if fk = 0 ∧ ¬ k = 0 then p else fp
theorem c_blame (hd : 1 ≤ d) (c : CB T a dp fk fp hc) (k p : Int32) : ∃ hc', cR G d yX4_blame [.ref 22, .int k, .int p] hc rvv hc' ∧ CB T a dp (bK fk k) (bP fk fp k p) hc' ∧ R22 hc hc' := by
  obtain ⟨d, rfl⟩ := Nat.exists_eq_add_of_le' hd
  have e : ∀ hx, (mg hc hx).I 22 6 = fk := fun hx => by simp only [mg_I, Nat.reduceLT, if_true]; exact c.1.2.2.2.2.2.1
  by_cases h0 : fk = 0
  · by_cases hk : k = 0
    · refine ⟨hc, fun hx Q hQ => x_X4_blame G d k p _ Q ⟨fun _ => hQ, fun _ => ⟨fun _ => hQ, fun q => absurd hk q⟩⟩, ?_, R22.rf _⟩
      unfold bK bP
      rw [if_pos h0, if_neg (fun q => q.2 hk), hk, ← h0]
      exact c
    · refine ⟨(hc.sI 22 6 k).sI 22 7 p, fun hx Q hQ => x_X4_blame G d k p _ Q ⟨fun q => absurd ((e hx).trans h0) q, fun _ => ⟨fun q => absurd q hk, fun _ => ?_⟩⟩, ?_, (R22.sI _ _ _).tr (R22.sI _ _ _)⟩
      · rw [mg_sI_c (by decide), mg_sI_c (by decide)]; exact hQ
      · unfold bK bP
        rw [if_pos h0, if_pos ⟨h0, hk⟩]
        exact c.setf k p
  · refine ⟨hc, fun hx Q hQ => x_X4_blame G d k p _ Q ⟨fun _ => hQ, fun q => absurd ((e hx).symm.trans q) h0⟩, ?_, R22.rf _⟩
    unfold bK bP
    rw [if_neg h0, if_neg (fun q => h0 q.1)]
    exact c
end CREAD
