/-! ===== the RUN: what the class's parts call ===== -/
theorem n_mul (a b : Nat) : Int32.ofNat a * Int32.ofNat b = Int32.ofNat (a * b) := (Int32.ofNat_mul a b).symm
def hnd (h : qh) (x : Nat) (v : Int32) : qh := ((h.sI 39 x v).sI 40 x 1).sI 38 8 (h.I 38 8 + 1)
def stH (h : qh) (w j i : Nat) (v : Int32) : qh := if w < 200 then ((((h.sI 34 w (Int32.ofNat j)).sI 35 w (Int32.ofNat i)).sI 36 w v).sI 31 7 (Int32.ofNat (w + 1))).sI 32 (j * 256 + i) v else (h.sI 31 7 (Int32.ofNat (w + 1))).sI 32 (j * 256 + i) v
section RUND
variable {G : qG} {d c : Nat} {hc : qh} {C : Nat}
theorem c_hand (hd : 1 ≤ d) {x : Nat} (hx : x < 1400) (hf : hc.I 40 x = 0) (v : Int32) : cR G d yX9_hand [.ref 38, .int (Int32.ofNat x), .int v] hc rvv (hnd hc x v) := by
  obtain ⟨d, rfl⟩ := Nat.exists_eq_add_of_le' hd
  intro hy Q H
  have e : (mg hc hy).I 40 x = 0 := by rw [cI (by decide)]; exact hf
  have e8 : (mg hc hy).I 38 8 = hc.I 38 8 := by rw [cI (by decide)]
  refine x_X9_hand G d _ _ _ Q ⟨fun q => absurd q (n_nneg (by omega)), fun _ => ⟨fun q => absurd ((n_le (a := 1400) (by omega) (by omega)).mp q) (by omega), fun _ => ⟨n_in (by omega) hx, ?_⟩⟩⟩
  rw [n_N (by omega), e]
  refine ⟨fun _ => ⟨n_in (by omega) hx, n_in (by omega) hx, ?_⟩, fun q => absurd rfl q⟩
  rw [e8, mg_sI_c (by decide), mg_sI_c (by decide), mg_sI_c (by decide)]
  exact H
theorem c_isVar (hd : 1 ≤ d) {y : Nat} (hy : y < 16) : cR G d yX9_isVariable [.int (Int32.ofNat y)] hc (riv 1) hc := by
  obtain ⟨d, rfl⟩ := Nat.exists_eq_add_of_le' hd
  intro hx Q H
  refine x_X9_isVariable G d _ _ Q ⟨fun q => absurd q (n_nneg (by omega)), fun _ => ?_⟩
  have e : (if 16 ≤ Int32.ofNat y then (0 : Int32) else 1) = 1 := if_neg (fun q => absurd ((n_le (a := 16) (by omega) (by omega)).mp q) (by omega))
  rw [e]
  exact ⟨Or.inr rfl, H⟩
theorem c_cellsOf (hq : q_cir c) (hd : 1 ≤ d) {j na : Nat} (hna : hc.I c 8 = Int32.ofNat na) (h8 : na ≤ 8) (hj : j < na) : cR G d yX0_cellsOf [.ref c, .int (Int32.ofNat j)] hc (riv (hc.I (c + 6) j)) hc := by
  obtain ⟨d, rfl⟩ := Nat.exists_eq_add_of_le' hd
  intro hy Q H
  have hcl := cir_lt hq
  have e8 : (mg hc hy).I c 8 = Int32.ofNat na := by rw [cI (by omega)]; exact hna
  have e6 : (mg hc hy).I (c + 6) j = hc.I (c + 6) j := by rw [cI (by omega)]
  refine x_X0_cellsOf G d c _ _ Q hq ⟨fun q => absurd q (n_nneg (by omega)), fun _ => ?_⟩
  rw [e8, n_N (by omega), e6]
  exact ⟨fun q => absurd ((n_le (by omega) (by omega)).mp q) (by omega), fun _ => ⟨fun q => absurd ((n_le (a := 8) (by omega) (by omega)).mp q) (by omega), fun _ => ⟨n_in (by omega) (by omega), H⟩⟩⟩
theorem c_cellOf (hq : q_cir c) (hd : 2 ≤ d) {j na k : Nat} (hR : hc.R 38 5 = some c) (hna : hc.I c 8 = Int32.ofNat na) (h8 : na ≤ 8) (hj : j < na) (hk : hc.I (c + 6) j = Int32.ofNat k) (h1 : 1 ≤ k) (h2 : k ≤ 256) (a : Int32) : cR G d yX9_cellOf [.ref 38, .int (Int32.ofNat j), .int a] hc (riv (Int32.ofNat (fm a k))) hc := by
  obtain ⟨d, rfl⟩ := Nat.exists_eq_add_of_le' hd
  intro hy Q H
  refine x_X9_cellOf G (d + 1) _ _ _ Q ⟨c, by rw [cRr (by decide)]; exact hR, hq, ?_⟩
  refine c_cellsOf hq (by omega) hna h8 hj hy _ ?_
  rw [hk]
  refine ⟨fun q => absurd ((n_le (b := 0) (by omega) (by omega)).mp q) (by omega), fun _ => ?_⟩
  exact x_J9_floorMod_7cf53 G d _ _ _ _ ⟨fun q => absurd ((n_eq (b := 0) (by omega) (by omega)).mp q) (by omega), r_fmod (X := fun z => Q (riv z) (mg hc hy)) a h1 (by omega) H⟩
theorem c_isThere (hd : 1 ≤ d) {j i : Nat} (hj : j < 8) (hi : i < 256) : cR G d yX3_isThere [.int (Int32.ofNat j), .int (Int32.ofNat i)] hc (riv 1) hc := by
  obtain ⟨d, rfl⟩ := Nat.exists_eq_add_of_le' hd
  intro hx Q H
  have e : (if 256 ≤ Int32.ofNat i then (0 : Int32) else 1) = 1 := if_neg (fun q => absurd ((n_le (a := 256) (by omega) (by omega)).mp q) (by omega))
  refine x_X3_isThere G d _ _ _ Q ⟨fun q => absurd q (n_nneg (by omega)), fun _ => ⟨fun q => absurd ((n_le (a := 8) (by omega) (by omega)).mp q) (by omega), fun _ => ⟨fun q => absurd q (n_nneg (by omega)), fun _ => ?_⟩⟩⟩
  rw [e]
  exact ⟨Or.inr rfl, H⟩
theorem n_cell (j i : Nat) : (Int32.ofNat j * 256) + Int32.ofNat i = Int32.ofNat (j * 256 + i) := by
  rw [show (256 : Int32) = Int32.ofNat 256 from rfl, n_mul, n_add]
theorem c_look (hd : 2 ≤ d) {j i : Nat} (hj : j < 8) (hi : i < 256) : cR G d yX3_look [.ref 31, .int (Int32.ofNat j), .int (Int32.ofNat i)] hc (riv (hc.I 32 (j * 256 + i))) hc := by
  obtain ⟨d, rfl⟩ := Nat.exists_eq_add_of_le' hd
  intro hy Q H
  refine x_X3_look G (d + 1) _ _ _ Q (c_isThere (by omega) hj hi hy _ ⟨fun q => absurd q (by decide), fun _ => ?_⟩)
  rw [n_cell, n_N (by omega), cI (by decide)]
  exact ⟨n_in (by omega) (by omega), H⟩
theorem c_put (hd : 2 ≤ d) {j i : Nat} (hj : j < 8) (hi : i < 256) (v : Int32) : cR G d yX3_put [.ref 31, .int (Int32.ofNat j), .int (Int32.ofNat i), .int v] hc rvv (hc.sI 32 (j * 256 + i) v) := by
  obtain ⟨d, rfl⟩ := Nat.exists_eq_add_of_le' hd
  intro hy Q H
  refine x_X3_put G (d + 1) _ _ _ _ Q (c_isThere (by omega) hj hi hy _ ⟨fun q => absurd q (by decide), fun _ => ?_⟩)
  rw [n_cell, n_N (by omega), mg_sI_c (by decide)]
  exact ⟨n_in (by omega) (by omega), H⟩
theorem c_fetch (hd : 3 ≤ d) {j i : Nat} (hj : j < 8) (hi : i < 256) : cR G d yX3_fetch [.ref 31, .int (Int32.ofNat j), .int (Int32.ofNat i)] hc (riv (hc.I 32 (j * 256 + i))) (hc.sI 31 6 (hc.I 31 6 + 1)) := by
  obtain ⟨d, rfl⟩ := Nat.exists_eq_add_of_le' hd
  intro hy Q H
  refine x_X3_fetch G (d + 2) _ _ _ Q ?_
  rw [cI (by decide), mg_sI_c (by decide)]
  refine c_look (by omega) hj hi hy _ ?_
  rw [sI_row _ (by decide)]
  exact H
theorem c_store (hd : 3 ≤ d) {j i w : Nat} (hj : j < 8) (hi : i < 256) (hw : hc.I 31 7 = Int32.ofNat w) (hw2 : w < 2147483647) (v : Int32) : cR G d yX3_store [.ref 31, .int (Int32.ofNat j), .int (Int32.ofNat i), .int v] hc rvv (stH hc w j i v) := by
  obtain ⟨d, rfl⟩ := Nat.exists_eq_add_of_le' hd
  intro hy Q H
  have e7 : (mg hc hy).I 31 7 = Int32.ofNat w := by rw [cI (by decide)]; exact hw
  refine x_X3_store G (d + 2) _ _ _ _ Q ?_
  rw [e7, n_add1]
  unfold stH at H
  refine ⟨fun q => ?_, fun q => ?_⟩
  · rw [if_neg (by have := (n_le (a := 200) (by omega) (by omega)).mp q; omega)] at H
    rw [mg_sI_c (by decide)]
    exact c_put (by omega) hj hi v hy _ H
  · have hw3 : w < 200 := Nat.lt_of_not_le (fun z => q ((n_le (a := 200) (by omega) (by omega)).mpr z))
    rw [if_pos hw3] at H
    refine ⟨n_in (by omega) hw3, n_in (by omega) hw3, n_in (by omega) hw3, ?_⟩
    rw [n_N (by omega), mg_sI_c (by decide), mg_sI_c (by decide), mg_sI_c (by decide), mg_sI_c (by decide)]
    exact c_put (by omega) hj hi v hy _ H
/-- the rows of LATENCIES are good -/
def LT (hc : qh) : Prop := ∃ R : Nat, hc.I 31 5 = Int32.ofNat R ∧ R ≤ 32 ∧ ∀ i, i < R → ∃ v : Nat, 1 ≤ v ∧ v ≤ 64 ∧ hc.I 33 i = Int32.ofNat v
theorem c_ask (hd : 1 ≤ d) {A : Nat} (hA : hc.I 31 8 = Int32.ofNat A) (h1 : A ≤ C) (hC : C < 2147483648) (hL : LT hc) : ∃ sp : Nat, 1 ≤ sp ∧ sp ≤ 64 ∧ cR G d yX3_ask [.ref 31, .int (Int32.ofNat C)] hc (riv (Int32.ofNat sp)) (hc.sI 31 8 (Int32.ofNat (C + sp))) := by
  obtain ⟨d, rfl⟩ := Nat.exists_eq_add_of_le' hd
  obtain ⟨R, r1, r2, r3⟩ := hL
  have e8 : ∀ hy, (mg hc hy).I 31 8 = Int32.ofNat A := fun hy => by rw [cI (by decide)]; exact hA
  have e5 : ∀ hy, (mg hc hy).I 31 5 = Int32.ofNat R := fun hy => by rw [cI (by decide)]; exact r1
  have hle : Int32.ofNat A ≤ Int32.ofNat C := (n_le (by omega) hC).mpr h1
  by_cases h0 : R = 0
  · refine ⟨1, Nat.le_refl _, by decide, fun hy Q H => ?_⟩
    refine x_X3_ask G d _ _ Q ?_
    rw [e8, e5, n_add1, mg_sI_c (by decide), h0]
    exact ⟨fun _ => ⟨fun _ => ⟨fun _ => H, fun q => absurd (by decide) q⟩, fun q => absurd (by decide) q⟩, fun q => absurd hle q⟩
  · have hn0 : ¬ Int32.ofNat R ≤ 0 := fun q => absurd ((n_le (b := 0) (by omega) (by omega)).mp q) (by omega)
    have hn1 : ¬ Int32.ofNat R = 0 := fun q => absurd ((n_eq (b := 0) (by omega) (by omega)).mp q) (by omega)
    obtain ⟨z, hz⟩ : ∃ z : Int32, z = (hc.I 31 6 + hc.I 31 7) - (hc.I 31 6 + hc.I 31 7) / Int32.ofNat R * Int32.ofNat R := ⟨_, rfl⟩
    have e6 : ∀ hy, (mg hc hy).I 31 6 = hc.I 31 6 := fun hy => by rw [cI (by decide)]
    have e7 : ∀ hy, (mg hc hy).I 31 7 = hc.I 31 7 := fun hy => by rw [cI (by decide)]
    by_cases n : z < 0
    · refine ⟨1, Nat.le_refl _, by decide, fun hy Q H => ?_⟩
      refine x_X3_ask G d _ _ Q ?_
      rw [e8, e5, e6, e7, ← hz, n_add1, mg_sI_c (by decide)]
      exact ⟨fun _ => ⟨fun q => absurd q hn0, fun _ => ⟨hn1, fun _ => H, fun q => absurd n q⟩⟩, fun q => absurd hle q⟩
    · obtain ⟨i, i1, i2⟩ := n_of n
      have hiR : i < R := by
        have a1 := r_rem (hc.I 31 6 + hc.I 31 7) (k := R) (by omega) (by omega)
        rw [← hz, i2, n_toInt i1] at a1
        have a2 := Int.tmod_lt_of_pos (hc.I 31 6 + hc.I 31 7).toInt (b := R) (by omega)
        omega
      obtain ⟨v, v1, v2, v3⟩ := r3 i hiR
      have e33 : ∀ hy, (mg hc hy).I 33 i = Int32.ofNat v := fun hy => by rw [cI (by decide)]; exact v3
      refine ⟨v, v1, v2, fun hy Q H => ?_⟩
      refine x_X3_ask G d _ _ Q ?_
      rw [e8, e5, e6, e7, ← hz, i2, n_N (by omega), e33, n_add]
      rw [← mg_sI_c (by decide)] at H
      exact ⟨fun _ => ⟨fun q => absurd q hn0, fun _ => ⟨hn1, fun q => absurd q (n_nneg (by omega)), fun _ => ⟨fun q => absurd ((n_le (a := 32) (by omega) (by omega)).mp q) (by omega), fun _ => ⟨n_in (by omega) (by omega), H⟩⟩⟩⟩, fun q => absurd hle q⟩
theorem c_leads (hq : q_cir c) (hd : 1 ≤ d) {j jn : Nat} (hjn : hc.I c 7 = Int32.ofNat jn) (h8 : jn ≤ 80) (hj : j < jn) : cR G d yX0_leadsTo [.ref c, .int (Int32.ofNat j)] hc (riv (hc.I (c + 5) j)) hc := by
  obtain ⟨d, rfl⟩ := Nat.exists_eq_add_of_le' hd
  intro hy Q H
  have hcl := cir_lt hq
  have e8 : (mg hc hy).I c 7 = Int32.ofNat jn := by rw [cI (by omega)]; exact hjn
  have e6 : (mg hc hy).I (c + 5) j = hc.I (c + 5) j := by rw [cI (by omega)]
  refine x_X0_leadsTo G d c _ _ Q hq ⟨fun q => absurd q (n_nneg (by omega)), fun _ => ?_⟩
  rw [e8, n_N (by omega), e6]
  exact ⟨fun q => absurd ((n_le (by omega) (by omega)).mp q) (by omega), fun _ => ⟨fun q => absurd ((n_le (a := 80) (by omega) (by omega)).mp q) (by omega), fun _ => ⟨n_in (by omega) (by omega), H⟩⟩⟩
theorem c_stepY (hd : 1 ≤ d) {st lim : Nat} (h1 : hc.I 38 11 = Int32.ofNat st) (h2 : hc.I 38 7 = Int32.ofNat lim) (h3 : st < lim) (h4 : lim < 2147483648) : cR G d yX9_beginStep [.ref 38] hc rvv (hc.sI 38 11 (Int32.ofNat (st + 1))) := by
  obtain ⟨d, rfl⟩ := Nat.exists_eq_add_of_le' hd
  intro hy Q H
  have e1 : (mg hc hy).I 38 11 = Int32.ofNat st := by rw [cI (by decide)]; exact h1
  have e2 : (mg hc hy).I 38 7 = Int32.ofNat lim := by rw [cI (by decide)]; exact h2
  refine x_X9_beginStep G d _ Q ?_
  rw [e1, e2, n_add1, mg_sI_c (by decide)]
  exact ⟨fun _ => H, fun q => absurd ((n_lt (by omega) (by omega)).mpr h3) q⟩
theorem c_stepN (hd : 1 ≤ d) {st lim : Nat} (h1 : hc.I 38 11 = Int32.ofNat st) (h2 : hc.I 38 7 = Int32.ofNat lim) (h3 : ¬ st < lim) (h4 : st < 2147483648) : cR G d yX9_beginStep [.ref 38] hc rvv (hc.sI 38 6 (-1)) := by
  obtain ⟨d, rfl⟩ := Nat.exists_eq_add_of_le' hd
  intro hy Q H
  have e1 : (mg hc hy).I 38 11 = Int32.ofNat st := by rw [cI (by decide)]; exact h1
  have e2 : (mg hc hy).I 38 7 = Int32.ofNat lim := by rw [cI (by decide)]; exact h2
  refine x_X9_beginStep G d _ Q ?_
  rw [e1, e2]
  rw [← mg_sI_c (by decide)] at H
  exact ⟨fun q => absurd ((n_lt (by omega) (by omega)).mp q) h3, fun _ => H⟩
theorem c_takes : ∀ (k i : Nat), i + k = 64 → ∃ sp : Nat, 1 ≤ sp ∧ sp ≤ 65 ∧ ∀ (hy : qh) (Q : qr → qh → Prop), Q (riv (Int32.ofNat sp)) (mg (hc.sI 37 1 (hc.I 37 1 + 1)) hy) → q_N0 G m_X6_take (d + 1) Q 2 [.ref 37, .int (Int32.ofNat C), .int (Int32.ofNat i)] [] (mg hc hy)
  | 0, i, hi => ⟨65, by decide, Nat.le_refl _, fun hy Q H => by
    have e : i = 64 := by omega
    subst e
    refine x_X6_take_2 G d _ _ _ Q ⟨fun _ => ?_, fun q => absurd (by decide) q⟩
    rw [cI (by decide), mg_sI_c (by decide)]
    exact H⟩
  | k + 1, i, hi => by
    have n64 : ¬ (64 : Int32) ≤ Int32.ofNat i := fun q => absurd ((n_le (a := 64) (by omega) (by omega)).mp q) (by omega)
    by_cases z : (lg_cmp ((((hc.L 37 0).toUInt64 >>> (((Int32.ofNat C + Int32.ofNat i) - (Int32.ofNat C + Int32.ofNat i) / 64 * 64).toInt64.toUInt64 &&& Int64.toUInt64 63)).toInt64) &&& 1) 1) = 0
    · obtain ⟨sp, s1, s2, s3⟩ := c_takes k (i + 1) (by omega)
      refine ⟨sp, s1, s2, fun hy Q H => ?_⟩
      refine x_X6_take_2 G d _ _ _ Q ⟨fun q => absurd q n64, fun _ => ⟨fun q => absurd ?_ q, fun _ => ?_⟩⟩
      · rw [cL (by decide)]; exact z
      · rw [n_add1]; exact s3 hy Q H
    · refine ⟨i + 1, by omega, by omega, fun hy Q H => ?_⟩
      refine x_X6_take_2 G d _ _ _ Q ⟨fun q => absurd q n64, fun _ => ⟨fun _ => ?_, fun q => absurd ?_ z⟩⟩
      · rw [cI (by decide), mg_sI_c (by decide), n_add1]; exact H
      · rw [cL (by decide)] at q; exact q
theorem c_take (hd : 1 ≤ d) : ∃ sp : Nat, 1 ≤ sp ∧ sp ≤ 65 ∧ cR G d yX6_take [.ref 37, .int (Int32.ofNat C)] hc (riv (Int32.ofNat sp)) (hc.sI 37 1 (hc.I 37 1 + 1)) := by
  obtain ⟨d, rfl⟩ := Nat.exists_eq_add_of_le' hd
  obtain ⟨sp, s1, s2, s3⟩ := c_takes (G := G) (d := d) (hc := hc) (C := C) 64 0 rfl
  exact ⟨sp, s1, s2, fun hy Q H => x_X6_take G d _ _ Q (s3 hy Q H)⟩
end RUND
