/-! ===== the RUN: the reference's STATEMENTS ===== -/
section MGO
variable {G : qG} {d p s : Nat} {hm hm1 hm2 hm3 hm' : qh} {r u : Int32}
/-- where the reference stands at STATEMENT s -/
def MK (p s : Nat) (hm : qh) : Prop := q_prg p ∧ s < 2000 ∧ hm.R 43 21 = some p
theorem MK.at (k : MK p s hm) (o : Nat) (x : qh) : (mg x hm).I (p + o) s = hm.I (p + o) s := by rw [mI (by have := prg_lt k.1; omega)]
theorem MK.rr (k : MK p s hm) (x : qh) : (mg x hm).R 43 21 = some p := by rw [mRr (by decide)]; exact k.2.2
theorem mo_0 {f x : Nat} (k : MK p s hm) (h : hm.I (p + 2) s = 0) (h4 : hm.I (p + 4) s = Int32.ofNat f) (h3 : hm.I (p + 3) s = Int32.ofNat x) (hx : x < 16) (t : mR G d yX12_tells [.ref 43, .int (Int32.ofNat f)] hm (riv u) hm1) : mR G (d + 1) yX12_goesOne [.ref 43, .int (Int32.ofNat s)] hm (riv 0) (hm1.sI 78 x u) := by
  intro hy Q H
  have hs := k.2.1
  refine x_X12_goesOne G d _ _ Q ⟨p, k.rr hy, k.1, n_in (by omega) hs, ?_⟩
  rw [n_N (by omega), k.at, k.at, k.at, h, h4, h3]
  refine ⟨fun _ => ⟨n_in (by omega) hs, n_in (by omega) hs, t hy _ ⟨n_in (by omega) (by omega), ?_⟩⟩, fun q => absurd q (by decide), fun q => absurd q (by decide), fun q => absurd q (by decide), fun q => absurd q (by decide), fun q => absurd q (by decide), fun q => absurd q (by decide), fun q => absurd rfl q.1⟩
  rw [n_N (by omega), mg_sI_m (by decide)]
  exact H
theorem mo_1 (k : MK p s hm) (h : hm.I (p + 2) s = 1) (t : mR G d yX12_stores [.ref 43, .int (Int32.ofNat s)] hm rvv hm1) : mR G (d + 1) yX12_goesOne [.ref 43, .int (Int32.ofNat s)] hm (riv 0) hm1 := by
  intro hy Q H
  have hs := k.2.1
  refine x_X12_goesOne G d _ _ Q ⟨p, k.rr hy, k.1, n_in (by omega) hs, ?_⟩
  rw [n_N (by omega), k.at, h]
  exact ⟨fun q => absurd q (by decide), fun _ => t hy _ H, fun q => absurd q (by decide), fun q => absurd q (by decide), fun q => absurd q (by decide), fun q => absurd q (by decide), fun q => absurd q (by decide), fun q => absurd rfl q.2.1⟩
theorem mo_2 (k : MK p s hm) (h : hm.I (p + 2) s = 2) (t : mR G d yX12_goesIf [.ref 43, .int (Int32.ofNat s)] hm (riv r) hm1) : mR G (d + 1) yX12_goesOne [.ref 43, .int (Int32.ofNat s)] hm (riv r) hm1 := by
  intro hy Q H
  have hs := k.2.1
  refine x_X12_goesOne G d _ _ Q ⟨p, k.rr hy, k.1, n_in (by omega) hs, ?_⟩
  rw [n_N (by omega), k.at, h]
  exact ⟨fun q => absurd q (by decide), fun q => absurd q (by decide), fun _ => t hy _ H, fun q => absurd q (by decide), fun q => absurd q (by decide), fun q => absurd q (by decide), fun q => absurd q (by decide), fun q => absurd rfl q.2.2.1⟩
theorem mo_3 (k : MK p s hm) (h : hm.I (p + 2) s = 3) (t : mR G d yX12_goesWhile [.ref 43, .int (Int32.ofNat s)] hm (riv r) hm1) : mR G (d + 1) yX12_goesOne [.ref 43, .int (Int32.ofNat s)] hm (riv r) hm1 := by
  intro hy Q H
  have hs := k.2.1
  refine x_X12_goesOne G d _ _ Q ⟨p, k.rr hy, k.1, n_in (by omega) hs, ?_⟩
  rw [n_N (by omega), k.at, h]
  exact ⟨fun q => absurd q (by decide), fun q => absurd q (by decide), fun q => absurd q (by decide), fun _ => t hy _ H, fun q => absurd q (by decide), fun q => absurd q (by decide), fun q => absurd q (by decide), fun q => absurd rfl q.2.2.2.1⟩
theorem mo_4 (k : MK p s hm) (h : hm.I (p + 2) s = 4) : mR G (d + 1) yX12_goesOne [.ref 43, .int (Int32.ofNat s)] hm (riv 1) hm := by
  intro hy Q H
  have hs := k.2.1
  refine x_X12_goesOne G d _ _ Q ⟨p, k.rr hy, k.1, n_in (by omega) hs, ?_⟩
  rw [n_N (by omega), k.at, h]
  exact ⟨fun q => absurd q (by decide), fun q => absurd q (by decide), fun q => absurd q (by decide), fun q => absurd q (by decide), fun _ => H, fun q => absurd q (by decide), fun q => absurd q (by decide), fun q => absurd rfl q.2.2.2.2.1⟩
theorem mo_5 (k : MK p s hm) (h : hm.I (p + 2) s = 5) : mR G (d + 1) yX12_goesOne [.ref 43, .int (Int32.ofNat s)] hm (riv 2) hm := by
  intro hy Q H
  have hs := k.2.1
  refine x_X12_goesOne G d _ _ Q ⟨p, k.rr hy, k.1, n_in (by omega) hs, ?_⟩
  rw [n_N (by omega), k.at, h]
  exact ⟨fun q => absurd q (by decide), fun q => absurd q (by decide), fun q => absurd q (by decide), fun q => absurd q (by decide), fun q => absurd q (by decide), fun _ => H, fun q => absurd q (by decide), fun q => absurd rfl q.2.2.2.2.2.1⟩
theorem mo_6 {f : Nat} (k : MK p s hm) (h : hm.I (p + 2) s = 6) (h4 : hm.I (p + 4) s = Int32.ofNat f) (t : mR G d yX12_tells [.ref 43, .int (Int32.ofNat f)] hm (riv u) hm1) : mR G (d + 1) yX12_goesOne [.ref 43, .int (Int32.ofNat s)] hm (riv 3) (hm1.sI 43 33 u) := by
  intro hy Q H
  have hs := k.2.1
  refine x_X12_goesOne G d _ _ Q ⟨p, k.rr hy, k.1, n_in (by omega) hs, ?_⟩
  rw [n_N (by omega), k.at, k.at, h, h4]
  refine ⟨fun q => absurd q (by decide), fun q => absurd q (by decide), fun q => absurd q (by decide), fun q => absurd q (by decide), fun q => absurd q (by decide), fun q => absurd q (by decide), fun _ => ⟨n_in (by omega) hs, t hy _ ?_⟩, fun q => absurd rfl q.2.2.2.2.2.2⟩
  rw [← mg_sI_m (by decide)] at H
  exact H
theorem mo_7 {f : Int32} (k : MK p s hm) (h : hm.I (p + 2) s = 7) (h6 : hm.I (p + 6) s = f) (t : mR G d yX12_goes [.ref 43, .int f] hm (riv r) hm1) : mR G (d + 1) yX12_goesOne [.ref 43, .int (Int32.ofNat s)] hm (riv r) hm1 := by
  intro hy Q H
  have hs := k.2.1
  refine x_X12_goesOne G d _ _ Q ⟨p, k.rr hy, k.1, n_in (by omega) hs, ?_⟩
  rw [n_N (by omega), k.at, k.at 6, h, h6]
  exact ⟨fun q => absurd q (by decide), fun q => absurd q (by decide), fun q => absurd q (by decide), fun q => absurd q (by decide), fun q => absurd q (by decide), fun q => absurd q (by decide), fun q => absurd q (by decide), fun _ => ⟨n_in (by omega) hs, t hy _ H⟩⟩
theorem mo_st {f f2 j kk w : Nat} {u u2 : Int32} (k : MK p s hm) (h4 : hm.I (p + 4) s = Int32.ofNat f) (h3 : hm.I (p + 3) s = Int32.ofNat j) (t1 : mR G (d + 1) yX12_tells [.ref 43, .int (Int32.ofNat f)] hm (riv u) hm1) (k1 : MK p s hm1) (hj : j < 8) (hk : hm1.I (p + 1) j = Int32.ofNat kk) (g1 : 1 ≤ kk) (g2 : kk ≤ 256) (h5 : hm1.I (p + 5) s = Int32.ofNat f2) (t2 : mR G (d + 1) yX12_tells [.ref 43, .int (Int32.ofNat f2)] hm1 (riv u2) hm2) (hw : hm2.I 43 37 = Int32.ofNat w) (hw2 : w < 2147483647) : mR G (d + 2) yX12_stores [.ref 43, .int (Int32.ofNat s)] hm rvv (msH hm2 w j (fm u kk) u2) := by
  intro hy Q H
  have hs := k.2.1
  have hl := fm_lt u g1
  have e37 : (mg hy hm2).I 43 37 = Int32.ofNat w := by rw [mI (by decide)]; exact hw
  refine x_X12_stores G (d + 1) _ _ Q ⟨p, k.rr hy, k.1, n_in (by omega) hs, n_in (by omega) hs, ?_⟩
  rw [n_N (by omega), k.at, k.at, h4, h3]
  refine t1 hy _ (m_placeOf k.1 (by omega) k1.2.2 hj hk g1 g2 u hy _ ⟨p, k1.rr hy, k.1, n_in (by omega) hs, ?_⟩)
  rw [k1.at, h5]
  refine t2 hy _ ⟨n_in (by omega) (by omega), ?_⟩
  rw [e37, n_N (by omega), n_add1, show (256 : Int32) = Int32.ofNat 256 from rfl, n_mul, n_sub (by omega), show j * 256 + fm u kk - 256 * j = fm u kk by omega]
  unfold msH at H
  refine ⟨fun q => ?_, fun q => ?_⟩
  · have h2 := (n_le (a := 200) (by omega) (by omega)).mp q
    rw [if_neg (by omega)] at H
    rw [mg_sI_m (by decide), mg_sI_m (by decide)]
    exact H
  · have hw3 : w < 200 := Nat.lt_of_not_le (fun z => q ((n_le (a := 200) (by omega) (by omega)).mpr z))
    rw [if_pos hw3] at H
    rw [show (3 : Int32) = Int32.ofNat 3 from rfl, n_mul, show (2 : Int32) = Int32.ofNat 2 from rfl, n_add1, n_add, n_N (by omega), n_N (by omega), n_N (by omega), mg_sI_m (by decide), mg_sI_m (by decide), mg_sI_m (by decide), mg_sI_m (by decide), mg_sI_m (by decide)]
    exact ⟨n_in (by omega) (by omega), n_in (by omega) (by omega), n_in (by omega) (by omega), H⟩
/-- what follows the E of an if -/
def Iw (G : qG) (d : Nat) (to : Int32) (h : qh) (Q : qr → qh → Prop) : Prop :=
  (to = (-1) → (q_M0 G d yX12_begins [.ref 43] h (q_ri (fun r8 h7 => Q (.inl (some (.int (if r8 = 0 then (4 : Int32) else 0)))) h7) (fun E h => Q (.inr E) h)))) ∧
  (¬ to = (-1) → (q_M0 G d yX12_begins [.ref 43] h (q_ri (fun r11 h10 => (¬ r11 = 0 → (q_M0 G d yX12_goesOne [.ref 43, .int to] h10 (q_ri (fun r13 h12 => (r13 = 0 → (q_M0 G d yX12_begins [.ref 43] h12 (q_ri (fun r15 h14 => Q (.inl (some (.int (if r15 = 0 then (4 : Int32) else 0)))) h14) (fun E h => Q (.inr E) h)))) ∧ (¬ r13 = 0 → (Q (.inl (some (.int r13))) h12))) (fun E h => Q (.inr E) h)))) ∧ (r11 = 0 → (Q (.inl (some (.int 4))) h10))) (fun E h => Q (.inr E) h))))
theorem mi_S {f : Nat} {to : Int32} (k : MK p s hm) (h4 : hm.I (p + 4) s = Int32.ofNat f) (t : mR G d yX12_tells [.ref 43, .int (Int32.ofNat f)] hm (riv u) hm1) (k1 : MK p s hm1) (a1 : u = 0 → hm1.I (p + 7) s = to) (a2 : ¬ u = 0 → hm1.I (p + 6) s = to) (K : ∀ hy Q, Q (riv r) (mg hy hm') → Iw G d to (mg hy hm1) Q) : mR G (d + 1) yX12_goesIf [.ref 43, .int (Int32.ofNat s)] hm (riv r) hm' := by
  intro hy Q H
  have hs := k.2.1
  refine x_X12_goesIf G d _ _ Q ⟨p, k.rr hy, k.1, n_in (by omega) hs, ?_⟩
  rw [n_N (by omega), k.at, h4]
  refine t hy _ ⟨fun q => ⟨p, k1.rr hy, k.1, n_in (by omega) hs, ?_⟩, fun q => ⟨p, k1.rr hy, k.1, n_in (by omega) hs, ?_⟩⟩
  · rw [k1.at, a1 q]; exact K hy Q H
  · rw [k1.at, a2 q]; exact K hy Q H
/-- where the reference's while goes on -/
def mW (G : qG) (d s : Nat) (hm : qh) (r : Int32) (hm' : qh) : Prop := ∀ (hy : qh) (Q : qr → qh → Prop), Q (riv r) (mg hy hm') → q_N0 G m_X12_goesWhile (d + 1) Q 0 [.ref 43, .int (Int32.ofNat s), .null] [] (mg hy hm)
theorem mw_no (b : mR G d yX12_begins [.ref 43] hm (riv 0) hm1) : mW G d s hm 4 hm1 := fun hy Q H => x_X12_goesWhile_0 G d _ _ Q (b hy _ ⟨fun q => absurd rfl q, fun _ => H⟩)
theorem mw_0 {f : Nat} (b : mR G d yX12_begins [.ref 43] hm (riv 1) hm1) (k : MK p s hm1) (h4 : hm1.I (p + 4) s = Int32.ofNat f) (t : mR G d yX12_tells [.ref 43, .int (Int32.ofNat f)] hm1 (riv 0) hm2) (b2 : mR G d yX12_begins [.ref 43] hm2 (riv r) hm3) : mW G d s hm (if r = 0 then 4 else 0) hm3 := fun hy Q H => x_X12_goesWhile_0 G d _ _ Q (b hy _ ⟨fun _ => ⟨p, k.rr hy, k.1, n_in (by have := k.2.1; omega) k.2.1, by
    rw [n_N (by have := k.2.1; omega), k.at, h4]
    exact t hy _ ⟨fun q => absurd rfl q, fun _ => b2 hy _ H⟩⟩, fun q => absurd q (by decide)⟩)
theorem mw_n {f : Nat} (b : mR G d yX12_begins [.ref 43] hm (riv 1) hm1) (k : MK p s hm1) (h4 : hm1.I (p + 4) s = Int32.ofNat f) (t : mR G d yX12_tells [.ref 43, .int (Int32.ofNat f)] hm1 (riv u) hm2) (hu : ¬ u = 0) (b2 : mR G d yX12_begins [.ref 43] hm2 (riv 0) hm3) : mW G d s hm 4 hm3 := fun hy Q H => x_X12_goesWhile_0 G d _ _ Q (b hy _ ⟨fun _ => ⟨p, k.rr hy, k.1, n_in (by have := k.2.1; omega) k.2.1, by
    rw [n_N (by have := k.2.1; omega), k.at, h4]
    exact t hy _ ⟨fun _ => b2 hy _ ⟨fun q => absurd rfl q, fun _ => H⟩, fun q => absurd q hu⟩⟩, fun q => absurd q (by decide)⟩)
/-- once round: what is left behind the STATEMENT -/
theorem mw_r {f : Nat} {to q0 : Int32} {hm4 : qh} (b : mR G d yX12_begins [.ref 43] hm (riv 1) hm1) (k : MK p s hm1) (h4 : hm1.I (p + 4) s = Int32.ofNat f) (t : mR G d yX12_tells [.ref 43, .int (Int32.ofNat f)] hm1 (riv u) hm2) (hu : ¬ u = 0) (b2 : mR G d yX12_begins [.ref 43] hm2 (riv 1) hm3) (k3 : MK p s hm3) (h6 : hm3.I (p + 6) s = to) (g : mR G d yX12_goesOne [.ref 43, .int to] hm3 (riv q0) hm4)
    (K : (q0 = 1 ∧ ∃ z, mR G d yX12_begins [.ref 43] hm4 (riv z) hm' ∧ r = if z = 0 then 4 else 0) ∨ (q0 = 3 ∧ r = 3 ∧ hm' = hm4) ∨ (q0 = 4 ∧ r = 4 ∧ hm' = hm4) ∨ ((q0 = 0 ∨ q0 = 2) ∧ mW G d s hm4 r hm')) : mW G d s hm r hm' := fun hy Q H => x_X12_goesWhile_0 G d _ _ Q (b hy _ ⟨fun _ => ⟨p, k.rr hy, k.1, n_in (by have := k.2.1; omega) k.2.1, by
    rw [n_N (by have := k.2.1; omega), k.at, h4]
    refine t hy _ ⟨fun _ => b2 hy _ ⟨fun _ => ⟨p, k3.rr hy, k3.1, n_in (by have := k.2.1; omega) k.2.1, ?_⟩, fun q => absurd q (by decide)⟩, fun q => absurd q hu⟩
    rw [k3.at, h6]
    refine g hy _ ?_
    rcases K with ⟨rfl, z, z1, rfl⟩ | ⟨rfl, rfl, rfl⟩ | ⟨rfl, rfl, rfl⟩ | ⟨rfl | rfl, z⟩
    · exact ⟨fun q => absurd rfl q, fun _ => z1 hy _ H⟩
    · exact ⟨fun _ => ⟨fun _ => H, fun q => absurd rfl q⟩, fun q => absurd q (by decide)⟩
    · exact ⟨fun _ => ⟨fun q => absurd q (by decide), fun _ => ⟨fun q => absurd rfl q, fun _ => H⟩⟩, fun q => absurd q (by decide)⟩
    · exact ⟨fun _ => ⟨fun q => absurd q (by decide), fun _ => ⟨fun _ => z hy Q H, fun q => absurd q (by decide)⟩⟩, fun q => absurd q (by decide)⟩
    · exact ⟨fun _ => ⟨fun q => absurd q (by decide), fun _ => ⟨fun _ => z hy Q H, fun q => absurd q (by decide)⟩⟩, fun q => absurd q (by decide)⟩⟩, fun q => absurd q (by decide)⟩)
/-- where the reference's row of STATEMENTS goes on -/
def mL (G : qG) (d : Nat) (l1 f : Int32) (hm : qh) (r : Int32) (hm' : qh) : Prop := ∀ (hy : qh) (Q : qr → qh → Prop), Q (riv r) (mg hy hm') → q_N0 G m_X12_goes (d + 1) Q 2 [.ref 43, .int l1, .int f, .null] [] (mg hy hm)
theorem ml_end {l1 : Int32} : mL G d l1 (-1) hm 0 hm := fun hy Q H => x_X12_goes_2 G d _ _ _ Q ⟨fun _ => H, fun q => absurd rfl q⟩
theorem ml_out {l1 : Int32} (hs : s < 2000) (g : mR G d yX12_goesOne [.ref 43, .int (Int32.ofNat s)] hm (riv r) hm1) (hr : ¬ r = 0) : mL G d l1 (Int32.ofNat s) hm r hm1 := fun hy Q H => x_X12_goes_2 G d _ _ _ Q ⟨fun q => absurd q (n_ne1 (by omega)), fun _ => g hy _ ⟨fun q => absurd q hr, fun _ => H⟩⟩
theorem ml_on {l1 f : Int32} (g : mR G d yX12_goesOne [.ref 43, .int (Int32.ofNat s)] hm (riv 0) hm1) (k : MK p s hm1) (h8 : hm1.I (p + 8) s = f) (z : mL G d l1 f hm1 r hm') : mL G d l1 (Int32.ofNat s) hm r hm' := fun hy Q H => x_X12_goes_2 G d _ _ _ Q ⟨fun q => absurd q (n_ne1 (by have := k.2.1; omega)), fun _ => g hy _ ⟨fun _ => ⟨p, k.rr hy, k.1, n_in (by have := k.2.1; omega) k.2.1, by
  rw [n_N (by have := k.2.1; omega), k.at, h8]
  exact z hy Q H⟩, fun q => absurd rfl q⟩⟩
end MGO
