/-! ===== the RUN: the reference tells an E, code by code ===== -/
def mT (G : qG) (d f : Nat) (hm : qh) (n k : Nat) (hm' : qh) (n' k' : Nat) : Prop := ∀ (hx : qh) (Q : qr → qh → Prop), q_N0 G m_X12_tells (d + 1) Q 4 [.ref 43, .int (Int32.ofNat f), .int (Int32.ofNat n'), .int (Int32.ofNat k'), .null] [] (mg hx hm') → q_N0 G m_X12_tells (d + 1) Q 4 [.ref 43, .int (Int32.ofNat f), .int (Int32.ofNat n), .int (Int32.ofNat k), .null] [] (mg hx hm)
theorem n_addm (n : Nat) : Int32.ofNat (n + 1) + (-1) = Int32.ofNat n := by
  rw [← Int32.sub_eq_add_neg, n_sub1]
/-- what a code does, by its kind -/
def Tw (G : qG) (d f k : Nat) (o arg l2 : Int32) (h : qh) (Q : qr → qh → Prop) : Prop :=
  (o = 0 → (vp_in l2 2000 ∧ (q_N0 G m_X12_tells (d + 1) Q 4 [.ref 43, .int (Int32.ofNat f), .int (l2 + 1), .int (Int32.ofNat (k + 1)), .null] [] (h.sI 80 l2.toNatClampNeg arg)))) ∧
  (o = 1 → (vp_in arg 2016 ∧ (vp_in l2 2000 ∧ (q_N0 G m_X12_tells (d + 1) Q 4 [.ref 43, .int (Int32.ofNat f), .int (l2 + 1), .int (Int32.ofNat (k + 1)), .null] [] (h.sI 80 l2.toNatClampNeg (h.I 78 (arg.toNatClampNeg))))))) ∧
  (o = 2 → (vp_in (l2 - 1) 2000 ∧ (q_M0 G d yX12_placeOf [.ref 43, .int arg, .int (h.I 80 ((l2 - 1).toNatClampNeg))] h (q_ri (fun r14 h13 => vp_in r14 2048 ∧ (vp_in (l2 - 1) 2000 ∧ (q_N0 G m_X12_tells (d + 1) Q 4 [.ref 43, .int (Int32.ofNat f), .int l2, .int (Int32.ofNat (k + 1)), .null] [] ((h13.sI 80 ((l2 - 1).toNatClampNeg) (h13.I 76 r14.toNatClampNeg)).sI 43 36 ((h13.I 43 36) + 1))))) (fun E h => Q (.inr E) h))))) ∧
  (o = 3 → (vp_in ((l2 + (-1)) - 1) 2000 ∧ (vp_in (l2 + (-1)) 2000 ∧ (q_M0 G d yX12_works [.int arg, .int (h.I 80 (((l2 + (-1)) - 1).toNatClampNeg)), .int (h.I 80 ((l2 + (-1)).toNatClampNeg))] h (q_ri (fun r20 h19 => vp_in ((l2 + (-1)) - 1) 2000 ∧ (q_N0 G m_X12_tells (d + 1) Q 4 [.ref 43, .int (Int32.ofNat f), .int (l2 + (-1)), .int (Int32.ofNat (k + 1)), .null] [] (h19.sI 80 (((l2 + (-1)) - 1).toNatClampNeg) r20))) (fun E h => Q (.inr E) h)))))) ∧
  (o = 4 → (vp_in (l2 - 1) 2000 ∧ (vp_in (l2 - 1) 2000 ∧ (q_N0 G m_X12_tells (d + 1) Q 4 [.ref 43, .int (Int32.ofNat f), .int l2, .int (Int32.ofNat (k + 1)), .null] [] (h.sI 80 ((l2 - 1).toNatClampNeg) (-(h.I 80 ((l2 - 1).toNatClampNeg)))))))) ∧
  (o = 5 → (vp_in (l2 - 1) 2000 ∧ (q_M0 G d yX12_truth [.int (if (h.I 80 ((l2 - 1).toNatClampNeg)) = 0 then (1 : Int32) else 0)] h (q_ri (fun r27 h26 => vp_in (l2 - 1) 2000 ∧ (q_N0 G m_X12_tells (d + 1) Q 4 [.ref 43, .int (Int32.ofNat f), .int l2, .int (Int32.ofNat (k + 1)), .null] [] (h26.sI 80 ((l2 - 1).toNatClampNeg) r27))) (fun E h => Q (.inr E) h))))) ∧
  (o = 6 → (vp_in (l2 - 1) 2000 ∧ (vp_in (l2 - 1) 2000 ∧ (q_N0 G m_X12_tells (d + 1) Q 4 [.ref 43, .int (Int32.ofNat f), .int l2, .int (Int32.ofNat (k + 1)), .null] [] (h.sI 80 ((l2 - 1).toNatClampNeg) ((h.I 80 ((l2 - 1).toNatClampNeg)) ^^^ (-1))))))) ∧
  (¬ o = 0 ∧ ¬ o = 1 ∧ ¬ o = 2 ∧ ¬ o = 3 ∧ ¬ o = 4 ∧ ¬ o = 5 ∧ ¬ o = 6 → (vp_in ((l2 + (-1)) - 1) 2000 ∧ (vp_in (l2 + (-1)) 2000 ∧ (q_M0 G d yX12_works [.int arg, .int (h.I 80 (((l2 + (-1)) - 1).toNatClampNeg)), .int (h.I 80 ((l2 + (-1)).toNatClampNeg))] h (q_ri (fun r34 h33 => vp_in ((l2 + (-1)) - 1) 2000 ∧ (q_N0 G m_X12_tells (d + 1) Q 4 [.ref 43, .int (Int32.ofNat f), .int (l2 + (-1)), .int (Int32.ofNat (k + 1)), .null] [] (h33.sI 80 (((l2 + (-1)) - 1).toNatClampNeg) r34))) (fun E h => Q (.inr E) h))))))
section MTELL
variable {G : qG} {d f p e m : Nat} {hm hm' : qh} {n n' k : Nat} {o arg : Int32}
theorem mt_S (hp : q_prg p) (he : q_end e) (h1 : hm.R 43 21 = some p) (h2 : hm.R 43 41 = some e) (h3 : hm.I e f = Int32.ofNat (f + m)) (hf : f + m ≤ 2000) (hk : k < f + m) (hfk : f ≤ k) (hcd : cAt hm p k = (o, arg)) (K : ∀ hx Q, q_N0 G m_X12_tells (d + 1) Q 4 [.ref 43, .int (Int32.ofNat f), .int (Int32.ofNat n'), .int (Int32.ofNat (k + 1)), .null] [] (mg hx hm') → Tw G d f k o arg (Int32.ofNat n) (mg hx hm) Q) : mT G d f hm n k hm' n' (k + 1) := by
  intro hx Q H
  have hpl := prg_lt hp
  have hel := end_lt he
  unfold cAt at hcd
  simp only [Prod.mk.injEq] at hcd
  have e3 : (mg hx hm).I e f = Int32.ofNat (f + m) := by rw [mI (by omega)]; exact h3
  have e9 : (mg hx hm).I (p + 9) k = o := by rw [mI (by omega)]; exact hcd.1
  have e10 : (mg hx hm).I (p + 10) k = arg := by rw [mI (by omega)]; exact hcd.2
  refine x_X12_tells_4 G d _ _ _ _ Q ⟨e, by rw [mRr (by decide)]; exact h2, he, n_in (by omega) (by omega), ?_⟩
  rw [n_N (by omega), e3]
  refine ⟨fun q => absurd ((n_le (by omega) (by omega)).mp q) (by omega), fun _ => ⟨p, by rw [mRr (by decide)]; exact h1, hp, n_in (by omega) (by omega), n_in (by omega) (by omega), ?_⟩⟩
  rw [n_N (a := k) (by omega), e9, e10, n_add1 k]
  exact K hx Q H
theorem m_placeOf (hp : q_prg p) (hd : 1 ≤ d) {j kk : Nat} (h1 : hm.R 43 21 = some p) (hj : j < 8) (hk : hm.I (p + 1) j = Int32.ofNat kk) (k1 : 1 ≤ kk) (k2 : kk ≤ 256) (x : Int32) : mR G d yX12_placeOf [.ref 43, .int (Int32.ofNat j), .int x] hm (riv (Int32.ofNat (j * 256 + fm x kk))) hm := by
  obtain ⟨d, rfl⟩ := Nat.exists_eq_add_of_le' hd
  intro hx Q H
  have hpl := prg_lt hp
  have ek : (mg hx hm).I (p + 1) j = Int32.ofNat kk := by rw [mI (by omega)]; exact hk
  have hn : ¬ Int32.ofNat kk = 0 := fun q => absurd ((n_eq (b := 0) (by omega) (by omega)).mp q) (by omega)
  refine x_X12_placeOf G d _ _ _ Q ⟨p, by rw [mRr (by decide)]; exact h1, hp, n_in (by omega) hj, ?_⟩
  rw [n_N (by omega), ek, r_place x k1 (by omega), show (256 : Int32) = Int32.ofNat 256 from rfl, n_mul, n_add, Nat.mul_comm 256 j]
  exact ⟨hn, hn, H⟩
theorem mt_num (hp : q_prg p) (he : q_end e) (h1 : hm.R 43 21 = some p) (h2 : hm.R 43 41 = some e) (h3 : hm.I e f = Int32.ofNat (f + m)) (hf : f + m ≤ 2000) (hk : k < f + m) (hfk : f ≤ k) (hcd : cAt hm p k = (0, arg)) (hn : n < 2000) : mT G d f hm n k (hm.sI 80 n arg) (n + 1) (k + 1) :=
  mt_S hp he h1 h2 h3 hf hk hfk hcd (fun hx Q H => ⟨fun _ => by
    rw [n_N (by omega), n_add1, mg_sI_m (by decide)]
    exact ⟨n_in (by omega) hn, H⟩, fun q => absurd q (by decide), fun q => absurd q (by decide), fun q => absurd q (by decide), fun q => absurd q (by decide), fun q => absurd q (by decide), fun q => absurd q (by decide), fun q => absurd rfl q.1⟩)
theorem mt_var (hp : q_prg p) (he : q_end e) (h1 : hm.R 43 21 = some p) (h2 : hm.R 43 41 = some e) (h3 : hm.I e f = Int32.ofNat (f + m)) (hf : f + m ≤ 2000) (hk : k < f + m) (hfk : f ≤ k) {y : Nat} (hcd : cAt hm p k = (1, Int32.ofNat y)) (hy : y < 2016) (hn : n < 2000) : mT G d f hm n k (hm.sI 80 n (hm.I 78 y)) (n + 1) (k + 1) :=
  mt_S hp he h1 h2 h3 hf hk hfk hcd (fun hx Q H => ⟨fun q => absurd q (by decide), fun _ => by
    rw [n_N (a := n) (by omega), n_N (a := y) (by omega), n_add1, mI (by decide), mg_sI_m (by decide)]
    exact ⟨n_in (by omega) hy, n_in (by omega) hn, H⟩, fun q => absurd q (by decide), fun q => absurd q (by decide), fun q => absurd q (by decide), fun q => absurd q (by decide), fun q => absurd q (by decide), fun q => absurd rfl q.2.1⟩)
theorem mt_cell (hp : q_prg p) (he : q_end e) (h1 : hm.R 43 21 = some p) (h2 : hm.R 43 41 = some e) (h3 : hm.I e f = Int32.ofNat (f + m)) (hf : f + m ≤ 2000) (hk : k < f + m) (hfk : f ≤ k) (hd : 1 ≤ d) {j kk : Nat} (hcd : cAt hm p k = (2, Int32.ofNat j)) (hj : j < 8) (hkk : hm.I (p + 1) j = Int32.ofNat kk) (k1 : 1 ≤ kk) (k2 : kk ≤ 256) (hn : n < 2000) : mT G d f hm (n + 1) k ((hm.sI 80 n (hm.I 76 (j * 256 + fm (hm.I 80 n) kk))).sI 43 36 (hm.I 43 36 + 1)) (n + 1) (k + 1) :=
  mt_S hp he h1 h2 h3 hf hk hfk hcd (fun hx Q H => ⟨fun q => absurd q (by decide), fun q => absurd q (by decide), fun _ => by
    have l := fm_lt (hm.I 80 n) k1
    have e80 : (mg hx hm).I 80 n = hm.I 80 n := by rw [mI (by decide)]
    have e76 : (mg hx hm).I 76 = hm.I 76 := by rw [mI (by decide)]
    have e43 : (mg hx hm).I 43 36 = hm.I 43 36 := by rw [mI (by decide)]
    rw [n_sub1, n_N (by omega), e80]
    refine ⟨n_in (by omega) hn, m_placeOf hp hd h1 hj hkk k1 k2 (hm.I 80 n) hx _ ⟨n_in (by omega) (by omega), n_in (by omega) hn, ?_⟩⟩
    rw [n_N (by omega), e76, e43, mg_sI_m (by decide), mg_sI_m (by decide)]
    exact H, fun q => absurd q (by decide), fun q => absurd q (by decide), fun q => absurd q (by decide), fun q => absurd q (by decide), fun q => absurd rfl q.2.2.1⟩)
theorem mt_two (hp : q_prg p) (he : q_end e) (h1 : hm.R 43 21 = some p) (h2 : hm.R 43 41 = some e) (h3 : hm.I e f = Int32.ofNat (f + m)) (hf : f + m ≤ 2000) (hk : k < f + m) (hfk : f ≤ k) {v : Int32} (hcd : cAt hm p k = (3, arg)) (hw : mR G d yX12_works [.int arg, .int (hm.I 80 n), .int (hm.I 80 (n + 1))] hm (riv v) hm) (hn : n + 1 < 2000) : mT G d f hm (n + 2) k (hm.sI 80 n v) (n + 1) (k + 1) :=
  mt_S hp he h1 h2 h3 hf hk hfk hcd (fun hx Q H => ⟨fun q => absurd q (by decide), fun q => absurd q (by decide), fun q => absurd q (by decide), fun _ => by
    have e80 : (mg hx hm).I 80 = hm.I 80 := by rw [mI (by decide)]
    rw [n_addm, n_sub1, n_N (by omega), n_N (by omega), e80]
    refine ⟨n_in (by omega) (by omega), n_in (by omega) hn, hw hx _ ⟨n_in (by omega) (by omega), ?_⟩⟩
    rw [mg_sI_m (by decide)]
    exact H, fun q => absurd q (by decide), fun q => absurd q (by decide), fun q => absurd q (by decide), fun q => absurd rfl q.2.2.2.1⟩)
theorem mt_neg (hp : q_prg p) (he : q_end e) (h1 : hm.R 43 21 = some p) (h2 : hm.R 43 41 = some e) (h3 : hm.I e f = Int32.ofNat (f + m)) (hf : f + m ≤ 2000) (hk : k < f + m) (hfk : f ≤ k) (hcd : cAt hm p k = (4, arg)) (hn : n < 2000) : mT G d f hm (n + 1) k (hm.sI 80 n (-(hm.I 80 n))) (n + 1) (k + 1) :=
  mt_S hp he h1 h2 h3 hf hk hfk hcd (fun hx Q H => ⟨fun q => absurd q (by decide), fun q => absurd q (by decide), fun q => absurd q (by decide), fun q => absurd q (by decide), fun _ => by
    have e80 : (mg hx hm).I 80 = hm.I 80 := by rw [mI (by decide)]
    rw [n_sub1, n_N (by omega), e80, mg_sI_m (by decide)]
    exact ⟨n_in (by omega) hn, n_in (by omega) hn, H⟩, fun q => absurd q (by decide), fun q => absurd q (by decide), fun q => absurd rfl q.2.2.2.2.1⟩)
theorem mt_not (hp : q_prg p) (he : q_end e) (h1 : hm.R 43 21 = some p) (h2 : hm.R 43 41 = some e) (h3 : hm.I e f = Int32.ofNat (f + m)) (hf : f + m ≤ 2000) (hk : k < f + m) (hfk : f ≤ k) (hd : 1 ≤ d) (hcd : cAt hm p k = (5, arg)) (hn : n < 2000) : mT G d f hm (n + 1) k (hm.sI 80 n (if (if hm.I 80 n = 0 then (1 : Int32) else 0) = 0 then 0 else 1)) (n + 1) (k + 1) := by
  obtain ⟨d, rfl⟩ := Nat.exists_eq_add_of_le' hd
  exact mt_S hp he h1 h2 h3 hf hk hfk hcd (fun hx Q H => ⟨fun q => absurd q (by decide), fun q => absurd q (by decide), fun q => absurd q (by decide), fun q => absurd q (by decide), fun q => absurd q (by decide), fun _ => by
    have e80 : (mg hx hm).I 80 = hm.I 80 := by rw [mI (by decide)]
    rw [n_sub1, n_N (by omega), e80]
    refine ⟨n_in (by omega) hn, x_X12_truth G d _ _ _ ⟨n_in (by omega) hn, ?_⟩⟩
    rw [mg_sI_m (by decide)]
    exact H, fun q => absurd q (by decide), fun q => absurd rfl q.2.2.2.2.2.1⟩)
theorem mt_inv (hp : q_prg p) (he : q_end e) (h1 : hm.R 43 21 = some p) (h2 : hm.R 43 41 = some e) (h3 : hm.I e f = Int32.ofNat (f + m)) (hf : f + m ≤ 2000) (hk : k < f + m) (hfk : f ≤ k) (hcd : cAt hm p k = (6, arg)) (hn : n < 2000) : mT G d f hm (n + 1) k (hm.sI 80 n (hm.I 80 n ^^^ (-1))) (n + 1) (k + 1) :=
  mt_S hp he h1 h2 h3 hf hk hfk hcd (fun hx Q H => ⟨fun q => absurd q (by decide), fun q => absurd q (by decide), fun q => absurd q (by decide), fun q => absurd q (by decide), fun q => absurd q (by decide), fun q => absurd q (by decide), fun _ => by
    have e80 : (mg hx hm).I 80 = hm.I 80 := by rw [mI (by decide)]
    rw [n_sub1, n_N (by omega), e80, mg_sI_m (by decide)]
    exact ⟨n_in (by omega) hn, n_in (by omega) hn, H⟩, fun q => absurd rfl q.2.2.2.2.2.2⟩)
theorem mt_end (he : q_end e) (h2 : hm.R 43 41 = some e) (h3 : hm.I e f = Int32.ofNat (f + m)) (hf : f + m ≤ 2000) (hfm : k = f + m) (hm1 : 1 ≤ m) : ∀ (hx : qh) (Q : qr → qh → Prop), Q (riv (hm.I 80 0)) (mg hx hm) → q_N0 G m_X12_tells (d + 1) Q 4 [.ref 43, .int (Int32.ofNat f), .int (Int32.ofNat n), .int (Int32.ofNat k), .null] [] (mg hx hm) := by
  intro hx Q H
  have hel := end_lt he
  have e3 : (mg hx hm).I e f = Int32.ofNat (f + m) := by rw [mI (by omega)]; exact h3
  have e80 : (mg hx hm).I 80 = hm.I 80 := by rw [mI (by decide)]
  refine x_X12_tells_4 G d _ _ _ _ Q ⟨e, by rw [mRr (by decide)]; exact h2, he, n_in (by omega) (by omega), ?_⟩
  rw [n_N (by omega), e3, e80]
  refine ⟨fun _ => ⟨n_in (a := 0) (by omega) (by omega), H⟩, fun q => absurd ((n_le (by omega) (by omega)).mpr (by omega)) q⟩
end MTELL
