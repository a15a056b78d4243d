/-! ===== the RUN: one part of the class's circuit works ===== -/
/-- from the beginning of one cycle of perform to that of another -/
def cS (G : qG) (d c : Nat) (lm : Int32) (hc : qh) (C : Nat) (hc' : qh) (C' : Nat) : Prop := ∀ (hx : qh) (Q : qr → qh → Prop), q_N0 G m_X9_perform (d + 1) Q 14 [.ref 38, .ref c, .ref 42, .int lm, .int (Int32.ofNat C')] [] (mg hc' hx) → q_N0 G m_X9_perform (d + 1) Q 14 [.ref 38, .ref c, .ref 42, .int lm, .int (Int32.ofNat C)] [] (mg hc hx)
/-- the token of part l is there (-1: of none) -/
def fll (hc : qh) (l : Int32) : Prop := l = -1 ∨ ∃ y : Nat, l = Int32.ofNat y ∧ y < 1400 ∧ hc.I 40 y = 1
def tkn (hc : qh) (l : Int32) : qh := if l = -1 then hc else (hc.sI 40 l.toNatClampNeg 0).sI 38 8 (hc.I 38 8 - 1)
def tkv (hc : qh) (l : Int32) : Int32 := if l = -1 then 0 else hc.I 39 l.toNatClampNeg
section RUNC
variable {G : qG} {d c : Nat} {lm : Int32} {hc hc' h1 h2 : qh} {C C1 C2 : Nat}
theorem cS.rf (hc : qh) (C : Nat) : cS G d c lm hc C hc C := fun _ _ h => h
theorem cS.tr (a : cS G d c lm hc C h1 C1) (b : cS G d c lm h1 C1 h2 C2) : cS G d c lm hc C h2 C2 := fun hx Q h => a hx Q (b hx Q h)
theorem c_iter (hq : q_cir c) (hd : 1 ≤ d) {sp x : Nat} (ht : hc.I 38 6 = Int32.ofNat x) (hx : x < 2147483648) (hC : C < 268800000) (r : cR G d yX9_isReady [.ref 38] hc (riv 1) hc) (w : cR G d yX9_work [.ref 38, .int (Int32.ofNat C)] hc (riv (Int32.ofNat sp)) hc') (h1 : 1 ≤ sp) (h2 : sp ≤ 65) : cS G d c lm hc C hc' (C + sp) := by
  obtain ⟨d, rfl⟩ := Nat.exists_eq_add_of_le' hd
  intro hy Q H
  have e6 : (mg hc hy).I 38 6 = Int32.ofNat x := by rw [cI (by decide)]; exact ht
  refine x_X9_perform_14 G (d + 1) c lm _ _ Q hq ⟨fun q => absurd (e6.symm.trans q) (n_ne1 hx), fun _ => ⟨fun q => ?_, fun _ => ?_⟩⟩
  · exact absurd ((n_le (a := 268800000) (by omega) (by omega)).mp q) (by omega)
  · refine r hy _ ⟨fun q => absurd q (by decide), fun _ => w hy _ ?_⟩
    refine x_J9_max_7cf53 G d _ _ _ _ ?_
    have e : (if Int32.ofNat sp < 1 then (1 : Int32) else Int32.ofNat sp) = Int32.ofNat sp := if_neg (fun q => absurd ((n_lt (b := 1) (by omega) (by omega)).mp q) (by omega))
    show q_N0 G m_X9_perform (d + 1 + 1) Q 14 [.ref 38, .ref c, .ref 42, .int lm, .int (Int32.ofNat C + (if Int32.ofNat sp < 1 then (1 : Int32) else Int32.ofNat sp))] [] (mg hc' hy)
    rw [e, n_add]
    exact H
theorem c_isFull (hd : 1 ≤ d) {y : Nat} (hy : y < 1400) (hf : hc.I 40 y = 1) : cR G d yX9_isFull [.ref 38, .int (Int32.ofNat y)] hc (riv 1) hc := by
  obtain ⟨d, rfl⟩ := Nat.exists_eq_add_of_le' hd
  intro hx Q H
  refine x_X9_isFull G d _ _ Q ⟨fun q => absurd q (n_nneg (by omega)), fun _ => ⟨fun q => absurd ((n_le (a := 1400) (by omega) (by omega)).mp q) (by omega), fun _ => ⟨n_in (by omega) hy, ?_⟩⟩⟩
  rw [n_N (by omega), cI (by decide), hf]
  exact ⟨Or.inr rfl, H⟩
theorem c_isFullN (hd : 1 ≤ d) : cR G d yX9_isFull [.ref 38, .int (-1)] hc (riv 0) hc := by
  obtain ⟨d, rfl⟩ := Nat.exists_eq_add_of_le' hd
  intro hx Q H
  exact x_X9_isFull G d _ _ Q ⟨fun _ => H, fun q => absurd (by decide) q⟩
theorem c_taken (hd : 2 ≤ d) {l : Int32} (hl : fll hc l) : cR G d yX9_taken [.ref 38, .int l] hc (riv (tkv hc l)) (tkn hc l) := by
  obtain ⟨d, rfl⟩ := Nat.exists_eq_add_of_le' hd
  intro hx Q H
  rcases hl with rfl | ⟨y, rfl, h1, h2⟩
  · refine x_X9_taken G (d + 1) _ _ Q (c_isFullN (by omega) hx _ ⟨fun q => absurd rfl q, fun _ => ?_⟩)
    exact H
  · refine x_X9_taken G (d + 1) _ _ Q (c_isFull (by omega) h1 h2 hx _ ⟨fun _ => ⟨n_in (by omega) h1, n_in (by omega) h1, ?_⟩, fun q => absurd q (by decide)⟩)
    unfold tkv tkn at H
    rw [if_neg (n_ne1 (by omega)), if_neg (n_ne1 (by omega))] at H
    rw [cI (by decide), cI (by decide), mg_sI_c (by decide), mg_sI_c (by decide)]
    exact H
theorem pA {k l r t : Int32} {x : Nat} (hp : pAt hc c x = (k, l, r, t)) : hc.I (c + 1) x = k ∧ hc.I (c + 2) x = l ∧ hc.I (c + 3) x = r ∧ hc.I (c + 4) x = t := by
  unfold pAt at hp
  simp only [Prod.mk.injEq] at hp
  exact hp
theorem c_ready (hq : q_cir c) (hd : 2 ≤ d) {P x : Nat} {k l r t : Int32} (hR : hc.R 38 5 = some c) (hP : hc.I c 6 = Int32.ofNat P) (hP2 : P ≤ 1400) (ht : hc.I 38 6 = Int32.ofNat x) (hx : x < P) (hf : hc.I 40 x = 0) (hp : pAt hc c x = (k, l, r, t)) (hl : fll hc l) (hr : fll hc r) : cR G d yX9_isReady [.ref 38] hc (riv 1) hc := by
  obtain ⟨d, rfl⟩ := Nat.exists_eq_add_of_le' hd
  intro hy Q H
  have hcl := cir_lt hq
  obtain ⟨p1, p2, p3, p4⟩ := pA hp
  have e6 : (mg hc hy).I 38 6 = Int32.ofNat x := by rw [cI (by decide)]; exact ht
  have eP : (mg hc hy).I c 6 = Int32.ofNat P := by rw [cI (by omega)]; exact hP
  have e40 : (mg hc hy).I 40 x = 0 := by rw [cI (by decide)]; exact hf
  have e2 : (mg hc hy).I (c + 2) x = l := by rw [cI (by omega)]; exact p2
  have e3 : (mg hc hy).I (c + 3) x = r := by rw [cI (by omega)]; exact p3
  refine x_X9_isReady G (d + 1) _ Q ?_
  rw [e6, n_N (by omega)]
  refine ⟨fun q => absurd q (n_nneg (by omega)), fun _ => ⟨c, by rw [cRr (by decide)]; exact hR, hq, ?_⟩⟩
  rw [eP, e40, e2, e3]
  refine ⟨fun q => absurd ((n_le (by omega) (by omega)).mp q) (by omega), fun _ => ⟨fun q => absurd ((n_le (a := 1400) (by omega) (by omega)).mp q) (by omega), fun _ => ⟨n_in (by omega) (by omega), fun _ => ⟨n_in (by omega) (by omega), n_in (by omega) (by omega), ?_⟩, fun q => absurd rfl q⟩⟩⟩
  have hr' : ∀ z : Int32, fll hc z → ¬ z = -1 → cR G (d + 1) yX9_isFull [.ref 38, .int z] hc (riv 1) hc := fun z hz hn => by
    rcases hz with q | ⟨y, rfl, a1, a2⟩
    · exact absurd q hn
    · exact c_isFull (by omega) a1 a2
  refine ⟨fun q => ⟨fun _ => H, fun q2 => hr' r hr q2 hy _ ⟨Or.inr rfl, H⟩⟩, fun q => hr' l hl q hy _ ⟨fun z => absurd z (by decide), fun _ => ⟨fun _ => H, fun q2 => hr' r hr q2 hy _ ⟨Or.inr rfl, H⟩⟩⟩⟩
/-- what stays while tokens are taken -/
theorem tkn_I (l : Int32) (o k : Nat) (h1 : o ≠ 40) (h2 : ¬ (o = 38 ∧ k = 8)) : (tkn hc l).I o k = hc.I o k := by
  unfold tkn
  split
  · rfl
  · rw [sI_I, if_neg h2, sI_I, if_neg (fun q => h1 q.1)]
theorem tkn_row (l : Int32) (o : Nat) (h1 : o ≠ 40) (h2 : o ≠ 38) : (tkn hc l).I o = hc.I o := by
  funext k
  exact tkn_I l o k h1 (fun q => h2 q.1)
theorem tkn_R (l : Int32) : (tkn hc l).R = hc.R := by unfold tkn; split <;> rfl
theorem tkn_L (l : Int32) : (tkn hc l).L = hc.L := by unfold tkn; split <;> rfl
/-- the heap with both tokens taken, and the turn gone on -/
def wkh (hc : qh) (l r : Int32) (x : Nat) : qh := (tkn (tkn hc l) r).sI 38 6 (Int32.ofNat (x + 1))
/-- what a part does, by its kind -/
def Sw (G : qG) (d c C x : Nat) (k t a b : Int32) (hT : qh) (Q : qr → qh → Prop) : Prop :=
  (k = 1 → q_M0 G d yX9_hand [.ref 38, .int (Int32.ofNat x), .int t] hT (q_rv (fun h14 => Q (.inl (some (.int 1))) h14) (fun E h => Q (.inr E) h))) ∧
  (k = 2 → q_M0 G d yX9_isVariable [.int t] hT (q_ri (fun r16 h15 => (r16 = 0 → (q_M0 G d yX9_hand [.ref 38, .int (Int32.ofNat x), .int 0] h15 (q_rv (fun h17 => Q (.inl (some (.int 1))) h17) (fun E h => Q (.inr E) h)))) ∧ (¬ r16 = 0 → (vp_in t 16 ∧ (q_M0 G d yX9_hand [.ref 38, .int (Int32.ofNat x), .int (h15.I 41 (t.toNatClampNeg))] h15 (q_rv (fun h19 => Q (.inl (some (.int 1))) h19) (fun E h => Q (.inr E) h)))))) (fun E h => Q (.inr E) h))) ∧
  (k = 3 → q_M0 G d yX3_ask [.ref 31, .int (Int32.ofNat C)] hT (q_ri (fun r21 h20 => q_M0 G d yX9_cellOf [.ref 38, .int t, .int a] h20 (q_ri (fun r23 h22 => q_M0 G d yX3_fetch [.ref 31, .int t, .int r23] h22 (q_ri (fun r25 h24 => q_M0 G d yX9_hand [.ref 38, .int (Int32.ofNat x), .int r25] h24 (q_rv (fun h26 => Q (.inl (some (.int r21))) h26) (fun E h => Q (.inr E) h))) (fun E h => Q (.inr E) h))) (fun E h => Q (.inr E) h))) (fun E h => Q (.inr E) h))) ∧
  (k = 4 → q_M0 G d yX9_isVariable [.int t] hT (q_ri (fun r28 h27 => (r28 = 0 → (Q (.inl (some (.int 1))) h27)) ∧ (¬ r28 = 0 → (vp_in t 16 ∧ (Q (.inl (some (.int 1))) (h27.sI 41 (t.toNatClampNeg) a))))) (fun E h => Q (.inr E) h))) ∧
  (k = 5 → q_M0 G d yX3_ask [.ref 31, .int (Int32.ofNat C)] hT (q_ri (fun r31 h30 => q_M0 G d yX9_cellOf [.ref 38, .int t, .int a] h30 (q_ri (fun r33 h32 => q_M0 G d yX3_store [.ref 31, .int t, .int r33, .int b] h32 (q_rv (fun h34 => Q (.inl (some (.int r31))) h34) (fun E h => Q (.inr E) h))) (fun E h => Q (.inr E) h))) (fun E h => Q (.inr E) h))) ∧
  (k = 6 → ((¬ a = 0 → (Q (.inl (some (.int 1))) (hT.sI 38 6 (Int32.ofNat (x + 1))))) ∧ (a = 0 → (q_M0 G d yX0_leadsTo [.ref c, .int t] hT (q_ri (fun r36 h35 => Q (.inl (some (.int 1))) (h35.sI 38 6 r36)) (fun E h => Q (.inr E) h)))))) ∧
  (k = 7 → q_M0 G d yX9_beginStep [.ref 38] hT (q_rv (fun h37 => Q (.inl (some (.int 1))) h37) (fun E h => Q (.inr E) h))) ∧
  (k = 8 → q_M0 G d yX0_leadsTo [.ref c, .int t] hT (q_ri (fun r39 h38 => Q (.inl (some (.int 1))) (h38.sI 38 6 r39)) (fun E h => Q (.inr E) h))) ∧
  (k = 9 → q_M0 G d yX6_take [.ref 37, .int (Int32.ofNat C)] hT (q_ri (fun r41 h40 => Q (.inl (some (.int r41))) (((h40.sI 38 10 a).sI 38 9 0).sI 38 6 (-1))) (fun E h => Q (.inr E) h))) ∧
  (¬ k = 1 ∧ ¬ k = 2 ∧ ¬ k = 3 ∧ ¬ k = 4 ∧ ¬ k = 5 ∧ ¬ k = 6 ∧ ¬ k = 7 ∧ ¬ k = 8 ∧ ¬ k = 9 → q_M0 G d yX9_worked [.int k, .int a, .int b] hT (q_ri (fun r44 h43 => q_M0 G d yX9_hand [.ref 38, .int (Int32.ofNat x), .int r44] h43 (q_rv (fun h45 => Q (.inl (some (.int 1))) h45) (fun E h => Q (.inr E) h))) (fun E h => Q (.inr E) h)))
theorem c_workS (hq : q_cir c) (hd : 2 ≤ d) {x : Nat} {k l r t res : Int32} (hR : hc.R 38 5 = some c) (ht : hc.I 38 6 = Int32.ofNat x) (hx : x < 1400) (hp : pAt hc c x = (k, l, r, t)) (hl : fll hc l) (hr : fll (tkn hc l) r)
    (K : ∀ hy Q, Q (riv res) (mg hc' hy) → Sw G d c C x k t (tkv hc l) (tkv (tkn hc l) r) (mg (wkh hc l r x) hy) Q) : cR G (d + 1) yX9_work [.ref 38, .int (Int32.ofNat C)] hc (riv res) hc' := by
  intro hy Q H
  have hcl := cir_lt hq
  obtain ⟨p1, p2, p3, p4⟩ := pA hp
  have e6 : (mg hc hy).I 38 6 = Int32.ofNat x := by rw [cI (by decide)]; exact ht
  have e2 : (mg hc hy).I (c + 2) x = l := by rw [cI (by omega)]; exact p2
  have e4 : (mg hc hy).I (c + 4) x = t := by rw [cI (by omega)]; exact p4
  have e3 : (mg (tkn hc l) hy).I (c + 3) x = r := by rw [cI (by omega), tkn_row _ _ (by omega) (by omega)]; exact p3
  have e1 : (mg (tkn (tkn hc l) r) hy).I (c + 1) x = k := by rw [cI (by omega), tkn_row _ _ (by omega) (by omega), tkn_row _ _ (by omega) (by omega)]; exact p1
  have f6 : (mg (tkn (tkn hc l) r) hy).I 38 6 = Int32.ofNat x := by rw [cI (by decide), tkn_I _ _ _ (by decide) (by decide), tkn_I _ _ _ (by decide) (by decide)]; exact ht
  refine x_X9_work G d _ _ Q ⟨c, by rw [cRr (by decide)]; exact hR, hq, ?_⟩
  rw [e6, n_N (by omega), e2, e4]
  refine ⟨n_in (by omega) hx, n_in (by omega) hx, c_taken hd hl hy _ ⟨c, by rw [cRr (by decide), tkn_R]; exact hR, hq, n_in (by omega) hx, ?_⟩⟩
  rw [e3]
  refine c_taken hd hr hy _ ⟨c, by rw [cRr (by decide), tkn_R, tkn_R]; exact hR, hq, n_in (by omega) hx, ?_⟩
  have hk := K hy Q H
  unfold Sw wkh at hk
  rw [e1, f6, n_add1, mg_sI_c (by decide)]
  obtain ⟨k1, k2, k3, k4, k5, k6, k7, k8, k9, k0⟩ := hk
  exact ⟨k1, k2, k3, k4, k5, k6, k7, k8, k9, fun q => ⟨n_in (by omega) hx, k0 q⟩⟩
end RUNC
