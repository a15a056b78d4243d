/-! ===== write; run ===== -/
section WRITES
variable {G : qG} {D d : Nat} {hc hm hc' hm' : qh}
theorem j_write (x : INV hc hm) (i v : Int32) : gC G (D + 6) (d + 2) yL_write yX12_write [.ref 0, .int i, .int v, .ref 83] [.ref 43, .int i, .int v] hc hm := by
  have it := x.inr.2.2.2.2.2.1
  have no : (i < 0 ∨ hc.I 31 7 ≤ i ∨ ¬ i < 200) → (hm.I 43 31 = 0 ∨ i < 0 ∨ ¬ i < (if 200 < hm.I 43 37 then 200 else hm.I 43 37)) → gC G (D + 6) (d + 2) yL_write yX12_write [.ref 0, .int i, .int v, .ref 83] [.ref 43, .int i, .int v] hc hm := fun h1 h2 => by
    refine Or.inr ⟨fun hx Q H => x_L_write G (D + 5) _ _ _ Q (x_X10_write G (D + 4) _ _ _ _ (by omega) ⟨fun _ => ⟨rfl, H⟩, fun q => ⟨fun _ => ⟨rfl, H⟩, fun q2 => ⟨fun q3 => absurd ?_ q2, fun _ => ⟨rfl, H⟩⟩⟩⟩), 0, hm.sI 43 0 1, fun hx Q H => x_X12_write G (d + 1) _ _ _ Q ?_, by rw [sI_I, if_pos ⟨rfl, rfl⟩], x.thr 1⟩
    · rw [cI (by decide)]
      exact (h1.resolve_left q).resolve_right (fun z => z q3)
    · rw [mg_sI_m (by decide), show (mg hx hm).I 43 31 = hm.I 43 31 from by rw [mI (by decide)], show (mg hx hm).I 43 37 = hm.I 43 37 from by rw [mI (by decide)]]
      refine ⟨fun _ => ⟨fun q => absurd q (by decide), fun _ => H⟩, fun q1 => ⟨fun _ => ⟨fun q => absurd q (by decide), fun _ => H⟩, fun q2 => x_J9_min_7cf53 G d _ _ _ _ ?_⟩⟩
      have e : (if i < (if 200 < hm.I 43 37 then 200 else hm.I 43 37) then (0 : Int32) else 1) = 1 := if_neg ((h2.resolve_left q1).resolve_left q2)
      show ((if i < (if 200 < hm.I 43 37 then 200 else hm.I 43 37) then (0 : Int32) else 1) ≤ 0 → _) ∧ (¬ (if i < (if 200 < hm.I 43 37 then 200 else hm.I 43 37) then (0 : Int32) else 1) ≤ 0 → _)
      rw [e]
      refine ⟨fun q => absurd q (by decide), fun _ => ?_⟩
      rw [mg_sI_m (by decide)]; exact H
  by_cases h0 : i < 0
  · exact no (Or.inl h0) (Or.inr (Or.inl h0))
  rcases it with ⟨t0, t1, t2, t3, t4, t5, t6⟩ | ⟨t0, t1, t2, t3, t4, t5, ⟨w, t6, t7, t8, t9⟩, t10⟩
  · exact no (Or.inr (Or.inl (by rw [t5]; exact Int32.not_lt.mp h0))) (Or.inl t0)
  obtain ⟨j, j1, j2⟩ := n_of h0
  have em : ∀ z : Nat, z < 2147483648 → ((if 200 < Int32.ofNat w then (200 : Int32) else Int32.ofNat w) = if 200 < w then Int32.ofNat 200 else Int32.ofNat w) := fun _ _ => by
    by_cases q : 200 < w
    · rw [if_pos q, if_pos (show (200 : Int32) < Int32.ofNat w from (n_lt (a := 200) (by omega) (by omega)).mpr q)]; rfl
    · rw [if_neg q, if_neg (show ¬ (200 : Int32) < Int32.ofNat w from fun z => q ((n_lt (a := 200) (by omega) (by omega)).mp z))]
  have hlt : (i < (if 200 < hm.I 43 37 then 200 else hm.I 43 37)) ↔ (j < w ∧ j < 200) := by
    rw [t7, em 0 (by omega), j2]
    split
    · rw [n_lt (by omega) (by omega)]; omega
    · rw [n_lt (by omega) (by omega)]; omega
  by_cases hj : j < w ∧ j < 200
  · have c1 : ¬ hc.I 31 7 ≤ i := by rw [t6, j2]; exact fun q => absurd ((n_le (by omega) (by omega)).mp q) (by omega)
    have c2 : i < 200 := by rw [j2]; exact (n_lt (b := 200) (by omega) (by omega)).mpr hj.2
    have e : (if i < (if 200 < hm.I 43 37 then 200 else hm.I 43 37) then (0 : Int32) else 1) = 0 := if_pos (hlt.mpr hj)
    obtain ⟨k1, k2, k3⟩ := t9 j hj.1 hj.2
    have eN : i.toNatClampNeg = j := by rw [j2]; exact n_N (by omega)
    have iv : vp_in i 200 := by rw [j2]; exact n_in (by omega) hj.2
    have cl : ∀ r : Int32, (v = 0 → r = hm.I 79 (3 * j)) → (v = 1 → r = hm.I 79 (3 * j + 1)) → (v = 2 → r = hm.I 79 (3 * j + 2)) → (¬ v = 0 ∧ ¬ v = 1 ∧ ¬ v = 2 → r = -1) → gN G (D + 6) yL_write [.ref 0, .int i, .int v, .ref 83] hc hc r := fun r r0 r1 r2 r3 hx Q H => by
      refine x_L_write G (D + 5) _ _ _ Q (x_X10_write G (D + 4) _ _ _ _ (by omega) ⟨fun q => absurd q h0, fun _ => ⟨fun q => absurd q (by rw [cI (by decide)]; exact c1), fun _ => ⟨fun _ => ?_, fun q => absurd c2 q⟩⟩⟩)
      rw [eN, cI (by decide), cI (by decide), cI (by decide), k1, k2, k3]
      refine ⟨fun q => ⟨iv, ?_⟩, fun q => ⟨iv, ?_⟩, fun q => ⟨iv, ?_⟩, fun q => ?_⟩
      · rw [← r0 q]; exact ⟨n_in (a := 0) (by omega) (by omega), H⟩
      · rw [← r1 q]; exact ⟨n_in (a := 0) (by omega) (by omega), H⟩
      · rw [← r2 q]; exact ⟨n_in (a := 0) (by omega) (by omega), H⟩
      · rw [r3 q] at H; exact ⟨n_in (a := 0) (by omega) (by omega), H⟩
    have rf : ∀ (vv : Int64) (r : Int32), (∀ (hx : qh) (Q : qr → qh → Prop), Q (riv r) (mg hx ((hm.sL 83 0 vv).sI 43 0 0)) → ((v < 0 → Q (riv (-1)) (mg hx ((hm.sL 83 0 vv).sI 43 0 0))) ∧ (¬ v < 0 → ((v ≤ 2 → (vp_in ((3 * i) + v) 600 ∧ Q (riv (hm.I 79 (((3 * i) + v).toNatClampNeg))) (mg hx ((hm.sL 83 0 vv).sI 43 0 0)))) ∧ (¬ v ≤ 2 → Q (riv (-1)) (mg hx ((hm.sL 83 0 vv).sI 43 0 0))))))) → mR G (d + 2) yX12_write [.ref 43, .int i, .int v] (hm.sL 83 0 vv) (riv r) ((hm.sL 83 0 vv).sI 43 0 0) := fun vv r K hx Q H => by
      refine x_X12_write G (d + 1) _ _ _ Q ?_
      rw [show (mg hx (hm.sL 83 0 vv)).I 43 31 = hm.I 43 31 from by rw [mI (by decide)]; rfl, show (mg hx (hm.sL 83 0 vv)).I 43 37 = hm.I 43 37 from by rw [mI (by decide)]; rfl]
      refine ⟨fun q => absurd (t0.symm.trans q) (by decide), fun _ => ⟨fun q => absurd q h0, fun _ => x_J9_min_7cf53 G d _ _ _ _ ?_⟩⟩
      show ((if i < (if 200 < hm.I 43 37 then 200 else hm.I 43 37) then (0 : Int32) else 1) ≤ 0 → _) ∧ (¬ (if i < (if 200 < hm.I 43 37 then 200 else hm.I 43 37) then (0 : Int32) else 1) ≤ 0 → _)
      rw [e, mI (by decide), mg_sI_m (by decide)]
      exact ⟨fun _ => K hx Q H, fun q => absurd (by decide) q⟩
    have fin : ∀ vv : Int64, ((hm.sL 83 0 vv).sI 43 0 0).I 43 0 = 0 ∧ ((hm.sL 83 0 vv).sI 43 0 0).L 83 0 = vv ∧ INV hc ((hm.sL 83 0 vv).sI 43 0 0) := fun vv => ⟨by rw [sI_I, if_pos ⟨rfl, rfl⟩], rfl, (x.out vv).thr 0⟩
    have e3 : 3 * i = Int32.ofNat (3 * j) := by rw [j2, show (3 : Int32) = Int32.ofNat 3 from rfl, n_mul]
    by_cases v0 : v = 0
    · refine Or.inl ⟨hm.I 79 (3 * j), hc, cl _ (fun _ => rfl) (fun q => absurd (v0.symm.trans q) (by decide)) (fun q => absurd (v0.symm.trans q) (by decide)) (fun q => absurd v0 q.1), fun vv => ⟨_, rf vv _ (fun hx Q H => ?_), fin vv⟩⟩
      rw [v0, e3, show (0 : Int32) = Int32.ofNat 0 from rfl, n_add, n_N (by omega)]
      exact ⟨fun q => absurd q (by decide), fun _ => ⟨fun _ => ⟨n_in (by omega) (by omega), H⟩, fun q => absurd (by decide) q⟩⟩
    by_cases v1 : v = 1
    · refine Or.inl ⟨hm.I 79 (3 * j + 1), hc, cl _ (fun q => absurd q v0) (fun _ => rfl) (fun q => absurd (v1.symm.trans q) (by decide)) (fun q => absurd v1 q.2.1), fun vv => ⟨_, rf vv _ (fun hx Q H => ?_), fin vv⟩⟩
      rw [v1, e3, show (1 : Int32) = Int32.ofNat 1 from rfl, n_add, n_N (by omega)]
      exact ⟨fun q => absurd q (by decide), fun _ => ⟨fun _ => ⟨n_in (by omega) (by omega), H⟩, fun q => absurd (by decide) q⟩⟩
    by_cases v2 : v = 2
    · refine Or.inl ⟨hm.I 79 (3 * j + 2), hc, cl _ (fun q => absurd q v0) (fun q => absurd q v1) (fun _ => rfl) (fun q => absurd v2 q.2.2), fun vv => ⟨_, rf vv _ (fun hx Q H => ?_), fin vv⟩⟩
      rw [v2, e3, show (2 : Int32) = Int32.ofNat 2 from rfl, n_add, n_N (by omega)]
      exact ⟨fun q => absurd q (by decide), fun _ => ⟨fun _ => ⟨n_in (by omega) (by omega), H⟩, fun q => absurd (by decide) q⟩⟩
    · refine Or.inl ⟨-1, hc, cl _ (fun q => absurd q v0) (fun q => absurd q v1) (fun q => absurd q v2) (fun _ => rfl), fun vv => ⟨_, rf vv _ (fun hx Q H => ?_), fin vv⟩⟩
      refine ⟨fun _ => H, fun q => ⟨fun q2 => ?_, fun _ => H⟩⟩
      obtain ⟨z, z1, z2⟩ := n_of q
      rw [z2] at q2 v0 v1 v2
      have := (n_le (b := 2) (by omega) (by omega)).mp q2
      rcases (show z = 0 ∨ z = 1 ∨ z = 2 by omega) with rfl | rfl | rfl
      · exact absurd rfl v0
      · exact absurd rfl v1
      · exact absurd rfl v2
  · refine no (Or.inr ?_) (Or.inr (Or.inr (fun q => hj (hlt.mp q))))
    by_cases hw : j < w
    · exact Or.inr (fun q => hj ⟨hw, by rw [j2] at q; exact (n_lt (b := 200) (by omega) (by omega)).mp q⟩)
    · exact Or.inl (by rw [t6, j2]; exact (n_le (by omega) (by omega)).mpr (by omega))
theorem j_run (x : INV hc hm) (w : Int32) : ∃ r hc' hm', cR G (D + 6) yX10_run [.ref 0, .int w] hc (riv r) hc' ∧ mR G (d + 38) yX12_run [.ref 43, .int w] hm (riv r) hm' ∧ INV hc' hm' := by
  obtain ⟨u, B, c0, c, p0, p, e0, e, t, rc, rm, re, f, lt, ls, z, ip, mem, gv, it, f40⟩ := id x
  have hcl := cir_lt rc.2.2.1
  have hpl := prg_lt rm.2.2.1
  have hel := end_lt re.2.2.1
  have C9 : ∀ hx, (mg hc hx).I 0 9 = hc.I 0 9 := fun hx => by rw [cI (by decide)]
  have M23 : ∀ hx, (mg hx hm).I 43 23 = hm.I 43 23 := fun hx => by rw [mI (by decide)]
  have e9 : hc.I 0 9 = hm.I 43 23 := by rcases ip with q | q <;> rw [q.1, q.2.1]
  have no : (hm.I 43 23 = 0 ∨ w < 1 ∨ ¬ w ≤ 3000) → ∃ r hc' hm', cR G (D + 6) yX10_run [.ref 0, .int w] hc (riv r) hc' ∧ mR G (d + 38) yX12_run [.ref 43, .int w] hm (riv r) hm' ∧ INV hc' hm' := fun h => by
    refine ⟨-1, hc, hm.sI 43 0 0, fun hx Q H => x_X10_run G (D + 5) _ _ Q ?_, fun hx Q H => x_X12_run G (d + 37) _ _ Q ?_, x.thr 0⟩
    · rw [C9, e9]
      exact ⟨fun _ => H, fun q1 => ⟨fun _ => H, fun q2 => ⟨fun q3 => absurd q3 ((h.resolve_left q1).resolve_left q2), fun _ => H⟩⟩⟩
    · rw [M23]
      have H' := H
      rw [← mg_sI_m (by decide)] at H'
      exact ⟨fun _ => H', fun q1 => ⟨fun _ => H', fun q2 => ⟨fun q3 => absurd q3 ((h.resolve_left q1).resolve_left q2), fun _ => H'⟩⟩⟩
  rcases ip with ⟨q1, q2, q8, q9, q10, q11⟩ | ⟨q1, q2, na, np, nv, nl, P, jn, pr⟩
  · exact no (Or.inl q2)
  by_cases h1 : w < 1
  · exact no (Or.inr (Or.inl h1))
  by_cases h2 : w ≤ 3000
  · obtain ⟨lim, v1, v2⟩ := n_of (x := w) (fun q => h1 (Int32.lt_of_lt_of_le q (by decide)))
    have v3 : 1 ≤ lim ∧ lim ≤ 3000 := by
      rw [v2] at h1 h2
      have a1 : ¬ lim < 1 := fun q => h1 ((n_lt (b := 1) (by omega) (by omega)).mpr q)
      have a2 := (n_le (b := 3000) (by omega) (by omega)).mp h2
      omega
    have h23 : ¬ hm.I 43 23 = 0 := by rw [q2]; decide
    obtain ⟨ans, h0, m0, hF, mF, ha, C, M, f, g1, g2⟩ := r_run (G := G) (d := d) (D := D) rc.2.2.1 rm.2.2.1 re.2.2.1 pr rm.1 re.1 h23 lt.1 mem gv f40 v3.1 v3.2
    refine ⟨ans, (if ans = 0 then hF.sI 38 13 (hF.I 38 13 + hF.I 38 8) else hF), (if ans = 1 then (mF.sI 43 32 1).sI 43 33 0 else mF.sI 43 32 0), fun hx Q H => x_X10_run G (D + 5) _ _ Q ?_, by rw [v2]; exact g2, ?_⟩
    · rw [C9]
      refine ⟨fun q => absurd (q1.symm.trans q) (by decide), fun _ => ⟨fun q => absurd q h1, fun _ => ⟨fun _ => ⟨c0, by rw [cRr (by decide)]; exact rc.1, rc.2.2.1, ?_⟩, fun q => absurd h2 q⟩⟩⟩
      rw [v2]
      exact g1 hx _ H
    · obtain ⟨C1, C2, C3, C4, C5, C6, C7, C8, C9', C10, C11, C12⟩ := C
      obtain ⟨M1, M2, M3, M4, M5, M6⟩ := M
      obtain ⟨⟨E1, E2, E3, E4, E5, E6⟩, ⟨N1, N2, N3, N4⟩, ⟨f1, f2, f3, f4, f5⟩, ⟨f6, f7⟩, ⟨ww, f8, f9, f10, f11⟩, f12, f13, f14⟩ := f
      obtain ⟨hG, eG⟩ : ∃ hG : qh, hG = (if ans = 0 then hF.sI 38 13 (hF.I 38 13 + hF.I 38 8) else hF) := ⟨_, rfl⟩
      obtain ⟨mG, em⟩ : ∃ mG : qh, mG = (if ans = 1 then (mF.sI 43 32 1).sI 43 33 0 else mF.sI 43 32 0) := ⟨_, rfl⟩
      rw [← eG, ← em]
      have c12 : hF.I 38 13 = 0 := by rw [E3 13 (by decide) (by decide) (by decide) (by decide) (by decide) (by decide), C6 13 (by decide) (by decide) (by decide) (by decide) (by decide) (by decide)]; exact z.1
      have gr : ∀ o, o ≠ 38 → hG.I o = hF.I o := fun o ho => by rw [eG]; split; exact sI_row _ ho; rfl
      have gk : ∀ k, k ≠ 13 → hG.I 38 k = hF.I 38 k := fun k hk => by rw [eG]; split; rw [sI_I, if_neg (fun q => hk q.2)]; rfl
      have g12 : hG.I 38 13 = 0 := by
        rw [eG]; split
        · rw [sI_I, if_pos ⟨rfl, rfl⟩, c12, f2]; rfl
        · exact c12
      have gL : hG.L = hF.L := by rw [eG]; split <;> rfl
      have gR : hG.R = hF.R := by rw [eG]; split <;> rfl
      have mr : ∀ o, o ≠ 43 → mG.I o = mF.I o := fun o ho => by rw [em]; split; rw [sI_row _ ho, sI_row _ ho]; exact sI_row _ ho
      have mk : ∀ k, k ≠ 32 → k ≠ 33 → mG.I 43 k = mF.I 43 k := fun k k1 k2 => by rw [em]; split; rw [sI_I, if_neg (fun q => k2 q.2), sI_I, if_neg (fun q => k1 q.2)]; rw [sI_I, if_neg (fun q => k1 q.2)]
      have m32 : mG.I 43 32 = ans := by
        rcases ha with q | q
        · subst q; rw [em]; rfl
        · subst q; rw [em]; rfl
      have f33 : hF.I 38 10 = mG.I 43 33 := by
        rcases ha with q | q
        · subst q; rw [em, if_neg (by decide), sI_I, if_neg (by decide)]; exact f4
        · subst q
          rw [em, if_pos rfl, sI_I, if_pos ⟨rfl, rfl⟩]
          exact f14 rfl
      have mL : mG.L = mF.L := by rw [em]; split <;> rfl
      have mR' : mG.R = mF.R := by rw [em]; split <;> rfl
      refine x.to (fun o ho => ?_) ?_ ?_ ⟨?_, ?_, ?_, ?_⟩ ?_ (fun o o1 o2 => ?_) (fun o o1 o2 => ?_) ⟨⟨?_, ?_⟩, ?_, ⟨g12, ?_, ?_, ?_⟩, ?_, ?_, ?_, ?_⟩
      · rw [gr o (by omega), E1 o (by omega), C1 o (by omega) (by omega) (by omega) (by omega) (by omega)]
      · rw [gR, E6, C12 0 (by decide)]
      · rw [mR', N4, M6]
      · rw [mk 2 (by decide) (by decide), N2 2 (by decide) (by decide) (by decide) (by decide), M2 2 (by decide) (by decide) (by decide) (by decide) (by decide) (by decide) (by decide)]
      · rw [mk 3 (by decide) (by decide), N2 3 (by decide) (by decide) (by decide) (by decide), M2 3 (by decide) (by decide) (by decide) (by decide) (by decide) (by decide) (by decide)]
      · rw [mk 4 (by decide) (by decide), N2 4 (by decide) (by decide) (by decide) (by decide), M2 4 (by decide) (by decide) (by decide) (by decide) (by decide) (by decide) (by decide)]
      · rw [mk 23 (by decide) (by decide), N2 23 (by decide) (by decide) (by decide) (by decide), M2 23 (by decide) (by decide) (by decide) (by decide) (by decide) (by decide) (by decide)]
      · rw [mr 44 (by decide), N1 44 (by decide) (by decide) (by decide) (by decide) (by decide), M1 44 (by decide) (by decide)]
      · rw [mr o (by omega), N1 o (by omega) (by omega) (by omega) (by omega) (by omega), M1 o (by omega) (by omega)]
      · rw [mr o (by omega), N1 o (by omega) (by omega) (by omega) (by omega) (by omega), M1 o (by omega) (by omega)]
      · obtain ⟨R, R1, R2, R3⟩ := lt.1
        exact ⟨R, by rw [gr 31 (by decide), E2 5 (by decide) (by decide) (by decide), C2 5 (by decide) (by decide) (by decide)]; exact R1, R2, by rw [gr 33 (by decide), E1 33 (by decide), C1 33 (by decide) (by decide) (by decide) (by decide) (by decide)]; exact R3⟩
      · rw [gr 31 (by decide), E2 5 (by decide) (by decide) (by decide), C2 5 (by decide) (by decide) (by decide), mk 6 (by decide) (by decide), N2 6 (by decide) (by decide) (by decide) (by decide), M2 6 (by decide) (by decide) (by decide) (by decide) (by decide) (by decide) (by decide)]; exact lt.2
      · rw [gL, E5, C10, mL, N3, M5]; exact ls
      · rw [gk 14 (by decide), E3 14 (by decide) (by decide) (by decide) (by decide) (by decide) (by decide), C6 14 (by decide) (by decide) (by decide) (by decide) (by decide) (by decide)]; exact z.2.1
      · rw [gk 15 (by decide), E3 15 (by decide) (by decide) (by decide) (by decide) (by decide) (by decide), C6 15 (by decide) (by decide) (by decide) (by decide) (by decide) (by decide)]; exact z.2.2.1
      · rw [gr 31 (by decide), E2 9 (by decide) (by decide) (by decide), C2 9 (by decide) (by decide) (by decide)]; exact z.2.2.2
      · rw [gr 32 (by decide), mr 76 (by decide)]; exact f12
      · rw [gr 42 (by decide), E1 42 (by decide), C1 42 (by decide) (by decide) (by decide) (by decide) (by decide), mr 77 (by decide), N1 77 (by decide) (by decide) (by decide) (by decide) (by decide), M1 77 (by decide) (by decide)]; exact gv
      · refine Or.inr ⟨?_, ?_, ?_, ?_, ?_, ?_, ⟨ww, ?_, ?_, f10, ?_⟩, ?_⟩
        · rw [mk 31 (by decide) (by decide), N2 31 (by decide) (by decide) (by decide) (by decide)]; exact M3.1
        · rw [gk 9 (by decide), f3, m32]
        · rw [gk 9 (by decide), f3]; exact ha
        · rw [gk 10 (by decide)]; exact f33
        · rw [gk 11 (by decide), mk 34 (by decide) (by decide)]; exact f6
        · rw [gr 31 (by decide), mk 36 (by decide) (by decide)]; exact f7
        · rw [gr 31 (by decide)]; exact f8
        · rw [mk 37 (by decide) (by decide)]; exact f9
        · unfold KW; rw [gr 34 (by decide), gr 35 (by decide), gr 36 (by decide), mr 79 (by decide)]; exact f11
        · rw [gr 37 (by decide), gk 9 (by decide), f3]; exact f5
      · rw [gr 40 (by decide)]; exact f13
  · exact no (Or.inr (Or.inr h2))
end WRITES
