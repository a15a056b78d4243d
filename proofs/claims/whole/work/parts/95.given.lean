/-! ===== give, poke, cell, write; run ===== -/
/-- a call of the law's own by which an exception is caught: it was thrown (1), or the answer lies in cell 83 (0) -/
def gN (G : qG) (D : Nat) (y : MethodName) (av : List Value) (hc hc' : qh) (r : Int32) : Prop := ∀ (hx : qh) (Q : qr → qh → Prop), Q (riv 0) ((mg hc' hx).sL 83 0 r.toInt64) → q_M G zN zN D 1 6 y av (mg hc hx) Q
def gX (G : qG) (D : Nat) (y : MethodName) (av : List Value) (hc : qh) : Prop := ∀ (hx : qh) (Q : qr → qh → Prop), Q (riv 1) (mg hc hx) → q_M G zN zN D 1 6 y av (mg hc hx) Q
def gC (G : qG) (D d : Nat) (y y2 : MethodName) (av av2 : List Value) (hc hm : qh) : Prop := (∃ (r : Int32) (hc' : qh), gN G D y av hc hc' r ∧ ∀ v : Int64, ∃ hm', mR G d y2 av2 (hm.sL 83 0 v) (riv r) hm' ∧ hm'.I 43 0 = 0 ∧ hm'.L 83 0 = v ∧ INV hc' hm') ∨ (gX G D y av hc ∧ ∃ (r : Int32) (hm' : qh), mR G d y2 av2 hm (riv r) hm' ∧ hm'.I 43 0 = 1 ∧ INV hc hm')
section GIVEN
variable {G : qG} {D d : Nat} {hc hm hc' hm' : qh}
theorem j_give (x : INV hc hm) (i v : Int32) : gC G (D + 6) (d + 1) yL_give yX12_give [.ref 0, .int i, .int v, .ref 83] [.ref 43, .int i, .int v] hc hm := by
  obtain ⟨u, B, c0, c, p0, p, e0, e, t, rc, rm, re, f, lt, ls, z, ip, mem, gv, it, f40⟩ := id x
  have hcl := cir_lt rc.2.2.1
  have hpl := prg_lt rm.2.2.1
  have no : (i < 0 ∨ hc.I c0 9 ≤ i) → (hm.I 43 23 = 0 ∨ i < 0 ∨ ¬ i < hm.I p0 1) → gC G (D + 6) (d + 1) yL_give yX12_give [.ref 0, .int i, .int v, .ref 83] [.ref 43, .int i, .int v] hc hm := fun h1 h2 => by
    refine Or.inr ⟨fun hx Q H => x_L_give G (D + 5) _ _ _ Q (x_X10_give G (D + 4) _ _ _ _ (by omega) ⟨fun _ => ⟨rfl, H⟩, fun q => ⟨c0, by rw [cRr (by decide)]; exact rc.1, rc.2.2.1, fun _ => ⟨rfl, H⟩, fun q2 => absurd ?_ q2⟩⟩), 0, hm.sI 43 0 1, fun hx Q H => x_X12_give G d _ _ _ Q ?_, by rw [sI_I, if_pos ⟨rfl, rfl⟩], x.thr 1⟩
    · rw [cI (by omega)]; exact h1.resolve_left q
    · rw [mg_sI_m (by decide), show (mg hx hm).I 43 23 = hm.I 43 23 from by rw [mI (by decide)]]
      refine ⟨fun _ => ⟨fun q => absurd q (by decide), fun _ => H⟩, fun q1 => ⟨fun _ => ⟨fun q => absurd q (by decide), fun _ => H⟩, fun q2 => ⟨p0, by rw [mRr (by decide)]; exact rm.1, rm.2.2.1, ?_⟩⟩⟩
      rw [mI (by omega), if_neg ((h2.resolve_left q1).resolve_left q2), mg_sI_m (by decide)]
      exact ⟨fun q => absurd q (by decide), fun _ => H⟩
  by_cases h0 : i < 0
  · exact no (Or.inl h0) (Or.inr (Or.inl h0))
  obtain ⟨j, j1, j2⟩ := n_of h0
  rcases ip with ⟨q1, q2, q8, q9, q10, q11⟩ | ⟨q1, q2, na, np, nv, nl, P, jn, q3, _, ⟨q6, q7, q8⟩, _⟩
  · exact no (Or.inr (by rw [q9]; exact Int32.not_lt.mp h0)) (Or.inl q2)
  by_cases hj : j < np
  · refine Or.inl ⟨hm.I 77 j, hc.sI 42 j v, fun hx Q H => x_L_give G (D + 5) _ _ _ Q (x_X10_give G (D + 4) _ _ _ _ (by omega) ⟨fun q => absurd q h0, fun q => ⟨c0, by rw [cRr (by decide)]; exact rc.1, rc.2.2.1, fun q2 => absurd q2 ?_, fun q2 => ⟨fun _ => ?_, fun q3 => absurd ?_ q3⟩⟩⟩), fun vv => ⟨((hm.sL 83 0 vv).sI 43 0 0).sI 77 j v, fun hx Q H => x_X12_give G d _ _ _ Q ?_, ?_, ?_, ?_⟩⟩
    · rw [cI (by omega), q6, j2]
      exact fun q => absurd ((n_le (by omega) (by omega)).mp q) (by omega)
    · rw [j2, n_N (by omega), cI (by decide), gv j (by omega), mg_sI_c (by decide)]
      exact ⟨n_in (by omega) (by omega), n_in (by omega) (by omega), n_in (a := 0) (by omega) (by omega), H⟩
    · rw [j2]; exact (n_lt (b := 4) (by omega) (by omega)).mpr (by omega)
    · rw [mI (by decide)]
      refine ⟨fun q => absurd (q2.symm.trans q) (by decide), fun _ => ⟨fun q => absurd q h0, fun _ => ⟨p0, by rw [mRr (by decide)]; exact rm.1, rm.2.2.1, ?_⟩⟩⟩
      have hlt : i < hm.I p0 1 := by rw [q7, j2]; exact (n_lt (by omega) (by omega)).mpr hj
      have e1 : (mg hx (hm.sL 83 0 vv)).I p0 1 = hm.I p0 1 := by rw [mI (by omega)]; rfl
      have e2 : (mg hx (hm.sL 83 0 vv)).I 77 j = hm.I 77 j := by rw [mI (by decide)]; rfl
      rw [e1, if_pos hlt, j2, n_N (by omega), e2, mg_sI_m (by decide), mg_sI_m (by decide)]
      exact ⟨fun _ => ⟨n_in (by omega) (by omega), n_in (by omega) (by omega), H⟩, fun q => absurd (by decide) q⟩
    · rw [sI_row _ (by decide), sI_I, if_pos ⟨rfl, rfl⟩]
    · rfl
    · refine ((x.out vv).thr 0).to (fun o ho => sI_row _ (by omega)) rfl rfl ⟨by rw [sI_row _ (by decide)], by rw [sI_row _ (by decide)], by rw [sI_row _ (by decide)], by rw [sI_row _ (by decide)]⟩ (sI_row _ (by decide)) (fun o o1 o2 => sI_row _ (by omega)) (fun o o1 o2 => sI_row _ (by omega)) ?_
      obtain ⟨y1, y2, y3, y4, y5, y6, y7⟩ := ((x.out vv).thr 0).inr
      refine ⟨y1, y2, y3, y4, fun i hi => ?_, y6, y7⟩
      rw [sI_I, sI_I]
      by_cases q : i = j
      · rw [if_pos ⟨rfl, q⟩, if_pos ⟨rfl, q⟩]
      · rw [if_neg (fun z => q z.2), if_neg (fun z => q z.2)]; exact y5 i hi
  · refine no (Or.inr ?_) (Or.inr (Or.inr ?_))
    · rw [q6, j2]; exact (n_le (by omega) (by omega)).mpr (by omega)
    · rw [q7, j2]; exact fun q => hj ((n_lt (by omega) (by omega)).mp q)
/-- whether there is such a cell: the same on both sides -/
theorem j_isCell (x : INV hc hm) (a i : Int32) : (∃ j k z : Nat, a = Int32.ofNat j ∧ j < 8 ∧ i = Int32.ofNat z ∧ z < 256 ∧ (∀ (G : qG) (D : Nat), cR G (D + 2) yX10_isCell [.ref 0, .int a, .int i] hc (riv 1) hc) ∧ (∀ (G : qG) (d : Nat) (v : Int64), mR G (d + 1) yX12_isCell [.ref 43, .int a, .int i] (hm.sL 83 0 v) (riv 1) (hm.sL 83 0 v))) ∨ ((∀ (G : qG) (D : Nat), cR G (D + 2) yX10_isCell [.ref 0, .int a, .int i] hc (riv 0) hc) ∧ (∀ (G : qG) (d : Nat), mR G (d + 1) yX12_isCell [.ref 43, .int a, .int i] hm (riv 0) hm)) := by
  obtain ⟨c0, p0, r1, hq, r2, hp, h⟩ := x.cells a
  have hpl := prg_lt hp
  have R7 : ∀ hx, (mg hc hx).R 0 7 = some c0 := fun hx => by rw [cRr (by decide)]; exact r1
  have R21 : ∀ hx, (mg hx hm).R 43 21 = some p0 := fun hx => by rw [mRr (by decide)]; exact r2
  have M : ∀ o, 43 ≤ o → ∀ hx k, (mg hx hm).I o k = hm.I o k := fun o ho hx k => by rw [mI ho]
  rcases h with ⟨j, k, j1, j2, k1, k2, h1, h2, h3, h4⟩ | ⟨h1, h2⟩
  · have ha : ¬ a < 0 := by rw [j1]; exact n_nneg (by omega)
    have eN : a.toNatClampNeg = j := by rw [j1]; exact n_N (by omega)
    by_cases h0 : i < 0
    · refine Or.inr ⟨fun G D hx Q H => x_X10_isCell G (D + 1) _ _ _ Q ⟨fun _ => H, fun q => absurd h0 q⟩, fun G d hx Q H => x_X12_isCell G d _ _ _ Q ?_⟩
      rw [M 43 (by decide)]
      refine ⟨fun q => absurd q h2, fun _ => ⟨fun q => absurd q ha, fun _ => ⟨p0, R21 hx, hp, ?_⟩⟩⟩
      rw [M p0 (by omega)]
      exact ⟨fun q => absurd q h3, fun _ => ⟨fun _ => H, fun q => absurd h0 q⟩⟩
    · obtain ⟨z, z1, z2⟩ := n_of h0
      by_cases hz : z < k
      · have e : (if Int32.ofNat k ≤ i then (0 : Int32) else 1) = 1 := if_neg (by rw [z2]; exact fun q => absurd ((n_le (by omega) (by omega)).mp q) (by omega))
        refine Or.inl ⟨j, k, z, j1, j2, z2, by omega, fun G D hx Q H => x_X10_isCell G (D + 1) _ _ _ Q ⟨fun q => absurd q h0, fun _ => ⟨c0, R7 hx, hq, h1 G D hx _ ?_⟩⟩, fun G d v hx Q H => x_X12_isCell G d _ _ _ Q ?_⟩
        · show ((if Int32.ofNat k ≤ i then (0 : Int32) else 1) = 0 ∨ (if Int32.ofNat k ≤ i then (0 : Int32) else 1) = 1) ∧ Q (.inl (some (.int (if Int32.ofNat k ≤ i then (0 : Int32) else 1)))) (mg hc hx)
          rw [e]; exact ⟨Or.inr rfl, H⟩
        · rw [mI (by decide)]
          refine ⟨fun q => absurd q h2, fun _ => ⟨fun q => absurd q ha, fun _ => ⟨p0, by rw [mRr (by decide)]; exact r2, hp, ?_⟩⟩⟩
          have e1 : (mg hx (hm.sL 83 0 v)).I p0 0 = hm.I p0 0 := by rw [mI (by omega)]; rfl
          have e2 : (mg hx (hm.sL 83 0 v)).I (p0 + 1) j = Int32.ofNat k := by rw [mI (by omega)]; exact h4
          rw [e1, eN, e2, e]
          exact ⟨fun q => absurd q h3, fun _ => ⟨fun q => absurd q h0, fun _ => ⟨by rw [j1]; exact n_in (by omega) j2, Or.inr rfl, H⟩⟩⟩
      · have e : (if Int32.ofNat k ≤ i then (0 : Int32) else 1) = 0 := if_pos (by rw [z2]; exact (n_le (by omega) (by omega)).mpr (by omega))
        refine Or.inr ⟨fun G D hx Q H => x_X10_isCell G (D + 1) _ _ _ Q ⟨fun q => absurd q h0, fun _ => ⟨c0, R7 hx, hq, h1 G D hx _ ?_⟩⟩, fun G d hx Q H => x_X12_isCell G d _ _ _ Q ?_⟩
        · show ((if Int32.ofNat k ≤ i then (0 : Int32) else 1) = 0 ∨ (if Int32.ofNat k ≤ i then (0 : Int32) else 1) = 1) ∧ Q (.inl (some (.int (if Int32.ofNat k ≤ i then (0 : Int32) else 1)))) (mg hc hx)
          rw [e]; exact ⟨Or.inl rfl, H⟩
        · rw [M 43 (by decide)]
          refine ⟨fun q => absurd q h2, fun _ => ⟨fun q => absurd q ha, fun _ => ⟨p0, R21 hx, hp, ?_⟩⟩⟩
          rw [M p0 (by omega), eN, M (p0 + 1) (by omega), h4, e]
          exact ⟨fun q => absurd q h3, fun _ => ⟨fun q => absurd q h0, fun _ => ⟨by rw [j1]; exact n_in (by omega) j2, Or.inl rfl, H⟩⟩⟩
  · refine Or.inr ⟨fun G D hx Q H => x_X10_isCell G (D + 1) _ _ _ Q ⟨fun _ => H, fun q => ⟨c0, R7 hx, hq, h1 G D hx _ ?_⟩⟩, fun G d hx Q H => x_X12_isCell G d _ _ _ Q ?_⟩
    · have e : (if (-1 : Int32) ≤ i then (0 : Int32) else 1) = 0 := if_pos (Int32.le_trans (by decide) (Int32.not_lt.mp q))
      show ((if (-1 : Int32) ≤ i then (0 : Int32) else 1) = 0 ∨ (if (-1 : Int32) ≤ i then (0 : Int32) else 1) = 1) ∧ Q (.inl (some (.int (if (-1 : Int32) ≤ i then (0 : Int32) else 1)))) (mg hc hx)
      rw [e]; exact ⟨Or.inl rfl, H⟩
    · rw [M 43 (by decide)]
      refine ⟨fun _ => H, fun q1 => ⟨fun _ => H, fun q2 => ⟨p0, R21 hx, hp, ?_⟩⟩⟩
      rw [M p0 (by omega)]
      exact ⟨fun _ => H, fun q => absurd ((h2.resolve_left q1).resolve_left q2) q⟩
theorem n_cell' (j i : Nat) : (256 * Int32.ofNat j) + Int32.ofNat i = Int32.ofNat (j * 256 + i) := by
  rw [show (256 : Int32) = Int32.ofNat 256 from rfl, n_mul, n_add, Nat.mul_comm]
theorem j_poke (x : INV hc hm) (a i v : Int32) : gC G (D + 6) (d + 2) yL_poke yX12_poke [.ref 0, .int a, .int i, .int v, .ref 83] [.ref 43, .int a, .int i, .int v] hc hm := by
  rcases j_isCell x a i with ⟨j, k, z, j1, j2, z1, z2, h1, h2⟩ | ⟨h1, h2⟩
  · have em := x.inr.2.2.2.1
    refine Or.inl ⟨hm.I 76 (j * 256 + z), hc.sI 32 (j * 256 + z) v, fun hx Q H => x_L_poke G (D + 5) _ _ _ _ Q (x_X10_poke G (D + 4) _ _ _ _ _ (by omega) (h1 G (D + 2) hx _ ⟨fun _ => ?_, fun q => absurd q (by decide)⟩)), fun vv => ⟨((hm.sL 83 0 vv).sI 43 0 0).sI 76 (j * 256 + z) v, fun hx Q H => x_X12_poke G (d + 1) _ _ _ _ Q (h2 G d vv hx _ ?_), ?_, ?_, ?_⟩⟩
    · rw [j1, z1]
      refine c_look (by omega) j2 z2 hx _ (c_put (by omega) j2 z2 v hx _ ?_)
      rw [em _ (by omega)]
      exact ⟨n_in (a := 0) (by omega) (by omega), H⟩
    · show ((if (1 : Int32) = 0 then (1 : Int32) else 0) ≤ 0 → _) ∧ (¬ (if (1 : Int32) = 0 then (1 : Int32) else 0) ≤ 0 → _)
      rw [if_neg (by decide), j1, z1, n_cell', n_N (by omega), mI (by decide), mg_sI_m (by decide), mg_sI_m (by decide)]
      exact ⟨fun _ => ⟨n_in (by omega) (by omega), n_in (by omega) (by omega), H⟩, fun q => absurd (by decide) q⟩
    · rw [sI_row _ (by decide), sI_I, if_pos ⟨rfl, rfl⟩]
    · rfl
    · refine ((x.out vv).thr 0).to (fun o ho => sI_row _ (by omega)) rfl rfl ⟨by rw [sI_row _ (by decide)], by rw [sI_row _ (by decide)], by rw [sI_row _ (by decide)], by rw [sI_row _ (by decide)]⟩ (sI_row _ (by decide)) (fun o o1 o2 => sI_row _ (by omega)) (fun o o1 o2 => sI_row _ (by omega)) ?_
      obtain ⟨y1, y2, y3, y4, y5, y6, y7⟩ := ((x.out vv).thr 0).inr
      refine ⟨y1, y2, y3, fun i hi => ?_, y5, y6, y7⟩
      rw [sI_I, sI_I]
      by_cases q : i = j * 256 + z
      · rw [if_pos ⟨rfl, q⟩, if_pos ⟨rfl, q⟩]
      · rw [if_neg (fun z => q z.2), if_neg (fun z => q z.2)]; exact y4 i hi
  · refine Or.inr ⟨fun hx Q H => x_L_poke G (D + 5) _ _ _ _ Q (x_X10_poke G (D + 4) _ _ _ _ _ (by omega) (h1 G (D + 2) hx _ ⟨fun q => absurd rfl q, fun _ => ⟨rfl, H⟩⟩)), 0, hm.sI 43 0 1, fun hx Q H => x_X12_poke G (d + 1) _ _ _ _ Q (h2 G d hx _ ?_), by rw [sI_I, if_pos ⟨rfl, rfl⟩], x.thr 1⟩
    show ((if (0 : Int32) = 0 then (1 : Int32) else 0) ≤ 0 → _) ∧ (¬ (if (0 : Int32) = 0 then (1 : Int32) else 0) ≤ 0 → _)
    rw [if_pos rfl]
    refine ⟨fun q => absurd q (by decide), fun _ => ?_⟩
    rw [mg_sI_m (by decide)]; exact H
theorem j_cell (x : INV hc hm) (a i : Int32) : gC G (D + 6) (d + 2) yL_cell yX12_cell [.ref 0, .int a, .int i, .ref 83] [.ref 43, .int a, .int i] hc hm := by
  rcases j_isCell x a i with ⟨j, k, z, j1, j2, z1, z2, h1, h2⟩ | ⟨h1, h2⟩
  · have em := x.inr.2.2.2.1
    refine Or.inl ⟨hm.I 76 (j * 256 + z), hc, fun hx Q H => x_L_cell G (D + 5) _ _ _ Q (x_X10_cell G (D + 4) _ _ _ _ (by omega) (h1 G (D + 2) hx _ ⟨fun _ => ?_, fun q => absurd q (by decide)⟩)), fun vv => ⟨(hm.sL 83 0 vv).sI 43 0 0, fun hx Q H => x_X12_cell G (d + 1) _ _ _ Q (h2 G d vv hx _ ?_), by rw [sI_I, if_pos ⟨rfl, rfl⟩], rfl, (x.out vv).thr 0⟩⟩
    · rw [j1, z1]
      refine c_look (by omega) j2 z2 hx _ ?_
      rw [em _ (by omega)]
      exact ⟨n_in (a := 0) (by omega) (by omega), H⟩
    · show ((if (1 : Int32) = 0 then (1 : Int32) else 0) ≤ 0 → _) ∧ (¬ (if (1 : Int32) = 0 then (1 : Int32) else 0) ≤ 0 → _)
      rw [if_neg (by decide), j1, z1, n_cell', n_N (by omega), mI (by decide), mg_sI_m (by decide)]
      exact ⟨fun _ => ⟨n_in (by omega) (by omega), H⟩, fun q => absurd (by decide) q⟩
  · refine Or.inr ⟨fun hx Q H => x_L_cell G (D + 5) _ _ _ Q (x_X10_cell G (D + 4) _ _ _ _ (by omega) (h1 G (D + 2) hx _ ⟨fun q => absurd rfl q, fun _ => ⟨rfl, H⟩⟩)), 0, hm.sI 43 0 1, fun hx Q H => x_X12_cell G (d + 1) _ _ _ Q (h2 G d hx _ ?_), by rw [sI_I, if_pos ⟨rfl, rfl⟩], x.thr 1⟩
    show ((if (0 : Int32) = 0 then (1 : Int32) else 0) ≤ 0 → _) ∧ (¬ (if (0 : Int32) = 0 then (1 : Int32) else 0) ≤ 0 → _)
    rw [if_pos rfl]
    refine ⟨fun q => absurd q (by decide), fun _ => ?_⟩
    rw [mg_sI_m (by decide)]; exact H
end GIVEN
