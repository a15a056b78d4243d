/-! ===== the RUN: all STATEMENTS ===== -/
section RALL
variable {G : qG} {d D c p e P jn na lim S N : Nat} {lm : Int32} {hc0 hm0 : qh}
theorem r_all (B : RB c p e hc0 hm0 P jn na lim) (hS : S ≤ 2000) (hN : N ≤ 2000) : ∀ n, RSt G d D c p e hc0 hm0 lm P jn na lim S N n
  | 0 => fun V s a b ag bh st w C hc hm h => h.elim
  | n + 1 => by
    have ih := r_all B hS hN n
    intro V s a b ag bh st w C hc hm h hs hb g1 g2 R hC
    obtain ⟨l1, l2⟩ := B.bd
    have st1 := R.2.2.2.2.1
    have st2 := R.2.2.2.2.2
    have hC' := hC
    unfold CY at hC'
    obtain ⟨k1, k2⟩ := B.mk R.1 (s := s) (by omega)
    rw [show d + 2 * (n + 1) + 4 = d + 2 * n + 5 + 1 by omega]
    rcases h with ⟨k, f, m, v, x, q1, q2, q3, q4, q5, q6⟩ | ⟨k, f, m, v, f2, m2, v2, q1, q2, q3, q4, q5, q6, q7⟩ | ⟨k, f, m, v, j, t, x, q1, q2, q3, q4, q5, q6, q7, q8, q9, q10, q11⟩ | ⟨k, f, m, v, j, j2, t, x, q1, q2, q3, q4, q5, q6, q7, q8, q9, q10, q11, q12, q13, q14, q15, q16, q17, q18⟩ | ⟨k, q0, q1, q2⟩ | ⟨k, q0, q1, q2⟩ | ⟨k, f, m, v, q1, q2, q3, q4⟩ | ⟨k, L, q1, q2⟩
    · obtain ⟨C2, h2, m2, a1, a2, a3, a4, a5⟩ := e_tell (G := G) (d := d + 2 * n + 1) (D := D) (lm := lm) B hN q2 R.es (by omega) (by omega)
      have c2 : CY st (a + m) C2 := hC.up (k := m) (Nat.le_refl _) a2
      obtain ⟨h3, e1, e2⟩ := r_set (G := G) (D := D) (lm := lm) B a5 (by omega) R.2.1 q5 q4 (by omega) (by unfold CY at c2; omega) st1 st2
      refine ⟨0, C2 + 1, h3, _, mo_0 k1 ((k2 2 (by omega)).trans k) ((k2 4 (by omega)).trans q1) ((k2 3 (by omega)).trans q3) q4 a4, a3.tr e1, Or.inl ⟨rfl, st, w, Nat.le_refl _, ?_, by rw [q6]; exact c2.up (k := 1) (Nat.le_refl _) (by omega)⟩⟩
      rw [q6]
      exact e2.mono (fun y q => by
        rcases q with q | q
        · exact Or.inl q
        · exact Or.inr (q.2.trans q3)) (Nat.le_refl _)
    · obtain ⟨j, j1, j2⟩ := q5
      obtain ⟨kk, g3, g4, g5, g6⟩ := B.2.2.2.2.2.1 j j1
      have hna := B.2.2.2.2.1.2
      obtain ⟨C2, h2, m1, a1, a2, a3, a4, a5⟩ := e_tell (G := G) (d := d + 2 * n) (D := D) (lm := lm) B hN q3 R.es (by omega) (by omega)
      have c2 : CY st (a + m) C2 := hC.up (k := m) (Nat.le_refl _) a2
      have c2' := c2
      unfold CY at c2'
      obtain ⟨k3, k4⟩ := B.mk a5.1 (s := s) (by omega)
      have m5 := (B.mR5 a5.1).2.2.2.2.1 1 (by omega)
      obtain ⟨C3, h3, m3, b1, b2, b3, b4, b5⟩ := e_tell (G := G) (d := d + 2 * n) (D := D) (lm := lm) B hN q4 (a5.again (by omega) (by omega)) (by omega) (by omega)
      have c3 : CY st (a + m + m2) C3 := c2.up (k := m2) (Nat.le_refl _) b2
      have c3' := c3
      unfold CY at c3'
      rw [j2] at q6
      obtain ⟨sp, h4, s1, s2, e1, e2⟩ := r_store (G := G) (D := D) (lm := lm) B a5 b5 R.2.1 q6 j1 g3 g4 g5 (by omega) (by omega) st1 st2
      have hw := b5.1.2.2.2.2.1
      refine ⟨0, C3 + sp, h4, _, mo_1 k1 ((k2 2 (by omega)).trans k) (mo_st k1 ((k2 4 (by omega)).trans q1) (((k2 3 (by omega)).trans j2)) a4 k3 (by omega) (by rw [m5]; exact g6) g3 g4 ((k4 5 (by omega)).trans q2) b4 hw.2.1 (by omega)), (a3.tr b3).tr e1, Or.inl ⟨rfl, st, w + 1, Nat.le_refl _, ?_, by rw [q7]; exact c3.up (k := 1) (Nat.le_refl _) (by omega)⟩⟩
      rw [q7]
      exact e2.mono (vaft_ne (by rw [k]; decide)) (Nat.le_refl _)
    · have hle := SC.le _ _ _ _ _ _ _ q10
      have hvn : ∀ y, vaft p hm0 V s y → V y := vaft_ne (by rw [k]; decide)
      have fin : ∀ {r C' : _} {hc' hm' : qh}, OUT c hc0 hm0 lim V V st b ag bh r C' hc' hm' → OUT c hc0 hm0 lim V (vaft p hm0 V s) st b ag bh r C' hc' hm' := fun {r C' hc' hm'} o => by
        by_cases hr : r = 0
        · subst hr
          obtain ⟨s9, w9, o1, o2, o3⟩ := o.on
          exact Or.inl ⟨rfl, s9, w9, o1, o2.mono hvn (Nat.le_refl _), o3⟩
        · exact o.pass hr (Nat.le_refl _) (fun _ q => q)
      have hxb : x + 3 ≤ P := by
        rcases q11 with ⟨_, _, _, w4⟩ | ⟨u, j2, y, _, _, _, _, _, _, _, _, w9, _, _, w12⟩
        · omega
        · have := SC.le _ _ _ _ _ _ _ w9
          omega
      have bd1 : a + m ≤ P ∧ C + 64 * m ≤ 268800000 := by clear q11; omega
      obtain ⟨C2, h2, m2, a1, a2, a3, a4, a5⟩ := e_tell (G := G) (d := d + 2 * n) (D := D) (lm := lm) B hN q2 R.es bd1.1 bd1.2
      have c2 : CY st (a + m) C2 := hC.up (k := m) (Nat.le_refl _) a2
      have c2' := c2
      unfold CY at c2'
      obtain ⟨k3, k4⟩ := B.mk a5.1 (s := s) (by omega)
      have bd2 : a ≤ a + m ∧ a + m < P ∧ C2 < 268800000 := by clear q11; omega
      obtain ⟨f1, f2⟩ := r_fork (G := G) (D := D) (lm := lm) B a5 bd2.1 R.2.1 q5 q4 bd2.2.1 bd2.2.2 st1 st2
      have c3 : CY st 1399 (C2 + 1) := c2.up (k := 1) (by omega) (by omega)
      by_cases hu : m2.I 80 0 = 0
      · obtain ⟨h3, e1, e2⟩ := f2 hu
        rcases q11 with ⟨w1, w2, w3, w4⟩ | ⟨u, j2, y, w1, w2, w3, w4, w5, w6, w7, w8, w9, w10, w11, w12⟩
        · rw [w2] at e2
          obtain ⟨z, h4, m4, o1, o2, o3⟩ := r_join (G := G) (d := d + 2 * n + 3) (D := D) (lm := lm) B e2 w3 (by omega) c3
          refine ⟨_, _, h4, m4, mo_2 k1 ((k2 2 (by omega)).trans k) (mi_S (to := -1) k1 ((k2 4 (by omega)).trans q1) a4 k3 (fun _ => (k4 7 (by omega)).trans w1) (fun q => absurd hu q) (fun hy Q H => ⟨fun _ => o1 hy _ H, fun q => absurd rfl q⟩)), a3.tr (e1.tr o2), ?_⟩
          rw [w4]
          exact o3 V _ st ag bh hvn (Nat.le_refl _)
        · rw [w7] at e2
          have hle2 := SC.le _ _ _ _ _ _ _ w9
          obtain ⟨r, C4, h4, m4, o1, o2, o3⟩ := r_arm (y := y) B ih hS g1 g2 e2 c3 w8 w9 w3 (by omega) (by omega) (by omega) w11 (fun st' w' C' hc' hm' z1 z2 => ⟨hc', C', cS.rf _ _, z1, z2.le (by omega)⟩)
          rw [← w12] at o3
          exact ⟨r, C4, h4, m4, mo_2 k1 ((k2 2 (by omega)).trans k) (mi_S k1 ((k2 4 (by omega)).trans q1) a4 k3 (fun _ => (k4 7 (by omega)).trans w1) (fun q => absurd hu q) o1), a3.tr (e1.tr o2), fin o3⟩
      · obtain ⟨h3, e1, e2⟩ := f1 hu
        rcases q11 with ⟨w1, w2, w3, w4⟩ | ⟨u, j2, y, w1, w2, w3, w4, w5, w6, w7, w8, w9, w10, w11, w12⟩
        · obtain ⟨r, C4, h4, m4, o1, o2, o3⟩ := r_arm (y := x) B ih hS g1 g2 e2 c3 q6 q10 q9 (by omega) (by omega) (by omega) w3 (fun st' w' C' hc' hm' z1 z2 => ⟨hc', C', cS.rf _ _, z1, z2.le (by omega)⟩)
          rw [← w4] at o3
          exact ⟨r, C4, h4, m4, mo_2 k1 ((k2 2 (by omega)).trans k) (mi_S k1 ((k2 4 (by omega)).trans q1) a4 k3 (fun q => absurd q hu) (fun _ => (k4 6 (by omega)).trans q7) o1), a3.tr (e1.tr o2), fin o3⟩
        · have hle2 := SC.le _ _ _ _ _ _ _ w9
          obtain ⟨r, C4, h4, m4, o1, o2, o3⟩ := r_arm (y := y) B ih hS g1 g2 e2 c3 q6 q10 q9 (by omega) (by omega) (by omega) w11 (fun st' w' C' hc' hm' z1 z2 => by
            have t1 := z1.2.2.2.2.1
            have t2 := z1.2.2.2.2.2
            have z3 := z2
            unfold CY at z3
            obtain ⟨h6, y1, y2⟩ := r_wire (G := G) (D := D) (lm := lm) B z1 w6 w5 (by omega) (by omega)
            rw [w10] at y2
            exact ⟨h6, C' + 1, y1, y2, z2.up (k := 1) (by omega) (by omega)⟩)
          rw [← w12] at o3
          exact ⟨r, C4, h4, m4, mo_2 k1 ((k2 2 (by omega)).trans k) (mi_S k1 ((k2 4 (by omega)).trans q1) a4 k3 (fun q => absurd q hu) (fun _ => (k4 6 (by omega)).trans q7) o1), a3.tr (e1.tr o2), fin o3⟩
    · have hle := SC.le _ _ _ _ _ _ _ q14
      have hvn : ∀ y, vaft p hm0 V s y → V y := vaft_ne (by rw [k]; decide)
      obtain ⟨r, C4, h4, m4, o1, o2, o3⟩ := r_loop (ag := ag) (bh := bh) B ih hS hN hs q1 q3 q5 q6 q7 q8 q9 q10 q11 q13 q14 q15 q16 q17 (by omega) (lim + 1) st w C hc hm (by omega) R (hC.le (by omega))
      refine ⟨r, C4, h4, m4, mo_3 k1 ((k2 2 (by omega)).trans k) (fun hy Q H => x_X12_goesWhile G (d + 2 * n + 4) _ _ Q (o1 hy Q H)), o2, ?_⟩
      rw [← q18] at o3
      by_cases hr : r = 0
      · subst hr
        obtain ⟨s9, w9, o1, o2, o3⟩ := o3.on
        exact Or.inl ⟨rfl, s9, w9, o1, o2.mono hvn (Nat.le_refl _), o3⟩
      · exact o3.pass hr (Nat.le_refl _) (fun _ q => q)
    · rcases g2 with g2 | ⟨j, g2, g3⟩
      · exact absurd g2 q0
      · rw [g2] at q1
        have hj80 := B.2.2.2.1.2
        obtain ⟨h6, y1, y2⟩ := r_wire (G := G) (D := D) (lm := lm) B R q1 g3 (by omega) (by omega)
        refine ⟨1, C + 1, h6, hm, mo_4 k1 ((k2 2 (by omega)).trans k), y1, Or.inr (Or.inl ⟨rfl, q0, st, w, Nat.le_refl _, ?_, hC.up (k := 1) (by omega) (by omega)⟩)⟩
        unfold LD
        rw [g2, n_N (by omega)]
        exact y2
    · rcases g1 with g1 | ⟨j, g1, g3⟩
      · exact absurd g1 q0
      · rw [g1] at q1
        have hj80 := B.2.2.2.1.2
        obtain ⟨h6, y1, y2⟩ := r_wire (G := G) (D := D) (lm := lm) B R q1 g3 (by omega) (by omega)
        refine ⟨2, C + 1, h6, hm, mo_5 k1 ((k2 2 (by omega)).trans k), y1, Or.inr (Or.inr (Or.inl ⟨rfl, q0, st, w, Nat.le_refl _, ?_, hC.up (k := 1) (by omega) (by omega)⟩))⟩
        unfold LD
        rw [g1, n_N (by omega)]
        exact y2
    · obtain ⟨C2, h2, m2, a1, a2, a3, a4, a5⟩ := e_tell (G := G) (d := d + 2 * n + 1) (D := D) (lm := lm) B hN q2 R.es (by omega) (by omega)
      have c2 : CY st (a + m) C2 := hC.up (k := m) (Nat.le_refl _) a2
      obtain ⟨p1, p2, p3, p4, p5⟩ := a5.one (by omega) (by omega) R.2.1
      obtain ⟨sp, h3, e0, e1, e2⟩ := r_answer (G := G) (D := D) (lm := lm) (hm' := m2.sI 43 33 (m2.I 80 0)) B a5.1 a5.2.2 p1 p2 p3 p5 p4 q3 (by omega) (by unfold CY at c2; omega) (fun o q => sI_row _ q) (fun k q => by rw [sI_I, if_neg (fun z => q z.2)]) rfl rfl (by rw [sI_I, if_pos ⟨rfl, rfl⟩])
      exact ⟨3, C2 + sp, h3, _, mo_6 k1 ((k2 2 (by omega)).trans k) ((k2 4 (by omega)).trans q1) a4, a3.tr e1, Or.inr (Or.inr (Or.inr (Or.inl ⟨rfl, e2, by unfold CY at c2; omega⟩)))⟩
    · have hvn : ∀ y, vaft p hm0 V s y → V y := vaft_ne (by rw [k]; decide)
      obtain ⟨r, C4, h4, m4, o1, o2, o3⟩ := r_list B ih hS g1 g2 (hm0.I (p + 6) s) L V _ a b st w C hc hm q2 hb R hC
      refine ⟨r, C4, h4, m4, mo_7 k1 ((k2 2 (by omega)).trans k) (k2 6 (by omega)) (fun hy Q H => x_X12_goes G (d + 2 * n + 4) _ _ Q (o1 hy Q H)), o2, ?_⟩
      by_cases hr : r = 0
      · subst hr
        obtain ⟨s9, w9, o1, o2, o3⟩ := o3.on
        exact Or.inl ⟨rfl, s9, w9, o1, o2.mono hvn (Nat.le_refl _), o3⟩
      · exact o3.pass hr (Nat.le_refl _) (fun _ q => q)
end RALL
