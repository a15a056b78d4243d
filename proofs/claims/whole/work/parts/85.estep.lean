/-! ===== the RUN: a part of an E works, a code is told ===== -/
/-- in the midst of an E -/
def ES (hc0 hm0 hcA : qh) (V : Int32 → Prop) (st w C a : Nat) (H0 : Int32) (S : List Int32) (x : Nat) (hc hm : qh) : Prop := BR hc0 hm0 V st w C hc hm ∧ TKK hcA hc hm a H0 S x ∧ hc.I 38 6 = Int32.ofNat x
section ESTEP
variable {G : qG} {d D c p e P jn na lim : Nat} {lm : Int32} {hc0 hm0 hcA hc hm hc' hm' : qh} {V : Int32 → Prop} {st w C a x : Nat} {H0 : Int32} {S r : List Int32}
theorem tkn_at {l : Int32} (hl : ¬ l = -1) (o k : Nat) : (tkn hc l).I o k = if o = 38 ∧ k = 8 then hc.I 38 8 - 1 else if o = 40 ∧ k = l.toNatClampNeg then 0 else hc.I o k := by
  unfold tkn
  rw [if_neg hl, sI_I, sI_I]
theorem tkn_comm {l b : Int32} (hl : ¬ l = -1) (hb : ¬ b = -1) : tkn (tkn hc l) b = tkn (tkn hc b) l := by
  refine Prod.ext ?_ (Prod.ext ?_ ?_)
  · funext o k
    show (tkn (tkn hc l) b).I o k = (tkn (tkn hc b) l).I o k
    rw [tkn_at hb, tkn_at hl, tkn_at hl, tkn_at hl, tkn_at hb, tkn_at hb]
    by_cases q1 : o = 38 ∧ k = 8
    · rw [if_pos q1, if_pos q1, if_pos ⟨rfl, rfl⟩, if_pos ⟨rfl, rfl⟩]
    · rw [if_neg q1, if_neg q1, if_neg q1, if_neg q1]
      split <;> split <;> rfl
  · exact ((tkn_L b).trans (tkn_L l)).trans ((tkn_L l).trans (tkn_L b)).symm
  · exact ((tkn_R b).trans (tkn_R l)).trans ((tkn_R l).trans (tkn_R b)).symm
theorem TKK.pop2 {b l : Int32} {hi : Nat} (t : TKK hcA hc hm a H0 (b :: l :: r) hi) (h : hi ≤ 1400) : fll hc l ∧ fll (tkn hc l) b ∧ tkv hc l = hm.I 80 r.length ∧ tkv (tkn hc l) b = hm.I 80 (r.length + 1) ∧ TKK hcA (tkn (tkn hc l) b) hm a H0 r hi := by
  obtain ⟨q1, q2, q3⟩ := t.pop h
  obtain ⟨z1, z2, z3⟩ := q3.pop h
  obtain ⟨⟨y, y1, y2, y3, y4, y5, y', u1, u2, u3, u4, u5, u6⟩, -⟩ := t
  have hb : ¬ b = -1 := by rw [y1]; exact n_ne1 (by omega)
  have hl : ¬ l = -1 := by rw [u1]; exact n_ne1 (by omega)
  have e39 : ∀ z : Int32, (tkn hc z).I 39 = hc.I 39 := fun z => tkn_row _ _ (by decide) (by decide)
  refine ⟨Or.inr ⟨y', u1, by omega, u4⟩, Or.inr ⟨y, y1, by omega, ?_⟩, ?_, ?_, ?_⟩
  · rw [tkn_at hl, if_neg (by omega), if_neg, y4]
    rw [u1, n_N (by omega)]
    omega
  · rw [← z2]; unfold tkv; rw [e39]
  · have : (l :: r).length = r.length + 1 := rfl
    rw [← this, ← q2]; unfold tkv; rw [e39]
  · rw [tkn_comm hl hb]; exact z3
theorem tkn_m (h : qh) : tkn h (-1) = h := if_pos rfl
theorem fl_m (h : qh) : fll h (-1) := Or.inl rfl
/-- a part that hands on what it makes within one cycle -/
theorem c_ord (B : RB c p e hc0 hm0 P jn na lim) (b : BR hc0 hm0 V st w C hc hm) {k l r t v : Int32} (ht : hc.I 38 6 = Int32.ofNat x) (hx : x < P) (hC : C < 268800000) (hp : pAt hc0 c x = (k, l, r, t)) (hl : fll hc l) (hr' : fll hc r) (hr : fll (tkn hc l) r) (h0 : hc.I 40 x = 0) (h1 : (wkh hc l r x).I 40 x = 0)
    (K : ∀ hy Q, q_M0 G (D + 3) yX9_hand [.ref 38, .int (Int32.ofNat x), .int v] (mg (wkh hc l r x) hy) (q_rv (fun h => Q (.inl (some (.int 1))) h) (fun E h => Q (.inr E) h)) → Sw G (D + 3) c C x k t (tkv hc l) (tkv (tkn hc l) r) (mg (wkh hc l r x) hy) Q) : cS G (D + 4) c lm hc C (hnd (wkh hc l r x) x v) (C + 1) := by
  obtain ⟨r1, r2, r3, r4, r5, r6, r7, r8, r9⟩ := B.cR5 b
  have hP := B.2.2.1.2
  have hq := B.1.1
  exact c_iter hq (by omega) (sp := 1) ht (by omega) hC (c_ready hq (by omega) r1 r2 hP ht hx h0 ((r5 x).trans hp) hl hr') (c_workS hq (by omega) r1 ht (by omega) ((r5 x).trans hp) hl hr (fun hy Q H => K hy Q (c_hand (by omega) (by omega) h1 v hy _ H))) (by omega) (by omega)
theorem BR.read (b : BR hc0 hm0 V st w C hc hm) {sp : Nat} : BR hc0 hm0 V st w (C + sp) ((hc.sI 31 8 (Int32.ofNat (C + sp))).sI 31 6 (hc.I 31 6 + 1)) (hm.sI 43 36 (hm.I 43 36 + 1)) := by
  obtain ⟨x1, x2, x3, ⟨A, x4, x5⟩, ⟨x6, x7, x8⟩, x9, x10, x11, x12⟩ := b
  refine ⟨⟨fun o q => ?_, fun k q1 q2 q3 => ?_, fun k q1 q2 q3 => ?_, x1.2.2.2.1, x1.2.2.2.2⟩, ⟨fun o q1 q2 q3 q4 q5 => ?_, fun k q1 q2 q3 => ?_, x2.2.2.1, x2.2.2.2⟩, ⟨?_, ?_⟩, ⟨C + sp, ?_, Nat.le_refl _⟩, ⟨?_, ?_, by omega⟩, ?_, ?_, ?_, ?_⟩
  · rw [sI_row _ (by omega), sI_row _ (by omega)]; exact x1.1 o q
  · rw [sI_I, if_neg (by omega), sI_I, if_neg (by omega)]; exact x1.2.1 k q1 q2 q3
  · rw [sI_row _ (by decide), sI_row _ (by decide)]; exact x1.2.2.1 k q1 q2 q3
  · rw [sI_row _ q1]; exact x2.1 o q1 q2 q3 q4 q5
  · rw [sI_I, if_neg (by omega)]; exact x2.2.1 k q1 q2 q3
  · rw [sI_row _ (by decide), sI_row _ (by decide)]; exact x3.1
  · rw [sI_I, if_neg (by omega)]; exact x3.2
  · rw [sI_I, if_neg (by omega), sI_I, if_pos ⟨rfl, rfl⟩]
  · rw [sI_I, if_neg (by omega), sI_I, if_neg (by omega)]; exact x6
  · rw [sI_I, if_neg (by omega)]; exact x7
  · rw [sI_I, if_pos ⟨rfl, rfl⟩, sI_I, if_pos ⟨rfl, rfl⟩, x9]
  · rw [sI_row _ (by decide), sI_row _ (by decide), sI_row _ (by decide)]; exact x10
  · unfold KW
    rw [sI_row _ (by decide), sI_row _ (by decide), sI_row _ (by decide), sI_row _ (by decide), sI_row _ (by decide), sI_row _ (by decide), sI_row _ (by decide)]; exact x11
  · rw [sI_row _ (by decide), sI_row _ (by decide), sI_row _ (by decide)]; exact x12
theorem pile_set {n : Nat} {v : Int32} {S : List Int32} (hn : n = S.length) : (hm.sI 80 n v).I 80 S.length = v ∧ ∀ i, i < S.length → (hm.sI 80 n v).I 80 i = hm.I 80 i := by
  subst hn
  exact ⟨by rw [sI_I, if_pos ⟨rfl, rfl⟩], fun i hi => by rw [sI_I, if_neg (by omega)]⟩
theorem TKK.turn (t : TKK hcA hc hm a H0 S x) (v : Int32) : TKK hcA (hc.sI 38 6 v) hm a H0 S x := t.fr (sI_row _ (by decide)) (sI_row _ (by decide)) (by rw [sI_I, if_neg (by decide)]) rfl
theorem hnd_turn (h : qh) (l r : Int32) (y x : Nat) (v : Int32) : (hnd (wkh h l r y) x v).I 38 6 = Int32.ofNat (y + 1) := by
  unfold hnd wkh
  rw [sI_I, if_neg (by decide), sI_row _ (by decide), sI_row _ (by decide), sI_I, if_pos ⟨rfl, rfl⟩]
set_option maxHeartbeats 1000000 in
theorem e_step {f m i : Nat} {o : cod} {pt : prt} {S' : List Int32} (B : RB c p e hc0 hm0 P jn na lim) (E : ES hc0 hm0 hcA V st w C a H0 S' (a + i) hc hm) (s : ECs V (AK na) o pt S' S (Int32.ofNat (a + i))) (h1 : pAt hc0 c (a + i) = pt) (h2 : cAt hm0 p (f + i) = o) (h3 : hm0.I e f = Int32.ofNat (f + m)) (hi : i < m) (hf : f + m ≤ 2000) (hx : a + i < P) (hC : C < 268800000) (hS : S'.length ≤ i) :
    ∃ C' hc' hm', C ≤ C' ∧ C' ≤ C + 64 ∧ cS G (D + 4) c lm hc C hc' C' ∧ mT G (d + 3) f hm S'.length (f + i) hm' S.length (f + i + 1) ∧ ES hc0 hm0 hcA V st w C' a H0 S (a + i + 1) hc' hm' ∧ S.length ≤ i + 1 := by
  obtain ⟨b, t, ht⟩ := E
  obtain ⟨r1, r2, r3, r4, r5, r6, r7, r8, r9⟩ := B.cR5 b
  obtain ⟨m1, m2, m3, m4, m5, m6⟩ := B.mR5 b
  have hP := B.2.2.1.2
  obtain ⟨hq, hp, he⟩ := B.1
  have hx4 : a + i < 1400 := by omega
  have e3 : hm.I e f = Int32.ofNat (f + m) := by rw [m4]; exact h3
  have ec : cAt hm p (f + i) = o := (m3 _).trans h2
  have hem := t.emp (by omega) hx4
  obtain ⟨o1, o2⟩ := o
  have w0 : wkh hc (-1) (-1) (a + i) = hc.sI 38 6 (Int32.ofNat (a + i + 1)) := by unfold wkh; rw [tkn_m, tkn_m]
  have em0 : (wkh hc (-1) (-1) (a + i)).I 40 (a + i) = 0 := by rw [w0, sI_row _ (by decide)]; exact hem
  rcases s with ⟨k1, k2, k3⟩ | ⟨k1, k2, k3, k4⟩ | ⟨l, rr, k1, k2, k3⟩ | ⟨bb, l, rr, k1, k2, k3, k4, k5⟩
  · dsimp only at k1 k2
    subst k1 k2 k3
    obtain ⟨u1, u2⟩ := pile_set (hm := hm) (n := S'.length) (v := o2) (S := S') rfl
    refine ⟨C + 1, _, _, by omega, by omega, c_ord (v := o2) B b ht hx hC h1 (fl_m _) (fl_m _) (by rw [tkn_m]; exact fl_m _) hem em0 (fun hy Q H => ⟨fun _ => H, fun q => absurd q (by decide), fun q => absurd q (by decide), fun q => absurd q (by decide), fun q => absurd q (by decide), fun q => absurd q (by decide), fun q => absurd q (by decide), fun q => absurd q (by decide), fun q => absurd q (by decide), fun q => absurd rfl q.1⟩), mt_num hp he m1 m2 e3 hf (by omega) (by omega) ec (by omega), ⟨(b.mono (fun _ q => q) (by omega)).tok ((tA.wk1 _ _ _ _).tr (tA.hd1 _ _ _)) (mA.sI _ _ _), ?_, hnd_turn _ _ _ _ _ _⟩, by rw [List.length_cons]; omega⟩
    rw [w0]
    exact (t.turn _).hd1 (by omega) hx4 u1 u2
  · dsimp only at k1 k2 k3
    subst k1 k3 k4
    obtain ⟨y, y2, y1, y3⟩ := b.2.2.2.2.2.2.2.2 o2 k2
    obtain ⟨u1, u2⟩ := pile_set (hm := hm) (n := S'.length) (v := hm.I 78 y) (S := S') rfl
    rw [y1] at ec
    refine ⟨C + 1, _, _, by omega, by omega, c_ord (v := hm.I 78 y) B b ht hx hC h1 (fl_m _) (fl_m _) (by rw [tkn_m]; exact fl_m _) hem em0 (fun hy Q H => ⟨fun q => absurd q (by decide), fun _ => ?_, fun q => absurd q (by decide), fun q => absurd q (by decide), fun q => absurd q (by decide), fun q => absurd q (by decide), fun q => absurd q (by decide), fun q => absurd q (by decide), fun q => absurd q (by decide), fun q => absurd rfl q.2.1⟩), mt_var hp he m1 m2 e3 hf (by omega) (by omega) ec (by omega) (by omega), ⟨(b.mono (fun _ q => q) (by omega)).tok ((tA.wk1 _ _ _ _).tr (tA.hd1 _ _ _)) (mA.sI _ _ _), ?_, hnd_turn _ _ _ _ _ _⟩, by rw [List.length_cons]; omega⟩
    · rw [y1]
      refine c_isVar (by omega) y2 hy _ ⟨fun q => absurd q (by decide), fun _ => ⟨n_in (by omega) y2, ?_⟩⟩
      rw [n_N (by omega), cI (by decide), w0, sI_row _ (by decide), y3]
      rw [w0] at H
      exact H
    · rw [w0]
      exact (t.turn _).hd1 (by omega) hx4 u1 u2
  · subst k1 k2
    obtain ⟨p1, p2, p3⟩ := t.pop (by omega)
    have hl1 : (l :: rr).length = rr.length + 1 := rfl
    have w1 : wkh hc l (-1) (a + i) = (tkn hc l).sI 38 6 (Int32.ofNat (a + i + 1)) := by unfold wkh; rw [tkn_m]
    have t1 : TKK hcA (wkh hc l (-1) (a + i)) hm a H0 rr (a + i) := by rw [w1]; exact p3.turn _
    have em1 := t1.emp (by omega) hx4
    rcases k3 with ⟨j1, ⟨j, j2, j3⟩, j4⟩ | ⟨j1, j2⟩ | ⟨j1, j2⟩ | ⟨j1, j2⟩
    · dsimp only at j1 j3 j4
      subst j1 j3 j4
      obtain ⟨kk, g1, g2, g3, g4⟩ := B.2.2.2.2.2.1 j j2
      have hna := B.2.2.2.2.1.2
      have hl := fm_lt (hm.I 80 rr.length) g1
      obtain ⟨n1, n2⟩ := pile_set (hm := hm) (n := rr.length) (v := hm.I 76 (j * 256 + fm (hm.I 80 rr.length) kk)) (S := rr) rfl
      have b3 : BR hc0 hm0 V st w C (wkh hc l (-1) (a + i)) (hm.sI 80 rr.length (hm.I 76 (j * 256 + fm (hm.I 80 rr.length) kk))) := b.tok (tA.wk1 _ _ _ _) (mA.sI _ _ _)
      obtain ⟨A, A1, A2⟩ := b3.2.2.2.1
      obtain ⟨z1, z2, z3, z4, z5, z6, z7, z8, z9⟩ := B.cR5 b3
      obtain ⟨sp, s1, s2, s3⟩ := c_ask (G := G) (d := D + 3) (by omega) A1 A2 (by omega) z8
      have b4 := b3.read (sp := sp)
      have hcl := cir_lt hq
      have v4 : ((wkh hc l (-1) (a + i)).sI 31 8 (Int32.ofNat (C + sp))).I 32 (j * 256 + fm (hm.I 80 rr.length) kk) = hm.I 76 (j * 256 + fm (hm.I 80 rr.length) kk) := by
        rw [sI_row _ (by decide), b3.2.2.2.2.2.2.1 _ (by omega), sI_row _ (by decide)]
      have i6 : ((wkh hc l (-1) (a + i)).sI 31 8 (Int32.ofNat (C + sp))).I 31 6 = (wkh hc l (-1) (a + i)).I 31 6 := by rw [sI_I, if_neg (by decide)]
      have i43 : (hm.sI 80 rr.length (hm.I 76 (j * 256 + fm (hm.I 80 rr.length) kk))).I 43 36 = hm.I 43 36 := by rw [sI_row _ (by decide)]
      rw [i43] at b4
      obtain ⟨h5, e5⟩ : ∃ h5 : qh, h5 = ((wkh hc l (-1) (a + i)).sI 31 8 (Int32.ofNat (C + sp))).sI 31 6 ((wkh hc l (-1) (a + i)).I 31 6 + 1) := ⟨_, rfl⟩
      rw [← e5] at b4
      have t5 : TKK hcA h5 hm a H0 rr (a + i) := by rw [e5]; exact t1.fr (by rw [sI_row _ (by decide), sI_row _ (by decide)]) (by rw [sI_row _ (by decide), sI_row _ (by decide)]) (by rw [sI_row _ (by decide), sI_row _ (by decide)]) rfl
      have em5 := t5.emp (by omega) hx4
      refine ⟨C + sp, hnd h5 (a + i) (hm.I 76 (j * 256 + fm (hm.I 80 rr.length) kk)), _, by omega, by omega, ?_, mt_cell hp he m1 m2 e3 hf (by omega) (by omega) (by omega) ec (by omega) (by rw [m5 1 (by omega)]; exact g4) g1 g2 (by rw [hl1] at hS; omega), ⟨b4.tok (tA.hd1 _ _ _) (mA.rf _), ?_, ?_⟩, by rw [List.length_cons]; rw [hl1] at hS; omega⟩
      · refine c_iter hq (by omega) ht (by omega) hC (c_ready hq (by omega) r1 r2 hP ht hx hem ((r5 _).trans h1) p1 (fl_m _)) (c_workS hq (by omega) r1 ht (by omega) ((r5 _).trans h1) p1 (fl_m _) (fun hy Q H => ⟨fun q => absurd q (by decide), fun q => absurd q (by decide), fun _ => ?_, fun q => absurd q (by decide), fun q => absurd q (by decide), fun q => absurd q (by decide), fun q => absurd q (by decide), fun q => absurd q (by decide), fun q => absurd q (by decide), fun q => absurd rfl q.2.2.1⟩)) s1 (by omega)
        refine s3 hy _ (c_cellOf (d := D + 3) (hc := (wkh hc l (-1) (a + i)).sI 31 8 (Int32.ofNat (C + sp))) hq (by omega) (k := kk) z1 ?_ hna j2 ?_ g1 g2 _ hy _ (c_fetch (d := D + 3) (by omega) (by omega) (by rw [p2]; omega) hy _ ?_))
        · rw [sI_row _ (by omega)]; exact z4
        · rw [sI_row _ (by omega), z7]; exact g3
        · rw [p2, v4, i6, ← e5]
          exact c_hand (by omega) hx4 em5 _ hy _ H
      · exact (t5.hd1 (by omega) hx4 n1 n2).fr rfl rfl rfl (by rw [sI_row _ (by decide)])
      · unfold hnd
        rw [sI_I, if_neg (by decide), sI_row _ (by decide), sI_row _ (by decide), e5, sI_row _ (by decide), sI_row _ (by decide), w1, sI_I, if_pos ⟨rfl, rfl⟩]
    · dsimp only at j1
      subst j1 j2
      obtain ⟨n1, n2⟩ := pile_set (hm := hm) (n := rr.length) (v := -(hm.I 80 rr.length)) (S := rr) rfl
      refine ⟨C + 1, _, _, by omega, by omega, c_ord (v := -(hm.I 80 rr.length)) B b ht hx hC h1 p1 (fl_m _) (fl_m _) hem em1 (fun hy Q H => ⟨fun q => absurd q (by decide), fun q => absurd q (by decide), fun q => absurd q (by decide), fun q => absurd q (by decide), fun q => absurd q (by decide), fun q => absurd q (by decide), fun q => absurd q (by decide), fun q => absurd q (by decide), fun q => absurd q (by decide), fun _ => by rw [p2]; exact cw_n45 _ _ hy _ H⟩), mt_neg hp he m1 m2 e3 hf (by omega) (by omega) ec (by rw [hl1] at hS; omega), ⟨(b.mono (fun _ q => q) (by omega)).tok ((tA.wk1 _ _ _ _).tr (tA.hd1 _ _ _)) (mA.sI _ _ _), t1.hd1 (by omega) hx4 n1 n2, hnd_turn _ _ _ _ _ _⟩, by rw [List.length_cons]; rw [hl1] at hS; omega⟩
    · dsimp only at j1
      subst j1 j2
      obtain ⟨n1, n2⟩ := pile_set (hm := hm) (n := rr.length) (v := if (if hm.I 80 rr.length = 0 then (1 : Int32) else 0) = 0 then 0 else 1) (S := rr) rfl
      refine ⟨C + 1, _, _, by omega, by omega, c_ord (v := if (if hm.I 80 rr.length = 0 then (1 : Int32) else 0) = 0 then 0 else 1) B b ht hx hC h1 p1 (fl_m _) (fl_m _) hem em1 (fun hy Q H => ⟨fun q => absurd q (by decide), fun q => absurd q (by decide), fun q => absurd q (by decide), fun q => absurd q (by decide), fun q => absurd q (by decide), fun q => absurd q (by decide), fun q => absurd q (by decide), fun q => absurd q (by decide), fun q => absurd q (by decide), fun _ => by rw [p2]; exact cw_n33 _ _ hy _ H⟩), mt_not hp he m1 m2 e3 hf (by omega) (by omega) (by omega) ec (by rw [hl1] at hS; omega), ⟨(b.mono (fun _ q => q) (by omega)).tok ((tA.wk1 _ _ _ _).tr (tA.hd1 _ _ _)) (mA.sI _ _ _), t1.hd1 (by omega) hx4 n1 n2, hnd_turn _ _ _ _ _ _⟩, by rw [List.length_cons]; rw [hl1] at hS; omega⟩
    · dsimp only at j1
      subst j1 j2
      obtain ⟨n1, n2⟩ := pile_set (hm := hm) (n := rr.length) (v := hm.I 80 rr.length ^^^ (-1)) (S := rr) rfl
      refine ⟨C + 1, _, _, by omega, by omega, c_ord (v := hm.I 80 rr.length ^^^ (-1)) B b ht hx hC h1 p1 (fl_m _) (fl_m _) hem em1 (fun hy Q H => ⟨fun q => absurd q (by decide), fun q => absurd q (by decide), fun q => absurd q (by decide), fun q => absurd q (by decide), fun q => absurd q (by decide), fun q => absurd q (by decide), fun q => absurd q (by decide), fun q => absurd q (by decide), fun q => absurd q (by decide), fun _ => by rw [p2]; exact cw_n126 _ _ hy _ H⟩), mt_inv hp he m1 m2 e3 hf (by omega) (by omega) ec (by rw [hl1] at hS; omega), ⟨(b.mono (fun _ q => q) (by omega)).tok ((tA.wk1 _ _ _ _).tr (tA.hd1 _ _ _)) (mA.sI _ _ _), t1.hd1 (by omega) hx4 n1 n2, hnd_turn _ _ _ _ _ _⟩, by rw [List.length_cons]; rw [hl1] at hS; omega⟩
  · dsimp only at k3 k4 k5
    subst k1 k2 k3 k5
    have hl2 : (bb :: l :: rr).length = rr.length + 2 := rfl
    obtain ⟨p1, p2, p3, p4, p5⟩ := t.pop2 (by omega)
    obtain ⟨p6, -, -⟩ := t.pop (by omega)
    have t1 : TKK hcA (wkh hc l bb (a + i)) hm a H0 rr (a + i) := p5.turn _
    have em1 := t1.emp (by omega) hx4
    obtain ⟨v, v1, v2⟩ := sg_two k4 (hm.I 80 rr.length) (hm.I 80 (rr.length + 1))
    obtain ⟨n1, n2⟩ := pile_set (hm := hm) (n := rr.length) (v := v) (S := rr) rfl
    have k33 := lvl_kind k4
    have big : ∀ z : Int32, z < 33 → ¬ o2 = z := fun z hz q => by
      rw [q] at k33
      exact absurd hz (Int32.not_lt.mpr k33)
    rw [hl2] at hS
    refine ⟨C + 1, _, _, by omega, by omega, c_ord (v := v) B b ht hx hC h1 p1 p6 p2 hem em1 (fun hy Q H => ⟨fun q => absurd q (big _ (by decide)), fun q => absurd q (big _ (by decide)), fun q => absurd q (big _ (by decide)), fun q => absurd q (big _ (by decide)), fun q => absurd q (big _ (by decide)), fun q => absurd q (big _ (by decide)), fun q => absurd q (big _ (by decide)), fun q => absurd q (big _ (by decide)), fun q => absurd q (big _ (by decide)), fun _ => by rw [p3, p4]; exact v1 G D _ hy _ H⟩), mt_two hp he m1 m2 e3 hf (by omega) (by omega) ec (v2 G d hm) (by omega), ⟨(b.mono (fun _ q => q) (by omega)).tok ((tA.wk1 _ _ _ _).tr (tA.hd1 _ _ _)) (mA.sI _ _ _), t1.hd1 (by omega) hx4 n1 n2, hnd_turn _ _ _ _ _ _⟩, by rw [List.length_cons]; omega⟩
end ESTEP
