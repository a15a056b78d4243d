/-! ===== the RUN: STORE; the reference's STATEMENTS one by one ===== -/
def msH (h : qh) (w j i : Nat) (v : Int32) : qh := if w < 200 then ((((h.sI 76 (j * 256 + i) v).sI 79 (3 * w) (Int32.ofNat j)).sI 79 (3 * w + 1) (Int32.ofNat i)).sI 79 (3 * w + 2) v).sI 43 37 (Int32.ofNat (w + 1)) else (h.sI 76 (j * 256 + i) v).sI 43 37 (Int32.ofNat (w + 1))
section STORE
variable {G : qG} {d D c p e P jn na lim : Nat} {lm : Int32} {hc0 hm0 hcA hmA hc hm hc' hm' : qh} {V V' : Int32 → Prop} {st w C a x : Nat} {H0 : Int32} {S r : List Int32}
theorem stH_I (h : qh) (w j i : Nat) (v : Int32) (o k : Nat) (h1 : o ≠ 34) (h2 : o ≠ 35) (h3 : o ≠ 36) (h4 : ¬ (o = 31 ∧ k = 7)) (h5 : o ≠ 32) : (stH h w j i v).I o k = h.I o k := by
  unfold stH
  split
  · rw [sI_row _ h5, sI_I, if_neg h4, sI_row _ h3, sI_row _ h2, sI_row _ h1]
  · rw [sI_row _ h5, sI_I, if_neg h4]
theorem stH_32 (h : qh) (w j i : Nat) (v : Int32) (k : Nat) : (stH h w j i v).I 32 k = if k = j * 256 + i then v else h.I 32 k := by
  unfold stH
  split
  · rw [sI_I]
    by_cases q : k = j * 256 + i
    · rw [if_pos ⟨rfl, q⟩, if_pos q]
    · rw [if_neg (fun z => q z.2), if_neg q, sI_row _ (by decide), sI_row _ (by decide), sI_row _ (by decide), sI_row _ (by decide)]
  · rw [sI_I]
    by_cases q : k = j * 256 + i
    · rw [if_pos ⟨rfl, q⟩, if_pos q]
    · rw [if_neg (fun z => q z.2), if_neg q, sI_row _ (by decide)]
theorem stH_7 (h : qh) (w j i : Nat) (v : Int32) : (stH h w j i v).I 31 7 = Int32.ofNat (w + 1) := by
  unfold stH
  split <;> rw [sI_row _ (by decide), sI_I, if_pos ⟨rfl, rfl⟩]
theorem stH_R (h : qh) (w j i : Nat) (v : Int32) : (stH h w j i v).R = h.R := by unfold stH; split <;> rfl
theorem stH_L (h : qh) (w j i : Nat) (v : Int32) : (stH h w j i v).L = h.L := by unfold stH; split <;> rfl
theorem msH_I (h : qh) (w j i : Nat) (v : Int32) (o k : Nat) (h1 : o ≠ 76) (h2 : o ≠ 79) (h4 : ¬ (o = 43 ∧ k = 37)) : (msH h w j i v).I o k = h.I o k := by
  unfold msH
  split
  · rw [sI_I, if_neg h4, sI_row _ h2, sI_row _ h2, sI_row _ h2, sI_row _ h1]
  · rw [sI_I, if_neg h4, sI_row _ h1]
theorem msH_76 (h : qh) (w j i : Nat) (v : Int32) (k : Nat) : (msH h w j i v).I 76 k = if k = j * 256 + i then v else h.I 76 k := by
  unfold msH
  split
  · rw [sI_row _ (by decide), sI_row _ (by decide), sI_row _ (by decide), sI_row _ (by decide), sI_I]
    by_cases q : k = j * 256 + i
    · rw [if_pos ⟨rfl, q⟩, if_pos q]
    · rw [if_neg (fun z => q z.2), if_neg q]
  · rw [sI_row _ (by decide), sI_I]
    by_cases q : k = j * 256 + i
    · rw [if_pos ⟨rfl, q⟩, if_pos q]
    · rw [if_neg (fun z => q z.2), if_neg q]
theorem msH_37 (h : qh) (w j i : Nat) (v : Int32) : (msH h w j i v).I 43 37 = Int32.ofNat (w + 1) := by
  unfold msH
  split <;> rw [sI_I, if_pos ⟨rfl, rfl⟩]
theorem msH_R (h : qh) (w j i : Nat) (v : Int32) : (msH h w j i v).R = h.R := by unfold msH; split <;> rfl
theorem msH_L (h : qh) (w j i : Nat) (v : Int32) : (msH h w j i v).L = h.L := by unfold msH; split <;> rfl
theorem stH_k (h : qh) {w : Nat} (hw : w < 200) (j i : Nat) (v : Int32) (k : Nat) : (stH h w j i v).I 34 k = (if k = w then Int32.ofNat j else h.I 34 k) ∧ (stH h w j i v).I 35 k = (if k = w then Int32.ofNat i else h.I 35 k) ∧ (stH h w j i v).I 36 k = (if k = w then v else h.I 36 k) := by
  unfold stH
  rw [if_pos hw]
  refine ⟨?_, ?_, ?_⟩
  · rw [sI_row _ (by decide), sI_row _ (by decide), sI_row _ (by decide), sI_row _ (by decide), sI_I]; simp only [true_and]
  · rw [sI_row _ (by decide), sI_row _ (by decide), sI_row _ (by decide), sI_I, sI_row _ (by decide)]; simp only [true_and]
  · rw [sI_row _ (by decide), sI_row _ (by decide), sI_I, sI_row _ (by decide), sI_row _ (by decide)]; simp only [true_and]
theorem msH_k (h : qh) {w : Nat} (hw : w < 200) (j i : Nat) (v : Int32) (k : Nat) : (msH h w j i v).I 79 k = if k = 3 * w + 2 then v else if k = 3 * w + 1 then Int32.ofNat i else if k = 3 * w then Int32.ofNat j else h.I 79 k := by
  unfold msH
  rw [if_pos hw, sI_row _ (by decide), sI_I, sI_I, sI_I, sI_row _ (by decide)]
  simp only [true_and]
theorem KW.store (k : KW w hc hm) (j i : Nat) (v : Int32) : KW (w + 1) (stH hc w j i v) (msH hm w j i v) := by
  intro z z1 z2
  by_cases h : w < 200
  · obtain ⟨s1, s2, s3⟩ := stH_k hc h j i v z
    rw [s1, s2, s3, msH_k hm h, msH_k hm h, msH_k hm h]
    by_cases q : z = w
    · subst q
      rw [if_pos rfl, if_pos rfl, if_pos rfl, if_neg (by omega), if_neg (by omega), if_pos rfl, if_neg (by omega), if_pos rfl, if_pos rfl]
      exact ⟨rfl, rfl, rfl⟩
    · rw [if_neg q, if_neg q, if_neg q, if_neg (by omega), if_neg (by omega), if_neg (by omega), if_neg (by omega), if_neg (by omega), if_neg (by omega), if_neg (by omega), if_neg (by omega), if_neg (by omega)]
      exact k z (by omega) z2
  · unfold stH msH
    rw [if_neg h, if_neg h]
    rw [sI_row _ (by decide), sI_row _ (by decide), sI_row _ (by decide), sI_row _ (by decide), sI_row _ (by decide), sI_row _ (by decide), sI_row _ (by decide), sI_row _ (by decide)]
    exact k z (by omega) z2
theorem BR.store (b : BR hc0 hm0 V st w C hc hm) {sp : Nat} (hs : 1 ≤ sp) (j i : Nat) (v : Int32) : BR hc0 hm0 V st (w + 1) (C + sp) (stH (hc.sI 31 8 (Int32.ofNat (C + sp))) w j i v) (msH hm w j i v) := by
  obtain ⟨x1, x2, x3, ⟨A, x4, x5⟩, ⟨x6, x7, x8⟩, x9, x10, x11, x12⟩ := b
  refine ⟨⟨fun o q => ?_, fun k q1 q2 q3 => ?_, fun k q1 q2 q3 => ?_, (stH_L _ _ _ _ _).trans x1.2.2.2.1, (stH_R _ _ _ _ _).trans x1.2.2.2.2⟩, ⟨fun o q1 q2 q3 q4 q5 => ?_, fun k q1 q2 q3 => ?_, (msH_L _ _ _ _ _).trans x2.2.2.1, (msH_R _ _ _ _ _).trans x2.2.2.2⟩, ⟨?_, ?_⟩, ⟨C + sp, ?_, Nat.le_refl _⟩, ⟨?_, ?_, by omega⟩, ?_, fun z hz => ?_, ?_, fun y hy => ?_⟩
  · funext k
    rw [stH_I _ _ _ _ _ _ _ (by omega) (by omega) (by omega) (by omega) (by omega), sI_row _ (by omega)]; exact congrFun (x1.1 o q) k
  · rw [stH_I _ _ _ _ _ _ _ (by decide) (by decide) (by decide) (by omega) (by decide), sI_I, if_neg (by omega)]; exact x1.2.1 k q1 q2 q3
  · rw [stH_I _ _ _ _ _ _ _ (by decide) (by decide) (by decide) (by omega) (by decide), sI_row _ (by decide)]; exact x1.2.2.1 k q1 q2 q3
  · funext k
    rw [msH_I _ _ _ _ _ _ _ q2 q4 (by omega)]; exact congrFun (x2.1 o q1 q2 q3 q4 q5) k
  · rw [msH_I _ _ _ _ _ _ _ (by decide) (by decide) (by omega)]; exact x2.2.1 k q1 q2 q3
  · rw [stH_I _ _ _ _ _ _ _ (by decide) (by decide) (by decide) (by decide) (by decide), sI_row _ (by decide)]; exact x3.1
  · rw [msH_I _ _ _ _ _ _ _ (by decide) (by decide) (by decide)]; exact x3.2
  · rw [stH_I _ _ _ _ _ _ _ (by decide) (by decide) (by decide) (by decide) (by decide), sI_I, if_pos ⟨rfl, rfl⟩]
  · exact stH_7 _ _ _ _ _
  · exact msH_37 _ _ _ _ _
  · rw [stH_I _ _ _ _ _ _ _ (by decide) (by decide) (by decide) (by decide) (by decide), sI_I, if_neg (by decide), msH_I _ _ _ _ _ _ _ (by decide) (by decide) (by decide)]; exact x9
  · rw [stH_32, msH_76, sI_row _ (by decide), x10 z hz]
  · exact KW.store (hc := hc.sI 31 8 (Int32.ofNat (C + sp))) (by unfold KW; rw [sI_row _ (by decide), sI_row _ (by decide), sI_row _ (by decide)]; exact x11) j i v
  · obtain ⟨z, z1, z2, z3⟩ := x12 y hy
    exact ⟨z, z1, z2, by rw [stH_I _ _ _ _ _ _ _ (by decide) (by decide) (by decide) (by omega) (by decide), sI_row _ (by decide), msH_I _ _ _ _ _ _ _ (by decide) (by decide) (by omega)]; exact z3⟩
/-- the second E of a STORE begins with the token of the first still there -/
theorem ES.again {v : Int32} (E : ES hc0 hm0 hcA V st w C a 0 [v] x hc hm) (h : x ≤ 1400) (ha : a ≤ x) : ES hc0 hm0 hc V st w C x 1 [] x hc hm := by
  obtain ⟨b, ⟨⟨y, y1, y2, y3, _⟩, t2, t3, t4⟩, h6⟩ := E
  refine ⟨b, ⟨trivial, fun z z1 z2 _ => t2 z (by omega) z2 (fun s hs => ?_), fun _ _ => ⟨rfl, rfl⟩, ?_⟩, h6⟩
  · rw [List.mem_singleton.mp hs, y1]
    exact fun q => absurd ((n_eq (by omega) (by omega)).mp q) (by omega)
  · rw [t4]; rfl
theorem r_store {m m2 j kk C1 : Nat} {v v2 : Int32} {hc1 hm1 : qh} (B : RB c p e hc0 hm0 P jn na lim) (E1 : ES hc0 hm0 hcA V st w C1 a 0 [v] (a + m) hc1 hm1) (E2 : ES hc0 hm0 hc1 V st w C (a + m) 1 [v2] (a + m + m2) hc hm) (h0 : ∀ y, y < 1400 → hcA.I 40 y = 0) (hp : pAt hc0 c (a + m + m2) = (5, v, v2, Int32.ofNat j)) (hj : j < na) (k1 : 1 ≤ kk) (k2 : kk ≤ 256) (k3 : hc0.I (c + 6) j = Int32.ofNat kk) (hx : a + m + m2 < P) (hC : C < 268800000) (h1 : 1 ≤ st) (h2 : st ≤ lim) :
    ∃ sp hc', 1 ≤ sp ∧ sp ≤ 64 ∧ cS G (D + 4) c lm hc C hc' (C + sp) ∧ RR hc0 hm0 lim V st (w + 1) (C + sp) (Int32.ofNat (a + m + m2 + 1)) hc' (msH hm w j (fm (hm1.I 80 0) kk) (hm.I 80 0)) := by
  have hP := B.2.2.1.2
  have hna := B.2.2.2.2.1.2
  have hq := B.1.1
  have hcl := cir_lt hq
  have hl := fm_lt (hm1.I 80 0) k1
  obtain ⟨b1, ⟨⟨y, y1, y2, y3, y4, y5, _⟩, t2, t3, t4⟩, _⟩ := E1
  obtain ⟨p1, p2, p3⟩ := E2.2.1.pop (by omega)
  have em := E2.2.1.emp (by omega) (by omega)
  obtain ⟨b2, ⟨⟨z, z1, z2, z3, z4, z5, _⟩, u2, u3, u4⟩, h6⟩ := E2
  have hn : ¬ v = -1 := by rw [y1]; exact n_ne1 (by omega)
  have hn2 : ¬ v2 = -1 := by rw [z1]; exact n_ne1 (by omega)
  have eN : v.toNatClampNeg = y := by rw [y1]; exact n_N (by omega)
  have eN2 : v2.toNatClampNeg = z := by rw [z1]; exact n_N (by omega)
  have f1 : fll hc v := Or.inr ⟨y, y1, by omega, by rw [(u3 y y3).1]; exact y4⟩
  have f2 : fll (tkn hc v) v2 := Or.inr ⟨z, z1, by omega, by rw [tkn_at hn, if_neg (by omega), if_neg (by rw [eN]; omega)]; exact z4⟩
  have g1 : tkv hc v = hm1.I 80 0 := by unfold tkv; rw [if_neg hn, eN, (u3 y y3).2]; exact y5
  have g2 : tkv (tkn hc v) v2 = hm.I 80 0 := by unfold tkv; rw [if_neg hn2, eN2, tkn_row _ _ (by decide) (by decide)]; exact z5
  obtain ⟨hT, eT⟩ : ∃ hT : qh, hT = wkh hc v v2 (a + m + m2) := ⟨_, rfl⟩
  have bT : BR hc0 hm0 V st w C hT hm := by rw [eT]; exact b2.tok (tA.wk1 _ _ _ _) (mA.rf _)
  have T40 : ∀ q, q < 1400 → hT.I 40 q = 0 := fun q hq' => by
    rw [eT]; unfold wkh
    rw [sI_row _ (by decide), tkn_at hn2, if_neg (by omega), eN2]
    split
    · rfl
    · rename_i n1
      rw [tkn_at hn, if_neg (by omega), eN]
      split
      · rfl
      · rename_i n3
        rcases Nat.lt_or_ge q (a + m) with w1 | w1
        · rw [(u3 q w1).1]
          rcases Nat.lt_or_ge q a with w2 | w2
          · rw [(t3 q w2).1]; exact h0 q hq'
          · exact t2 q w2 hq' (fun s hs => by rw [List.mem_singleton.mp hs, y1]; exact fun z9 => n3 ⟨rfl, ((n_eq (by omega) (by omega)).mp z9).symm⟩)
        · exact u2 q w1 hq' (fun s hs => by rw [List.mem_singleton.mp hs, z1]; exact fun z9 => n1 ⟨rfl, ((n_eq (by omega) (by omega)).mp z9).symm⟩)
  have T8 : hT.I 38 8 = 0 := by
    rw [eT]; unfold wkh
    rw [sI_I, if_neg (by decide), tkn_at hn2, if_pos ⟨rfl, rfl⟩, tkn_at hn, if_pos ⟨rfl, rfl⟩, u4]
    show (1 : Int32) + Int32.ofNat 1 - 1 - 1 = 0
    decide
  have T6 : hT.I 38 6 = Int32.ofNat (a + m + m2 + 1) := by rw [eT]; unfold wkh; rw [sI_I, if_pos ⟨rfl, rfl⟩]
  obtain ⟨A, A1, A2⟩ := bT.2.2.2.1
  obtain ⟨s1, s2, s3, s4, s5, s6, s7, s8, s9⟩ := B.cR5 bT
  obtain ⟨sp, q1, q2, q3⟩ := c_ask (G := G) (d := D + 3) (by omega) A1 A2 (by omega) s8
  have w7 := bT.2.2.2.2.1
  refine ⟨sp, stH (hT.sI 31 8 (Int32.ofNat (C + sp))) w j (fm (hm1.I 80 0) kk) (hm.I 80 0), q1, q2, c_any B b2 h6 hx hC hp f1 p1 f2 em q1 (by omega) (fun hy Q H => ?_), bT.store q1 _ _ _, fun q hq' => ?_, ?_, ?_, h1, h2⟩
  · rw [g1, g2, ← eT]
    refine ⟨fun q => absurd q (by decide), fun q => absurd q (by decide), fun q => absurd q (by decide), fun q => absurd q (by decide), fun _ => ?_, fun q => absurd q (by decide), fun q => absurd q (by decide), fun q => absurd q (by decide), fun q => absurd q (by decide), fun q => absurd rfl q.2.2.2.2.1⟩
    refine q3 hy _ (c_cellOf (d := D + 3) (hc := hT.sI 31 8 (Int32.ofNat (C + sp))) hq (by omega) (k := kk) s1 ?_ hna hj ?_ k1 k2 _ hy _ (c_store (d := D + 3) (by omega) (by omega) (by omega) ?_ (by omega) _ hy _ H))
    · rw [sI_row _ (by omega)]; exact s4
    · rw [sI_row _ (by omega), s7]; exact k3
    · rw [sI_I, if_neg (by decide)]; exact w7.1
  · rw [stH_I _ _ _ _ _ _ _ (by decide) (by decide) (by decide) (by omega) (by decide), sI_row _ (by decide)]; exact T40 q hq'
  · rw [stH_I _ _ _ _ _ _ _ (by decide) (by decide) (by decide) (by decide) (by decide), sI_row _ (by decide)]; exact T8
  · rw [stH_I _ _ _ _ _ _ _ (by decide) (by decide) (by decide) (by decide) (by decide), sI_row _ (by decide)]; exact T6
end STORE
