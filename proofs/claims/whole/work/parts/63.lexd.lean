/-! ===== a NUMBER and a sign: the class's side ===== -/
def nv (B : Nat → Nat) (s : Nat) : Nat → Nat
  | 0 => 0
  | l + 1 => 10 * nv B s l + (B (s + l) - 48)
def vC (B : Nat → Nat) (s : Nat) : Nat → Int64
  | 0 => 0
  | l + 1 => if 0 < lg_cmp (10 * vC B s l + (Int32.ofNat (B (s + l))).toInt64 - 48) 2147483648 then 2147483648 else 10 * vC B s l + (Int32.ofNat (B (s + l))).toInt64 - 48
def vM (B : Nat → Nat) (s : Nat) : Nat → Int64
  | 0 => 0
  | l + 1 => if 0 < lg_cmp (vM B s l * 10 + (Int32.ofNat (B (s + l))).toInt64 - 48) 4000000000 then 4000000000 else vM B s l * 10 + (Int32.ofNat (B (s + l))).toInt64 - 48
theorem bm64 {z : Int} (h1 : -9000000000000000000 ≤ z) (h2 : z ≤ 9000000000000000000) : z.bmod (2 ^ 64) = z := by
  unfold Int.bmod
  have : ((2 ^ 64 : Nat) : Int) = 18446744073709551616 := by decide
  rw [this]
  show (if z % 18446744073709551616 < (18446744073709551616 + 1) / 2 then z % 18446744073709551616 else z % 18446744073709551616 - 18446744073709551616) = z
  split <;> omega
theorem l_step {v : Int64} {a c : Nat} (hv : v.toInt = a) (ha : a ≤ 4000000000) (h1 : 48 ≤ c) (h2 : c < 256) : (10 * v + (Int32.ofNat c).toInt64 - 48).toInt = (10 * a + (c - 48) : Nat) := by
  have e48 : (48 : Int64).toInt = 48 := by decide
  have e10 : (10 : Int64).toInt = 10 := by decide
  rw [Int64.toInt_sub, Int64.toInt_add, Int64.toInt_mul, hv, Int32.toInt_toInt64, n_toInt (by omega), e48, e10]
  rw [bm64 (z := 10 * (a : Int)) (by omega) (by omega), bm64 (z := 10 * (a : Int) + c) (by omega) (by omega), bm64 (by omega) (by omega)]
  omega
theorem l_step' {v : Int64} {a c : Nat} (hv : v.toInt = a) (ha : a ≤ 4000000000) (h1 : 48 ≤ c) (h2 : c < 256) : (v * 10 + (Int32.ofNat c).toInt64 - 48).toInt = (10 * a + (c - 48) : Nat) := by
  rw [Int64.mul_comm]
  exact l_step hv ha h1 h2
theorem vC_toInt (B : Nat → Nat) (s : Nat) : ∀ l, (∀ x, x < l → dgN (B (s + x))) → (vC B s l).toInt = (min (nv B s l) 2147483648 : Nat) := by
  intro l
  induction l with
  | zero => intro _; rfl
  | succ l ih =>
    intro h
    have a := ih (fun x q => h x (by omega))
    have b := h l (by omega)
    have st := l_step (c := B (s + l)) a (by omega) b.1 (by have := b.2; omega)
    have e : (2147483648 : Int64).toInt = 2147483648 := by decide
    simp only [vC, nv]
    by_cases z : 0 < lg_cmp (10 * vC B s l + (Int32.ofNat (B (s + l))).toInt64 - 48) 2147483648
    · rw [if_pos z, e]
      rw [lg_cmp_gt, Int64.lt_iff_toInt_lt, st, e] at z
      omega
    · rw [if_neg z, st]
      rw [lg_cmp_gt, Int64.lt_iff_toInt_lt, st, e] at z
      omega
theorem vM_toInt (B : Nat → Nat) (s : Nat) : ∀ l, (∀ x, x < l → dgN (B (s + x))) → (vM B s l).toInt = (min (nv B s l) 4000000000 : Nat) := by
  intro l
  induction l with
  | zero => intro _; rfl
  | succ l ih =>
    intro h
    have a := ih (fun x q => h x (by omega))
    have b := h l (by omega)
    have st := l_step' (c := B (s + l)) a (by omega) b.1 (by have := b.2; omega)
    have e : (4000000000 : Int64).toInt = 4000000000 := by decide
    simp only [vM, nv]
    by_cases z : 0 < lg_cmp (vM B s l * 10 + (Int32.ofNat (B (s + l))).toInt64 - 48) 4000000000
    · rw [if_pos z, e]
      rw [lg_cmp_gt, Int64.lt_iff_toInt_lt, st, e] at z
      omega
    · rw [if_neg z, st]
      rw [lg_cmp_gt, Int64.lt_iff_toInt_lt, st, e] at z
      omega
theorem vC_gt {B : Nat → Nat} {s l : Nat} (h : ∀ x, x < l → dgN (B (s + x))) : 0 < lg_cmp (vC B s l) 2147483647 ↔ 2147483647 < nv B s l := by
  have e : (2147483647 : Int64).toInt = 2147483647 := by decide
  rw [lg_cmp_gt, Int64.lt_iff_toInt_lt, vC_toInt B s l h, e]; omega
theorem vM_gt {B : Nat → Nat} {s l : Nat} (h : ∀ x, x < l → dgN (B (s + x))) : 0 < lg_cmp (vM B s l) 2147483647 ↔ 2147483647 < nv B s l := by
  have e : (2147483647 : Int64).toInt = 2147483647 := by decide
  rw [lg_cmp_gt, Int64.lt_iff_toInt_lt, vM_toInt B s l h, e]; omega
theorem vC_eq {B : Nat → Nat} {s l : Nat} (h : ∀ x, x < l → dgN (B (s + x))) (hl : nv B s l ≤ 2147483647) : vC B s l = (Int32.ofNat (nv B s l)).toInt64 := by
  apply Int64.toInt.inj
  rw [vC_toInt B s l h, Int32.toInt_toInt64, n_toInt (by omega)]; omega
theorem vM_eq {B : Nat → Nat} {s l : Nat} (h : ∀ x, x < l → dgN (B (s + x))) (hl : nv B s l ≤ 2147483647) : (vM B s l).toInt32 = Int32.ofNat (nv B s l) := by
  have : vM B s l = (Int32.ofNat (nv B s l)).toInt64 := by
    apply Int64.toInt.inj
    rw [vM_toInt B s l h, Int32.toInt_toInt64, n_toInt (by omega)]; omega
  rw [this, Int32.toInt32_toInt64]
/-- the signs -/
abbrev sgS (c : Nat) : Prop := c ∈ [33, 37, 38, 40, 41, 42, 43, 44, 45, 47, 59, 60, 61, 62, 91, 93, 94, 123, 124, 125, 126]
abbrev sgE (c : Nat) : Prop := c ∈ [61, 33, 60, 62]
abbrev sgD (c : Nat) : Prop := c ∈ [60, 62, 38, 124]
set_option maxRecDepth 100000 in
theorem sg_all : ∀ c, c < 256 → ¬ ((Int32.ofNat c).toUInt32 % 65536).toInt32 < 0 ∧ ¬ 255 < ((Int32.ofNat c).toUInt32 % 65536).toInt32 ∧ (0 ≤ (p_ix q_sg80 ((Int32.ofNat c).toUInt32 % 65536).toInt32.toInt8.toInt32 21 0) ↔ sgS c) ∧ ((p_ix q_sg87 ((Int32.ofNat c).toUInt32 % 65536).toInt32.toInt8.toInt32 4 0) < 0 ↔ ¬ sgE c) ∧ ((p_ix q_sg89 ((Int32.ofNat c).toUInt32 % 65536).toInt32.toInt8.toInt32 4 0) < 0 ↔ ¬ sgD c) := by decide +kernel
theorem if01 {P : Prop} [Decidable P] : (if P then (0 : Int32) else 1) = 0 ↔ P := by
  by_cases h : P
  · rw [if_pos h]; exact ⟨fun _ => h, fun _ => rfl⟩
  · rw [if_neg h]; exact ⟨fun q => absurd q (by decide), fun q => absurd q h⟩
section LEXD
variable {G : qG} {d n : Nat} {B : Nat → Nat} {hc hm : qh}
/-- two signs in one: by the first byte and the one behind it -/
def sg2 (c : Nat) (r : Int32) : Prop := (r = 61 ∧ sgE c) ∨ (r = Int32.ofNat c ∧ sgD c)
theorem c_sign (L : LB n B hc) {i c : Nat} (hi : i < 2500) (h2 : c < 256) : ∀ hx Q, (¬ sgS c → Q (riv 1) (mg (hc.sI 17 5 (Int32.ofNat i)) hx)) → (sgS c → ¬ sg2 c (bc n B (i + 1)) → Q (riv (Int32.ofNat c)) (mg (hc.sI 17 5 (Int32.ofNat (i + 1))) hx)) → (sgS c → sg2 c (bc n B (i + 1)) → Q (riv ((Int32.ofNat c <<< (8 &&& 31)) ||| bc n B (i + 1))) (mg (hc.sI 17 5 (Int32.ofNat (i + 2))) hx)) →
    q_M0 G (d + 5) yX8_cutSign [.ref 17, .int (Int32.ofNat c)] (mg (hc.sI 17 5 (Int32.ofNat i)) hx) Q := by
  intro hx Q q0 q1 q2
  obtain ⟨s1, s2, s3, s4, s5⟩ := sg_all c h2
  have e5 : (mg (hc.sI 17 5 (Int32.ofNat i)) hx).I 17 5 = Int32.ofNat i := by
    simp only [mg_I, Nat.reduceLT, if_true, sI_I, and_self]
  have E1 : (mg (hc.sI 17 5 (Int32.ofNat i)) hx).sI 17 5 (Int32.ofNat i + 1) = mg (hc.sI 17 5 (Int32.ofNat (i + 1))) hx := by
    rw [mg_sI_c (by decide), sI_ss, n_add1]
  have E2 : ((mg (hc.sI 17 5 (Int32.ofNat i)) hx).sI 17 5 (Int32.ofNat i + 1)).sI 17 5 (Int32.ofNat i + 1 + 1) = mg (hc.sI 17 5 (Int32.ofNat (i + 2))) hx := by
    rw [E1, mg_sI_c (by decide), sI_ss, n_add1, n_add1]
  refine x_X8_cutSign G (d + 4) _ _ Q (by omega) ⟨s1, s2, fun hs => ?_, fun hs => q0 (fun z => hs (s3.mpr z))⟩
  have hS := s3.mp hs
  rw [e5, n_add1]
  refine c_byte (G := G) (d := d + 4) (by omega) (L.s5 (Int32.ofNat i)) (x := i + 1) (by omega) hx _ ?_
  generalize bc n B (i + 1) = r at q1 q2
  have q1 := q1 hS
  have q2 := q2 hS
  show _ ∧ _
  rw [← n_add1] at *
  rw [e5]
  rw [E2, E1]
  refine ⟨fun n61 => ⟨fun nx => ⟨fun z => absurd rfl z, fun _ => ⟨fun z => absurd rfl z, fun _ => q1 ?_⟩⟩, fun ex => ⟨s1, s2, ⟨fun z => absurd rfl z, fun _ => ⟨fun z => q2 ?_, fun z => q1 ?_⟩⟩⟩⟩, fun e61 => ⟨s1, s2, ⟨fun nx => ⟨fun z => q2 ?_, fun z => ⟨fun z => absurd rfl z, fun _ => q1 ?_⟩⟩, fun ex => ⟨s1, s2, ⟨fun z => q2 ?_, fun z => ⟨fun z' => q2 ?_, fun z' => q1 ?_⟩⟩⟩⟩⟩⟩
  · rintro (⟨a, -⟩ | ⟨a, -⟩)
    · exact n61 a
    · exact nx a
  · rw [if01, s5] at z; exact Or.inr ⟨ex, Classical.not_not.mp z⟩
  · rw [if01, s5] at z; rintro (⟨a, -⟩ | ⟨-, a⟩)
    · exact n61 a
    · exact z a
  · rw [if01, s4] at z; exact Or.inl ⟨e61, Classical.not_not.mp z⟩
  · rw [if01, s4] at z; rintro (⟨-, a⟩ | ⟨a, -⟩)
    · exact z a
    · exact nx a
  · rw [if01, s4] at z; exact Or.inl ⟨e61, Classical.not_not.mp z⟩
  · rw [if01, s5] at z'; exact Or.inr ⟨ex, Classical.not_not.mp z'⟩
  · rw [if01, s4] at z; rw [if01, s5] at z'; rintro (⟨-, a⟩ | ⟨-, a⟩)
    · exact z a
    · exact z' a
theorem c_num2 {s m cnt : Nat} (hjn : s + m ≤ n) (hcn : cnt < 2001) (hj : ¬ (s + m < n ∧ dgN (B (s + m)))) (hall : ∀ x, x < m → dgN (B (s + x))) : ∀ k l hc, LB n B hc → hc.I 17 6 = Int32.ofNat cnt → l + k = m → ∀ hx Q, Q (riv (if 2147483647 < nv B s m ∨ (s + m < n ∧ smN (B (s + m))) then 1 else 3)) (mg ((hc.sI 17 5 (Int32.ofNat (s + m))).sL 20 cnt (vC B s m)) hx) → q_N0 G m_X8_cutNumber (d + 2) Q 2 [.ref 17, .long (vC B s l), .null] [] (mg (hc.sI 17 5 (Int32.ofNat (s + l))) hx) := by
  intro k
  induction k with
  | zero =>
    intro l hc L hk h1 hx Q hQ
    obtain rfl : l = m := by omega
    have hn := L.2.2.2
    have A : vp_in (Int32.ofNat cnt) 2001 ∧ ((0 < (lg_cmp (vC B s l) 2147483647) → (Q (.inl (some (.int 1))) ((mg (hc.sI 17 5 (Int32.ofNat (s + l))) hx).sL 20 ((Int32.ofNat cnt).toNatClampNeg) (vC B s l)))) ∧ (¬ 0 < (lg_cmp (vC B s l) 2147483647) → (q_M0 G (d + 1) yX8_byteAt [.ref 17, .int (Int32.ofNat (s + l))] ((mg (hc.sI 17 5 (Int32.ofNat (s + l))) hx).sL 20 ((Int32.ofNat cnt).toNatClampNeg) (vC B s l)) (q_ri (λ r3 h2 => q_M0 G (d + 1) yX8_isLetter [.int r3] h2 (q_ri (λ r5 h4 => Q (.inl (some (.int (if r5 = 0 then (3 : Int32) else 1)))) h4) (fun E h => Q (.inr E) h))) (fun E h => Q (.inr E) h))))) := by
      rw [n_N (by omega), mg_sL_c (by decide)]
      refine ⟨n_in (by omega) hcn, fun q => ?_, fun q => ?_⟩
      · rw [if_pos (Or.inl ((vC_gt hall).mp q))] at hQ; exact hQ
      · refine c_byte (G := G) (d := d + 1) (by omega) ((L.s5 (Int32.ofNat (s + l))).sL cnt (vC B s l)) (x := s + l) (by omega) hx _ ?_
        refine c_let (G := G) (d := d + 1) (by omega) (bc_sm L.2.2.1 (s + l)) hx _ ?_
        by_cases z : s + l < n ∧ smN (B (s + l))
        · rw [if_pos (Or.inr z)] at hQ; rw [if_pos z]; exact hQ
        · rw [if_neg (fun y => y.elim (fun u => q ((vC_gt hall).mpr u)) z)] at hQ; rw [if_neg z]; exact hQ
    refine x_X8_cutNumber_2 G (d + 1) _ _ Q ?_
    simp only [mg_I, Nat.reduceLT, if_true, sI_I, Nat.reduceEqDiff, and_true, and_false, and_self, if_false, L.1, hk]
    refine ⟨fun _ => A, fun q => ?_⟩
    rw [n_le (by omega) (by omega)] at q
    refine c_byte (G := G) (d := d + 1) (by omega) (L.s5 (Int32.ofNat (s + l))) (x := s + l) (by omega) hx _ ?_
    refine c_dig (G := G) (d := d + 1) (by omega) (bc_dg L.2.2.1 (s + l)) hx _ ?_
    rw [if_neg hj]
    refine ⟨fun _ => ?_, fun z => absurd rfl z⟩
    simp only [mg_I, Nat.reduceLT, if_true, sI_I, Nat.reduceEqDiff, and_true, and_false, and_self, if_false, L.1, hk]
    exact A
  | succ k ih =>
    intro l hc L hk h1 hx Q hQ
    have hn := L.2.2.2
    have hl : s + l < n := by omega
    have IH := ih (l + 1) hc L hk (by omega) hx Q hQ
    have e : bc n B (s + l) = Int32.ofNat (B (s + l)) := if_pos hl
    refine x_X8_cutNumber_2 G (d + 1) _ _ Q ?_
    simp only [mg_I, Nat.reduceLT, if_true, sI_I, Nat.reduceEqDiff, and_true, and_false, and_self, if_false, L.1, hk]
    refine ⟨fun q => absurd ((n_le (by omega) (by omega)).mp q) (by omega), fun q => ?_⟩
    refine c_byte (G := G) (d := d + 1) (by omega) (L.s5 (Int32.ofNat (s + l))) (x := s + l) (by omega) hx _ ?_
    refine c_dig (G := G) (d := d + 1) (by omega) (bc_dg L.2.2.1 (s + l)) hx _ ?_
    rw [if_pos ⟨hl, hall l (by omega)⟩]
    refine ⟨fun z => absurd z (by decide), fun _ => ?_⟩
    simp only [mg_I, Nat.reduceLT, if_true, sI_I, Nat.reduceEqDiff, and_true, and_false, and_self, if_false, L.1, hk]
    refine c_byte (G := G) (d := d + 1) (by omega) (L.s5 (Int32.ofNat (s + l))) (x := s + l) (by omega) hx _ ?_
    rw [e]
    simp only [vC] at IH
    refine x_J9_min_f86c9 G d _ _ _ _ ⟨fun z => ?_, fun z => ?_⟩
    · rw [if_pos z] at IH
      simp only [q_rl, mg_I, Nat.reduceLT, if_true, sI_I, Nat.reduceEqDiff, and_true, and_false, and_self, if_false, mg_sI_c (show 17 < 43 by decide), sI_ss, n_add1]
      exact IH
    · rw [if_neg z] at IH
      simp only [q_rl, mg_I, Nat.reduceLT, if_true, sI_I, Nat.reduceEqDiff, and_true, and_false, and_self, if_false, mg_sI_c (show 17 < 43 by decide), sI_ss, n_add1]
      exact IH
end LEXD
