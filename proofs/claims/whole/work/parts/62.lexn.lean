/-! ===== a NAME: its bytes packed, and the words ===== -/
def pk (B : Nat → Nat) (s : Nat) : Nat → Int64
  | 0 => 0
  | l + 1 => (pk B s l <<< (Int32.toInt64 8 &&& 63)) ||| (Int32.ofNat (B (s + l))).toInt64
def pkN (B : Nat → Nat) (s : Nat) : Nat → Nat
  | 0 => 0
  | l + 1 => pkN B s l * 256 + B (s + l)
theorem pkN_lt (B : Nat → Nat) (s : Nat) : ∀ l, (∀ x, x < l → B (s + x) < 256) → pkN B s l < 256 ^ l := by
  intro l
  induction l with
  | zero => intro _; exact Nat.lt_of_lt_of_le Nat.zero_lt_one (Nat.le_refl _)
  | succ l ih =>
    intro h
    have a := ih (fun x q => h x (by omega))
    have b := h l (by omega)
    simp only [pkN, Nat.pow_succ]
    omega
set_option maxRecDepth 100000 in
theorem b64 : ∀ c, c < 256 → (Int32.ofNat c).toInt64.toBitVec.toNat = c := by decide +kernel
theorem sh8 (p : Int64) : (p <<< (Int32.toInt64 8 &&& 63)).toBitVec = p.toBitVec <<< 8 := by
  rw [show (Int32.toInt64 8 &&& 63) = (8 : Int64) by decide]
  rfl
theorem pk_toNat (B : Nat → Nat) (s : Nat) : ∀ l, l ≤ 8 → (∀ x, x < l → B (s + x) < 256) → (pk B s l).toBitVec.toNat = pkN B s l := by
  intro l
  induction l with
  | zero => intro _ _; rfl
  | succ l ih =>
    intro h1 h
    have a := ih (by omega) (fun x q => h x (by omega))
    have b := h l (by omega)
    have c := pkN_lt B s l (fun x q => h x (by omega))
    have c2 : 256 ^ l ≤ 256 ^ 7 := Nat.pow_le_pow_right (by omega) (by omega)
    simp only [pk, pkN, Int64.toBitVec_or, BitVec.toNat_or, sh8, BitVec.toNat_shiftLeft, a, b64 _ b]
    have e : pkN B s l <<< 8 = pkN B s l * 256 := by rw [Nat.shiftLeft_eq]
    have e7 : (256 : Nat) ^ 7 = 72057594037927936 := by decide
    have e2 : pkN B s l <<< 8 % 2 ^ 64 = pkN B s l <<< 8 := Nat.mod_eq_of_lt (by rw [e]; omega)
    rw [e2, ← Nat.shiftLeft_add_eq_or_of_lt (by simpa using b), e]
theorem pkN_inj (B : Nat → Nat) : ∀ l l' s s', (∀ x, x < l → B (s + x) < 256 ∧ 0 < B (s + x)) → (∀ x, x < l' → B (s' + x) < 256 ∧ 0 < B (s' + x)) → (pkN B s l = pkN B s' l' ↔ (l = l' ∧ ∀ x, x < l → B (s + x) = B (s' + x))) := by
  intro l
  induction l with
  | zero =>
    intro l' s s' h h'
    cases l' with
    | zero => exact ⟨fun _ => ⟨rfl, fun x q => absurd q (by omega)⟩, fun _ => rfl⟩
    | succ l' =>
      have := h' l' (by omega)
      simp only [pkN]
      exact ⟨fun q => absurd q (by omega), fun q => absurd q.1 (by omega)⟩
  | succ l ih =>
    intro l' s s' h h'
    have b := h l (by omega)
    cases l' with
    | zero =>
      simp only [pkN]
      exact ⟨fun q => absurd q (by omega), fun q => absurd q.1 (by omega)⟩
    | succ l' =>
      have b' := h' l' (by omega)
      have IH := ih l' s s' (fun x q => h x (by omega)) (fun x q => h' x (by omega))
      simp only [pkN]
      constructor
      · intro q
        obtain ⟨u, v⟩ := IH.mp (by omega)
        subst u
        refine ⟨rfl, fun x hx => ?_⟩
        rcases Nat.lt_or_ge x l with z | z
        · exact v x z
        · obtain rfl : x = l := by omega
          omega
      · rintro ⟨u, v⟩
        obtain rfl : l = l' := by omega
        have := IH.mpr ⟨rfl, fun x q => v x (by omega)⟩
        have := v l (by omega)
        omega
theorem pk_inj (B : Nat → Nat) {l l' s s' : Nat} (hl : l ≤ 8) (hl' : l' ≤ 8) (h : ∀ x, x < l → B (s + x) < 256 ∧ 0 < B (s + x)) (h' : ∀ x, x < l' → B (s' + x) < 256 ∧ 0 < B (s' + x)) : (pk B s l = pk B s' l' ↔ (l = l' ∧ ∀ x, x < l → B (s + x) = B (s' + x))) := by
  rw [← pkN_inj B l l' s s' h h', ← pk_toNat B s l hl (fun x q => (h x q).1), ← pk_toNat B s' l' hl' (fun x q => (h' x q).1)]
  constructor
  · intro q; rw [q]
  · intro q; exact Int64.toBitVec_inj.mp (BitVec.eq_of_toNat_eq q)
/-- the kind of a NAME by its packed bytes: the class's and the reference's -/
def wki (w : Int64) : Nat → Nat → Int32
  | 0, _ => 2
  | k + 1, i => if q_wd i = w then Int32.ofNat (4 + i) else wki w k (i + 1)
def wr (w : Int64) : Int32 := if w = 6909556 then 5 else if w = 26982 then 6 else if w = 1701606245 then 7 else if w = 512852847717 then 8 else if w = 422826041707 then 9 else if w = 7165066978433856869 then 10 else if w = 125780071117422 then 11 else 2
theorem wk_rel (w : Int64) : (wki w 7 0 = 2 ∧ wr w = 2) ∨ (4 ≤ wki w 7 0 ∧ wki w 7 0 ≤ 10 ∧ wr w = wki w 7 0 + 1) := by
  unfold wr
  simp only [wki]
  have e0 : q_wd 0 = 6909556 := rfl
  have e1 : q_wd (0 + 1) = 26982 := rfl
  have e2 : q_wd (0 + 1 + 1) = 1701606245 := rfl
  have e3 : q_wd (0 + 1 + 1 + 1) = 512852847717 := rfl
  have e4 : q_wd (0 + 1 + 1 + 1 + 1) = 422826041707 := rfl
  have e5 : q_wd (0 + 1 + 1 + 1 + 1 + 1) = 7165066978433856869 := rfl
  have e6 : q_wd (0 + 1 + 1 + 1 + 1 + 1 + 1) = 125780071117422 := rfl
  rw [e0, e1, e2, e3, e4, e5, e6]
  by_cases h0 : w = 6909556
  · subst h0; right; decide
  rw [if_neg h0, if_neg (Ne.symm h0)]
  by_cases h1 : w = 26982
  · subst h1; right; decide
  rw [if_neg h1, if_neg (Ne.symm h1)]
  by_cases h2 : w = 1701606245
  · subst h2; right; decide
  rw [if_neg h2, if_neg (Ne.symm h2)]
  by_cases h3 : w = 512852847717
  · subst h3; right; decide
  rw [if_neg h3, if_neg (Ne.symm h3)]
  by_cases h4 : w = 422826041707
  · subst h4; right; decide
  rw [if_neg h4, if_neg (Ne.symm h4)]
  by_cases h5 : w = 7165066978433856869
  · subst h5; right; decide
  rw [if_neg h5, if_neg (Ne.symm h5)]
  by_cases h6 : w = 125780071117422
  · subst h6; right; decide
  rw [if_neg h6, if_neg (Ne.symm h6)]
  exact Or.inl ⟨rfl, rfl⟩
theorem wk_long (w : Int64) (h : wki w 7 0 = 8 ∨ wki w 7 0 = 9) : 422826041707 ≤ w.toBitVec.toNat := by
  have e := wk_rel w
  have e2 : wr w = 9 ∨ wr w = 10 := by
    rcases h with h | h <;> rw [h] at e
    · left; rcases e with e | e
      · exact absurd e.1 (by decide)
      · exact e.2.2
    · right; rcases e with e | e
      · exact absurd e.1 (by decide)
      · exact e.2.2
  unfold wr at e2
  by_cases h4 : w = 422826041707
  · subst h4; decide
  by_cases h5 : w = 7165066978433856869
  · subst h5; decide
  exfalso
  rw [if_neg h4, if_neg h5] at e2
  revert e2
  repeat' split
  all_goals decide
theorem pk_long {B : Nat → Nat} {s l : Nat} (hl : l ≤ 8) (hB : ∀ x, x < l → B (s + x) < 256) (h : wki (pk B s l) 7 0 = 8 ∨ wki (pk B s l) 7 0 = 9) : 5 ≤ l := by
  have a := wk_long _ h
  rw [pk_toNat B s l hl hB] at a
  have b := pkN_lt B s l hB
  rcases Nat.lt_or_ge l 5 with z | z
  · have : 256 ^ l ≤ 256 ^ 4 := Nat.pow_le_pow_right (by omega) (by omega)
    have e : (256 : Nat) ^ 4 = 4294967296 := by decide
    omega
  · exact z
section LEXN
variable {G : qG} {d n : Nat} {B : Nat → Nat} {hc hm : qh}
theorem c_words (l1 : Int32) (w : Int64) : ∀ k i, i + k = 7 → ∀ (h : qh) Q, Q (riv (wki w k i)) h → q_N0 G m_X8_cutName (d + 1) Q 100 [.ref 17, .int l1, .long w, .null, .int (Int32.ofNat i)] [] h := by
  intro k
  induction k with
  | zero =>
    intro i hi h Q hQ
    refine x_X8_cutName_100 G d _ _ _ _ Q ⟨fun _ => hQ, fun q => absurd ((n_le (a := 7) (by omega) (by omega)).mpr (by omega)) q⟩
  | succ k ih =>
    intro i hi h Q hQ
    refine x_X8_cutName_100 G d _ _ _ _ Q ⟨fun q => absurd ((n_le (a := 7) (by omega) (by omega)).mp q) (by omega), fun _ => ⟨n_in (by omega) (by omega), fun q => ?_, fun q => ?_⟩⟩
    · rw [n_N (by omega)] at q
      rw [n_add1]
      refine ih (i + 1) (by omega) h Q ?_
      have : ¬ q_wd i = w := fun z => q ((lg_cmp_eq _ _).mpr z)
      simp only [wki, if_neg this] at hQ
      exact hQ
    · rw [n_N (by omega)] at q
      have : q_wd i = w := (lg_cmp_eq _ _).mp q
      simp only [wki, if_pos this] at hQ
      rw [show (4 : Int32) = Int32.ofNat 4 from rfl, n_add]
      exact hQ
/-- a NAME on the class's side: from s, m bytes -/
theorem c_name7 {s m cnt : Nat} (hjn : s + m ≤ n) (hcn : cnt < 2001) (hj : ¬ (s + m < n ∧ (smN (B (s + m)) ∨ dgN (B (s + m))))) : ∀ k l hc, LB n B hc → hc.I 17 6 = Int32.ofNat cnt → l + k = m → (∀ x, l ≤ x → x < m → smN (B (s + x)) ∨ dgN (B (s + x))) → ∀ hx Q, (m ≤ 8 → Q (riv (wki (pk B s m) 7 0)) (mg ((hc.sI 17 5 (Int32.ofNat (s + m))).sL 20 cnt (pk B s m)) hx)) → (¬ m ≤ 8 → Q (riv 1) (mg (hc.sI 17 5 (Int32.ofNat (s + m))) hx)) → q_N0 G m_X8_cutName (d + 2) Q 7 [.ref 17, .int (Int32.ofNat s), .long (pk B s l), .null, .null] [] (mg (hc.sI 17 5 (Int32.ofNat (s + l))) hx) := by
  intro k
  induction k with
  | zero =>
    intro l hc L hk h1 hb hx Q hQ hQ'
    obtain rfl : l = m := by omega
    have hn := L.2.2.2
    -- what comes behind the loop
    have A : (Int32.ofNat (s + l) - Int32.ofNat s ≤ 8 → (vp_in (Int32.ofNat cnt) 2001 ∧ (q_N0 G m_X8_cutName (d + 2) Q 100 [.ref 17, .int (Int32.ofNat s), .long (pk B s l), .null, .int 0] [] ((mg (hc.sI 17 5 (Int32.ofNat (s + l))) hx).sL 20 ((Int32.ofNat cnt).toNatClampNeg) (pk B s l))))) ∧ (¬ Int32.ofNat (s + l) - Int32.ofNat s ≤ 8 → (Q (.inl (some (.int 1))) (mg (hc.sI 17 5 (Int32.ofNat (s + l))) hx))) := by
      rw [n_sub (by omega), Nat.add_sub_cancel_left, n_N (by omega)]
      refine ⟨fun q => ⟨n_in (by omega) hcn, ?_⟩, fun q => hQ' (fun z => q ((n_le (b := 8) (by omega) (by omega)).mpr z))⟩
      rw [mg_sL_c (by decide)]
      exact c_words (d := d + 1) _ _ 7 0 rfl _ Q (hQ ((n_le (b := 8) (by omega) (by omega)).mp q))
    refine x_X8_cutName_7 G (d + 1) _ _ _ Q ?_
    simp only [mg_I, Nat.reduceLT, if_true, sI_I, Nat.reduceEqDiff, and_true, and_false, and_self, if_false, L.1, hk]
    refine ⟨fun _ => A, fun q => ?_⟩
    rw [n_le (by omega) (by omega)] at q
    refine c_byte (G := G) (d := d + 1) (by omega) (L.s5 (Int32.ofNat (s + l))) (x := s + l) (by omega) hx _ ?_
    refine c_let (G := G) (d := d + 1) (by omega) (bc_sm L.2.2.1 (s + l)) hx _ ?_
    rw [if_neg (fun z => hj ⟨z.1, Or.inl z.2⟩)]
    refine ⟨fun z => absurd rfl z, fun _ => ?_⟩
    simp only [mg_I, Nat.reduceLT, if_true, sI_I, Nat.reduceEqDiff, and_true, and_false, and_self, if_false, L.1, hk]
    refine c_byte (G := G) (d := d + 1) (by omega) (L.s5 (Int32.ofNat (s + l))) (x := s + l) (by omega) hx _ ?_
    refine c_dig (G := G) (d := d + 1) (by omega) (bc_dg L.2.2.1 (s + l)) hx _ ?_
    rw [if_neg (fun z => hj ⟨z.1, Or.inr z.2⟩)]
    refine ⟨fun _ => ?_, fun z => absurd rfl z⟩
    simp only [mg_I, Nat.reduceLT, if_true, sI_I, Nat.reduceEqDiff, and_true, and_false, and_self, if_false, L.1, hk]
    exact A
  | succ k ih =>
    intro l hc L hk h1 hb hx Q hQ hQ'
    have hn := L.2.2.2
    have hl : s + l < n := by omega
    have IH := ih (l + 1) hc L hk (by omega) (fun x a b => hb x (by omega) b) hx Q hQ hQ'
    have e : bc n B (s + l) = Int32.ofNat (B (s + l)) := if_pos hl
    refine x_X8_cutName_7 G (d + 1) _ _ _ Q ?_
    simp only [mg_I, Nat.reduceLT, if_true, sI_I, Nat.reduceEqDiff, and_true, and_false, and_self, if_false, L.1, hk]
    refine ⟨fun q => absurd ((n_le (by omega) (by omega)).mp q) (by omega), fun q => ?_⟩
    refine c_byte (G := G) (d := d + 1) (by omega) (L.s5 (Int32.ofNat (s + l))) (x := s + l) (by omega) hx _ ?_
    refine c_let (G := G) (d := d + 1) (by omega) (bc_sm L.2.2.1 (s + l)) hx _ ?_
    by_cases z : smN (B (s + l))
    · rw [if_pos ⟨hl, z⟩]
      refine ⟨fun _ => ?_, fun z => absurd z (by decide)⟩
      simp only [mg_I, Nat.reduceLT, if_true, sI_I, Nat.reduceEqDiff, and_true, and_false, and_self, if_false, L.1, hk]
      refine c_byte (G := G) (d := d + 1) (by omega) (L.s5 (Int32.ofNat (s + l))) (x := s + l) (by omega) hx _ ?_
      rw [e]
      simp only [q_ri, mg_I, Nat.reduceLT, if_true, sI_I, Nat.reduceEqDiff, and_true, and_false, and_self, if_false, mg_sI_c (show 17 < 43 by decide), sI_ss, n_add1]
      exact IH
    · rw [if_neg (fun y => z y.2)]
      refine ⟨fun z => absurd rfl z, fun _ => ?_⟩
      simp only [mg_I, Nat.reduceLT, if_true, sI_I, Nat.reduceEqDiff, and_true, and_false, and_self, if_false, L.1, hk]
      refine c_byte (G := G) (d := d + 1) (by omega) (L.s5 (Int32.ofNat (s + l))) (x := s + l) (by omega) hx _ ?_
      refine c_dig (G := G) (d := d + 1) (by omega) (bc_dg L.2.2.1 (s + l)) hx _ ?_
      rw [if_pos ⟨hl, (hb l (Nat.le_refl _) (by omega)).resolve_left z⟩]
      refine ⟨fun z => absurd z (by decide), fun _ => ?_⟩
      simp only [mg_I, Nat.reduceLT, if_true, sI_I, Nat.reduceEqDiff, and_true, and_false, and_self, if_false, L.1, hk]
      refine c_byte (G := G) (d := d + 1) (by omega) (L.s5 (Int32.ofNat (s + l))) (x := s + l) (by omega) hx _ ?_
      rw [e]
      simp only [q_ri, mg_I, Nat.reduceLT, if_true, sI_I, Nat.reduceEqDiff, and_true, and_false, and_self, if_false, mg_sI_c (show 17 < 43 by decide), sI_ss, n_add1]
      exact IH
end LEXN
