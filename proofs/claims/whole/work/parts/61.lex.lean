/-! ===== the text cut into tokens: the class's steps ===== -/
abbrev smN (c : Nat) : Prop := 97 ≤ c ∧ c ≤ 122
abbrev dgN (c : Nat) : Prop := 48 ≤ c ∧ c ≤ 57
abbrev blN (c : Nat) : Prop := c = 32 ∨ c = 10
/-- the byte there, as the class and as the reference tell it -/
def bc (n : Nat) (B : Nat → Nat) (x : Nat) : Int32 := if x < n then Int32.ofNat (B x) else -1
def bm (n : Nat) (B : Nat → Nat) (x : Nat) : Int32 := if x < n then Int32.ofNat (B x) else 0
def LB (n : Nat) (B : Nat → Nat) (h : qh) : Prop := h.I 17 4 = Int32.ofNat n ∧ (∀ x, x < n → h.I 16 x &&& 255 = Int32.ofNat (B x)) ∧ (∀ x, x < n → B x < 256) ∧ n ≤ 2000
def LM (n : Nat) (B : Nat → Nat) (h : qh) : Prop := h.I 43 9 = Int32.ofNat n ∧ (∀ x, x < n → h.I 46 x &&& 255 = Int32.ofNat (B x)) ∧ (∀ x, x < n → B x < 256) ∧ n ≤ 2000
theorem sI_ss (h : qh) (o k : Nat) (v w : Int32) : (h.sI o k v).sI o k w = h.sI o k w := by
  refine Prod.ext ?_ rfl
  funext o' k'
  show (if o' = o ∧ k' = k then w else (h.sI o k v).I o' k') = (if o' = o ∧ k' = k then w else h.I o' k')
  rw [sI_I]
  by_cases q : o' = o ∧ k' = k
  · rw [if_pos q, if_pos q]
  · rw [if_neg q, if_neg q, if_neg q]
theorem sI_id (h : qh) (o k : Nat) (v : Int32) (e : h.I o k = v) : h.sI o k v = h := by
  refine Prod.ext ?_ rfl
  funext o' k'
  show (if o' = o ∧ k' = k then v else h.I o' k') = h.I o' k'
  by_cases q : o' = o ∧ k' = k
  · rw [if_pos q, q.1, q.2, e]
  · rw [if_neg q]
section LEXB
variable {G : qG} {d n : Nat} {B : Nat → Nat} {hc hm : qh}
theorem LB.s5 (L : LB n B hc) (v : Int32) : LB n B (hc.sI 17 5 v) := L
theorem LB.sL (L : LB n B hc) (k : Nat) (v : Int64) : LB n B (hc.sL 20 k v) := L
theorem b_lt {c : Nat} (hc : c < 256) (m : Nat) (hm : m < 256) : (Int32.ofNat c < Int32.ofNat m) ↔ c < m := n_lt (by omega) (by omega)
theorem bc_sm (hB : ∀ x, x < n → B x < 256) (x : Nat) : (x < n ∧ smN (B x)) ↔ (¬ bc n B x < 97 ∧ ¬ 122 < bc n B x) := by
  unfold bc
  by_cases h : x < n
  · have := hB x h
    rw [if_pos h, show (97 : Int32) = Int32.ofNat 97 from rfl, show (122 : Int32) = Int32.ofNat 122 from rfl, b_lt this 97 (by omega), n_lt (by omega) (by omega)]
    simp only [smN]; omega
  · rw [if_neg h]; simp [h]
theorem bc_dg (hB : ∀ x, x < n → B x < 256) (x : Nat) : (x < n ∧ dgN (B x)) ↔ (¬ bc n B x < 48 ∧ ¬ 57 < bc n B x) := by
  unfold bc
  by_cases h : x < n
  · have := hB x h
    rw [if_pos h, show (48 : Int32) = Int32.ofNat 48 from rfl, show (57 : Int32) = Int32.ofNat 57 from rfl, b_lt this 48 (by omega), n_lt (by omega) (by omega)]
    simp only [dgN]; omega
  · rw [if_neg h]; simp [h]
theorem bm_sm (hB : ∀ x, x < n → B x < 256) (x : Nat) : (x < n ∧ smN (B x)) ↔ (¬ bm n B x < 97 ∧ ¬ 122 < bm n B x) := by
  unfold bm
  by_cases h : x < n
  · have := hB x h
    rw [if_pos h, show (97 : Int32) = Int32.ofNat 97 from rfl, show (122 : Int32) = Int32.ofNat 122 from rfl, b_lt this 97 (by omega), n_lt (by omega) (by omega)]
    simp only [smN]; omega
  · rw [if_neg h]; simp [h]
theorem bm_dg (hB : ∀ x, x < n → B x < 256) (x : Nat) : (x < n ∧ dgN (B x)) ↔ (¬ bm n B x < 48 ∧ ¬ 57 < bm n B x) := by
  unfold bm
  by_cases h : x < n
  · have := hB x h
    rw [if_pos h, show (48 : Int32) = Int32.ofNat 48 from rfl, show (57 : Int32) = Int32.ofNat 57 from rfl, b_lt this 48 (by omega), n_lt (by omega) (by omega)]
    simp only [dgN]; omega
  · rw [if_neg h]; simp [h]
theorem c_byte (hd : 1 ≤ d) (L : LB n B hc) {x : Nat} (hx : x < 3000) : cR G d yX8_byteAt [.ref 17, .int (Int32.ofNat x)] hc (riv (bc n B x)) hc := by
  obtain ⟨d, rfl⟩ := Nat.exists_eq_add_of_le' hd
  obtain ⟨l1, l2, l3, l4⟩ := L
  intro h' Q hQ
  refine x_X8_byteAt G d _ _ Q ?_
  simp only [mg_I, Nat.reduceLT, if_true, l1, n_N (show x < 2147483648 by omega)]
  unfold bc at hQ
  refine ⟨fun q => absurd q (n_nneg (by omega)), fun _ => ⟨fun q => ?_, fun q => ⟨fun q' => ?_, fun q' => ⟨n_in (by omega) ?_, ?_⟩⟩⟩⟩
  · rw [n_le (by omega) (by omega)] at q
    rw [if_neg (by omega)] at hQ; exact hQ
  · rw [n_le (by omega) (by omega)] at q
    rw [show (2000 : Int32) = Int32.ofNat 2000 from rfl, n_le (by omega) (by omega)] at q'; omega
  · rw [n_le (by omega) (by omega)] at q; omega
  · rw [n_le (by omega) (by omega)] at q
    rw [if_pos (by omega)] at hQ
    rw [l2 x (by omega)]; exact hQ
theorem m_byte (hd : 1 ≤ d) (L : LM n B hm) {x : Nat} (hx : x < 3000) : mR G d yX12_byteAt [.ref 43, .int (Int32.ofNat x)] hm (riv (bm n B x)) hm := by
  obtain ⟨d, rfl⟩ := Nat.exists_eq_add_of_le' hd
  obtain ⟨l1, l2, l3, l4⟩ := L
  intro h' Q hQ
  refine x_X12_byteAt G d _ _ Q ?_
  simp only [mg_I, Nat.reduceLT, if_false, l1, n_N (show x < 2147483648 by omega)]
  unfold bm at hQ
  refine ⟨fun q => ?_, fun q => ⟨n_in (by omega) ?_, ?_⟩⟩
  · rw [n_le (by omega) (by omega)] at q
    rw [if_neg (by omega)] at hQ; exact hQ
  · rw [n_le (by omega) (by omega)] at q; omega
  · rw [n_le (by omega) (by omega)] at q
    rw [if_pos (by omega)] at hQ
    rw [l2 x (by omega)]; exact hQ
theorem c_let (hd : 1 ≤ d) {w : Int32} {p : Prop} [Decidable p] (hp : p ↔ (¬ w < 97 ∧ ¬ 122 < w)) : cR G d yX8_isLetter [.int w] hc (riv (if p then 1 else 0)) hc := by
  obtain ⟨d, rfl⟩ := Nat.exists_eq_add_of_le' hd
  intro h' Q hQ
  refine x_X8_isLetter G d _ _ Q ⟨fun q => ?_, fun q => ⟨?_, ?_⟩⟩
  · rw [if_neg (fun z => (hp.mp z).1 q)] at hQ; exact hQ
  · split <;> simp
  · by_cases z : 122 < w
    · rw [if_neg (fun y => (hp.mp y).2 z)] at hQ; rw [if_pos z]; exact hQ
    · rw [if_pos (hp.mpr ⟨q, z⟩)] at hQ; rw [if_neg z]; exact hQ
theorem c_dig (hd : 1 ≤ d) {w : Int32} {p : Prop} [Decidable p] (hp : p ↔ (¬ w < 48 ∧ ¬ 57 < w)) : cR G d yX8_isDigit [.int w] hc (riv (if p then 1 else 0)) hc := by
  obtain ⟨d, rfl⟩ := Nat.exists_eq_add_of_le' hd
  intro h' Q hQ
  refine x_X8_isDigit G d _ _ Q ⟨fun q => ?_, fun q => ⟨?_, ?_⟩⟩
  · rw [if_neg (fun z => (hp.mp z).1 q)] at hQ; exact hQ
  · split <;> simp
  · by_cases z : 57 < w
    · rw [if_neg (fun y => (hp.mp y).2 z)] at hQ; rw [if_pos z]; exact hQ
    · rw [if_pos (hp.mpr ⟨q, z⟩)] at hQ; rw [if_neg z]; exact hQ
theorem m_small (hd : 1 ≤ d) {w : Int32} {p : Prop} [Decidable p] (hp : p ↔ (¬ w < 97 ∧ ¬ 122 < w)) : mR G d yX12_isSmall [.int w] hm (riv (if p then 1 else 0)) hm := by
  obtain ⟨d, rfl⟩ := Nat.exists_eq_add_of_le' hd
  intro h' Q hQ
  refine x_X12_isSmall G d _ _ Q ⟨fun q => ?_, fun q => ⟨?_, ?_⟩⟩
  · rw [if_neg (fun z => (hp.mp z).1 q)] at hQ; exact hQ
  · split <;> simp
  · by_cases z : 122 < w
    · rw [if_neg (fun y => (hp.mp y).2 z)] at hQ; rw [if_pos z]; exact hQ
    · rw [if_pos (hp.mpr ⟨q, z⟩)] at hQ; rw [if_neg z]; exact hQ
theorem m_digit (hd : 1 ≤ d) {w : Int32} {p : Prop} [Decidable p] (hp : p ↔ (¬ w < 48 ∧ ¬ 57 < w)) : mR G d yX12_isDigit [.int w] hm (riv (if p then 1 else 0)) hm := by
  obtain ⟨d, rfl⟩ := Nat.exists_eq_add_of_le' hd
  intro h' Q hQ
  refine x_X12_isDigit G d _ _ Q ⟨fun q => ?_, fun q => ⟨?_, ?_⟩⟩
  · rw [if_neg (fun z => (hp.mp z).1 q)] at hQ; exact hQ
  · split <;> simp
  · by_cases z : 57 < w
    · rw [if_neg (fun y => (hp.mp y).2 z)] at hQ; rw [if_pos z]; exact hQ
    · rw [if_pos (hp.mpr ⟨q, z⟩)] at hQ; rw [if_neg z]; exact hQ
/-- how far a run of bytes of a kind goes -/
theorem run_ex (p : Nat → Prop) (hp : ∀ x, p x → x < n) : ∀ k i, n - i = k → i ≤ n → ∃ j, i ≤ j ∧ j ≤ n ∧ (∀ x, i ≤ x → x < j → p x) ∧ ¬ p j := by
  intro k
  induction k with
  | zero => intro i h1 h2; exact ⟨i, Nat.le_refl _, h2, fun x a b => absurd a (by omega), fun q => absurd (hp _ q) (by omega)⟩
  | succ k ih =>
    intro i h1 h2
    rcases Classical.em (p i) with q | q
    · obtain ⟨j, a, b, c, e⟩ := ih (i + 1) (by omega) (by omega)
      refine ⟨j, by omega, b, fun x x1 x2 => ?_, e⟩
      rcases Nat.eq_or_lt_of_le x1 with z | z
      · subst z; exact q
      · exact c x (by omega) x2
    · exact ⟨i, Nat.le_refl _, h2, fun x a b => absurd a (by omega), q⟩
theorem c_skip0 (hn : n ≤ 2000) {j : Nat} (hjn : j ≤ n) (hj : ¬ (j < n ∧ blN (B j))) : ∀ k i hc, LB n B hc → j - i = k → i ≤ j → (∀ x, i ≤ x → x < j → x < n ∧ blN (B x)) → ∀ hx Q, Q rvv (mg (hc.sI 17 5 (Int32.ofNat j)) hx) → q_N0 G m_X8_skipBlanks (d + 2) Q 0 [.ref 17] [] (mg (hc.sI 17 5 (Int32.ofNat i)) hx) := by
  intro k
  induction k with
  | zero =>
    intro i hc L h1 h2 hb hx Q hQ
    obtain rfl : i = j := by omega
    refine x_X8_skipBlanks_0 G (d + 1) _ Q ?_
    simp only [mg_I, Nat.reduceLT, if_true, sI_I, Nat.reduceEqDiff, and_true, and_false, and_self, if_false, L.1]
    refine ⟨fun _ => hQ, fun q => ?_⟩
    rw [n_le (by omega) (by omega)] at q
    have hb2 := L.2.2.1 i (by omega)
    refine c_byte (G := G) (d := d + 1) (by omega) (L.s5 (Int32.ofNat i)) (x := i) (by omega) hx _ ?_
    have e : bc n B i = Int32.ofNat (B i) := if_pos (by omega)
    rw [e]
    refine ⟨fun z => ?_, fun _ => ?_⟩
    · exact absurd ⟨by omega, Or.inl ((n_eq (b := 32) (by omega) (by omega)).mp z)⟩ hj
    · simp only [mg_I, Nat.reduceLT, if_true, sI_I, Nat.reduceEqDiff, and_true, and_false, and_self, if_false, L.1]
      refine c_byte (G := G) (d := d + 1) (by omega) (L.s5 (Int32.ofNat i)) (x := i) (by omega) hx _ ?_
      rw [e]
      exact ⟨fun _ => hQ, fun z => absurd ⟨by omega, Or.inr ((n_eq (b := 10) (by omega) (by omega)).mp z)⟩ hj⟩
  | succ k ih =>
    intro i hc L h1 h2 hb hx Q hQ
    obtain ⟨hi, hbi⟩ := hb i (Nat.le_refl _) (by omega)
    have hb2 := L.2.2.1 i hi
    have IH := ih (i + 1) hc L (by omega) (by omega) (fun x a b => hb x (by omega) b) hx Q hQ
    have e : bc n B i = Int32.ofNat (B i) := if_pos hi
    refine x_X8_skipBlanks_0 G (d + 1) _ Q ?_
    simp only [mg_I, Nat.reduceLT, if_true, sI_I, Nat.reduceEqDiff, and_true, and_false, and_self, if_false, L.1]
    refine ⟨fun q => absurd ((n_le (by omega) (by omega)).mp q) (by omega), fun q => ?_⟩
    refine c_byte (G := G) (d := d + 1) (by omega) (L.s5 (Int32.ofNat i)) (x := i) (by omega) hx _ ?_
    rw [e]
    refine ⟨fun z => ?_, fun z => ?_⟩
    · simp only [mg_I, Nat.reduceLT, if_true, sI_I, Nat.reduceEqDiff, and_true, and_false, and_self, if_false, mg_sI_c (show 17 < 43 by decide), sI_ss, n_add1]
      exact IH
    · simp only [mg_I, Nat.reduceLT, if_true, sI_I, Nat.reduceEqDiff, and_true, and_false, and_self, if_false]
      refine c_byte (G := G) (d := d + 1) (by omega) (L.s5 (Int32.ofNat i)) (x := i) (by omega) hx _ ?_
      rw [e]
      refine ⟨fun y => ?_, fun y => ?_⟩
      · rcases hbi with u | u
        · rw [u] at z; exact absurd rfl z
        · rw [u] at y; exact absurd rfl y
      · simp only [mg_I, Nat.reduceLT, if_true, sI_I, Nat.reduceEqDiff, and_true, and_false, and_self, if_false, mg_sI_c (show 17 < 43 by decide), sI_ss, n_add1]
        exact IH
end LEXB
