/-! ===== the rows of tokens, and what they are at the end ===== -/
def LXg (n : Nat) (B : Nat → Nat) (S E : Nat → Nat) (K P : Nat → Int32) (V : Nat → Int64) (KM FM VM : Nat → Int32) (x : Nat) : Prop := (∃ Vo, TK n B (S x) (E x) (K x) Vo (KM x) (VM x) ∧ ∀ v, Vo = some v → V x = v) ∧ K x ≠ 1 ∧ P x = Int32.ofNat (S x) ∧ FM x = Int32.ofNat (S x)
def LXr (n : Nat) (B : Nat → Nat) (cnt i : Nat) (K P : Nat → Int32) (V : Nat → Int64) (KM FM VM : Nat → Int32) : Prop := ∃ S E : Nat → Nat, (∀ x, x < cnt → LXg n B S E K P V KM FM VM x ∧ E x ≤ i) ∧ (∀ x, x + 1 < cnt → E x ≤ S (x + 1))
section LEXR
variable {n : Nat} {B : Nat → Nat} {cnt i : Nat} {K P K' P' : Nat → Int32} {V V' : Nat → Int64} {KM FM VM KM' FM' VM' : Nat → Int32}
theorem LXr.step (H : LXr n B cnt i K P V KM FM VM) {s e : Nat} {kc kr vr : Int32} {Vo : Option Int64} (t : TK n B s e kc Vo kr vr) (k1 : kc ≠ 1) (hi : i ≤ s) (old : ∀ x, x < cnt → K' x = K x ∧ P' x = P x ∧ V' x = V x ∧ KM' x = KM x ∧ FM' x = FM x ∧ VM' x = VM x) (a1 : K' cnt = kc) (a2 : P' cnt = Int32.ofNat s) (a3 : ∀ v, Vo = some v → V' cnt = v) (a4 : KM' cnt = kr) (a5 : FM' cnt = Int32.ofNat s) (a6 : VM' cnt = vr) : LXr n B (cnt + 1) e K' P' V' KM' FM' VM' := by
  obtain ⟨S, E, h1, h2⟩ := H
  have hse := t.2.2.1 k1
  refine ⟨fun x => if x = cnt then s else S x, fun x => if x = cnt then e else E x, fun x hx => ?_, fun x hx => ?_⟩
  · rcases Nat.lt_or_ge x cnt with z | z
    · obtain ⟨o1, o2, o3, o4, o5, o6⟩ := old x z
      obtain ⟨⟨⟨Vo', q1, q2⟩, q3, q4, q5⟩, q6⟩ := h1 x z
      have ne : x ≠ cnt := by omega
      unfold LXg
      simp only [if_neg ne, o1, o2, o3, o4, o5, o6]
      exact ⟨⟨⟨Vo', q1, q2⟩, q3, q4, q5⟩, by omega⟩
    · obtain rfl : x = cnt := by omega
      unfold LXg
      simp only [if_true, a1, a2, a4, a5, a6]
      exact ⟨⟨⟨Vo, t, a3⟩, k1, trivial, trivial⟩, Nat.le_refl _⟩
  · simp only [if_neg (show x ≠ cnt by omega)]
    rcases Nat.lt_or_ge (x + 1) cnt with z | z
    · rw [if_neg (by omega)]; exact h2 x z
    · rw [if_pos (by omega)]
      have := (h1 x (by omega)).2
      omega
def mkT (cnt : Nat) (K P : Nat → Int32) (V : Nat → Int64) (KM FM VM tx : Nat → Int32) : tkD := (cnt + 1, K, P, V, KM, FM, VM, fun x => (P x).toNatClampNeg, tx)
theorem LXr.fin (H : LXr n B cnt i K P V KM FM VM) {s : Nat} {kc : Int32} {tx : Nat → Int32} (hn : n ≤ 2000) (hB : ∀ x, x < n → B x < 256) (htx : ∀ x, x < n → tx x = sb (B x)) (hcn : cnt ≤ 2000) (k01 : kc = 0 ∨ kc = 1) (hi : i ≤ s) (hs : s ≤ n) (old : ∀ x, x < cnt → K' x = K x ∧ P' x = P x ∧ V' x = V x ∧ KM' x = KM x ∧ FM' x = FM x ∧ VM' x = VM x) (a1 : K' cnt = kc) (a2 : P' cnt = Int32.ofNat s) (a4 : KM' cnt = kc) (a5 : FM' cnt = Int32.ofNat s) : TR (mkT cnt K' P' V' KM' FM' VM' tx) := by
  obtain ⟨S, E, h1, h2⟩ := H
  -- what each of the tokens before the last is
  have A : ∀ x, x < cnt → (∃ Vo, TK n B (S x) (E x) (K' x) Vo (KM' x) (VM' x) ∧ ∀ v, Vo = some v → V' x = v) ∧ K' x ≠ 1 ∧ P' x = Int32.ofNat (S x) ∧ FM' x = Int32.ofNat (S x) ∧ S x < E x ∧ E x ≤ n ∧ E x ≤ s := fun x hx => by
    obtain ⟨o1, o2, o3, o4, o5, o6⟩ := old x hx
    obtain ⟨⟨⟨Vo', q1, q2⟩, q3, q4, q5⟩, q6⟩ := h1 x hx
    have := q1.2.2.1 q3
    rw [o1, o2, o3, o4, o5, o6]
    exact ⟨⟨Vo', q1, q2⟩, q3, q4, q5, this.1, this.2, by omega⟩
  have pn : ∀ x, x < cnt → (P' x).toNatClampNeg = S x := fun x hx => by
    obtain ⟨-, -, q, -, q1, q2, -⟩ := A x hx
    rw [q, n_N (by omega)]
  have pl : (P' cnt).toNatClampNeg = s := by rw [a2, n_N (by omega)]
  have nk : ∀ x, x < cnt → ¬ (K' x = 0 ∨ K' x = 1) := fun x hx => by
    obtain ⟨⟨Vo, t, -⟩, q, -⟩ := A x hx
    rintro (z | z)
    · exact t.2.1 z
    · exact q z
  have lk : K' cnt = 0 ∨ K' cnt = 1 := by rw [a1]; exact k01
  have kx : ∀ x, x < cnt + 1 → ∀ k : Int32, K' x = k → k ≠ 0 → k ≠ 1 → x < cnt := fun x hx k e q0 q1 => by
    rcases Nat.lt_or_ge x cnt with z | z
    · exact z
    · obtain rfl : x = cnt := by omega
      rcases lk with w | w
      · exact absurd (e.symm.trans w) q0
      · exact absurd (e.symm.trans w) q1
  have N : ∀ x, x < cnt → K' x = 2 → ∃ l : Nat, l ≤ 8 ∧ VM' x = Int32.ofNat l ∧ S x + l ≤ n ∧ V' x = pk B (S x) l ∧ ∀ y, y < l → 0 < B (S x + y) := fun x hx e => by
    obtain ⟨⟨Vo, t, tv⟩, -, -, -, -, q, -⟩ := A x hx
    obtain ⟨l, l1, l2, l3, l4, l5⟩ := t.2.2.2.2.2 e
    exact ⟨l, l1, l2, by omega, tv _ l4, l5⟩
  refine ⟨Nat.le_add_left 1 cnt, Nat.succ_le_succ hcn, fun x hx => ?_, fun x hx => ?_, fun x hx => ?_, fun x hx => ?_, fun x hx e => ?_, fun x hx e => ?_, fun x y hx hy ex ey => ?_⟩
  · rcases Nat.lt_or_ge x cnt with z | z
    · obtain ⟨⟨Vo, t, -⟩, -⟩ := A x z
      exact t.1
    · obtain rfl : x = cnt := Nat.le_antisymm (Nat.le_of_lt_succ hx) z
      show tkr (K' x) (KM' x) (VM' x)
      rw [a1, a4]
      rcases k01 with w | w
      · exact Or.inl ⟨w, w⟩
      · exact Or.inr (Or.inl ⟨w, w⟩)
  · rcases Nat.lt_or_ge x cnt with z | z
    · refine ⟨fun q => absurd q (nk x z), fun q => ?_⟩
      have q : x + 1 = cnt + 1 := q
      omega
    · obtain rfl : x = cnt := Nat.le_antisymm (Nat.le_of_lt_succ hx) z
      exact ⟨fun _ => rfl, fun _ => lk⟩
  · show P' x = Int32.ofNat (P' x).toNatClampNeg ∧ FM' x = Int32.ofNat (P' x).toNatClampNeg ∧ (P' x).toNatClampNeg ≤ 2000
    rcases Nat.lt_or_ge x cnt with z | z
    · obtain ⟨-, -, q1, q2, q3, q4, -⟩ := A x z
      rw [pn x z]
      exact ⟨q1, q2, by omega⟩
    · obtain rfl : x = cnt := Nat.le_antisymm (Nat.le_of_lt_succ hx) z
      rw [pl]
      exact ⟨a2, a5, by omega⟩
  · have hx : x + 1 < cnt + 1 := hx
    show (P' x).toNatClampNeg < (P' (x + 1)).toNatClampNeg ∧ ((K' x = 8 ∨ K' x = 9) → (P' x).toNatClampNeg + 5 ≤ (P' (x + 1)).toNatClampNeg)
    have z : x < cnt := by omega
    obtain ⟨⟨Vo, t, -⟩, -, q1, q2, q3, q4, q5⟩ := A x z
    have nx : E x ≤ (P' (x + 1)).toNatClampNeg := by
      rcases Nat.lt_or_ge (x + 1) cnt with w | w
      · rw [pn _ w]; exact h2 x w
      · obtain rfl : x + 1 = cnt := by omega
        rw [pl]; exact q5
    rw [pn x z]
    exact ⟨by omega, fun w => by have := t.2.2.2.1 w; omega⟩
  · have z := kx x hx 3 e (by decide) (by decide)
    obtain ⟨⟨Vo, t, tv⟩, -⟩ := A x z
    obtain ⟨q, q1, q2, q3⟩ := t.2.2.2.2.1 e
    exact ⟨q, q1, q2, tv _ q3⟩
  · have z := kx x hx 2 e (by decide) (by decide)
    obtain ⟨l, l1, l2, l3, -⟩ := N x z e
    refine ⟨l, l1, l2, ?_⟩
    show (P' x).toNatClampNeg + l ≤ 2000
    rw [pn x z]; omega
  · have zx := kx x hx 2 ex (by decide) (by decide)
    have zy := kx y hy 2 ey (by decide) (by decide)
    obtain ⟨l, l1, l2, l3, l4, l5⟩ := N x zx ex
    obtain ⟨l', l1', l2', l3', l4', l5'⟩ := N y zy ey
    show V' x = V' y ↔ (VM' x = VM' y ∧ ∀ z, z < (VM' x).toNatClampNeg → tx ((P' x).toNatClampNeg + z) = tx ((P' y).toNatClampNeg + z))
    rw [l4, l4', l2, l2', pn x zx, pn y zy, n_N (by omega), n_eq (by omega) (by omega), pk_inj B l1 l1' (fun w hw => ⟨hB _ (by omega), l5 w hw⟩) (fun w hw => ⟨hB _ (by omega), l5' w hw⟩)]
    constructor
    · rintro ⟨u, v⟩
      refine ⟨u, fun w hw => ?_⟩
      rw [htx _ (by omega), htx _ (by omega), v w hw]
    · rintro ⟨u, v⟩
      refine ⟨u, fun w hw => ?_⟩
      have := v w hw
      rw [htx _ (by omega), htx _ (by omega)] at this
      exact (sb_inj (hB _ (by omega)) (hB _ (by omega))).mp this
end LEXR
