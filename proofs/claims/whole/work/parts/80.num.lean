/-! ===== numbers of a RUN: remainders, and what a sign makes of its sides ===== -/
theorem r_rem (x : Int32) {k : Nat} (h1 : 1 ≤ k) (h2 : k < 2147483648) : (x - x / Int32.ofNat k * Int32.ofNat k).toInt = x.toInt.tmod k := by
  have hk : (Int32.ofNat k).toInt = k := n_toInt h2
  rw [Int32.toInt_sub, Int32.toInt_mul, Int32.toInt_div_of_ne_right _ _ (n_ne1 h2), hk, Int.sub_bmod_bmod, Int.mul_comm, ← Int.tmod_def]
  have a1 := Int.tmod_lt_of_pos x.toInt (b := k) (by omega)
  have a2 := Int.lt_tmod_of_pos x.toInt (b := k) (by omega)
  exact Int.bmod_eq_of_le (by omega) (by omega)
def fm (x : Int32) (k : Nat) : Nat := (x.toInt % (k : Int)).toNat
theorem fm_lt (x : Int32) {k : Nat} (h1 : 1 ≤ k) : fm x k < k := by
  have := Int.emod_lt_of_pos x.toInt (b := k) (by omega)
  have := Int.emod_nonneg x.toInt (b := k) (by omega)
  unfold fm
  omega
theorem fm_cast (x : Int32) {k : Nat} (h1 : 1 ≤ k) : (fm x k : Int) = x.toInt % (k : Int) := by
  have := Int.emod_nonneg x.toInt (b := k) (by omega)
  unfold fm
  omega
theorem r_msb (z : Int32) : (z < 0) ↔ z.toBitVec.msb = true := by
  rw [Int32.lt_iff_toInt_lt, BitVec.msb_eq_toInt, decide_eq_true_iff]
  exact Iff.rfl
theorem r_sgn (x : Int32) {k : Nat} (hk : k < 2147483648) : (0 ≤ (x ^^^ Int32.ofNat k)) ↔ ¬ x < 0 := by
  have h : (Int32.ofNat k).toBitVec.msb = false := by
    have := fun q => n_nneg hk ((r_msb (Int32.ofNat k)).mpr q)
    simpa using this
  rw [← Int32.not_lt, r_msb, r_msb, Int32.toBitVec_xor, BitVec.msb_xor, h, Bool.xor_false]
theorem r_emod (x : Int32) {k : Nat} (h1 : 1 ≤ k) : x.toInt % (k : Int) = if x.toInt.tmod k < 0 then x.toInt.tmod k + k else x.toInt.tmod k := by
  have a1 := Int.tmod_lt_of_pos x.toInt (b := k) (by omega)
  have a2 := Int.lt_tmod_of_pos x.toInt (b := k) (by omega)
  have e : x.toInt % (k : Int) = x.toInt.tmod k % (k : Int) := by
    rw [Int.tmod_def, Int.sub_emod, Int.mul_emod_right]
    simp
  rw [e]
  split
  · rename_i q
    rw [← Int.add_emod_right, Int.emod_eq_of_lt (by omega) (by omega)]
  · exact Int.emod_eq_of_lt (by omega) (by omega)
theorem r_neg (x : Int32) {k : Nat} (h1 : 1 ≤ k) : (x.toInt.tmod k < 0) → x < 0 := fun q => by
  rw [Int32.lt_iff_toInt_lt]
  show x.toInt < 0
  refine Int.not_le.mp (fun h => ?_)
  have := Int.tmod_nonneg (k : Int) h
  omega
theorem r_pos (x : Int32) {k : Nat} (h1 : 1 ≤ k) (hx : x < 0) : x.toInt.tmod k ≤ 0 := by
  have h : x.toInt < 0 := Int32.lt_iff_toInt_lt.mp hx
  have := Int.tmod_nonneg (a := -x.toInt) (k : Int) (by omega)
  rw [Int.neg_tmod] at this
  omega
/-- how the library's floorMod ends -/
theorem r_fmod (x : Int32) {k : Nat} (h1 : 1 ≤ k) (h2 : k < 1073741824) {X : Int32 → Prop} (hX : X (Int32.ofNat (fm x k))) : ((0 ≤ (x ^^^ Int32.ofNat k)) → X (x - x / Int32.ofNat k * Int32.ofNat k)) ∧ (¬ (0 ≤ (x ^^^ Int32.ofNat k)) → (((x - x / Int32.ofNat k * Int32.ofNat k) = 0 → X (x - x / Int32.ofNat k * Int32.ofNat k)) ∧ (¬ (x - x / Int32.ofNat k * Int32.ofNat k) = 0 → X ((x - x / Int32.ofNat k * Int32.ofNat k) + Int32.ofNat k)))) := by
  have e := r_rem x h1 (by omega)
  have a1 := Int.tmod_lt_of_pos x.toInt (b := k) (by omega)
  have a2 := Int.lt_tmod_of_pos x.toInt (b := k) (by omega)
  have f := r_emod x h1
  have g := fm_cast x h1
  have l := fm_lt x h1
  have to : ∀ z : Int32, z.toInt = (fm x k : Int) → X z := fun z hz => by
    have : z = Int32.ofNat (fm x k) := Int32.toInt.inj (by rw [hz, n_toInt (by omega)])
    rw [this]; exact hX
  refine ⟨fun q => to _ ?_, fun q => ⟨fun z => to _ ?_, fun z => to _ ?_⟩⟩
  · rw [e, g, f, if_neg (fun w => (r_sgn x (by omega)).mp q (r_neg x h1 w))]
  · rw [e, g, f, if_neg]
    have : x.toInt.tmod k = 0 := by rw [← e, z]; rfl
    omega
  · have hx : x < 0 := Classical.byContradiction (fun w => q ((r_sgn x (by omega)).mpr w))
    have b1 := r_pos x h1 hx
    have b2 : ¬ x.toInt.tmod k = 0 := fun w => z (Int32.toInt.inj (by rw [e, w]; rfl))
    rw [Int32.toInt_add, e, n_toInt (by omega), g, f, if_pos (by omega)]
    exact Int.bmod_eq_of_le (by omega) (by omega)
/-- how the reference finds a cell -/
theorem r_place (x : Int32) {k : Nat} (h1 : 1 ≤ k) (h2 : k < 1073741824) : ((x - x / Int32.ofNat k * Int32.ofNat k) + Int32.ofNat k) - ((x - x / Int32.ofNat k * Int32.ofNat k) + Int32.ofNat k) / Int32.ofNat k * Int32.ofNat k = Int32.ofNat (fm x k) := by
  have e := r_rem x h1 (by omega)
  have a1 := Int.tmod_lt_of_pos x.toInt (b := k) (by omega)
  have a2 := Int.lt_tmod_of_pos x.toInt (b := k) (by omega)
  have l := fm_lt x h1
  apply Int32.toInt.inj
  rw [r_rem _ h1 (by omega), n_toInt (by omega), fm_cast x h1, Int32.toInt_add, e, n_toInt (by omega), Int.bmod_eq_of_le (by omega) (by omega), Int.tmod_eq_emod_of_nonneg (by omega), Int.add_emod_right, r_emod x h1]
  split
  · rw [← Int.add_emod_right, Int.emod_eq_of_lt (by omega) (by omega)]
  · exact Int.emod_eq_of_lt (by omega) (by omega)
theorem r_divn (x : Int32) : x / (-1) = -x := by
  apply Int32.toInt.inj
  rw [Int32.toInt_div, show (-1 : Int32).toInt = -1 from by decide, Int.tdiv_neg, Int.tdiv_one, Int32.toInt_neg]
theorem r_modn (x : Int32) : x - x / (-1) * (-1) = 0 := by
  rw [r_divn, Int32.mul_neg, Int32.mul_one, Int32.neg_neg, Int32.sub_self]
theorem r_and31 (x : Int32) : (x &&& 31) &&& 31 = x &&& 31 := by
  rw [Int32.and_assoc]; rfl
section SIGNS
variable {G : qG} {d : Nat} {hc hm : qh}

theorem cw_37 (a b : Int32) : cR G (d + 3) yX9_worked [.int 37, .int a, .int b] hc (riv (if b = 0 then a else a - a / b * b)) hc := fun hx Q hQ => x_X9_worked G (d + 2) _ _ _ _ Q
  ⟨fun q => absurd q (by decide), fun q => absurd q (by decide), fun q => absurd q (by decide), fun q => absurd q (by decide), fun q => absurd q (by decide), fun q => absurd q (by decide), fun q => absurd q (by decide), fun q => absurd q (by decide), fun q => absurd q (by decide), fun q => absurd q (by decide), fun q => absurd q (by decide), fun q => absurd q (by decide), fun q => absurd q (by decide), fun q => absurd q (by decide), fun _ => x_X9_reckoned G (d + 1) _ _ _ _ _ ⟨fun _ => ⟨fun z => ⟨z, by rw [if_neg z] at hQ; exact hQ⟩, fun z => by rw [if_pos z] at hQ; exact hQ⟩, fun q => absurd q (by decide), fun q => absurd q (by decide), fun q => absurd q (by decide), fun q => absurd q (by decide), fun q => absurd q (by decide), fun q => absurd q (by decide), fun q => absurd rfl (q.1)⟩⟩
theorem mw_37 (a b : Int32) : mR G (d + 3) yX12_works [.int 37, .int a, .int b] hm (riv (if b = 0 then a else a - a / b * b)) hm := fun hx Q hQ => x_X12_works G (d + 2) _ _ _ _ Q
  ⟨fun q => absurd q (by decide), fun q => absurd q (by decide), fun q => absurd q (by decide), fun q => absurd q (by decide), fun q => absurd q (by decide), fun q => absurd q (by decide), fun q => absurd q (by decide), fun q => absurd q (by decide), fun q => absurd q (by decide), fun q => absurd q (by decide), fun q => absurd q (by decide), fun q => absurd q (by decide), fun q => absurd q (by decide), fun q => absurd q (by decide), fun q => absurd q (by decide), fun q => absurd q (by decide), fun q => absurd q (by decide), fun _ => x_X12_rest G (d + 1) _ _ _ _ ⟨fun z => ⟨fun _ => ⟨z, by rw [if_neg z] at hQ; exact hQ⟩, fun y => by rw [if_neg z, y, r_modn] at hQ; exact hQ⟩, fun z => by rw [if_pos z] at hQ; exact hQ⟩⟩
theorem cw_38 (a b : Int32) : cR G (d + 3) yX9_worked [.int 38, .int a, .int b] hc (riv (a &&& b)) hc := fun hx Q hQ => x_X9_worked G (d + 2) _ _ _ _ Q
  ⟨fun q => absurd q (by decide), fun q => absurd q (by decide), fun q => absurd q (by decide), fun _ => hQ, fun q => absurd q (by decide), fun q => absurd q (by decide), fun q => absurd q (by decide), fun q => absurd q (by decide), fun q => absurd q (by decide), fun q => absurd q (by decide), fun q => absurd q (by decide), fun q => absurd q (by decide), fun q => absurd q (by decide), fun q => absurd q (by decide), fun q => absurd rfl (q.2.2.2.1)⟩
theorem mw_38 (a b : Int32) : mR G (d + 3) yX12_works [.int 38, .int a, .int b] hm (riv (a &&& b)) hm := fun hx Q hQ => x_X12_works G (d + 2) _ _ _ _ Q
  ⟨fun _ => hQ, fun q => absurd q (by decide), fun q => absurd q (by decide), fun q => absurd q (by decide), fun q => absurd q (by decide), fun q => absurd q (by decide), fun q => absurd q (by decide), fun q => absurd q (by decide), fun q => absurd q (by decide), fun q => absurd q (by decide), fun q => absurd q (by decide), fun q => absurd q (by decide), fun q => absurd q (by decide), fun q => absurd q (by decide), fun q => absurd q (by decide), fun q => absurd q (by decide), fun q => absurd q (by decide), fun q => absurd rfl (q.1)⟩
theorem cw_42 (a b : Int32) : cR G (d + 3) yX9_worked [.int 42, .int a, .int b] hc (riv (a * b)) hc := fun hx Q hQ => x_X9_worked G (d + 2) _ _ _ _ Q
  ⟨fun q => absurd q (by decide), fun q => absurd q (by decide), fun q => absurd q (by decide), fun q => absurd q (by decide), fun q => absurd q (by decide), fun q => absurd q (by decide), fun q => absurd q (by decide), fun q => absurd q (by decide), fun q => absurd q (by decide), fun q => absurd q (by decide), fun q => absurd q (by decide), fun q => absurd q (by decide), fun q => absurd q (by decide), fun q => absurd q (by decide), fun _ => x_X9_reckoned G (d + 1) _ _ _ _ _ ⟨fun q => absurd q (by decide), fun _ => hQ, fun q => absurd q (by decide), fun q => absurd q (by decide), fun q => absurd q (by decide), fun q => absurd q (by decide), fun q => absurd q (by decide), fun q => absurd rfl (q.2.1)⟩⟩
theorem mw_42 (a b : Int32) : mR G (d + 3) yX12_works [.int 42, .int a, .int b] hm (riv (a * b)) hm := fun hx Q hQ => x_X12_works G (d + 2) _ _ _ _ Q
  ⟨fun q => absurd q (by decide), fun _ => hQ, fun q => absurd q (by decide), fun q => absurd q (by decide), fun q => absurd q (by decide), fun q => absurd q (by decide), fun q => absurd q (by decide), fun q => absurd q (by decide), fun q => absurd q (by decide), fun q => absurd q (by decide), fun q => absurd q (by decide), fun q => absurd q (by decide), fun q => absurd q (by decide), fun q => absurd q (by decide), fun q => absurd q (by decide), fun q => absurd q (by decide), fun q => absurd q (by decide), fun q => absurd rfl (q.2.1)⟩
theorem cw_43 (a b : Int32) : cR G (d + 3) yX9_worked [.int 43, .int a, .int b] hc (riv (a + b)) hc := fun hx Q hQ => x_X9_worked G (d + 2) _ _ _ _ Q
  ⟨fun q => absurd q (by decide), fun q => absurd q (by decide), fun q => absurd q (by decide), fun q => absurd q (by decide), fun q => absurd q (by decide), fun q => absurd q (by decide), fun q => absurd q (by decide), fun q => absurd q (by decide), fun q => absurd q (by decide), fun q => absurd q (by decide), fun q => absurd q (by decide), fun q => absurd q (by decide), fun q => absurd q (by decide), fun q => absurd q (by decide), fun _ => x_X9_reckoned G (d + 1) _ _ _ _ _ ⟨fun q => absurd q (by decide), fun q => absurd q (by decide), fun _ => hQ, fun q => absurd q (by decide), fun q => absurd q (by decide), fun q => absurd q (by decide), fun q => absurd q (by decide), fun q => absurd rfl (q.2.2.1)⟩⟩
theorem mw_43 (a b : Int32) : mR G (d + 3) yX12_works [.int 43, .int a, .int b] hm (riv (a + b)) hm := fun hx Q hQ => x_X12_works G (d + 2) _ _ _ _ Q
  ⟨fun q => absurd q (by decide), fun q => absurd q (by decide), fun _ => hQ, fun q => absurd q (by decide), fun q => absurd q (by decide), fun q => absurd q (by decide), fun q => absurd q (by decide), fun q => absurd q (by decide), fun q => absurd q (by decide), fun q => absurd q (by decide), fun q => absurd q (by decide), fun q => absurd q (by decide), fun q => absurd q (by decide), fun q => absurd q (by decide), fun q => absurd q (by decide), fun q => absurd q (by decide), fun q => absurd q (by decide), fun q => absurd rfl (q.2.2.1)⟩
theorem cw_45 (a b : Int32) : cR G (d + 3) yX9_worked [.int 45, .int a, .int b] hc (riv (a - b)) hc := fun hx Q hQ => x_X9_worked G (d + 2) _ _ _ _ Q
  ⟨fun q => absurd q (by decide), fun q => absurd q (by decide), fun q => absurd q (by decide), fun q => absurd q (by decide), fun q => absurd q (by decide), fun q => absurd q (by decide), fun q => absurd q (by decide), fun q => absurd q (by decide), fun q => absurd q (by decide), fun q => absurd q (by decide), fun q => absurd q (by decide), fun q => absurd q (by decide), fun q => absurd q (by decide), fun q => absurd q (by decide), fun _ => x_X9_reckoned G (d + 1) _ _ _ _ _ ⟨fun q => absurd q (by decide), fun q => absurd q (by decide), fun q => absurd q (by decide), fun _ => hQ, fun q => absurd q (by decide), fun q => absurd q (by decide), fun q => absurd q (by decide), fun q => absurd rfl (q.2.2.2.1)⟩⟩
theorem mw_45 (a b : Int32) : mR G (d + 3) yX12_works [.int 45, .int a, .int b] hm (riv (a - b)) hm := fun hx Q hQ => x_X12_works G (d + 2) _ _ _ _ Q
  ⟨fun q => absurd q (by decide), fun q => absurd q (by decide), fun q => absurd q (by decide), fun _ => hQ, fun q => absurd q (by decide), fun q => absurd q (by decide), fun q => absurd q (by decide), fun q => absurd q (by decide), fun q => absurd q (by decide), fun q => absurd q (by decide), fun q => absurd q (by decide), fun q => absurd q (by decide), fun q => absurd q (by decide), fun q => absurd q (by decide), fun q => absurd q (by decide), fun q => absurd q (by decide), fun q => absurd q (by decide), fun q => absurd rfl (q.2.2.2.1)⟩
theorem cw_47 (a b : Int32) : cR G (d + 3) yX9_worked [.int 47, .int a, .int b] hc (riv (if b = 0 then -1 else a / b)) hc := fun hx Q hQ => x_X9_worked G (d + 2) _ _ _ _ Q
  ⟨fun q => absurd q (by decide), fun q => absurd q (by decide), fun q => absurd q (by decide), fun q => absurd q (by decide), fun q => absurd q (by decide), fun q => absurd q (by decide), fun q => absurd q (by decide), fun q => absurd q (by decide), fun q => absurd q (by decide), fun q => absurd q (by decide), fun q => absurd q (by decide), fun q => absurd q (by decide), fun q => absurd q (by decide), fun q => absurd q (by decide), fun _ => x_X9_reckoned G (d + 1) _ _ _ _ _ ⟨fun q => absurd q (by decide), fun q => absurd q (by decide), fun q => absurd q (by decide), fun q => absurd q (by decide), fun _ => ⟨fun z => ⟨z, by rw [if_neg z] at hQ; exact hQ⟩, fun z => by rw [if_pos z] at hQ; exact hQ⟩, fun q => absurd q (by decide), fun q => absurd q (by decide), fun q => absurd rfl (q.2.2.2.2.1)⟩⟩
theorem mw_47 (a b : Int32) : mR G (d + 3) yX12_works [.int 47, .int a, .int b] hm (riv (if b = 0 then -1 else a / b)) hm := fun hx Q hQ => x_X12_works G (d + 2) _ _ _ _ Q
  ⟨fun q => absurd q (by decide), fun q => absurd q (by decide), fun q => absurd q (by decide), fun q => absurd q (by decide), fun _ => x_X12_divided G (d + 1) _ _ _ _ ⟨fun z => ⟨fun _ => ⟨z, by rw [if_neg z] at hQ; exact hQ⟩, fun y => by rw [if_neg z, y, r_divn] at hQ; exact hQ⟩, fun z => by rw [if_pos z] at hQ; exact hQ⟩, fun q => absurd q (by decide), fun q => absurd q (by decide), fun q => absurd q (by decide), fun q => absurd q (by decide), fun q => absurd q (by decide), fun q => absurd q (by decide), fun q => absurd q (by decide), fun q => absurd q (by decide), fun q => absurd q (by decide), fun q => absurd q (by decide), fun q => absurd q (by decide), fun q => absurd q (by decide), fun q => absurd rfl (q.2.2.2.2.1)⟩
theorem cw_60 (a b : Int32) : cR G (d + 3) yX9_worked [.int 60, .int a, .int b] hc (riv (if (if b ≤ a then (0 : Int32) else 1) = 0 then 0 else 1)) hc := fun hx Q hQ => x_X9_worked G (d + 2) _ _ _ _ Q
  ⟨fun q => absurd q (by decide), fun q => absurd q (by decide), fun q => absurd q (by decide), fun q => absurd q (by decide), fun _ => x_X9_truth G (d + 1) _ _ _ hQ, fun q => absurd q (by decide), fun q => absurd q (by decide), fun q => absurd q (by decide), fun q => absurd q (by decide), fun q => absurd q (by decide), fun q => absurd q (by decide), fun q => absurd q (by decide), fun q => absurd q (by decide), fun q => absurd q (by decide), fun q => absurd rfl (q.2.2.2.2.1)⟩
theorem mw_60 (a b : Int32) : mR G (d + 3) yX12_works [.int 60, .int a, .int b] hm (riv (if (if b ≤ a then (0 : Int32) else 1) = 0 then 0 else 1)) hm := fun hx Q hQ => x_X12_works G (d + 2) _ _ _ _ Q
  ⟨fun q => absurd q (by decide), fun q => absurd q (by decide), fun q => absurd q (by decide), fun q => absurd q (by decide), fun q => absurd q (by decide), fun _ => x_X12_truth G (d + 1) _ _ _ hQ, fun q => absurd q (by decide), fun q => absurd q (by decide), fun q => absurd q (by decide), fun q => absurd q (by decide), fun q => absurd q (by decide), fun q => absurd q (by decide), fun q => absurd q (by decide), fun q => absurd q (by decide), fun q => absurd q (by decide), fun q => absurd q (by decide), fun q => absurd q (by decide), fun q => absurd rfl (q.2.2.2.2.2.1)⟩
theorem cw_62 (a b : Int32) : cR G (d + 3) yX9_worked [.int 62, .int a, .int b] hc (riv (if (if a ≤ b then (0 : Int32) else 1) = 0 then 0 else 1)) hc := fun hx Q hQ => x_X9_worked G (d + 2) _ _ _ _ Q
  ⟨fun q => absurd q (by decide), fun q => absurd q (by decide), fun q => absurd q (by decide), fun q => absurd q (by decide), fun q => absurd q (by decide), fun _ => x_X9_truth G (d + 1) _ _ _ hQ, fun q => absurd q (by decide), fun q => absurd q (by decide), fun q => absurd q (by decide), fun q => absurd q (by decide), fun q => absurd q (by decide), fun q => absurd q (by decide), fun q => absurd q (by decide), fun q => absurd q (by decide), fun q => absurd rfl (q.2.2.2.2.2.1)⟩
theorem mw_62 (a b : Int32) : mR G (d + 3) yX12_works [.int 62, .int a, .int b] hm (riv (if (if a ≤ b then (0 : Int32) else 1) = 0 then 0 else 1)) hm := fun hx Q hQ => x_X12_works G (d + 2) _ _ _ _ Q
  ⟨fun q => absurd q (by decide), fun q => absurd q (by decide), fun q => absurd q (by decide), fun q => absurd q (by decide), fun q => absurd q (by decide), fun q => absurd q (by decide), fun _ => x_X12_truth G (d + 1) _ _ _ hQ, fun q => absurd q (by decide), fun q => absurd q (by decide), fun q => absurd q (by decide), fun q => absurd q (by decide), fun q => absurd q (by decide), fun q => absurd q (by decide), fun q => absurd q (by decide), fun q => absurd q (by decide), fun q => absurd q (by decide), fun q => absurd q (by decide), fun q => absurd rfl (q.2.2.2.2.2.2.1)⟩
theorem cw_94 (a b : Int32) : cR G (d + 3) yX9_worked [.int 94, .int a, .int b] hc (riv (a ^^^ b)) hc := fun hx Q hQ => x_X9_worked G (d + 2) _ _ _ _ Q
  ⟨fun q => absurd q (by decide), fun q => absurd q (by decide), fun q => absurd q (by decide), fun q => absurd q (by decide), fun q => absurd q (by decide), fun q => absurd q (by decide), fun _ => hQ, fun q => absurd q (by decide), fun q => absurd q (by decide), fun q => absurd q (by decide), fun q => absurd q (by decide), fun q => absurd q (by decide), fun q => absurd q (by decide), fun q => absurd q (by decide), fun q => absurd rfl (q.2.2.2.2.2.2.1)⟩
theorem mw_94 (a b : Int32) : mR G (d + 3) yX12_works [.int 94, .int a, .int b] hm (riv (a ^^^ b)) hm := fun hx Q hQ => x_X12_works G (d + 2) _ _ _ _ Q
  ⟨fun q => absurd q (by decide), fun q => absurd q (by decide), fun q => absurd q (by decide), fun q => absurd q (by decide), fun q => absurd q (by decide), fun q => absurd q (by decide), fun q => absurd q (by decide), fun _ => hQ, fun q => absurd q (by decide), fun q => absurd q (by decide), fun q => absurd q (by decide), fun q => absurd q (by decide), fun q => absurd q (by decide), fun q => absurd q (by decide), fun q => absurd q (by decide), fun q => absurd q (by decide), fun q => absurd q (by decide), fun q => absurd rfl (q.2.2.2.2.2.2.2.1)⟩
theorem cw_124 (a b : Int32) : cR G (d + 3) yX9_worked [.int 124, .int a, .int b] hc (riv (a ||| b)) hc := fun hx Q hQ => x_X9_worked G (d + 2) _ _ _ _ Q
  ⟨fun q => absurd q (by decide), fun q => absurd q (by decide), fun q => absurd q (by decide), fun q => absurd q (by decide), fun q => absurd q (by decide), fun q => absurd q (by decide), fun q => absurd q (by decide), fun _ => hQ, fun q => absurd q (by decide), fun q => absurd q (by decide), fun q => absurd q (by decide), fun q => absurd q (by decide), fun q => absurd q (by decide), fun q => absurd q (by decide), fun q => absurd rfl (q.2.2.2.2.2.2.2.1)⟩
theorem mw_124 (a b : Int32) : mR G (d + 3) yX12_works [.int 124, .int a, .int b] hm (riv (a ||| b)) hm := fun hx Q hQ => x_X12_works G (d + 2) _ _ _ _ Q
  ⟨fun q => absurd q (by decide), fun q => absurd q (by decide), fun q => absurd q (by decide), fun q => absurd q (by decide), fun q => absurd q (by decide), fun q => absurd q (by decide), fun q => absurd q (by decide), fun q => absurd q (by decide), fun _ => hQ, fun q => absurd q (by decide), fun q => absurd q (by decide), fun q => absurd q (by decide), fun q => absurd q (by decide), fun q => absurd q (by decide), fun q => absurd q (by decide), fun q => absurd q (by decide), fun q => absurd q (by decide), fun q => absurd rfl (q.2.2.2.2.2.2.2.2.1)⟩
theorem cw_8509 (a b : Int32) : cR G (d + 3) yX9_worked [.int 8509, .int a, .int b] hc (riv (if (if a = b then (0 : Int32) else 1) = 0 then 0 else 1)) hc := fun hx Q hQ => x_X9_worked G (d + 2) _ _ _ _ Q
  ⟨fun q => absurd q (by decide), fun q => absurd q (by decide), fun q => absurd q (by decide), fun q => absurd q (by decide), fun q => absurd q (by decide), fun q => absurd q (by decide), fun q => absurd q (by decide), fun q => absurd q (by decide), fun _ => x_X9_truth G (d + 1) _ _ _ hQ, fun q => absurd q (by decide), fun q => absurd q (by decide), fun q => absurd q (by decide), fun q => absurd q (by decide), fun q => absurd q (by decide), fun q => absurd rfl (q.2.2.2.2.2.2.2.2.1)⟩
theorem mw_8509 (a b : Int32) : mR G (d + 3) yX12_works [.int 8509, .int a, .int b] hm (riv (if (if a = b then (0 : Int32) else 1) = 0 then 0 else 1)) hm := fun hx Q hQ => x_X12_works G (d + 2) _ _ _ _ Q
  ⟨fun q => absurd q (by decide), fun q => absurd q (by decide), fun q => absurd q (by decide), fun q => absurd q (by decide), fun q => absurd q (by decide), fun q => absurd q (by decide), fun q => absurd q (by decide), fun q => absurd q (by decide), fun q => absurd q (by decide), fun _ => x_X12_truth G (d + 1) _ _ _ hQ, fun q => absurd q (by decide), fun q => absurd q (by decide), fun q => absurd q (by decide), fun q => absurd q (by decide), fun q => absurd q (by decide), fun q => absurd q (by decide), fun q => absurd q (by decide), fun q => absurd rfl (q.2.2.2.2.2.2.2.2.2.1)⟩
theorem cw_9766 (a b : Int32) : cR G (d + 3) yX9_worked [.int 9766, .int a, .int b] hc (riv (if a = 0 then 0 else if b = 0 then 0 else 1)) hc := fun hx Q hQ => x_X9_worked G (d + 2) _ _ _ _ Q
  ⟨fun q => absurd q (by decide), fun q => absurd q (by decide), fun q => absurd q (by decide), fun q => absurd q (by decide), fun q => absurd q (by decide), fun q => absurd q (by decide), fun q => absurd q (by decide), fun q => absurd q (by decide), fun q => absurd q (by decide), fun _ => ⟨fun z => x_X9_truth G (d + 1) _ _ _ (by rw [if_pos z] at hQ; exact hQ), fun z => x_X9_truth G (d + 1) _ _ _ (by rw [if_neg z] at hQ; by_cases y : b = 0 <;> simp only [y, if_true, if_false] at hQ ⊢ <;> exact hQ)⟩, fun q => absurd q (by decide), fun q => absurd q (by decide), fun q => absurd q (by decide), fun q => absurd q (by decide), fun q => absurd rfl (q.2.2.2.2.2.2.2.2.2.1)⟩
theorem mw_9766 (a b : Int32) : mR G (d + 3) yX12_works [.int 9766, .int a, .int b] hm (riv (if a = 0 then 0 else if b = 0 then 0 else 1)) hm := fun hx Q hQ => x_X12_works G (d + 2) _ _ _ _ Q
  ⟨fun q => absurd q (by decide), fun q => absurd q (by decide), fun q => absurd q (by decide), fun q => absurd q (by decide), fun q => absurd q (by decide), fun q => absurd q (by decide), fun q => absurd q (by decide), fun q => absurd q (by decide), fun q => absurd q (by decide), fun q => absurd q (by decide), fun _ => x_X12_truth G (d + 1) _ _ _ (by by_cases z : a = 0 <;> by_cases y : b = 0 <;> simp only [z, y, if_true, if_false] at hQ ⊢ <;> exact hQ), fun q => absurd q (by decide), fun q => absurd q (by decide), fun q => absurd q (by decide), fun q => absurd q (by decide), fun q => absurd q (by decide), fun q => absurd q (by decide), fun q => absurd rfl (q.2.2.2.2.2.2.2.2.2.2.1)⟩
theorem cw_15420 (a b : Int32) : cR G (d + 3) yX9_worked [.int 15420, .int a, .int b] hc (riv (a <<< (b &&& 31))) hc := fun hx Q hQ => x_X9_worked G (d + 2) _ _ _ _ Q
  ⟨fun q => absurd q (by decide), fun q => absurd q (by decide), fun q => absurd q (by decide), fun q => absurd q (by decide), fun q => absurd q (by decide), fun q => absurd q (by decide), fun q => absurd q (by decide), fun q => absurd q (by decide), fun q => absurd q (by decide), fun q => absurd q (by decide), fun q => absurd q (by decide), fun q => absurd q (by decide), fun q => absurd q (by decide), fun q => absurd q (by decide), fun _ => x_X9_reckoned G (d + 1) _ _ _ _ _ ⟨fun q => absurd q (by decide), fun q => absurd q (by decide), fun q => absurd q (by decide), fun q => absurd q (by decide), fun q => absurd q (by decide), fun _ => hQ, fun q => absurd q (by decide), fun q => absurd rfl (q.2.2.2.2.2.1)⟩⟩
theorem mw_15420 (a b : Int32) : mR G (d + 3) yX12_works [.int 15420, .int a, .int b] hm (riv (a <<< (b &&& 31))) hm := fun hx Q hQ => x_X12_works G (d + 2) _ _ _ _ Q
  ⟨fun q => absurd q (by decide), fun q => absurd q (by decide), fun q => absurd q (by decide), fun q => absurd q (by decide), fun q => absurd q (by decide), fun q => absurd q (by decide), fun q => absurd q (by decide), fun q => absurd q (by decide), fun q => absurd q (by decide), fun q => absurd q (by decide), fun q => absurd q (by decide), fun _ => by rw [r_and31]; exact hQ, fun q => absurd q (by decide), fun q => absurd q (by decide), fun q => absurd q (by decide), fun q => absurd q (by decide), fun q => absurd q (by decide), fun q => absurd rfl (q.2.2.2.2.2.2.2.2.2.2.2.1)⟩
theorem cw_15421 (a b : Int32) : cR G (d + 3) yX9_worked [.int 15421, .int a, .int b] hc (riv (if (if b < a then (0 : Int32) else 1) = 0 then 0 else 1)) hc := fun hx Q hQ => x_X9_worked G (d + 2) _ _ _ _ Q
  ⟨fun q => absurd q (by decide), fun q => absurd q (by decide), fun q => absurd q (by decide), fun q => absurd q (by decide), fun q => absurd q (by decide), fun q => absurd q (by decide), fun q => absurd q (by decide), fun q => absurd q (by decide), fun q => absurd q (by decide), fun q => absurd q (by decide), fun _ => x_X9_truth G (d + 1) _ _ _ hQ, fun q => absurd q (by decide), fun q => absurd q (by decide), fun q => absurd q (by decide), fun q => absurd rfl (q.2.2.2.2.2.2.2.2.2.2.1)⟩
theorem mw_15421 (a b : Int32) : mR G (d + 3) yX12_works [.int 15421, .int a, .int b] hm (riv (if (if b < a then (0 : Int32) else 1) = 0 then 0 else 1)) hm := fun hx Q hQ => x_X12_works G (d + 2) _ _ _ _ Q
  ⟨fun q => absurd q (by decide), fun q => absurd q (by decide), fun q => absurd q (by decide), fun q => absurd q (by decide), fun q => absurd q (by decide), fun q => absurd q (by decide), fun q => absurd q (by decide), fun q => absurd q (by decide), fun q => absurd q (by decide), fun q => absurd q (by decide), fun q => absurd q (by decide), fun q => absurd q (by decide), fun _ => x_X12_truth G (d + 1) _ _ _ hQ, fun q => absurd q (by decide), fun q => absurd q (by decide), fun q => absurd q (by decide), fun q => absurd q (by decide), fun q => absurd rfl (q.2.2.2.2.2.2.2.2.2.2.2.2.1)⟩
theorem cw_15677 (a b : Int32) : cR G (d + 3) yX9_worked [.int 15677, .int a, .int b] hc (riv (if (if a = b then (1 : Int32) else 0) = 0 then 0 else 1)) hc := fun hx Q hQ => x_X9_worked G (d + 2) _ _ _ _ Q
  ⟨fun q => absurd q (by decide), fun q => absurd q (by decide), fun q => absurd q (by decide), fun q => absurd q (by decide), fun q => absurd q (by decide), fun q => absurd q (by decide), fun q => absurd q (by decide), fun q => absurd q (by decide), fun q => absurd q (by decide), fun q => absurd q (by decide), fun q => absurd q (by decide), fun _ => x_X9_truth G (d + 1) _ _ _ hQ, fun q => absurd q (by decide), fun q => absurd q (by decide), fun q => absurd rfl (q.2.2.2.2.2.2.2.2.2.2.2.1)⟩
theorem mw_15677 (a b : Int32) : mR G (d + 3) yX12_works [.int 15677, .int a, .int b] hm (riv (if (if a = b then (1 : Int32) else 0) = 0 then 0 else 1)) hm := fun hx Q hQ => x_X12_works G (d + 2) _ _ _ _ Q
  ⟨fun q => absurd q (by decide), fun q => absurd q (by decide), fun q => absurd q (by decide), fun q => absurd q (by decide), fun q => absurd q (by decide), fun q => absurd q (by decide), fun q => absurd q (by decide), fun q => absurd q (by decide), fun q => absurd q (by decide), fun q => absurd q (by decide), fun q => absurd q (by decide), fun q => absurd q (by decide), fun q => absurd q (by decide), fun _ => x_X12_truth G (d + 1) _ _ _ hQ, fun q => absurd q (by decide), fun q => absurd q (by decide), fun q => absurd q (by decide), fun q => absurd rfl (q.2.2.2.2.2.2.2.2.2.2.2.2.2.1)⟩
theorem cw_15933 (a b : Int32) : cR G (d + 3) yX9_worked [.int 15933, .int a, .int b] hc (riv (if (if a < b then (0 : Int32) else 1) = 0 then 0 else 1)) hc := fun hx Q hQ => x_X9_worked G (d + 2) _ _ _ _ Q
  ⟨fun q => absurd q (by decide), fun q => absurd q (by decide), fun q => absurd q (by decide), fun q => absurd q (by decide), fun q => absurd q (by decide), fun q => absurd q (by decide), fun q => absurd q (by decide), fun q => absurd q (by decide), fun q => absurd q (by decide), fun q => absurd q (by decide), fun q => absurd q (by decide), fun q => absurd q (by decide), fun _ => x_X9_truth G (d + 1) _ _ _ hQ, fun q => absurd q (by decide), fun q => absurd rfl (q.2.2.2.2.2.2.2.2.2.2.2.2.1)⟩
theorem mw_15933 (a b : Int32) : mR G (d + 3) yX12_works [.int 15933, .int a, .int b] hm (riv (if (if a < b then (0 : Int32) else 1) = 0 then 0 else 1)) hm := fun hx Q hQ => x_X12_works G (d + 2) _ _ _ _ Q
  ⟨fun q => absurd q (by decide), fun q => absurd q (by decide), fun q => absurd q (by decide), fun q => absurd q (by decide), fun q => absurd q (by decide), fun q => absurd q (by decide), fun q => absurd q (by decide), fun q => absurd q (by decide), fun q => absurd q (by decide), fun q => absurd q (by decide), fun q => absurd q (by decide), fun q => absurd q (by decide), fun q => absurd q (by decide), fun q => absurd q (by decide), fun _ => x_X12_truth G (d + 1) _ _ _ hQ, fun q => absurd q (by decide), fun q => absurd q (by decide), fun q => absurd rfl (q.2.2.2.2.2.2.2.2.2.2.2.2.2.2.1)⟩
theorem cw_15934 (a b : Int32) : cR G (d + 3) yX9_worked [.int 15934, .int a, .int b] hc (riv (a >>> (b &&& 31))) hc := fun hx Q hQ => x_X9_worked G (d + 2) _ _ _ _ Q
  ⟨fun q => absurd q (by decide), fun q => absurd q (by decide), fun q => absurd q (by decide), fun q => absurd q (by decide), fun q => absurd q (by decide), fun q => absurd q (by decide), fun q => absurd q (by decide), fun q => absurd q (by decide), fun q => absurd q (by decide), fun q => absurd q (by decide), fun q => absurd q (by decide), fun q => absurd q (by decide), fun q => absurd q (by decide), fun q => absurd q (by decide), fun _ => x_X9_reckoned G (d + 1) _ _ _ _ _ ⟨fun q => absurd q (by decide), fun q => absurd q (by decide), fun q => absurd q (by decide), fun q => absurd q (by decide), fun q => absurd q (by decide), fun q => absurd q (by decide), fun _ => hQ, fun q => absurd rfl (q.2.2.2.2.2.2)⟩⟩
theorem mw_15934 (a b : Int32) : mR G (d + 3) yX12_works [.int 15934, .int a, .int b] hm (riv (a >>> (b &&& 31))) hm := fun hx Q hQ => x_X12_works G (d + 2) _ _ _ _ Q
  ⟨fun q => absurd q (by decide), fun q => absurd q (by decide), fun q => absurd q (by decide), fun q => absurd q (by decide), fun q => absurd q (by decide), fun q => absurd q (by decide), fun q => absurd q (by decide), fun q => absurd q (by decide), fun q => absurd q (by decide), fun q => absurd q (by decide), fun q => absurd q (by decide), fun q => absurd q (by decide), fun q => absurd q (by decide), fun q => absurd q (by decide), fun q => absurd q (by decide), fun _ => by rw [r_and31]; exact hQ, fun q => absurd q (by decide), fun q => absurd rfl (q.2.2.2.2.2.2.2.2.2.2.2.2.2.2.2.1)⟩
theorem cw_31868 (a b : Int32) : cR G (d + 3) yX9_worked [.int 31868, .int a, .int b] hc (riv (if a = 0 then (if b = 0 then 0 else 1) else 1)) hc := fun hx Q hQ => x_X9_worked G (d + 2) _ _ _ _ Q
  ⟨fun q => absurd q (by decide), fun q => absurd q (by decide), fun q => absurd q (by decide), fun q => absurd q (by decide), fun q => absurd q (by decide), fun q => absurd q (by decide), fun q => absurd q (by decide), fun q => absurd q (by decide), fun q => absurd q (by decide), fun q => absurd q (by decide), fun q => absurd q (by decide), fun q => absurd q (by decide), fun q => absurd q (by decide), fun _ => ⟨fun z => x_X9_truth G (d + 1) _ _ _ (by rw [if_neg z] at hQ; exact hQ), fun z => x_X9_truth G (d + 1) _ _ _ (by rw [if_pos z] at hQ; by_cases y : b = 0 <;> simp only [y, if_true, if_false] at hQ ⊢ <;> exact hQ)⟩, fun q => absurd rfl (q.2.2.2.2.2.2.2.2.2.2.2.2.2)⟩
theorem mw_31868 (a b : Int32) : mR G (d + 3) yX12_works [.int 31868, .int a, .int b] hm (riv (if a = 0 then (if b = 0 then 0 else 1) else 1)) hm := fun hx Q hQ => x_X12_works G (d + 2) _ _ _ _ Q
  ⟨fun q => absurd q (by decide), fun q => absurd q (by decide), fun q => absurd q (by decide), fun q => absurd q (by decide), fun q => absurd q (by decide), fun q => absurd q (by decide), fun q => absurd q (by decide), fun q => absurd q (by decide), fun q => absurd q (by decide), fun q => absurd q (by decide), fun q => absurd q (by decide), fun q => absurd q (by decide), fun q => absurd q (by decide), fun q => absurd q (by decide), fun q => absurd q (by decide), fun q => absurd q (by decide), fun _ => x_X12_truth G (d + 1) _ _ _ (by by_cases z : a = 0 <;> by_cases y : b = 0 <;> simp only [z, y, if_true, if_false] at hQ ⊢ <;> exact hQ), fun q => absurd rfl (q.2.2.2.2.2.2.2.2.2.2.2.2.2.2.2.2)⟩
theorem lvl_mem {k : Int32} (h : 1 ≤ lvl k) : k = 37 ∨ k = 38 ∨ k = 42 ∨ k = 43 ∨ k = 45 ∨ k = 47 ∨ k = 60 ∨ k = 62 ∨ k = 94 ∨ k = 124 ∨ k = 8509 ∨ k = 9766 ∨ k = 15420 ∨ k = 15421 ∨ k = 15677 ∨ k = 15933 ∨ k = 15934 ∨ k = 31868 := by
  refine Classical.byContradiction (fun n => ?_)
  simp only [not_or] at n
  obtain ⟨n0, n1, n2, n3, n4, n5, n6, n7, n8, n9, n10, n11, n12, n13, n14, n15, n16, n17⟩ := n
  unfold lvl at h
  rw [if_neg n0, if_neg n1, if_neg n2, if_neg n3, if_neg n4, if_neg n5, if_neg n6, if_neg n7, if_neg n8, if_neg n9, if_neg n10, if_neg n11, if_neg n12, if_neg n13, if_neg n14, if_neg n15, if_neg n16, if_neg n17] at h
  exact absurd h (by decide)
/-- a sign of two makes the same of the same -/
theorem sg_two {k : Int32} (h : 1 ≤ lvl k) (a b : Int32) : ∃ v : Int32, (∀ (G : qG) (d : Nat) (hc : qh), cR G (d + 3) yX9_worked [.int k, .int a, .int b] hc (riv v) hc) ∧ (∀ (G : qG) (d : Nat) (hm : qh), mR G (d + 3) yX12_works [.int k, .int a, .int b] hm (riv v) hm) := by
  rcases lvl_mem h with rfl | rfl | rfl | rfl | rfl | rfl | rfl | rfl | rfl | rfl | rfl | rfl | rfl | rfl | rfl | rfl | rfl | rfl
  · exact ⟨_, fun G d hc => cw_37 a b, fun G d hm => mw_37 a b⟩
  · exact ⟨_, fun G d hc => cw_38 a b, fun G d hm => mw_38 a b⟩
  · exact ⟨_, fun G d hc => cw_42 a b, fun G d hm => mw_42 a b⟩
  · exact ⟨_, fun G d hc => cw_43 a b, fun G d hm => mw_43 a b⟩
  · exact ⟨_, fun G d hc => cw_45 a b, fun G d hm => mw_45 a b⟩
  · exact ⟨_, fun G d hc => cw_47 a b, fun G d hm => mw_47 a b⟩
  · exact ⟨_, fun G d hc => cw_60 a b, fun G d hm => mw_60 a b⟩
  · exact ⟨_, fun G d hc => cw_62 a b, fun G d hm => mw_62 a b⟩
  · exact ⟨_, fun G d hc => cw_94 a b, fun G d hm => mw_94 a b⟩
  · exact ⟨_, fun G d hc => cw_124 a b, fun G d hm => mw_124 a b⟩
  · exact ⟨_, fun G d hc => cw_8509 a b, fun G d hm => mw_8509 a b⟩
  · exact ⟨_, fun G d hc => cw_9766 a b, fun G d hm => mw_9766 a b⟩
  · exact ⟨_, fun G d hc => cw_15420 a b, fun G d hm => mw_15420 a b⟩
  · exact ⟨_, fun G d hc => cw_15421 a b, fun G d hm => mw_15421 a b⟩
  · exact ⟨_, fun G d hc => cw_15677 a b, fun G d hm => mw_15677 a b⟩
  · exact ⟨_, fun G d hc => cw_15933 a b, fun G d hm => mw_15933 a b⟩
  · exact ⟨_, fun G d hc => cw_15934 a b, fun G d hm => mw_15934 a b⟩
  · exact ⟨_, fun G d hc => cw_31868 a b, fun G d hm => mw_31868 a b⟩
theorem cw_n45 (a b : Int32) : cR G (d + 3) yX9_worked [.int (-45), .int a, .int b] hc (riv (-a)) hc := fun hx Q hQ => x_X9_worked G (d + 2) _ _ _ _ Q
  ⟨fun q => absurd q (by decide), fun _ => hQ, fun q => absurd q (by decide), fun q => absurd q (by decide), fun q => absurd q (by decide), fun q => absurd q (by decide), fun q => absurd q (by decide), fun q => absurd q (by decide), fun q => absurd q (by decide), fun q => absurd q (by decide), fun q => absurd q (by decide), fun q => absurd q (by decide), fun q => absurd q (by decide), fun q => absurd q (by decide), fun q => absurd rfl (q.2.1)⟩
theorem cw_n33 (a b : Int32) : cR G (d + 3) yX9_worked [.int (-33), .int a, .int b] hc (riv (if (if a = 0 then (1 : Int32) else 0) = 0 then 0 else 1)) hc := fun hx Q hQ => x_X9_worked G (d + 2) _ _ _ _ Q
  ⟨fun q => absurd q (by decide), fun q => absurd q (by decide), fun _ => x_X9_truth G (d + 1) _ _ _ hQ, fun q => absurd q (by decide), fun q => absurd q (by decide), fun q => absurd q (by decide), fun q => absurd q (by decide), fun q => absurd q (by decide), fun q => absurd q (by decide), fun q => absurd q (by decide), fun q => absurd q (by decide), fun q => absurd q (by decide), fun q => absurd q (by decide), fun q => absurd q (by decide), fun q => absurd rfl (q.2.2.1)⟩
theorem cw_n126 (a b : Int32) : cR G (d + 3) yX9_worked [.int (-126), .int a, .int b] hc (riv (a ^^^ (-1))) hc := fun hx Q hQ => x_X9_worked G (d + 2) _ _ _ _ Q
  ⟨fun _ => hQ, fun q => absurd q (by decide), fun q => absurd q (by decide), fun q => absurd q (by decide), fun q => absurd q (by decide), fun q => absurd q (by decide), fun q => absurd q (by decide), fun q => absurd q (by decide), fun q => absurd q (by decide), fun q => absurd q (by decide), fun q => absurd q (by decide), fun q => absurd q (by decide), fun q => absurd q (by decide), fun q => absurd q (by decide), fun q => absurd rfl (q.1)⟩
end SIGNS
