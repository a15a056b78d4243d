/-! ===== feed ===== -/
/-- the two tapes hold the same u bytes -/
def TP (u : Nat) (B : Nat → Nat) (hc hm : qh) : Prop := hc.I 15 1 = Int32.ofNat u ∧ hm.I 43 2 = Int32.ofNat u ∧ u ≤ 2000 ∧ ∀ x, x < u → B x < 256 ∧ hc.I 16 x = sb (B x) ∧ hm.I 44 x = sb (B x)
set_option maxRecDepth 100000 in
theorem by8 : ∀ c, c < 256 → (Int8.ofNat c).toInt32.toInt8.toInt32 = sb c := by decide +kernel
theorem by8' (v : Int8) : ∃ c, c < 256 ∧ v.toInt32.toInt8.toInt32 = sb c := by
  refine ⟨v.toBitVec.toNat, v.toBitVec.isLt, ?_⟩
  rw [← by8 _ v.toBitVec.isLt]
  have : Int8.ofNat v.toBitVec.toNat = v := by
    apply Int8.toBitVec_inj.mp
    rw [Int8.toBitVec_ofNat']
    apply BitVec.eq_of_toNat_eq
    rw [BitVec.toNat_ofNat]
    exact Nat.mod_eq_of_lt v.toBitVec.isLt
  rw [this]
def TFc (hc hc' : qh) : Prop := (∀ o, o ≠ 15 → o ≠ 16 → hc'.I o = hc.I o) ∧ (∀ k, k ≠ 1 → hc'.I 15 k = hc.I 15 k) ∧ hc'.L = hc.L ∧ hc'.R = hc.R
def TFm (hm hm' : qh) : Prop := (∀ o, o ≠ 43 → o ≠ 44 → hm'.I o = hm.I o) ∧ (∀ k, k ≠ 2 → hm'.I 43 k = hm.I 43 k) ∧ hm'.L = hm.L ∧ hm'.R = hm.R
section FEED
variable {G : qG} {D d u : Nat} {B : Nat → Nat} {hc hm : qh}
/-- one byte more on both tapes -/
theorem TP.add (t : TP u B hc hm) (hu : u < 2000) {c : Nat} (h : c < 256) : TP (u + 1) (fun x => if x = u then c else B x) ((hc.sI 16 u (sb c)).sI 15 1 (Int32.ofNat (u + 1))) ((hm.sI 44 u (sb c)).sI 43 2 (Int32.ofNat (u + 1))) := by
  obtain ⟨t1, t2, t3, t4⟩ := t
  refine ⟨rfl, rfl, hu, fun x hx => ?_⟩
  by_cases z : x = u
  · subst z
    simp only [if_true, sI_I, Nat.reduceEqDiff, false_and, if_false, and_self]
    first | exact ⟨h, trivial⟩ | exact h | exact ⟨h, rfl, rfl⟩
  · simp only [if_neg z, sI_I, Nat.reduceEqDiff, false_and, if_false, true_and]
    exact t4 x (by omega)
end FEED
