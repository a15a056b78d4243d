/-- the cells in the order of their making: an object of a class of vwCl, or 100 and what an array holds (int, byte, boolean, long) and its length -/
def q_lay : List (Nat × Nat) := [(11, 0), (1, 0), (100, 1400), (100, 1400), (100, 1400), (100, 1400), (100, 80), (100, 8), (1, 0), (100, 1400), (100, 1400), (100, 1400), (100, 1400), (100, 80), (100, 8), (8, 0), (101, 2000), (9, 0), (100, 2001), (100, 2001), (103, 2001), (3, 0), (5, 0), (6, 0), (103, 25), (100, 25), (100, 25), (2, 0), (100, 186), (100, 186), (100, 187), (4, 0), (100, 2048), (100, 32), (100, 200), (100, 200), (100, 200), (7, 0), (10, 0), (100, 1400), (102, 1400), (100, 16), (100, 4), (13, 0), (101, 2000), (100, 32), (101, 2000), (100, 2001), (100, 2001), (100, 2001), (0, 0), (12, 0), (100, 8), (100, 2000), (100, 2000), (100, 2000), (100, 2000), (100, 2000), (100, 2000), (100, 2000), (100, 2000), (100, 2000), (12, 0), (100, 8), (100, 2000), (100, 2000), (100, 2000), (100, 2000), (100, 2000), (100, 2000), (100, 2000), (100, 2000), (100, 2000), (100, 2000), (100, 2000), (100, 2000), (100, 2048), (100, 4), (100, 2016), (100, 600), (100, 2000), (100, 2000), (100, 2000), (103, 1)]
/-- the kinds of the fields, class by class of vwCl: an int, a long, a reference that changes, one that never does -/
def q_fts : List (List Nat) := [[], [3, 3, 3, 3, 3, 3, 0, 0, 0, 0, 0, 0], [3, 3, 3, 3, 3, 2, 0, 0, 0, 0], [3, 3, 3, 2, 0, 0, 1, 0], [3, 3, 3, 3, 3, 0, 0, 0, 0, 0], [3, 0, 0, 0, 0, 1, 0, 0], [3, 3, 3, 0], [1, 0], [3, 0], [3, 3, 3, 3, 0, 0, 0], [3, 3, 3, 3, 3, 2, 0, 0, 0, 0, 0, 0, 0, 0, 0, 0], [3, 3, 3, 3, 3, 3, 3, 2, 2, 0, 0, 0], [0, 0, 0, 0, 0, 0, 0, 0, 3, 3, 3, 3, 3, 3, 3, 3, 3, 3], [0, 3, 0, 0, 0, 3, 0, 1, 3, 0, 3, 3, 3, 0, 0, 0, 3, 0, 0, 0, 0, 2, 2, 0, 3, 3, 3, 0, 3, 3, 3, 0, 0, 0, 0, 0, 0, 0, 3, 3, 0, 2, 2]]
/-- the references that never change once all is made -/
def q_rho : List (List (Option Nat)) := [[some 15, some 17, some 21, some 31, some 37, some 38, some 42, none, none, none, none, none], [some 2, some 3, some 4, some 5, some 6, some 7, none, none, none, none, none, none], [], [], [], [], [], [], [some 9, some 10, some 11, some 12, some 13, some 14, none, none, none, none, none, none], [], [], [], [], [], [], [some 16, none], [], [some 18, some 19, some 20, some 16, none, none, none], [], [], [], [some 22, some 23, some 27, none, none, none, none, none], [some 17, none, none, none, none, none, none, none], [some 24, some 25, some 26, none], [], [], [], [some 22, some 23, some 28, some 29, some 30, none, none, none, none, none], [], [], [], [some 32, some 33, some 34, some 35, some 36, none, none, none, none, none], [], [], [], [], [], [], [some 31, some 37, some 39, some 40, some 41, none, none, none, none, none, none, none, none, none, none, none], [], [], [], [], [none, some 44, none, none, none, some 45, none, none, some 46, none, some 47, some 48, some 49, none, none, none, some 50, none, none, none, none, none, none, none, some 73, some 74, some 75, none, some 76, some 77, some 78, none, none, none, none, none, none, none, some 79, some 80, none, none, none], [], [], [], [], [], [], [], [none, none, none, none, none, none, none, none, some 52, some 53, some 54, some 55, some 56, some 57, some 58, some 59, some 60, some 61], [], [], [], [], [], [], [], [], [], [], [none, none, none, none, none, none, none, none, some 63, some 64, some 65, some 66, some 67, some 68, some 69, some 70, some 71, some 72], [], [], [], [], [], [], [], [], [], [], [], [], [], [], [], [], [], [], [], [], []]
def q_rh (o j : Nat) : Option Nat := (q_rho.getD o []).getD j none
def q_tb : List Cond := lw_tbl.filter goodWord
theorem q_in {w : Cond} (i : Nat) (h : lw_tbl[i]? = some w) (hg : goodWord w = true) : w ∈ q_tb := List.mem_filter.mpr ⟨List.mem_of_getElem? h, hg⟩
theorem q_tb_good : GoodIn q_tb q_tb := fun w h => ⟨h, good_of_word (List.mem_filter.mp h).2⟩
theorem q_inJxb5711 : ∀ w ∈ wsJxb57110, w ∈ q_tb := fun w h => List.mem_filter.mpr ⟨inJxb5711 w h, List.all_eq_true.mp (show (wsJxb57110).all goodWord = true by decide +kernel) w h⟩
theorem q_inX0 : ∀ w ∈ wsX00, w ∈ q_tb := fun w h => List.mem_filter.mpr ⟨inX0 w h, List.all_eq_true.mp (show (wsX00).all goodWord = true by decide +kernel) w h⟩
theorem q_inX1 : ∀ w ∈ wsX10, w ∈ q_tb := fun w h => List.mem_filter.mpr ⟨inX1 w h, List.all_eq_true.mp (show (wsX10).all goodWord = true by decide +kernel) w h⟩
theorem q_inX2 : ∀ w ∈ wsX20, w ∈ q_tb := fun w h => List.mem_filter.mpr ⟨inX2 w h, List.all_eq_true.mp (show (wsX20).all goodWord = true by decide +kernel) w h⟩
theorem q_inX3 : ∀ w ∈ wsX30, w ∈ q_tb := fun w h => List.mem_filter.mpr ⟨inX3 w h, List.all_eq_true.mp (show (wsX30).all goodWord = true by decide +kernel) w h⟩
theorem q_inX4 : ∀ w ∈ wsX40, w ∈ q_tb := fun w h => List.mem_filter.mpr ⟨inX4 w h, List.all_eq_true.mp (show (wsX40).all goodWord = true by decide +kernel) w h⟩
theorem q_inX5 : ∀ w ∈ wsX50, w ∈ q_tb := fun w h => List.mem_filter.mpr ⟨inX5 w h, List.all_eq_true.mp (show (wsX50).all goodWord = true by decide +kernel) w h⟩
theorem q_inX6 : ∀ w ∈ wsX60, w ∈ q_tb := fun w h => List.mem_filter.mpr ⟨inX6 w h, List.all_eq_true.mp (show (wsX60).all goodWord = true by decide +kernel) w h⟩
theorem q_inX7 : ∀ w ∈ wsX70, w ∈ q_tb := fun w h => List.mem_filter.mpr ⟨inX7 w h, List.all_eq_true.mp (show (wsX70).all goodWord = true by decide +kernel) w h⟩
theorem q_inX8 : ∀ w ∈ wsX80, w ∈ q_tb := fun w h => List.mem_filter.mpr ⟨inX8 w h, List.all_eq_true.mp (show (wsX80).all goodWord = true by decide +kernel) w h⟩
theorem q_inX9 : ∀ w ∈ wsX90, w ∈ q_tb := fun w h => List.mem_filter.mpr ⟨inX9 w h, List.all_eq_true.mp (show (wsX90).all goodWord = true by decide +kernel) w h⟩
theorem q_inX10 : ∀ w ∈ wsX100, w ∈ q_tb := fun w h => List.mem_filter.mpr ⟨inX10 w h, List.all_eq_true.mp (show (wsX100).all goodWord = true by decide +kernel) w h⟩
theorem q_inX11 : ∀ w ∈ wsX110, w ∈ q_tb := fun w h => List.mem_filter.mpr ⟨inX11 w h, List.all_eq_true.mp (show (wsX110).all goodWord = true by decide +kernel) w h⟩
theorem q_inX12 : ∀ w ∈ wsX120, w ∈ q_tb := fun w h => List.mem_filter.mpr ⟨inX12 w h, List.all_eq_true.mp (show (wsX120).all goodWord = true by decide +kernel) w h⟩
/-- what holds of each class of the worlds -/
theorem q_cl {ci : Nat} {C : String} {T : u_T} {N : Nat} (hc : vwCl[ci]? = some (C, T, N)) : (∀ w ∈ u_ws C T N, w ∈ q_tb) ∧ ∃ ty0 : Nat → FieldType, (∀ k, k < N → parseFieldDescriptor (T k).2.2.1 = some (ty0 k)) ∧ (∀ a, a < N → ∀ b, b < N → a ≠ b → (T a).2.1 ≠ (T b).2.1) := by
  match ci, hc with
  | 0, hc => cases hc; exact ⟨q_inJxb5711, fun _ => .int, fun k h => absurd h (Nat.not_lt_zero k), fun a h => absurd h (Nat.not_lt_zero a)⟩
  | 1, hc => cases hc; exact ⟨q_inX0, tyX0, tyX0_ok, nmX0⟩
  | 2, hc => cases hc; exact ⟨q_inX1, tyX1, tyX1_ok, nmX1⟩
  | 3, hc => cases hc; exact ⟨q_inX2, tyX2, tyX2_ok, nmX2⟩
  | 4, hc => cases hc; exact ⟨q_inX3, tyX3, tyX3_ok, nmX3⟩
  | 5, hc => cases hc; exact ⟨q_inX4, tyX4, tyX4_ok, nmX4⟩
  | 6, hc => cases hc; exact ⟨q_inX5, tyX5, tyX5_ok, nmX5⟩
  | 7, hc => cases hc; exact ⟨q_inX6, tyX6, tyX6_ok, nmX6⟩
  | 8, hc => cases hc; exact ⟨q_inX7, tyX7, tyX7_ok, nmX7⟩
  | 9, hc => cases hc; exact ⟨q_inX8, tyX8, tyX8_ok, nmX8⟩
  | 10, hc => cases hc; exact ⟨q_inX9, tyX9, tyX9_ok, nmX9⟩
  | 11, hc => cases hc; exact ⟨q_inX10, tyX10, tyX10_ok, nmX10⟩
  | 12, hc => cases hc; exact ⟨q_inX11, tyX11, tyX11_ok, nmX11⟩
  | 13, hc => cases hc; exact ⟨q_inX12, tyX12, tyX12_ok, nmX12⟩
  | ci + 14, hc => simp [vwCl] at hc
