/-! ===== the class's circuit and formula, step by step ===== -/
/-- a row that holds these, the latest first -/
def stk (r : Nat → Int32) : List Int32 → Prop
  | [] => True
  | x :: l => r l.length = x ∧ stk r l
theorem stk_to {r r' : Nat → Int32} : ∀ {l : List Int32}, (∀ j, j < l.length → r' j = r j) → stk r l → stk r' l
  | [], _, _ => trivial
  | x :: l, h, ⟨a, b⟩ => ⟨(h _ (by simp)).trans a, stk_to (fun j hj => h j (by simp; omega)) b⟩
abbrev prt : Type := Int32 × Int32 × Int32 × Int32
def prts (h : qh) (c : Nat) : List prt → Prop
  | [] => True
  | x :: l => (h.I (c + 1) l.length = x.1 ∧ h.I (c + 2) l.length = x.2.1 ∧ h.I (c + 3) l.length = x.2.2.1 ∧ h.I (c + 4) l.length = x.2.2.2) ∧ prts h c l
theorem prts_to {h h' : qh} {c : Nat} : ∀ {l : List prt}, (∀ j, j < l.length → h'.I (c + 1) j = h.I (c + 1) j ∧ h'.I (c + 2) j = h.I (c + 2) j ∧ h'.I (c + 3) j = h.I (c + 3) j ∧ h'.I (c + 4) j = h.I (c + 4) j) → prts h c l → prts h' c l
  | [], _, _ => trivial
  | x :: l, e, ⟨⟨a1, a2, a3, a4⟩, b⟩ => by
    obtain ⟨e1, e2, e3, e4⟩ := e l.length (by simp)
    exact ⟨⟨e1.trans a1, e2.trans a2, e3.trans a3, e4.trans a4⟩, prts_to (fun j hj => e j (by simp; omega)) b⟩
/-- the circuit c has these parts -/
def CC (c : Nat) (Pt : List prt) (h : qh) : Prop := h.I c 6 = Int32.ofNat Pt.length ∧ Pt.length ≤ 1400 ∧ prts h c Pt
/-- the circuit's count of parts is one -/
def cOK (c : Nat) (h : qh) : Prop := ∃ P : Nat, P ≤ 1400 ∧ h.I c 6 = Int32.ofNat P
theorem cOK.to {c : Nat} {h h' : qh} (e : h'.I c 6 = h.I c 6) (x : cOK c h) : cOK c h' := by
  obtain ⟨P, a, b⟩ := x
  exact ⟨P, a, e.trans b⟩
def Rc (c : Nat) (h h' : qh) : Prop := (∀ o, ¬ (c ≤ o ∧ o ≤ c + 4) → h'.I o = h.I o) ∧ h'.L = h.L ∧ (h'.R = h.R ∧ (cOK c h → cOK c h')) ∧ (∀ k, k ≠ 6 → h'.I c k = h.I c k)
theorem Rc.rf (c : Nat) (h : qh) : Rc c h h := ⟨fun _ _ => rfl, rfl, ⟨rfl, id⟩, fun _ _ => rfl⟩
theorem Rc.tr {c : Nat} {h h1 h2 : qh} (a : Rc c h h1) (b : Rc c h1 h2) : Rc c h h2 := ⟨fun o e => (b.1 o e).trans (a.1 o e), b.2.1.trans a.2.1, ⟨b.2.2.1.1.trans a.2.2.1.1, fun x => b.2.2.1.2 (a.2.2.1.2 x)⟩, fun k e => (b.2.2.2 k e).trans (a.2.2.2 k e)⟩
theorem Rc.sI (c : Nat) (h : qh) (o k : Nat) (v : Int32) (e : (c < o ∧ o ≤ c + 4) ∨ (o = c ∧ k = 6 ∧ ∃ P : Nat, P ≤ 1400 ∧ v = Int32.ofNat P)) : Rc c h (h.sI o k v) := by
  refine ⟨fun o' e' => sI_row h (fun q => e' (by omega)), rfl, ⟨rfl, fun x => ?_⟩, fun k' e' => ?_⟩
  · rcases e with e | ⟨rfl, rfl, P, e1, e2⟩
    · exact x.to (by rw [sI_row _ (by omega)])
    · exact ⟨P, e1, by rw [sI_I, if_pos ⟨rfl, rfl⟩]; exact e2⟩
  rw [sI_I]
  exact if_neg (by omega)
theorem CC.to {c : Nat} {Pt : List prt} {h h' : qh} (x : CC c Pt h) (e : ∀ o, c ≤ o → o ≤ c + 4 → h'.I o = h.I o) : CC c Pt h' := by
  refine ⟨by rw [e c (by omega) (by omega)]; exact x.1, x.2.1, prts_to (fun j _ => ?_) x.2.2⟩
  rw [e (c + 1) (by omega) (by omega), e (c + 2) (by omega) (by omega), e (c + 3) (by omega) (by omega), e (c + 4) (by omega) (by omega)]
  exact ⟨rfl, rfl, rfl, rfl⟩
theorem cir_lt {c : Nat} (hq : q_cir c) : c ≤ 8 := by rcases hq with rfl | rfl <;> decide
section CFORM
variable {G : qG} {d c : Nat} {Pt : List prt} {hc : qh}
theorem c_lay (hd : 1 ≤ d) (hq : q_cir c) (x : CC c Pt hc) (k l r t : Int32) : ∃ hc' v Pt', cR G d yX0_lay [.ref c, .int k, .int l, .int r, .int t] hc (riv v) hc' ∧ CC c Pt' hc' ∧ Rc c hc hc' ∧ (Pt.length < 1400 → v = Int32.ofNat Pt.length ∧ Pt' = (k, l, r, t) :: Pt) ∧ (¬ Pt.length < 1400 → Pt' = Pt) := by
  obtain ⟨d, rfl⟩ := Nat.exists_eq_add_of_le' hd
  have hc8 := cir_lt hq
  obtain ⟨x1, x2, x3⟩ := x
  by_cases hP : Pt.length < 1400
  · refine ⟨((((hc.sI (c + 1) Pt.length k).sI (c + 2) Pt.length l).sI (c + 3) Pt.length r).sI (c + 4) Pt.length t).sI c 6 (Int32.ofNat (Pt.length + 1)), Int32.ofNat Pt.length, (k, l, r, t) :: Pt, fun hx Q hQ => ?_, ?_, ?_, fun _ => ⟨rfl, rfl⟩, fun q => absurd hP q⟩
    · refine x_X0_lay G d c k l r t _ Q hq ⟨fun _ => ?_, fun q => absurd ?_ q⟩
      · have hin := n_in (a := Pt.length) (n := 1400) (by omega) hP
        rw [mg_I, if_pos (by omega), x1, n_add1, n_sub1, n_N (by omega), mg_sI_c (by omega), mg_sI_c (by omega), mg_sI_c (by omega), mg_sI_c (by omega), mg_sI_c (by omega)]
        exact ⟨hin, hin, hin, hin, hQ⟩
      · rw [mg_I, if_pos (by omega), x1]
        exact (n_lt (b := 1400) (by omega) (by omega)).mpr hP
    · refine ⟨by rw [sI_I]; exact if_pos ⟨rfl, rfl⟩, hP, ?_, prts_to (fun j hj => ?_) x3⟩
      · simp only [sI_I, Nat.add_left_cancel_iff, Nat.reduceEqDiff, and_true, and_self, and_false, false_and, true_and, if_true, if_false]
        rw [if_neg (by omega), if_neg (by omega), if_neg (by omega), if_neg (by omega)]
        exact ⟨rfl, rfl, rfl, rfl⟩
      · simp only [sI_I]
        refine ⟨?_, ?_, ?_, ?_⟩ <;> (rw [if_neg (by omega), if_neg (by omega), if_neg (by omega), if_neg (by omega), if_neg (by omega)])
    · exact (((Rc.sI c _ _ _ _ (Or.inl (by omega))).tr (Rc.sI c _ _ _ _ (Or.inl (by omega)))).tr ((Rc.sI c _ _ _ _ (Or.inl (by omega))).tr (Rc.sI c _ _ _ _ (Or.inl (by omega))))).tr (Rc.sI c _ _ _ _ (Or.inr ⟨rfl, rfl, Pt.length + 1, hP, rfl⟩))
  · refine ⟨hc, -1, Pt, fun hx Q hQ => ?_, ⟨x1, x2, x3⟩, Rc.rf _ _, fun q => absurd q hP, fun _ => rfl⟩
    refine x_X0_lay G d c k l r t _ Q hq ⟨fun q => absurd q ?_, fun _ => hQ⟩
    rw [mg_I, if_pos (by omega), x1]
    exact fun q => hP ((n_lt (b := 1400) (by omega) (by omega)).mp q)
/-- how much a sign of two binds -/
def lvl (x : Int32) : Nat := if x = 37 then 10 else if x = 38 then 5 else if x = 42 then 10 else if x = 43 then 9 else if x = 45 then 9 else if x = 47 then 10 else if x = 60 then 7 else if x = 62 then 7 else if x = 94 then 4 else if x = 124 then 3 else if x = 8509 then 6 else if x = 9766 then 2 else if x = 15420 then 8 else if x = 15421 then 7 else if x = 15677 then 6 else if x = 15933 then 7 else if x = 15934 then 8 else if x = 31868 then 1 else 0
theorem ite_le10 {c : Prop} [Decidable c] {a b : Nat} (h1 : a ≤ 10) (h2 : b ≤ 10) : (if c then a else b) ≤ 10 := by split <;> assumption
theorem lvl_le (x : Int32) : lvl x ≤ 10 := by
  unfold lvl
  repeat (refine ite_le10 (by decide) ?_)
  decide
theorem c_levelOf (hd : 1 ≤ d) (x : Int32) (hc : qh) : cR G d yX1_levelOf [.int x] hc (riv (Int32.ofNat (lvl x))) hc := by
  obtain ⟨d, rfl⟩ := Nat.exists_eq_add_of_le' hd
  intro hx Q hQ
  refine x_X1_levelOf G d x _ Q ⟨?_, ?_, ?_, ?_, ?_, ?_, ?_, ?_, ?_, ?_, ?_, ?_, ?_, ?_, ?_, ?_, ?_, ?_, ?_⟩
  case refine_19 =>
    rintro ⟨h1, h2, h3, h4, h5, h6, h7, h8, h9, h10, h11, h12, h13, h14, h15, h16, h17, h18⟩
    simp only [lvl, h1, h2, h3, h4, h5, h6, h7, h8, h9, h10, h11, h12, h13, h14, h15, h16, h17, h18, if_false] at hQ
    exact hQ
  all_goals (intro h; subst h; exact hQ)
theorem c_max (hd : 1 ≤ d) (x y : Int32) (hc : qh) : cR G d yJ9_max_7cf53 [.int x, .int y] hc (riv (if x < y then y else x)) hc := by
  obtain ⟨d, rfl⟩ := Nat.exists_eq_add_of_le' hd
  exact fun hx Q hQ => x_J9_max_7cf53 G d x y _ Q hQ
/-- the formula: what waits, with its ARRAYS, the parts that are not taken, how many were worked, whether an operand is wanted -/
def CF (Wt Wi Mk : List Int32) (wk : Nat) (wn : Int32) (h : qh) : Prop := h.I 27 6 = Int32.ofNat Wt.length ∧ Wi.length = Wt.length ∧ Wt.length ≤ 186 ∧ stk (h.I 28) Wt ∧ stk (h.I 29) Wi ∧ h.I 27 7 = Int32.ofNat Mk.length ∧ Mk.length ≤ 187 ∧ stk (h.I 30) Mk ∧ h.I 27 8 = Int32.ofNat wk ∧ h.I 27 9 = wn
def R27 (h h' : qh) : Prop := (∀ o, ¬ (27 ≤ o ∧ o ≤ 30) → h'.I o = h.I o) ∧ h'.L = h.L ∧ h'.R = h.R
theorem R27.rf (h : qh) : R27 h h := ⟨fun _ _ => rfl, rfl, rfl⟩
theorem R27.tr {h h1 h2 : qh} (a : R27 h h1) (b : R27 h1 h2) : R27 h h2 := ⟨fun o e => (b.1 o e).trans (a.1 o e), b.2.1.trans a.2.1, b.2.2.trans a.2.2⟩
theorem R27.sI (h : qh) (o k : Nat) (v : Int32) (e : 27 ≤ o ∧ o ≤ 30) : R27 h (h.sI o k v) := ⟨fun o' e' => sI_row h (fun q => e' (by omega)), rfl, rfl⟩
variable {Wt Wi Mk : List Int32} {wk : Nat} {wn : Int32}
theorem CF.to {h h' : qh} (x : CF Wt Wi Mk wk wn h) (e : ∀ o, 27 ≤ o → o ≤ 30 → h'.I o = h.I o) : CF Wt Wi Mk wk wn h' := by
  unfold CF
  rw [e 27 (by decide) (by decide), e 28 (by decide) (by decide), e 29 (by decide) (by decide), e 30 (by decide) (by decide)]
  exact x
theorem CF.want (x : CF Wt Wi Mk wk wn hc) (v : Int32) : CF Wt Wi Mk wk v (hc.sI 27 9 v) := by
  obtain ⟨x1, x2, x3, x4, x5, x6, x7, x8, x9, x10⟩ := x
  simp only [CF, sI_I, Nat.reduceEqDiff, and_false, and_true, and_self, if_true, if_false]
  refine ⟨x1, x2, x3, ?_, ?_, x6, x7, ?_, x9⟩
  · rw [sI_row _ (by decide)]; exact x4
  · rw [sI_row _ (by decide)]; exact x5
  · rw [sI_row _ (by decide)]; exact x8
theorem CF.drop {s t : Int32} (x : CF (s :: Wt) (t :: Wi) Mk wk wn hc) : CF Wt Wi Mk wk wn (hc.sI 27 6 (Int32.ofNat Wt.length)) := by
  obtain ⟨x1, x2, x3, x4, x5, x6, x7, x8, x9, x10⟩ := x
  simp only [CF, sI_I, Nat.reduceEqDiff, and_false, and_true, and_self, if_true, if_false]
  refine ⟨trivial, by simpa using x2, by simp at x3; omega, ?_, ?_, x6, x7, ?_, x9, x10⟩
  · rw [sI_row _ (by decide)]; exact x4.2
  · rw [sI_row _ (by decide)]; exact x5.2
  · rw [sI_row _ (by decide)]; exact x8
theorem CF.work (x : CF Wt Wi Mk wk wn hc) (v : Nat) : CF Wt Wi Mk v wn (hc.sI 27 8 (Int32.ofNat v)) := by
  obtain ⟨x1, x2, x3, x4, x5, x6, x7, x8, x9, x10⟩ := x
  simp only [CF, sI_I, Nat.reduceEqDiff, and_false, and_true, and_self, if_true, if_false]
  refine ⟨x1, x2, x3, ?_, ?_, x6, x7, ?_, trivial, x10⟩
  · rw [sI_row _ (by decide)]; exact x4
  · rw [sI_row _ (by decide)]; exact x5
  · rw [sI_row _ (by decide)]; exact x8
theorem c_await (hd : 1 ≤ d) (x : CF Wt Wi Mk wk wn hc) (hw : Wt.length < 186) (s t : Int32) : ∃ hc', cR G d yX1_await [.ref 27, .int s, .int t] hc (riv 1) hc' ∧ CF (s :: Wt) (t :: Wi) Mk wk wn hc' ∧ R27 hc hc' := by
  obtain ⟨d, rfl⟩ := Nat.exists_eq_add_of_le' hd
  obtain ⟨x1, x2, x3, x4, x5, x6, x7, x8, x9, x10⟩ := x
  refine ⟨((hc.sI 28 Wt.length s).sI 29 Wt.length t).sI 27 6 (Int32.ofNat (Wt.length + 1)), fun hx Q hQ => ?_, ?_, ((R27.sI _ _ _ _ (by decide)).tr (R27.sI _ _ _ _ (by decide))).tr (R27.sI _ _ _ _ (by decide))⟩
  · refine x_X1_await G d s t _ Q ?_
    simp only [mg_I, Nat.reduceLT, if_true, x1, n_add1, n_N (show Wt.length < 2147483648 by omega), mg_sI_c (show 27 < 43 by decide), mg_sI_c (show 28 < 43 by decide), mg_sI_c (show 29 < 43 by decide)]
    have hin := n_in (a := Wt.length) (n := 186) (by omega) hw
    exact ⟨fun q => absurd q (n_nneg (by omega)), fun _ => ⟨fun _ => ⟨hin, hin, hQ⟩, fun q => absurd ((n_lt (b := 186) (by omega) (by omega)).mpr hw) q⟩⟩
  · simp only [CF, sI_I, Nat.reduceEqDiff, and_false, and_true, and_self, false_and, if_true, if_false, List.length_cons]
    refine ⟨trivial, by omega, by omega, ⟨?_, stk_to (fun j hj => ?_) x4⟩, ⟨?_, stk_to (fun j hj => ?_) x5⟩, x6, x7, ?_, x9, x10⟩
    · simp only [sI_I, Nat.reduceEqDiff, and_true, false_and, if_true, if_false]
    · simp only [sI_I, Nat.reduceEqDiff, false_and, true_and, if_false]; exact if_neg (by omega)
    · simp only [sI_I, Nat.reduceEqDiff, x2, and_true, false_and, if_true, if_false]
    · simp only [sI_I, Nat.reduceEqDiff, false_and, true_and, if_false]; exact if_neg (by omega)
    · rw [sI_row _ (by decide), sI_row _ (by decide), sI_row _ (by decide)]; exact x8
theorem c_last (hd : 1 ≤ d) {s : Int32} (x : CF (s :: Wt) Wi Mk wk wn hc) : cR G d yX1_lastWaiting [.ref 27] hc (riv s) hc := by
  obtain ⟨d, rfl⟩ := Nat.exists_eq_add_of_le' hd
  obtain ⟨x1, x2, x3, x4, x5, x6, x7, x8, x9, x10⟩ := x
  intro hx Q hQ
  refine x_X1_lastWaiting G d _ Q ?_
  rw [List.length_cons] at x1 x3
  simp only [mg_I, Nat.reduceLT, if_true, x1, n_sub1, n_N (show Wt.length < 2147483648 by omega)]
  have hin := n_in (a := Wt.length) (n := 186) (by omega) (by omega)
  refine ⟨fun q => absurd ((n_le (b := 0) (by omega) (by omega)).mp q) (by omega), fun _ => ⟨fun q => absurd ((n_lt (a := 186) (by omega) (by omega)).mp q) (by omega), fun _ => ⟨hin, ?_⟩⟩⟩
  rw [x4.1]
  exact hQ
theorem c_last0 (hd : 1 ≤ d) (x : CF [] Wi Mk wk wn hc) : cR G d yX1_lastWaiting [.ref 27] hc (riv 0) hc := by
  obtain ⟨d, rfl⟩ := Nat.exists_eq_add_of_le' hd
  obtain ⟨x1, x2, x3, x4, x5, x6, x7, x8, x9, x10⟩ := x
  intro hx Q hQ
  refine x_X1_lastWaiting G d _ Q ?_
  simp only [mg_I, Nat.reduceLT, if_true, x1]
  exact ⟨fun _ => hQ, fun q => absurd (by decide) q⟩
theorem c_push (hd : 1 ≤ d) (x : CF Wt Wi Mk wk wn hc) (hm : Mk.length < 187) (v : Int32) : ∃ hc', cR G d yX1_push [.ref 27, .int v] hc rvv hc' ∧ CF Wt Wi (v :: Mk) wk wn hc' ∧ R27 hc hc' := by
  obtain ⟨d, rfl⟩ := Nat.exists_eq_add_of_le' hd
  obtain ⟨x1, x2, x3, x4, x5, x6, x7, x8, x9, x10⟩ := x
  refine ⟨(hc.sI 30 Mk.length v).sI 27 7 (Int32.ofNat (Mk.length + 1)), fun hx Q hQ => ?_, ?_, (R27.sI _ _ _ _ (by decide)).tr (R27.sI _ _ _ _ (by decide))⟩
  · refine x_X1_push G d v _ Q ?_
    simp only [mg_I, Nat.reduceLT, if_true, x6, n_add1, n_N (show Mk.length < 2147483648 by omega), mg_sI_c (show 27 < 43 by decide), mg_sI_c (show 30 < 43 by decide)]
    exact ⟨fun q => absurd q (n_nneg (by omega)), fun _ => ⟨fun q => absurd ((n_lt (a := 186) (by omega) (by omega)).mp q) (by omega), fun _ => ⟨n_in (by omega) hm, hQ⟩⟩⟩
  · simp only [CF, sI_I, Nat.reduceEqDiff, and_false, and_true, and_self, false_and, if_true, if_false, List.length_cons]
    refine ⟨x1, x2, x3, ?_, ?_, trivial, by omega, ⟨?_, stk_to (fun j hj => ?_) x8⟩, x9, x10⟩
    · rw [sI_row _ (by decide), sI_row _ (by decide)]; exact x4
    · rw [sI_row _ (by decide), sI_row _ (by decide)]; exact x5
    · simp only [sI_I, Nat.reduceEqDiff, and_true, false_and, if_true, if_false]
    · simp only [sI_I, Nat.reduceEqDiff, false_and, true_and, if_false]; exact if_neg (by omega)
theorem c_pop (hd : 1 ≤ d) {v : Int32} (x : CF Wt Wi (v :: Mk) wk wn hc) : ∃ hc', cR G d yX1_pop [.ref 27] hc (riv v) hc' ∧ CF Wt Wi Mk wk wn hc' ∧ R27 hc hc' ∧ ∀ o, o ≠ 27 → hc'.I o = hc.I o := by
  obtain ⟨d, rfl⟩ := Nat.exists_eq_add_of_le' hd
  obtain ⟨x1, x2, x3, x4, x5, x6, x7, x8, x9, x10⟩ := x
  rw [List.length_cons] at x6 x7
  refine ⟨hc.sI 27 7 (Int32.ofNat Mk.length), fun hx Q hQ => ?_, ?_, R27.sI _ _ _ _ (by decide), fun o e => sI_row _ e⟩
  · refine x_X1_pop G d _ Q ?_
    simp only [mg_I, Nat.reduceLT, if_true, x6, n_sub1, n_N (show Mk.length < 2147483648 by omega), mg_sI_c (show 27 < 43 by decide)]
    refine ⟨fun q => absurd ((n_le (b := 0) (by omega) (by omega)).mp q) (by omega), fun _ => ⟨fun _ => ⟨n_in (by omega) (by omega), ?_⟩, fun q => absurd ((n_le (b := 187) (by omega) (by omega)).mpr (by omega)) q⟩⟩
    rw [x8.1]
    exact hQ
  · simp only [CF, sI_I, Nat.reduceEqDiff, and_false, and_true, and_self, false_and, if_true, if_false]
    refine ⟨x1, x2, x3, ?_, ?_, trivial, by omega, ?_, x9, x10⟩
    · rw [sI_row _ (by decide)]; exact x4
    · rw [sI_row _ (by decide)]; exact x5
    · rw [sI_row _ (by decide)]; exact x8.2
theorem c_result (hd : 2 ≤ d) {v : Int32} (x : CF Wt Wi (v :: Mk) wk wn hc) : ∃ hc', cR G d yX1_result [.ref 27] hc (riv v) hc' ∧ CF Wt Wi Mk wk wn hc' ∧ R27 hc hc' := by
  obtain ⟨d, rfl⟩ := Nat.exists_eq_add_of_le' hd
  obtain ⟨h1, r1, r2, r3, -⟩ := c_pop (G := G) (d := d + 1) (by omega) x
  exact ⟨h1, fun hx Q hQ => x_X1_result G (d + 1) _ Q (r1 hx _ hQ), r2, r3⟩
/-! the reading does not touch the formula and the circuit, and so on -/
theorem R22.cf {h h' : qh} (r : R22 h h') (x : CF Wt Wi Mk wk wn h) : CF Wt Wi Mk wk wn h' := x.to (fun o a b => r.1 o (by omega))
theorem R22.cc {h h' : qh} (r : R22 h h') (hq : q_cir c) (x : CC c Pt h) : CC c Pt h' := x.to (fun o a b => r.1 o (by have := cir_lt hq; omega))
theorem R27.cb {T : tkD} {a dp : Nat} {fk fp : Int32} {h h' : qh} (r : R27 h h') (x : CB T a dp fk fp h) : CB T a dp fk fp h' := x.to (r.1 22 (by decide)) (by rw [r.2.1]) (r.1 17 (by decide)) (r.1 18 (by decide)) (r.1 19 (by decide)) (by rw [r.2.1])
theorem R27.cc {h h' : qh} (r : R27 h h') (hq : q_cir c) (x : CC c Pt h) : CC c Pt h' := x.to (fun o a b => r.1 o (by have := cir_lt hq; omega))
theorem Rc.cb {T : tkD} {a dp : Nat} {fk fp : Int32} {h h' : qh} (r : Rc c h h') (hq : q_cir c) (x : CB T a dp fk fp h) : CB T a dp fk fp h' := by
  have := cir_lt hq
  exact x.to (r.1 22 (by omega)) (by rw [r.2.1]) (r.1 17 (by omega)) (r.1 18 (by omega)) (r.1 19 (by omega)) (by rw [r.2.1])
theorem Rc.cf {h h' : qh} (r : Rc c h h') (hq : q_cir c) (x : CF Wt Wi Mk wk wn h) : CF Wt Wi Mk wk wn h' := x.to (fun o a b => r.1 o (by have := cir_lt hq; omega))
theorem c_counts (hd : 2 ≤ d) {T : tkD} {a dp : Nat} {fk fp : Int32} (b : CB T a dp fk fp hc) (x : CF Wt Wi Mk wk wn hc) (hw : wk < 5000) (p : Int32) : ∃ hc', cR G d yX1_countWorked [.ref 27, .int p] hc rvv hc' ∧ CB T a dp (bK fk (if wk + 1 ≤ 400 then 0 else 6)) (bP fk fp (if wk + 1 ≤ 400 then 0 else 6) p) hc' ∧ CF Wt Wi Mk (wk + 1) wn hc' ∧ (∃ h1, R27 hc h1 ∧ R22 h1 hc') := by
  obtain ⟨d, rfl⟩ := Nat.exists_eq_add_of_le' hd
  have r27 := R27.sI hc 27 8 (Int32.ofNat (wk + 1)) (by decide)
  obtain ⟨h1, r1, r2, r3⟩ := c_blame (G := G) (d := d + 1) (by omega) (r27.cb b) (if wk + 1 ≤ 400 then 0 else 6) p
  refine ⟨h1, fun hx Q hQ => x_X1_countWorked G (d + 1) p _ Q ?_, r2, r3.cf (x.work _), _, r27, r3⟩
  have e : (if Int32.ofNat (wk + 1) ≤ 400 then (0 : Int32) else 6) = (if wk + 1 ≤ 400 then 0 else 6) := by
    have := n_le (a := wk + 1) (b := 400) (by omega) (by omega)
    by_cases h : wk + 1 ≤ 400
    · rw [if_pos h]; exact if_pos (this.mpr h)
    · rw [if_neg h]; exact if_neg (fun q => h (this.mp q))
  simp only [mg_I, Nat.reduceLT, if_true, x.2.2.2.2.2.2.2.2.1, n_add1, mg_sI_c (show 27 < 43 by decide), e]
  exact r1 hx _ hQ
theorem c_layOperand (hd : 2 ≤ d) (hq : q_cir c) (hr : hc.R 27 5 = some c) (x : CC c Pt hc) (y : CF Wt Wi Mk wk wn hc) (hm : Mk.length < 187) (k l t : Int32) : ∃ hc' v Pt', cR G d yX1_layOperand [.ref 27, .int k, .int l, .int t] hc rvv hc' ∧ CC c Pt' hc' ∧ CF Wt Wi (v :: Mk) wk 0 hc' ∧ (∃ h1, Rc c hc h1 ∧ R27 h1 hc') ∧ (Pt.length < 1400 → v = Int32.ofNat Pt.length ∧ Pt' = (k, l, -1, t) :: Pt) ∧ (¬ Pt.length < 1400 → Pt' = Pt) := by
  obtain ⟨d, rfl⟩ := Nat.exists_eq_add_of_le' hd
  obtain ⟨h1, v, Pt', a1, a2, a3, a4, a5⟩ := c_lay (G := G) (d := d + 1) (by omega) hq x k l (-1) t
  obtain ⟨h2, b1, b2, b3⟩ := c_push (G := G) (d := d + 1) (by omega) (a3.cf hq y) hm v
  have r27 := R27.sI h2 27 9 0 (by decide)
  refine ⟨h2.sI 27 9 0, v, Pt', fun hx Q hQ => x_X1_layOperand G (d + 1) k l t _ Q ⟨c, by rw [mg_R, if_pos (by decide)]; exact hr, hq, a1 hx _ (b1 hx _ ?_)⟩, r27.cc hq (b3.cc hq a2), b2.want 0, ⟨h1, a3, b3.tr r27⟩, a4, a5⟩
  show Q _ ((mg h2 hx).sI 27 9 0)
  rw [mg_sI_c (by decide)]
  exact hQ
end CFORM
