/-! ===== the reference's codes and counts ===== -/
abbrev cod : Type := Int32 × Int32
def cds (h : qh) (p : Nat) : List cod → Prop
  | [] => True
  | x :: l => (h.I (p + 9) l.length = x.1 ∧ h.I (p + 10) l.length = x.2) ∧ cds h p l
theorem cds_to {h h' : qh} {p : Nat} : ∀ {l : List cod}, (∀ j, j < l.length → h'.I (p + 9) j = h.I (p + 9) j ∧ h'.I (p + 10) j = h.I (p + 10) j) → cds h p l → cds h' p l
  | [], _, _ => trivial
  | x :: l, e, ⟨⟨a1, a2⟩, b⟩ => by
    obtain ⟨e1, e2⟩ := e l.length (by simp)
    exact ⟨⟨e1.trans a1, e2.trans a2⟩, cds_to (fun j hj => e j (by simp; omega)) b⟩
def MC (p : Nat) (Cd : List cod) (h : qh) : Prop := h.I p 6 = Int32.ofNat Cd.length ∧ cds h p Cd
def MX (T : tkD) (p e a dp : Nat) (fk fp : Int32) (wk : Nat) (Cd : List cod) (Nm : List nmE) (h : qh) : Prop := MB T a dp fk fp h ∧ MC p Cd h ∧ h.I p 4 = Int32.ofNat wk ∧ MN T Nm h ∧ h.R 43 22 = some p ∧ h.R 43 42 = some e
def MXF (p : Nat) (h h' : qh) : Prop := (∀ o, o ≠ 43 → o ≠ p → o ≠ p + 9 → o ≠ p + 10 → h'.I o = h.I o) ∧ h'.L = h.L ∧ h'.R = h.R ∧ (∀ k, (k < 14 ∨ k = 16 ∨ 20 < k) → h'.I 43 k = h.I 43 k) ∧ (∀ k, k ≠ 4 → k ≠ 6 → h'.I p k = h.I p k)
theorem MXF.rf (p : Nat) (h : qh) : MXF p h h := ⟨fun _ _ _ _ _ => rfl, rfl, rfl, fun _ _ => rfl, fun _ _ _ => rfl⟩
theorem MXF.tr {p : Nat} {h h1 h2 : qh} (a : MXF p h h1) (b : MXF p h1 h2) : MXF p h h2 := ⟨fun o e1 e2 e3 e4 => (b.1 o e1 e2 e3 e4).trans (a.1 o e1 e2 e3 e4), b.2.1.trans a.2.1, b.2.2.1.trans a.2.2.1, fun k e => (b.2.2.2.1 k e).trans (a.2.2.2.1 k e), fun k e1 e2 => (b.2.2.2.2 k e1 e2).trans (a.2.2.2.2 k e1 e2)⟩
theorem prg_lt {p : Nat} (hq : q_prg p) : 51 ≤ p ∧ p ≤ 62 := by rcases hq with rfl | rfl <;> decide
theorem end_lt {p : Nat} (hq : q_end p) : 81 ≤ p ∧ p ≤ 82 := by rcases hq with rfl | rfl <;> decide
theorem R43.xf {p : Nat} {h h' : qh} (hq : q_prg p) (r : R43 h h') : MXF p h h' := ⟨fun o e _ _ _ => r.1 o e, r.2.1, r.2.2.1, r.2.2.2, fun k _ _ => by rw [r.1 p (by have := prg_lt hq; omega)]⟩
theorem MXF.sI {p : Nat} (hq : q_prg p) (h : qh) (o k : Nat) (v : Int32) (e : o = p + 9 ∨ o = p + 10 ∨ (o = p ∧ (k = 4 ∨ k = 6))) : MXF p h (h.sI o k v) := by
  have := prg_lt hq
  refine ⟨fun o' e1 e2 e3 e4 => sI_row h (by omega), rfl, rfl, fun k' _ => ?_, fun k' e1 e2 => ?_⟩
  · rw [sI_row h (by omega)]
  · rw [sI_I]; exact if_neg (by omega)
theorem MC.to {p : Nat} {Cd : List cod} {h h' : qh} (x : MC p Cd h) (e1 : h'.I p 6 = h.I p 6) (e2 : h'.I (p + 9) = h.I (p + 9)) (e3 : h'.I (p + 10) = h.I (p + 10)) : MC p Cd h' := ⟨e1.trans x.1, cds_to (fun j _ => by rw [e2, e3]; exact ⟨rfl, rfl⟩) x.2⟩
section MEXP
variable {G : qG} {d : Nat} {T : tkD} {p e a dp : Nat} {fk fp : Int32} {wk : Nat} {Cd : List cod} {Nm : List nmE} {hm : qh}
theorem MX.r43 {hm' : qh} {a' dp' : Nat} {fk' fp' : Int32} (x : MX T p e a dp fk fp wk Cd Nm hm) (hq : q_prg p) (b : MB T a' dp' fk' fp' hm') (r : R43 hm hm') : MX T p e a' dp' fk' fp' wk Cd Nm hm' := by
  have hp := prg_lt hq
  have e1 := r.1 p (by omega)
  exact ⟨b, x.2.1.to (by rw [e1]) (r.1 _ (by omega)) (r.1 _ (by omega)), by rw [e1]; exact x.2.2.1, r.mn x.2.2.2.1, by rw [r.2.2.1]; exact x.2.2.2.2.1, by rw [r.2.2.1]; exact x.2.2.2.2.2⟩
theorem m_code (hd : 1 ≤ d) (hq : q_prg p) (x : MX T p e a dp fk fp wk Cd Nm hm) (hl : Cd.length < 2000) (o t : Int32) : ∃ hm', mR G d yX12_code [.ref 43, .int o, .int t] hm rvv hm' ∧ MX T p e a dp fk fp wk ((o, t) :: Cd) Nm hm' ∧ MXF p hm hm' := by
  obtain ⟨d, rfl⟩ := Nat.exists_eq_add_of_le' hd
  have hp := prg_lt hq
  obtain ⟨x1, x2, x3, x4, x5, x6⟩ := x
  refine ⟨((hm.sI (p + 9) Cd.length o).sI (p + 10) Cd.length t).sI p 6 (Int32.ofNat (Cd.length + 1)), fun hx Q hQ => ?_, ⟨x1.to (fun q hq2 => ?_), ⟨?_, ⟨?_, ?_⟩, cds_to (fun j hj => ?_) x2.2⟩, ?_, x4.to ?_ (fun q _ _ => ?_), x5, x6⟩, ((MXF.sI hq _ _ _ _ (by omega)).tr (MXF.sI hq _ _ _ _ (by omega))).tr (MXF.sI hq _ _ _ _ (by omega))⟩
  · have hin := n_in (a := Cd.length) (n := 2000) (by omega) hl
    refine x_X12_code G d o t _ Q ⟨p, by rw [mRr (by decide)]; exact x5, hq, ?_⟩
    rw [mI (by omega), x2.1, n_N (by omega), n_add1, mg_sI_m (by omega), mg_sI_m (by omega), mg_sI_m (by omega)]
    exact ⟨hin, hin, hQ⟩
  · rw [sI_row _ (by omega), sI_row _ (by omega), sI_row _ (by omega)]
  · rw [sI_I]; exact if_pos ⟨rfl, rfl⟩
  · rw [sI_row _ (by omega), sI_row _ (by omega), sI_I]; exact if_pos ⟨rfl, rfl⟩
  · rw [sI_row _ (by omega), sI_I]; exact if_pos ⟨rfl, rfl⟩
  · simp only [sI_I]
    refine ⟨?_, ?_⟩ <;> (rw [if_neg (by omega), if_neg (by omega), if_neg (by omega)])
  · rw [sI_I, if_neg (by omega), sI_row _ (by omega), sI_row _ (by omega)]; exact x3
  · rw [sI_row _ (by omega), sI_row _ (by omega), sI_row _ (by omega)]
  · rw [sI_row _ (by omega), sI_row _ (by omega), sI_row _ (by omega)]
theorem m_part (hd : 2 ≤ d) (hq : q_prg p) (R : TR T) (x : MX T p e a dp fk fp wk Cd Nm hm) (hw : wk < 5000) {t : Nat} (ht : t < T.n) : ∃ hm', mR G d yX12_part [.ref 43, .int (Int32.ofNat t)] hm rvv hm' ∧ MX T p e a dp (wK fk fp (cnt wk) (T.p t)) (wP fk fp (cnt wk) (T.p t)) (wk + 1) Cd Nm hm' ∧ MXF p hm hm' := by
  obtain ⟨d, rfl⟩ := Nat.exists_eq_add_of_le' hd
  have hp := prg_lt hq
  obtain ⟨x1, x2, x3, x4, x5, x6⟩ := x
  have y : MX T p e a dp fk fp (wk + 1) Cd Nm (hm.sI p 4 (Int32.ofNat (wk + 1))) := by
    refine ⟨x1.to (fun q hq2 => sI_row _ (by omega)), x2.to ?_ (sI_row _ (by omega)) (sI_row _ (by omega)), ?_, x4.to ?_ (fun q _ _ => sI_row _ (by omega)), x5, x6⟩
    · rw [sI_I]; exact if_neg (by omega)
    · rw [sI_I]; exact if_pos ⟨rfl, rfl⟩
    · rw [sI_row _ (by omega)]
  have e1 : ∀ hx, (mg hx hm).I p 4 + 1 = Int32.ofNat (wk + 1) := fun hx => by rw [mI (by omega), x3, n_add1]
  have xf := MXF.sI hq hm p 4 (Int32.ofNat (wk + 1)) (by omega)
  by_cases h : wk + 1 ≤ 400
  · refine ⟨hm.sI p 4 (Int32.ofNat (wk + 1)), fun hx Q hQ => ?_, ?_, xf⟩
    · refine x_X12_part G (d + 1) _ _ Q ⟨p, by rw [mRr (by decide)]; exact x5, hq, fun _ => ?_, fun q => absurd ?_ q⟩
      · rw [e1, mg_sI_m (by omega)]; exact hQ
      · rw [e1]; exact (n_le (b := 400) (by omega) (by omega)).mpr h
    · have : cnt wk = 0 := if_pos h
      rw [this]; unfold wK wP; rw [if_pos rfl, if_pos rfl]; exact y
  · obtain ⟨h1, r1, r2, r3⟩ := m_wrong (G := G) (d := d + 1) (by omega) R y.1 ht (k := 6) (by decide)
    refine ⟨h1, fun hx Q hQ => ?_, ?_, xf.tr (r3.xf hq)⟩
    · refine x_X12_part G (d + 1) _ _ Q ⟨p, by rw [mRr (by decide)]; exact x5, hq, fun q => absurd q ?_, fun _ => ?_⟩
      · rw [e1]; exact fun q => h ((n_le (b := 400) (by omega) (by omega)).mp q)
      · rw [e1, mg_sI_m (by omega)]; exact r1 hx _ hQ
    · have : cnt wk = 6 := if_neg h
      rw [this]; exact y.r43 hq r2 r3
end MEXP
/-- a FAULT that was met ahead of token a, if there is one -/
def FG (T : tkD) (a : Nat) (fk fp : Int32) : Prop := (fk = 0 ∧ fp = -1) ∨ (¬ fk ≤ 0 ∧ fk ≤ 6 ∧ ∃ q : Nat, fp = Int32.ofNat q ∧ q < T.pn a)
theorem FG.lt {T : tkD} {a : Nat} {fk fp : Int32} (R : TR T) (ha : a < T.n) (f : FG T a fk fp) (h0 : ¬ fk = 0) : ¬ fk ≤ 0 ∧ fk ≤ 6 ∧ fp < T.p a := by
  rcases f with ⟨e, _⟩ | ⟨e1, e2, q, e3, e4⟩
  · exact absurd e h0
  · have := R.2.2.2.2.1 a ha
    exact ⟨e1, e2, by rw [e3, this.1]; exact (n_lt (by omega) (by omega)).mpr e4⟩
/-- blamed by the class, wrong by the reference: the same -/
theorem wK_eq {fk fp k p : Int32} (h : ¬ fk = 0 → ¬ fk ≤ 0 ∧ fp < p) : wK fk fp k p = bK fk k ∧ wP fk fp k p = bP fk fp k p := by
  unfold wK wP bK bP
  by_cases h0 : fk = 0
  · subst h0
    by_cases hk : k = 0
    · subst hk; simp
    · simp [hk]
  · obtain ⟨a, b⟩ := h h0
    simp [a, b, h0]
/-- the reference counts first and then looks at the NAME; the class the other way round -/
theorem wK_two {fk fp k1 k2 p : Int32} (h : ¬ fk = 0 → ¬ fk ≤ 0 ∧ fp < p) (h1 : k1 = 0 ∨ k1 = 6) (h2 : k2 = 0 ∨ k2 = 3 ∨ k2 = 4) : wK (wK fk fp k1 p) (wP fk fp k1 p) k2 p = bK (bK fk k2) k1 ∧ wP (wK fk fp k1 p) (wP fk fp k1 p) k2 p = bP (bK fk k2) (bP fk fp k2 p) k1 p := by
  obtain ⟨a1, a2⟩ := wK_eq (k := k1) h
  rw [a1, a2]
  by_cases h0 : fk = 0
  · subst h0
    rcases h1 with rfl | rfl <;> rcases h2 with rfl | rfl | rfl <;> simp [wK, wP, bK, bP]
  · obtain ⟨b1, b2⟩ := wK_eq (k := k2) h
    have e1 : bK fk k1 = fk := if_neg h0
    have e2 : bP fk fp k1 p = fp := if_neg (fun q => h0 q.1)
    have e3 : bK fk k2 = fk := if_neg h0
    have e4 : bP fk fp k2 p = fp := if_neg (fun q => h0 q.1)
    rw [e1, e2, b1, b2, e3, e4, e1, e2]
    exact ⟨rfl, rfl⟩
/-- a FAULT blamed at token a is one that was met ahead of a later token -/
theorem FG.blame {T : tkD} {a b : Nat} {fk fp k : Int32} (R : TR T) (ha : a < T.n) (f : FG T a fk fp) (hk : k = 0 ∨ (¬ k ≤ 0 ∧ k ≤ 6)) (hb : T.pn a < T.pn b) : FG T b (bK fk k) (bP fk fp k (T.p a)) := by
  unfold bK bP
  rcases f with ⟨e, e'⟩ | ⟨e1, e2, q, e3, e4⟩
  · rw [if_pos e]
    rcases hk with hk | hk
    · rw [if_neg (fun q => q.2 hk)]; exact Or.inl ⟨hk, e'⟩
    · have h0 : ¬ k = 0 := fun q => hk.1 (by rw [q]; decide)
      rw [if_pos ⟨e, h0⟩]
      exact Or.inr ⟨hk.1, hk.2, T.pn a, (R.2.2.2.2.1 a ha).1, hb⟩
  · have h0 : ¬ fk = 0 := fun q => e1 (by rw [q]; decide)
    rw [if_neg h0, if_neg (fun q => h0 q.1)]
    exact Or.inr ⟨e1, e2, q, e3, by omega⟩
theorem FG.next {T : tkD} {a b : Nat} {fk fp : Int32} (f : FG T a fk fp) (hb : T.pn a ≤ T.pn b) : FG T b fk fp := by
  rcases f with e | ⟨e1, e2, q, e3, e4⟩
  · exact Or.inl e
  · exact Or.inr ⟨e1, e2, q, e3, by omega⟩
theorem tk_pn {T : tkD} (R : TR T) {a : Nat} (ha : a + 1 < T.n) : T.pn a < T.pn (a + 1) := (R.2.2.2.2.2.1 a ha).1
theorem cnt_or (wk : Nat) : cnt wk = 0 ∨ (¬ cnt wk ≤ 0 ∧ cnt wk ≤ 6) := by
  unfold cnt
  split
  · exact Or.inl rfl
  · exact Or.inr (by decide)
theorem cnt_or' (wk : Nat) : cnt wk = 0 ∨ cnt wk = 6 := by
  unfold cnt
  split
  · exact Or.inl rfl
  · exact Or.inr rfl
theorem bK_zero {fk k : Int32} (h : bK fk k = 0) : fk = 0 ∧ k = 0 := by
  unfold bK at h
  split at h
  · rename_i e; exact ⟨e, h⟩
  · rename_i e; exact absurd h e
theorem bK_keep {fk fp k p : Int32} (h : ¬ fk = 0) : bK fk k = fk ∧ bP fk fp k p = fp := ⟨if_neg h, if_neg (fun q => h q.1)⟩
