/-! ===== the reference's reading, step by step ===== -/
def MB (T : tkD) (a dp : Nat) (fk fp : Int32) (h : qh) : Prop := (h.I 43 14 = Int32.ofNat a ∧ h.I 43 15 = Int32.ofNat dp ∧ h.I 43 19 = fk ∧ (¬ fk = 0 → h.I 43 20 = fp) ∧ h.I 43 17 = 0) ∧ h.I 46 = T.tx ∧ h.I 47 = T.km ∧ h.I 48 = T.fm ∧ h.I 49 = T.vm
def MFail (k p : Int32) (h : qh) : Prop := h.I 43 17 = k ∧ h.I 43 18 = p
def R43 (h h' : qh) : Prop := (∀ o, o ≠ 43 → h'.I o = h.I o) ∧ h'.L = h.L ∧ h'.R = h.R ∧ (∀ k, (k < 14 ∨ k = 16 ∨ 20 < k) → h'.I 43 k = h.I 43 k)
theorem R43.rf (h : qh) : R43 h h := ⟨fun _ _ => rfl, rfl, rfl, fun _ _ => rfl⟩
theorem R43.tr {h h1 h2 : qh} (a : R43 h h1) (b : R43 h1 h2) : R43 h h2 := ⟨fun o e => (b.1 o e).trans (a.1 o e), b.2.1.trans a.2.1, b.2.2.1.trans a.2.2.1, fun k e => (b.2.2.2 k e).trans (a.2.2.2 k e)⟩
theorem R43.sI (h : qh) (k : Nat) (v : Int32) (e : k = 14 ∨ k = 15 ∨ (17 ≤ k ∧ k ≤ 20)) : R43 h (h.sI 43 k v) := by
  refine ⟨fun o' e' => sI_row h e', rfl, rfl, fun k' e' => ?_⟩
  rw [sI_I]
  exact if_neg (by omega)
theorem MB.to {T : tkD} {a dp : Nat} {fk fp : Int32} {h h' : qh} (c : MB T a dp fk fp h) (e : ∀ o, (o = 43 ∨ o = 46 ∨ o = 47 ∨ o = 48 ∨ o = 49) → h'.I o = h.I o) : MB T a dp fk fp h' := by
  unfold MB
  rw [e 43 (by omega), e 46 (by omega), e 47 (by omega), e 48 (by omega), e 49 (by omega)]
  exact c
def wK (fk fp k p : Int32) : Int32 := if k = 0 then fk else if ¬ fk ≤ 0 ∧ (fp < p ∨ (fp = p ∧ ¬ k < fk)) then fk else k
def wP (fk fp k p : Int32) : Int32 := if k = 0 then fp else if ¬ fk ≤ 0 ∧ (fp < p ∨ (fp = p ∧ ¬ k < fk)) then fp else p
section MREAD
variable {G : qG} {d : Nat} {T : tkD} {a dp : Nat} {fk fp : Int32} {hm : qh}
theorem MB.set (c : MB T a dp fk fp hm) {k : Nat} {v : Int32} (hk : k ≠ 14 ∧ k ≠ 15 ∧ k ≠ 17 ∧ k ≠ 19 ∧ k ≠ 20) : MB T a dp fk fp (hm.sI 43 k v) := by
  obtain ⟨⟨c1, c2, c3, c4, c17⟩, c5, c6, c7, c8⟩ := c
  refine ⟨⟨?_, ?_, ?_, fun q => ?_, ?_⟩, (sI_row _ (by decide)).trans c5, (sI_row _ (by decide)).trans c6, (sI_row _ (by decide)).trans c7, (sI_row _ (by decide)).trans c8⟩
  · rw [sI_I, if_neg (by omega)]; exact c1
  · rw [sI_I, if_neg (by omega)]; exact c2
  · rw [sI_I, if_neg (by omega)]; exact c3
  · rw [sI_I, if_neg (by omega)]; exact c4 q
  · rw [sI_I, if_neg (by omega)]; exact c17
theorem MB.seta (c : MB T a dp fk fp hm) (e : Nat) : MB T e dp fk fp (hm.sI 43 14 (Int32.ofNat e)) := by
  obtain ⟨⟨c1, c2, c3, c4, c17⟩, c5, c6, c7, c8⟩ := c
  exact ⟨⟨rfl, c2, c3, c4, c17⟩, (sI_row _ (by decide)).trans c5, (sI_row _ (by decide)).trans c6, (sI_row _ (by decide)).trans c7, (sI_row _ (by decide)).trans c8⟩
theorem MB.setd (c : MB T a dp fk fp hm) (e : Nat) : MB T a e fk fp (hm.sI 43 15 (Int32.ofNat e)) := by
  obtain ⟨⟨c1, c2, c3, c4, c17⟩, c5, c6, c7, c8⟩ := c
  exact ⟨⟨c1, rfl, c3, c4, c17⟩, (sI_row _ (by decide)).trans c5, (sI_row _ (by decide)).trans c6, (sI_row _ (by decide)).trans c7, (sI_row _ (by decide)).trans c8⟩
theorem MB.setf (c : MB T a dp fk fp hm) (k p : Int32) : MB T a dp k p ((hm.sI 43 19 k).sI 43 20 p) := by
  obtain ⟨⟨c1, c2, c3, c4, c17⟩, c5, c6, c7, c8⟩ := c
  exact ⟨⟨c1, c2, rfl, fun _ => rfl, c17⟩, ((sI_row _ (by decide)).trans (sI_row _ (by decide))).trans c5, ((sI_row _ (by decide)).trans (sI_row _ (by decide))).trans c6, ((sI_row _ (by decide)).trans (sI_row _ (by decide))).trans c7, ((sI_row _ (by decide)).trans (sI_row _ (by decide))).trans c8⟩
theorem tk_sign (R : TR T) (ha : a < T.n) {s : Int32} (hs : 33 ≤ s) : T.k a = s ↔ (T.km a = 4 ∧ T.vm a = s) := by
  have := R.2.2.1 a ha
  unfold tkr at this
  grind
theorem tk_name (R : TR T) (ha : a < T.n) : T.k a = 2 ↔ T.km a = 2 := by
  have := R.2.2.1 a ha
  unfold tkr at this
  grind
theorem tk_num (R : TR T) (ha : a < T.n) : T.k a = 3 ↔ T.km a = 3 := by
  have := R.2.2.1 a ha
  unfold tkr at this
  grind
theorem tk_end (R : TR T) (ha : a < T.n) : T.k a = 0 ↔ T.km a = 0 := by
  have := R.2.2.1 a ha
  unfold tkr at this
  grind
theorem tk_word (R : TR T) (ha : a < T.n) {s : Int32} (hs : 4 ≤ s) (hs2 : s ≤ 10) : T.k a = s ↔ T.km a = s + 1 := by
  have := R.2.2.1 a ha
  unfold tkr at this
  grind
/-- a token that is not the last -/
theorem tk_more (R : TR T) (ha : a < T.n) (h0 : ¬ T.k a = 0) (h1 : ¬ T.k a = 1) : a + 1 < T.n := by
  have := (R.2.2.2.1 a ha).mpr
  rcases Nat.lt_or_ge (a + 1) T.n with q | q
  · exact q
  · rcases this (by omega) with e | e
    · exact absurd e h0
    · exact absurd e h1
theorem tk_more' (R : TR T) (ha : a < T.n) {s : Int32} (hk : T.k a = s) (h : 2 ≤ s) : a + 1 < T.n := tk_more R ha (by rw [hk]; grind) (by rw [hk]; grind)
theorem tk_pf (R : TR T) (ha : a < T.n) : T.fm a = T.p a := by
  have := R.2.2.2.2.1 a ha
  exact this.2.1.trans this.1.symm
theorem m_inA (R : TR T) (ha : a < T.n) : vp_in (Int32.ofNat a) 2001 := by
  have := R.2.1
  exact n_in (by omega) (by omega)
theorem mI {o : Nat} (ho : 43 ≤ o) (x y : qh) : (mg x y).I o = y.I o := by rw [mg_I, if_neg (by omega)]
theorem mRr {o : Nat} (ho : 43 ≤ o) (x y : qh) : (mg x y).R o = y.R o := by rw [mg_R, if_neg (by omega)]
theorem m_is1 (hd : 1 ≤ d) (R : TR T) (c : MB T a dp fk fp hm) (ha : a < T.n) {s : Int32} (hs : 33 ≤ s) (hk : T.k a = s) : mR G d yX12_is [.ref 43, .int s] hm (riv 1) hm := by
  obtain ⟨d, rfl⟩ := Nat.exists_eq_add_of_le' hd
  have h2 := R.2.1
  obtain ⟨k1, k2⟩ := (tk_sign R ha hs).mp hk
  intro hx Q hQ
  refine x_X12_is G d s _ Q ?_
  simp only [mI (show 43 ≤ 43 by decide), mI (show 43 ≤ 47 by decide), mI (show 43 ≤ 49 by decide), c.1.1, c.2.2.1, c.2.2.2.2, n_N (show a < 2147483648 by omega), k1, k2, if_true]
  exact ⟨m_inA R ha, fun q => absurd trivial q, fun _ => ⟨m_inA R ha, Or.inr trivial, hQ⟩⟩
theorem m_is0 (hd : 1 ≤ d) (R : TR T) (c : MB T a dp fk fp hm) (ha : a < T.n) {s : Int32} (hs : 33 ≤ s) (hk : ¬ T.k a = s) : mR G d yX12_is [.ref 43, .int s] hm (riv 0) hm := by
  obtain ⟨d, rfl⟩ := Nat.exists_eq_add_of_le' hd
  have h2 := R.2.1
  have k := fun q => hk ((tk_sign R ha hs).mpr q)
  intro hx Q hQ
  refine x_X12_is G d s _ Q ?_
  simp only [mI (show 43 ≤ 43 by decide), mI (show 43 ≤ 47 by decide), mI (show 43 ≤ 49 by decide), c.1.1, c.2.2.1, c.2.2.2.2, n_N (show a < 2147483648 by omega)]
  refine ⟨m_inA R ha, fun _ => hQ, fun q => ⟨m_inA R ha, ?_⟩⟩
  rw [if_neg (fun w => k ⟨q, w⟩)]
  exact ⟨Or.inl rfl, hQ⟩
theorem m_refuse (hd : 1 ≤ d) (R : TR T) (c : MB T a dp fk fp hm) (ha : a < T.n) (k : Int32) : ∃ hm', mR G d yX12_refuse [.ref 43, .int k] hm rxx hm' ∧ MFail k (T.p a) hm' ∧ R43 hm hm' := by
  obtain ⟨d, rfl⟩ := Nat.exists_eq_add_of_le' hd
  have h2 := R.2.1
  refine ⟨(hm.sI 43 17 k).sI 43 18 (T.p a), fun hx Q hQ => ?_, ⟨rfl, rfl⟩, (R43.sI _ _ _ (by decide)).tr (R43.sI _ _ _ (by decide))⟩
  refine x_X12_refuse G d k _ Q ?_
  simp only [mI (show 43 ≤ 43 by decide), mI (show 43 ≤ 48 by decide), c.1.1, c.2.2.2.1, n_N (show a < 2147483648 by omega), mg_sI_m (show 43 ≤ 43 by decide), tk_pf R ha]
  exact ⟨m_inA R ha, hQ⟩
theorem m_wants (hd : 2 ≤ d) (R : TR T) (c : MB T a dp fk fp hm) (ha : a < T.n) {s : Int32} (hs : 33 ≤ s) (hk : T.k a = s) : ∃ hm', mR G d yX12_wants [.ref 43, .int s] hm rvv hm' ∧ MB T (a + 1) dp fk fp hm' ∧ R43 hm hm' := by
  obtain ⟨d, rfl⟩ := Nat.exists_eq_add_of_le' hd
  refine ⟨hm.sI 43 14 (Int32.ofNat (a + 1)), fun hx Q hQ => x_X12_wants G (d + 1) s _ Q (m_is1 (d := d + 1) (by omega) R c ha hs hk hx _ ⟨fun _ => ?_, fun q => absurd q (by decide)⟩), c.seta _, R43.sI _ _ _ (by decide)⟩
  rw [mI (by decide), c.1.1, n_add1, mg_sI_m (by decide)]
  exact hQ
theorem m_wantsNo (hd : 2 ≤ d) (R : TR T) (c : MB T a dp fk fp hm) (ha : a < T.n) {s : Int32} (hs : 33 ≤ s) (hk : ¬ T.k a = s) : ∃ hm', mR G d yX12_wants [.ref 43, .int s] hm rxx hm' ∧ MFail 1 (T.p a) hm' ∧ R43 hm hm' := by
  obtain ⟨d, rfl⟩ := Nat.exists_eq_add_of_le' hd
  obtain ⟨h1, r1, r2, r3⟩ := m_refuse (G := G) (d := d + 1) (by omega) R c ha 1
  exact ⟨h1, fun hx Q hQ => x_X12_wants G (d + 1) s _ Q (m_is0 (d := d + 1) (by omega) R c ha hs hk hx _ ⟨fun q => absurd rfl q, fun _ => r1 hx _ hQ⟩), r2, r3⟩
theorem m_kind (hd : 2 ≤ d) (R : TR T) (c : MB T a dp fk fp hm) (ha : a < T.n) {s : Int32} (hk : T.km a = s) : ∃ hm', mR G d yX12_wantsKind [.ref 43, .int s] hm (riv (Int32.ofNat a)) hm' ∧ MB T (a + 1) dp fk fp hm' ∧ R43 hm hm' := by
  obtain ⟨d, rfl⟩ := Nat.exists_eq_add_of_le' hd
  have h2 := R.2.1
  refine ⟨hm.sI 43 14 (Int32.ofNat (a + 1)), fun hx Q hQ => ?_, c.seta _, R43.sI _ _ _ (by decide)⟩
  refine x_X12_wantsKind G (d + 1) s _ Q ?_
  simp only [mI (show 43 ≤ 43 by decide), mI (show 43 ≤ 47 by decide), c.1.1, c.2.2.1, n_N (show a < 2147483648 by omega), n_add1, n_sub1, mg_sI_m (show 43 ≤ 43 by decide)]
  exact ⟨m_inA R ha, fun _ => hQ, fun q => absurd hk q⟩
theorem m_kindNo (hd : 2 ≤ d) (R : TR T) (c : MB T a dp fk fp hm) (ha : a < T.n) {s : Int32} (hk : ¬ T.km a = s) : ∃ hm', mR G d yX12_wantsKind [.ref 43, .int s] hm rxx hm' ∧ MFail 1 (T.p a) hm' ∧ R43 hm hm' := by
  obtain ⟨d, rfl⟩ := Nat.exists_eq_add_of_le' hd
  have h2 := R.2.1
  obtain ⟨h1, r1, r2, r3⟩ := m_refuse (G := G) (d := d + 1) (by omega) R c ha 1
  refine ⟨h1, fun hx Q hQ => ?_, r2, r3⟩
  refine x_X12_wantsKind G (d + 1) s _ Q ?_
  simp only [mI (show 43 ≤ 43 by decide), mI (show 43 ≤ 47 by decide), c.1.1, c.2.2.1, n_N (show a < 2147483648 by omega)]
  exact ⟨m_inA R ha, fun q => absurd q hk, fun _ => r1 hx _ hQ⟩
theorem m_enters (hd : 2 ≤ d) (c : MB T a dp fk fp hm) (hdp : dp < 16) : ∃ hm', mR G d yX12_enters [.ref 43] hm rvv hm' ∧ MB T (a + 1) (dp + 1) fk fp hm' ∧ R43 hm hm' := by
  obtain ⟨d, rfl⟩ := Nat.exists_eq_add_of_le' hd
  refine ⟨(hm.sI 43 15 (Int32.ofNat (dp + 1))).sI 43 14 (Int32.ofNat (a + 1)), fun hx Q hQ => ?_, (c.setd _).seta _, (R43.sI _ _ _ (by decide)).tr (R43.sI _ _ _ (by decide))⟩
  refine x_X12_enters G (d + 1) _ Q ⟨fun _ => ?_, fun q => absurd q ?_⟩
  · simp only [mI (show 43 ≤ 43 by decide), c.1.1, c.1.2.1, n_add1, mg_sI_m (show 43 ≤ 43 by decide)]
    exact hQ
  · rw [mI (by decide), c.1.2.1]
    exact fun q => absurd ((n_eq (b := 16) (by omega) (by omega)).mp q) (by omega)
theorem m_entersDeep (hd : 2 ≤ d) (R : TR T) (c : MB T a dp fk fp hm) (ha : a < T.n) (hdp : dp = 16) : ∃ hm', mR G d yX12_enters [.ref 43] hm rxx hm' ∧ MFail 7 (T.p a) hm' ∧ R43 hm hm' := by
  obtain ⟨d, rfl⟩ := Nat.exists_eq_add_of_le' hd
  obtain ⟨h1, r1, r2, r3⟩ := m_refuse (G := G) (d := d + 1) (by omega) R c ha 7
  refine ⟨h1, fun hx Q hQ => x_X12_enters G (d + 1) _ Q ⟨fun q => absurd ?_ q, fun _ => r1 hx _ hQ⟩, r2, r3⟩
  rw [mI (by decide), c.1.2.1, hdp]
  rfl
theorem m_opens (hd : 3 ≤ d) (R : TR T) (c : MB T a dp fk fp hm) (ha : a < T.n) {s : Int32} (hs : 33 ≤ s) (hk : T.k a = s) (hdp : dp < 16) : ∃ hm', mR G d yX12_opens [.ref 43, .int s] hm rvv hm' ∧ MB T (a + 1) (dp + 1) fk fp hm' ∧ R43 hm hm' := by
  obtain ⟨d, rfl⟩ := Nat.exists_eq_add_of_le' hd
  obtain ⟨h1, r1, r2, r3⟩ := m_enters (G := G) (d := d + 2) (by omega) c hdp
  exact ⟨h1, fun hx Q hQ => x_X12_opens G (d + 2) s _ Q (m_is1 (d := d + 2) (by omega) R c ha hs hk hx _ ⟨fun _ => r1 hx _ hQ, fun q => absurd q (by decide)⟩), r2, r3⟩
theorem m_opensNo (hd : 3 ≤ d) (R : TR T) (c : MB T a dp fk fp hm) (ha : a < T.n) {s : Int32} (hs : 33 ≤ s) (hk : ¬ T.k a = s) : ∃ hm', mR G d yX12_opens [.ref 43, .int s] hm rxx hm' ∧ MFail 1 (T.p a) hm' ∧ R43 hm hm' := by
  obtain ⟨d, rfl⟩ := Nat.exists_eq_add_of_le' hd
  obtain ⟨h1, r1, r2, r3⟩ := m_refuse (G := G) (d := d + 2) (by omega) R c ha 1
  exact ⟨h1, fun hx Q hQ => x_X12_opens G (d + 2) s _ Q (m_is0 (d := d + 2) (by omega) R c ha hs hk hx _ ⟨fun q => absurd rfl q, fun _ => r1 hx _ hQ⟩), r2, r3⟩
theorem m_opensDeep (hd : 3 ≤ d) (R : TR T) (c : MB T a dp fk fp hm) (ha : a < T.n) {s : Int32} (hs : 33 ≤ s) (hk : T.k a = s) (hdp : dp = 16) : ∃ hm', mR G d yX12_opens [.ref 43, .int s] hm rxx hm' ∧ MFail 7 (T.p a) hm' ∧ R43 hm hm' := by
  obtain ⟨d, rfl⟩ := Nat.exists_eq_add_of_le' hd
  obtain ⟨h1, r1, r2, r3⟩ := m_entersDeep (G := G) (d := d + 2) (by omega) R c ha hdp
  exact ⟨h1, fun hx Q hQ => x_X12_opens G (d + 2) s _ Q (m_is1 (d := d + 2) (by omega) R c ha hs hk hx _ ⟨fun _ => r1 hx _ hQ, fun q => absurd q (by decide)⟩), r2, r3⟩
theorem m_closes (hd : 3 ≤ d) (R : TR T) (c : MB T a (dp + 1) fk fp hm) (ha : a < T.n) {s : Int32} (hs : 33 ≤ s) (hk : T.k a = s) : ∃ hm', mR G d yX12_closes [.ref 43, .int s] hm rvv hm' ∧ MB T (a + 1) dp fk fp hm' ∧ R43 hm hm' := by
  obtain ⟨d, rfl⟩ := Nat.exists_eq_add_of_le' hd
  obtain ⟨h1, r1, r2, r3⟩ := m_wants (G := G) (d := d + 2) (by omega) R c ha hs hk
  refine ⟨h1.sI 43 15 (Int32.ofNat dp), fun hx Q hQ => x_X12_closes G (d + 2) s _ Q (r1 hx _ ?_), r2.setd _, r3.tr (R43.sI _ _ _ (by decide))⟩
  show Q _ ((mg hx h1).sI 43 15 ((mg hx h1).I 43 15 - 1))
  rw [mI (by decide), r2.1.2.1, n_sub1, mg_sI_m (by decide)]
  exact hQ
theorem m_closesNo (hd : 3 ≤ d) (R : TR T) (c : MB T a dp fk fp hm) (ha : a < T.n) {s : Int32} (hs : 33 ≤ s) (hk : ¬ T.k a = s) : ∃ hm', mR G d yX12_closes [.ref 43, .int s] hm rxx hm' ∧ MFail 1 (T.p a) hm' ∧ R43 hm hm' := by
  obtain ⟨d, rfl⟩ := Nat.exists_eq_add_of_le' hd
  obtain ⟨h1, r1, r2, r3⟩ := m_wantsNo (G := G) (d := d + 2) (by omega) R c ha hs hk
  exact ⟨h1, fun hx Q hQ => x_X12_closes G (d + 2) s _ Q (r1 hx _ hQ), r2, r3⟩
/-- a FAULT of meaning at token t -/
theorem m_wrong (hd : 1 ≤ d) (R : TR T) (c : MB T a dp fk fp hm) {t : Nat} (ht : t < T.n) {k : Int32} (hk : ¬ k = 0) : ∃ hm', mR G d yX12_wrong [.ref 43, .int k, .int (Int32.ofNat t)] hm rvv hm' ∧ MB T a dp (wK fk fp k (T.p t)) (wP fk fp k (T.p t)) hm' ∧ R43 hm hm' := by
  obtain ⟨d, rfl⟩ := Nat.exists_eq_add_of_le' hd
  have h2 := R.2.1
  have hin := m_inA R ht
  have hset : (¬ (¬ fk ≤ 0 ∧ (fp < T.p t ∨ (fp = T.p t ∧ ¬ k < fk)))) → MB T a dp (wK fk fp k (T.p t)) (wP fk fp k (T.p t)) ((hm.sI 43 19 k).sI 43 20 (T.p t)) := fun q => by
    unfold wK wP
    rw [if_neg hk, if_neg hk, if_neg q, if_neg q]
    exact c.setf _ _
  have hst : ∀ (hx : qh) (Q : qr → qh → Prop), Q (.inl none) (mg hx ((hm.sI 43 19 k).sI 43 20 (T.p t))) → Q (.inl none) (((mg hx hm).sI 43 19 k).sI 43 20 ((mg hx hm).I 48 (Int32.ofNat t).toNatClampNeg)) := fun hx Q q => by
    rw [mI (by decide), c.2.2.2.1, n_N (by omega), tk_pf R ht, mg_sI_m (by decide), mg_sI_m (by decide)]
    exact q
  by_cases h0 : fk ≤ 0
  · refine ⟨(hm.sI 43 19 k).sI 43 20 (T.p t), fun hx Q hQ => ?_, hset (fun q => q.1 h0), (R43.sI _ _ _ (by decide)).tr (R43.sI _ _ _ (by decide))⟩
    refine x_X12_wrong G d k _ _ Q ⟨fun _ => ⟨hin, hst hx Q hQ⟩, fun q => absurd ?_ q⟩
    rw [mI (by decide), c.1.2.2.1]; exact h0
  · have h20 : hm.I 43 20 = fp := c.1.2.2.2.1 (fun q => h0 (by rw [q]; decide))
    by_cases h1 : fp < T.p t ∨ (fp = T.p t ∧ ¬ k < fk)
    · refine ⟨hm, fun hx Q hQ => ?_, ?_, R43.rf _⟩
      · refine x_X12_wrong G d k _ _ Q ?_
        simp only [mI (show 43 ≤ 43 by decide), mI (show 43 ≤ 48 by decide), c.1.2.2.1, c.2.2.2.1, h20, n_N (show t < 2147483648 by omega), tk_pf R ht]
        refine ⟨fun q => absurd q h0, fun _ => ⟨hin, fun _ => hQ, fun q => ⟨hin, fun w => ?_, fun _ => ⟨fun w => ?_, fun _ => hQ⟩⟩⟩⟩
        · rcases h1 with e | e
          · exact absurd e q
          · exact absurd e.1 w
        · rcases h1 with e | e
          · exact absurd e q
          · exact absurd w e.2
      · unfold wK wP
        rw [if_neg hk, if_neg hk, if_pos ⟨h0, h1⟩, if_pos ⟨h0, h1⟩]
        exact c
    · refine ⟨(hm.sI 43 19 k).sI 43 20 (T.p t), fun hx Q hQ => ?_, hset (fun q => h1 q.2), (R43.sI _ _ _ (by decide)).tr (R43.sI _ _ _ (by decide))⟩
      have e1 : (mg hx hm).I 43 19 = fk := by rw [mI (by decide)]; exact c.1.2.2.1
      have e2 : (mg hx hm).I 43 20 = fp := by rw [mI (by decide)]; exact h20
      have e3 : (mg hx hm).I 48 (Int32.ofNat t).toNatClampNeg = T.p t := by rw [mI (by decide), c.2.2.2.1, n_N (by omega), tk_pf R ht]
      refine x_X12_wrong G d k _ _ Q ⟨fun q => absurd (e1 ▸ q) h0, fun _ => ⟨hin, fun q => ?_, fun _ => ⟨hin, fun _ => ⟨hin, hst hx Q hQ⟩, fun w => ⟨fun _ => ⟨hin, hst hx Q hQ⟩, fun u => ?_⟩⟩⟩⟩
      · rw [e2, e3] at q
        exact absurd (Or.inl q) h1
      · rw [e2, e3] at w
        rw [e1] at u
        exact absurd (Or.inr ⟨w, u⟩) h1
theorem m_levelOf (hd : 1 ≤ d) (R : TR T) (c : MB T a dp fk fp hm) (ha : a < T.n) : mR G d yX12_levelOf [.ref 43] hm (riv (Int32.ofNat (lvl (T.k a)) - 1)) hm := by
  obtain ⟨d, rfl⟩ := Nat.exists_eq_add_of_le' hd
  have h2 := R.2.1
  intro hx Q hQ
  refine x_X12_levelOf G d _ Q ?_
  simp only [mI (show 43 ≤ 43 by decide), mI (show 43 ≤ 47 by decide), mI (show 43 ≤ 49 by decide), c.1.1, c.2.2.1, c.2.2.2.2, n_N (show a < 2147483648 by omega)]
  have ht := R.2.2.1 a ha
  refine ⟨m_inA R ha, fun h4 => ⟨m_inA R ha, ?_⟩, fun h4 => ?_⟩
  · have hk : T.vm a = T.k a := by unfold tkr at ht; grind
    rw [hk]
    generalize T.k a = x at *
    refine ⟨?_, ?_, ?_, ?_, ?_, ?_, ?_, ?_, ?_, ?_, ?_, ?_, ?_, ?_, ?_, ?_, ?_, ?_, ?_⟩
    case refine_19 =>
      rintro ⟨h1, h2, h3, h4, h5, h6, h7, h8, h9, h10, h11, h12, h13, h14, h15, h16, h17, h18⟩
      simp only [lvl, h1, h2, h3, h4, h5, h6, h7, h8, h9, h10, h11, h12, h13, h14, h15, h16, h17, h18, if_false] at hQ
      exact hQ
    all_goals (intro h; subst h; exact hQ)
  · have hk : T.k a ≤ 10 := by unfold tkr at ht; grind
    have hl : lvl (T.k a) = 0 := by
      generalize T.k a = x at *
      unfold lvl
      repeat (rw [if_neg (by grind)])
    rw [hl] at hQ
    exact hQ
end MREAD
