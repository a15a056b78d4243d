/-! ===== the NAMES in sight ===== -/
/-- a NAME in sight: the token that told it, its sort (0 an ARRAY, 1 the function, 2 a variable), its number -/
abbrev nmE : Type := Nat × Int32 × Int32
def fnd (T : tkD) : List nmE → Int64 → Int32
  | [], _ => -1
  | x :: r, v => if T.v x.1 = v then Int32.ofNat r.length else fnd T r v
def lk (T : tkD) : List nmE → Int64 → Option (Int32 × Int32)
  | [], _ => none
  | x :: r, v => if T.v x.1 = v then some x.2 else lk T r v
def nms (h : qh) : List nmE → Prop
  | [] => True
  | x :: r => (h.I 73 r.length = Int32.ofNat x.1 ∧ h.I 74 r.length = x.2.1 ∧ h.I 75 r.length = x.2.2) ∧ nms h r
def cnm (T : tkD) (h : qh) : List nmE → Prop
  | [] => True
  | x :: r => (h.L 24 r.length = T.v x.1 ∧ h.I 25 r.length = x.2.1 + 1 ∧ h.I 26 r.length = x.2.2) ∧ cnm T h r
def uq (T : tkD) : List nmE → Prop
  | [] => True
  | x :: r => (∀ y ∈ r, T.v y.1 ≠ T.v x.1) ∧ uq T r
def nOk (T : tkD) (x : nmE) : Prop := x.1 < T.n ∧ T.k x.1 = 2 ∧ (x.2.1 = 0 ∨ x.2.1 = 1 ∨ x.2.1 = 2)
def MN (T : tkD) (Nm : List nmE) (h : qh) : Prop := h.I 43 27 = Int32.ofNat Nm.length ∧ Nm.length ≤ 2000 ∧ nms h Nm ∧ ∀ x ∈ Nm, nOk T x
def CN (T : tkD) (Nm : List nmE) (h : qh) : Prop := h.I 23 3 = Int32.ofNat Nm.length ∧ Nm.length ≤ 25 ∧ cnm T h Nm
def CK (h : qh) : Prop := ∃ n : Nat, n ≤ 25 ∧ h.I 23 3 = Int32.ofNat n
theorem nms_to {h h' : qh} : ∀ {l : List nmE}, (∀ j, j < l.length → h'.I 73 j = h.I 73 j ∧ h'.I 74 j = h.I 74 j ∧ h'.I 75 j = h.I 75 j) → nms h l → nms h' l
  | [], _, _ => trivial
  | x :: l, e, ⟨⟨a1, a2, a3⟩, b⟩ => by
    obtain ⟨e1, e2, e3⟩ := e l.length (by simp)
    exact ⟨⟨e1.trans a1, e2.trans a2, e3.trans a3⟩, nms_to (fun j hj => e j (by simp; omega)) b⟩
theorem cnm_to {T : tkD} {h h' : qh} : ∀ {l : List nmE}, (∀ j, j < l.length → h'.L 24 j = h.L 24 j ∧ h'.I 25 j = h.I 25 j ∧ h'.I 26 j = h.I 26 j) → cnm T h l → cnm T h' l
  | [], _, _ => trivial
  | x :: l, e, ⟨⟨a1, a2, a3⟩, b⟩ => by
    obtain ⟨e1, e2, e3⟩ := e l.length (by simp)
    exact ⟨⟨e1.trans a1, e2.trans a2, e3.trans a3⟩, cnm_to (fun j hj => e j (by simp; omega)) b⟩
theorem fl (T : tkD) (v : Int64) : ∀ Nm : List nmE, (fnd T Nm v = -1 ∧ lk T Nm v = none) ∨ (∃ (i : Nat) (x : nmE), i < Nm.length ∧ x ∈ Nm ∧ fnd T Nm v = Int32.ofNat i ∧ lk T Nm v = some x.2 ∧ (∀ h, nms h Nm → h.I 74 i = x.2.1 ∧ h.I 75 i = x.2.2) ∧ (∀ h, cnm T h Nm → h.I 25 i = x.2.1 + 1 ∧ h.I 26 i = x.2.2))
  | [] => Or.inl ⟨rfl, rfl⟩
  | x :: r => by
    by_cases e : T.v x.1 = v
    · refine Or.inr ⟨r.length, x, by simp, by simp, ?_, ?_, fun h q => ⟨q.1.2.1, q.1.2.2⟩, fun h q => ⟨q.1.2.1, q.1.2.2⟩⟩
      · simp only [fnd]; rw [if_pos e]
      · simp only [lk]; rw [if_pos e]
    · rcases fl T v r with ⟨a, b⟩ | ⟨i, y, a, b, c1, c2, c3, c4⟩
      · left
        simp only [fnd, lk]; rw [if_neg e, if_neg e]; exact ⟨a, b⟩
      · refine Or.inr ⟨i, y, by simp; omega, List.mem_cons_of_mem _ b, ?_, ?_, fun h q => c3 h q.2, fun h q => c4 h q.2⟩
        · simp only [fnd]; rw [if_neg e]; exact c1
        · simp only [lk]; rw [if_neg e]; exact c2
theorem cnm_get {T : tkD} {h : qh} : ∀ {Nm : List nmE}, cnm T h Nm → ∀ j, j < Nm.length → ∃ y ∈ Nm, h.L 24 j = T.v y.1
  | [], _, j, hj => by simp at hj
  | x :: r, ⟨a, b⟩, j, hj => by
    by_cases e : j = r.length
    · exact ⟨x, by simp, by rw [e]; exact a.1⟩
    · obtain ⟨y, h1, h2⟩ := cnm_get b j (by simp at hj; omega)
      exact ⟨y, List.mem_cons_of_mem _ h1, h2⟩
theorem fnd_at {T : tkD} {h : qh} {v : Int64} : ∀ {Nm : List nmE}, cnm T h Nm → uq T Nm → ∀ j, j < Nm.length → h.L 24 j = v → fnd T Nm v = Int32.ofNat j
  | [], _, _, j, hj, _ => by simp at hj
  | x :: r, ⟨a, b⟩, ⟨u1, u2⟩, j, hj, e => by
    by_cases ej : j = r.length
    · simp only [fnd]; rw [if_pos (by rw [← e, ej]; exact a.1.symm), ej]
    · obtain ⟨y, h1, h2⟩ := cnm_get b j (by simp at hj; omega)
      simp only [fnd]
      rw [if_neg (fun q => u1 y h1 (by rw [← h2, e, q]))]
      exact fnd_at b u2 j (by simp at hj; omega) e
theorem fnd_no {T : tkD} {h : qh} {v : Int64} : ∀ {Nm : List nmE}, cnm T h Nm → (∀ j, j < Nm.length → ¬ h.L 24 j = v) → fnd T Nm v = -1
  | [], _, _ => rfl
  | x :: r, ⟨a, b⟩, e => by
    simp only [fnd]
    rw [if_neg (fun q => e r.length (by simp) (a.1.trans q))]
    exact fnd_no b (fun j hj => e j (by simp; omega))
section CNAMES
variable {G : qG} {d : Nat} {T : tkD} {hc : qh}
theorem c_find_l (v : Int64) {n : Nat} (hn : n ≤ 25) (hk : hc.I 23 3 = Int32.ofNat n) : ∀ (m i : Nat), n - i = m → i ≤ n → (∀ j, j < i → ¬ hc.L 24 j = v) → ∃ r, (∀ hx Q, Q (riv r) (mg hc hx) → q_N0 G m_X5_find (d + 1) Q 2 [.ref 23, .long v, .null, .int (Int32.ofNat i)] [] (mg hc hx)) ∧ ((r = -1 ∧ ∀ j, j < n → ¬ hc.L 24 j = v) ∨ ∃ j, j < n ∧ r = Int32.ofNat j ∧ hc.L 24 j = v)
  | 0, i, e, hi, hb => by
    refine ⟨-1, fun hx Q hQ => x_X5_find_2 G d v _ _ Q ⟨fun _ => hQ, fun q => absurd ?_ q⟩, Or.inl ⟨rfl, fun j hj => hb j (by omega)⟩⟩
    rw [mg_I, if_pos (by decide), hk]
    exact (n_le (by omega) (by omega)).mpr (by omega)
  | m + 1, i, e, hi, hb => by
    have h1 : ∀ hx, ¬ (mg hc hx).I 23 3 ≤ Int32.ofNat i := fun hx => by
      rw [mg_I, if_pos (by decide), hk]
      exact fun q => absurd ((n_le (by omega) (by omega)).mp q) (by omega)
    have h2 : ¬ (25 : Int32) ≤ Int32.ofNat i := fun q => absurd ((n_le (a := 25) (by omega) (by omega)).mp q) (by omega)
    have e3 : ∀ hx, (mg hc hx).L 24 (Int32.ofNat i).toNatClampNeg = hc.L 24 i := fun hx => by rw [mg_L, if_pos (by decide), n_N (by omega)]
    by_cases hv : hc.L 24 i = v
    · refine ⟨Int32.ofNat i, fun hx Q hQ => x_X5_find_2 G d v _ _ Q ⟨fun q => absurd q (h1 hx), fun _ => ⟨fun q => absurd q h2, fun _ => ⟨n_in (by omega) (by omega), fun q => absurd ?_ q, fun _ => hQ⟩⟩⟩, Or.inr ⟨i, by omega, rfl, hv⟩⟩
      rw [e3]; exact (lg_cmp_eq _ _).mpr hv
    · obtain ⟨r, a1, a2⟩ := c_find_l v hn hk m (i + 1) (by omega) (by omega) (fun j hj => by
        rcases Nat.lt_or_ge j i with w | w
        · exact hb j w
        · have : j = i := by omega
          rw [this]; exact hv)
      refine ⟨r, fun hx Q hQ => x_X5_find_2 G d v _ _ Q ⟨fun q => absurd q (h1 hx), fun _ => ⟨fun q => absurd q h2, fun _ => ⟨n_in (by omega) (by omega), fun _ => ?_, fun q => absurd ?_ hv⟩⟩⟩, a2⟩
      · rw [n_add1]; exact a1 hx Q hQ
      · rw [e3] at q; exact (lg_cmp_eq _ _).mp q
theorem c_find (hd : 1 ≤ d) (k : CK hc) (v : Int64) : ∃ r, cR G d yX5_find [.ref 23, .long v] hc (riv r) hc ∧ ∀ Nm, CN T Nm hc → uq T Nm → r = fnd T Nm v := by
  obtain ⟨d, rfl⟩ := Nat.exists_eq_add_of_le' hd
  obtain ⟨n, hn, hk⟩ := k
  obtain ⟨r, a1, a2⟩ := c_find_l (G := G) (d := d) v hn hk n 0 (by omega) (by omega) (fun j hj => by omega)
  refine ⟨r, fun hx Q hQ => x_X5_find G d v _ Q (a1 hx Q hQ), fun Nm x u => ?_⟩
  have hl : n = Nm.length := (n_eq (by omega) (by have := x.2.1; omega)).mp (hk.symm.trans x.1)
  rcases a2 with ⟨e, b⟩ | ⟨j, b1, b2, b3⟩
  · rw [e, fnd_no x.2.2 (fun j hj => b j (by omega))]
  · rw [b2, fnd_at x.2.2 u j (by omega) b3]
def uF (o : Option (Int32 × Int32)) (b : Int32) : Int32 := match o with
  | none => 3
  | some x => if x.1 + 1 = (if b = 0 then 3 else 1) then 0 else 4
def uN (o : Option (Int32 × Int32)) : Int32 := match o with
  | none => 0
  | some x => x.2
theorem c_use (hd : 1 ≤ d) (k : CK hc) (r b : Int32) : ∃ f, cR G d yX5_faultOfUse [.ref 23, .int r, .int b] hc (riv f) hc ∧ (f = 0 ∨ f = 3 ∨ f = 4) ∧ ∀ Nm v, CN T Nm hc → r = fnd T Nm v → f = uF (lk T Nm v) b := by
  obtain ⟨d, rfl⟩ := Nat.exists_eq_add_of_le' hd
  obtain ⟨n, hn, hk⟩ := k
  have hk' : ∀ hx, (mg hc hx).I 23 3 = Int32.ofNat n := fun hx => by rw [mg_I, if_pos (by decide)]; exact hk
  have key : ∀ Nm v, CN T Nm hc → r = fnd T Nm v → (r < 0 ∧ lk T Nm v = none) ∨ ∃ i, i < n ∧ r = Int32.ofNat i ∧ ∃ x, lk T Nm v = some x ∧ hc.I 25 i = x.1 + 1 := fun Nm v x e => by
    have hl : n = Nm.length := (n_eq (by omega) (by have := x.2.1; omega)).mp (hk.symm.trans x.1)
    rcases fl T v Nm with ⟨a, b⟩ | ⟨i, y, a1, a2, a3, a4, a5, a6⟩
    · exact Or.inl ⟨by rw [e, a]; decide, b⟩
    · exact Or.inr ⟨i, by omega, e.trans a3, y.2, a4, (a6 hc x.2.2).1⟩
  by_cases h0 : r < 0
  · refine ⟨3, fun hx Q hQ => x_X5_faultOfUse G d r b _ Q ⟨fun _ => hQ, fun q => absurd h0 q⟩, Or.inr (Or.inl rfl), fun Nm v x e => ?_⟩
    rcases key Nm v x e with ⟨_, w⟩ | ⟨i, w1, w2, _⟩
    · rw [w]; rfl
    · exact absurd (w2 ▸ h0) (n_nneg (by omega))
  · obtain ⟨i, hi, rfl⟩ := n_of h0
    by_cases h1 : i < n
    · refine ⟨if hc.I 25 i = (if b = 0 then 3 else 1) then 0 else 4, fun hx Q hQ => x_X5_faultOfUse G d _ b _ Q ⟨fun q => absurd q h0, fun _ => ⟨fun q => absurd q ?_, fun _ => ⟨fun _ => ⟨n_in hi (by omega), ?_⟩, fun q => absurd ?_ q⟩⟩⟩, ?_, fun Nm v x e => ?_⟩
      · rw [hk']; exact fun q => absurd ((n_le (by omega) hi).mp q) (by omega)
      · rw [mg_I, if_pos (show 25 < 43 by decide), n_N hi]; exact hQ
      · exact (n_lt (b := 25) hi (by omega)).mpr (by omega)
      · exact (Classical.em (hc.I 25 i = if b = 0 then 3 else 1)).elim (fun q => Or.inl (if_pos q)) (fun q => Or.inr (Or.inr (if_neg q)))
      · rcases key Nm v x e with ⟨w, _⟩ | ⟨j, w1, w2, y, w3, w4⟩
        · exact absurd w h0
        · have : i = j := (n_eq hi (by omega)).mp w2
          subst this
          rw [w3, w4]; rfl
    · refine ⟨3, fun hx Q hQ => x_X5_faultOfUse G d _ b _ Q ⟨fun _ => hQ, fun _ => ⟨fun _ => hQ, fun q => absurd ?_ q⟩⟩, Or.inr (Or.inl rfl), fun Nm v x e => ?_⟩
      · rw [hk']; exact (n_le (by omega) hi).mpr (by omega)
      · rcases key Nm v x e with ⟨w, _⟩ | ⟨j, w1, w2, y, w3, w4⟩
        · exact absurd w h0
        · have : i = j := (n_eq hi (by omega)).mp w2
          omega
theorem c_number (hd : 1 ≤ d) (k : CK hc) (r : Int32) : ∃ f, cR G d yX5_numberOf [.ref 23, .int r] hc (riv f) hc ∧ ∀ Nm v x, CN T Nm hc → r = fnd T Nm v → lk T Nm v = some x → f = x.2 := by
  obtain ⟨d, rfl⟩ := Nat.exists_eq_add_of_le' hd
  obtain ⟨n, hn, hk⟩ := k
  have hk' : ∀ hx, (mg hc hx).I 23 3 = Int32.ofNat n := fun hx => by rw [mg_I, if_pos (by decide)]; exact hk
  have key : ∀ Nm v y, CN T Nm hc → r = fnd T Nm v → lk T Nm v = some y → ∃ i, i < n ∧ r = Int32.ofNat i ∧ hc.I 26 i = y.2 := fun Nm v y x e l => by
    have hl : n = Nm.length := (n_eq (by omega) (by have := x.2.1; omega)).mp (hk.symm.trans x.1)
    rcases fl T v Nm with ⟨a, b⟩ | ⟨i, z, a1, a2, a3, a4, a5, a6⟩
    · rw [b] at l; cases l
    · rw [a4] at l; cases l
      exact ⟨i, by omega, e.trans a3, (a6 hc x.2.2).2⟩
  by_cases h0 : r < 0
  · refine ⟨-1, fun hx Q hQ => x_X5_numberOf G d r _ Q ⟨fun _ => hQ, fun q => absurd h0 q⟩, fun Nm v y x e l => ?_⟩
    obtain ⟨i, w1, w2, _⟩ := key Nm v y x e l
    exact absurd (w2 ▸ h0) (n_nneg (by omega))
  · obtain ⟨i, hi, rfl⟩ := n_of h0
    by_cases h1 : i < n
    · refine ⟨hc.I 26 i, fun hx Q hQ => x_X5_numberOf G d _ _ Q ⟨fun q => absurd q h0, fun _ => ⟨fun q => absurd q ?_, fun _ => ⟨fun q => absurd q ?_, fun _ => ⟨n_in hi (by omega), ?_⟩⟩⟩⟩, fun Nm v y x e l => ?_⟩
      · rw [hk']; exact fun q => absurd ((n_le (by omega) hi).mp q) (by omega)
      · exact fun q => absurd ((n_le (a := 25) (by omega) hi).mp q) (by omega)
      · rw [mg_I, if_pos (by decide), n_N hi]; exact hQ
      · obtain ⟨j, w1, w2, w3⟩ := key Nm v y x e l
        have : i = j := (n_eq hi (by omega)).mp w2
        subst this
        exact w3
    · refine ⟨-1, fun hx Q hQ => x_X5_numberOf G d _ _ Q ⟨fun _ => hQ, fun _ => ⟨fun _ => hQ, fun q => absurd ?_ q⟩⟩, fun Nm v y x e l => ?_⟩
      · rw [hk']; exact (n_le (by omega) hi).mpr (by omega)
      · obtain ⟨j, w1, w2, w3⟩ := key Nm v y x e l
        have : i = j := (n_eq hi (by omega)).mp w2
        omega
theorem c_fTell (hd : 2 ≤ d) (k : CK hc) (v : Int64) : ∃ f, cR G d yX5_faultOfTelling [.ref 23, .long v] hc (riv f) hc ∧ (f = 0 ∨ f = 2) ∧ ∀ Nm, CN T Nm hc → uq T Nm → f = if lk T Nm v = none then 0 else 2 := by
  obtain ⟨d, rfl⟩ := Nat.exists_eq_add_of_le' hd
  obtain ⟨r, a1, a2⟩ := c_find (G := G) (d := d + 1) (T := T) (by omega) k v
  refine ⟨if r = -1 then 0 else 2, fun hx Q hQ => x_X5_faultOfTelling G (d + 1) v _ Q (a1 hx _ hQ), ?_, fun Nm x u => ?_⟩
  · split
    · exact Or.inl rfl
    · exact Or.inr rfl
  · have e := a2 Nm x u
    have hl := x.2.1
    rcases fl T v Nm with ⟨a, b⟩ | ⟨i, z, a1, a2, a3, a4, a5, a6⟩
    · rw [if_pos (e.trans a), if_pos b]
    · rw [if_neg (by rw [e, a3]; exact n_ne1 (by omega)), if_neg (by rw [a4]; exact fun w => by cases w)]
def RS (h h' : qh) : Prop := (∀ o, ¬ (o = 23 ∨ o = 25 ∨ o = 26) → h'.I o = h.I o) ∧ (∀ o, o ≠ 24 → h'.L o = h.L o) ∧ h'.R = h.R
theorem c_tell (hd : 1 ≤ d) (k : CK hc) (v : Int64) (s n : Int32) : ∃ hc', cR G d yX5_tell [.ref 23, .long v, .int (s + 1), .int n] hc rvv hc' ∧ CK hc' ∧ RS hc hc' ∧ ∀ Nm t, CN T Nm hc → Nm.length < 25 → v = T.v t → CN T ((t, s, n) :: Nm) hc' := by
  obtain ⟨d, rfl⟩ := Nat.exists_eq_add_of_le' hd
  obtain ⟨m, hm, hk⟩ := k
  have hk' : ∀ hx, (mg hc hx).I 23 3 = Int32.ofNat m := fun hx => by rw [mg_I, if_pos (by decide)]; exact hk
  by_cases h : m < 25
  · refine ⟨(((hc.sL 24 m v).sI 25 m (s + 1)).sI 26 m n).sI 23 3 (Int32.ofNat (m + 1)), fun hx Q hQ => x_X5_tell G d v _ n _ Q ⟨fun q => absurd q ?_, fun _ => ?_⟩, ⟨m + 1, by omega, rfl⟩, ⟨fun o e => ?_, fun o e => ?_, rfl⟩, fun Nm t x hl e => ?_⟩
    · rw [hk']; exact fun q => absurd ((n_le (a := 25) (by omega) (by omega)).mp q) (by omega)
    · have hin := n_in (a := m) (n := 25) (by omega) h
      rw [hk', n_N (by omega), n_add1, mg_sL_c (by decide), mg_sI_c (by decide), mg_sI_c (by decide), mg_sI_c (by decide)]
      exact ⟨hin, hin, hin, hQ⟩
    · rw [sI_row _ (by omega), sI_row _ (by omega), sI_row _ (by omega), sL_I]
    · show (hc.sL 24 m v).L o = hc.L o
      rw [sL_row _ e]
    · have hl' : m = Nm.length := (n_eq (by omega) (by omega)).mp (hk.symm.trans x.1)
      subst hl'
      refine ⟨rfl, by simp; omega, ⟨?_, ?_, ?_⟩, cnm_to (fun j hj => ?_) x.2.2⟩
      · show (hc.sL 24 Nm.length v).L 24 Nm.length = _
        rw [sL_L, if_pos ⟨rfl, rfl⟩]; exact e
      · simp only [sI_I, Nat.reduceEqDiff, false_and, and_self, if_true, if_false]
      · simp only [sI_I, Nat.reduceEqDiff, false_and, and_self, if_true, if_false]
      · refine ⟨?_, ?_, ?_⟩
        · show (hc.sL 24 Nm.length v).L 24 j = _
          rw [sL_L, if_neg (by omega)]
        · simp only [sI_I, sL_I, Nat.reduceEqDiff, false_and, true_and, if_false]; exact if_neg (by omega)
        · simp only [sI_I, sL_I, Nat.reduceEqDiff, false_and, true_and, if_false]; exact if_neg (by omega)
  · refine ⟨hc, fun hx Q hQ => x_X5_tell G d v _ n _ Q ⟨fun _ => hQ, fun q => absurd ?_ q⟩, ⟨m, hm, hk⟩, ⟨fun _ _ => rfl, fun _ _ => rfl, rfl⟩, fun Nm t x hl e => ?_⟩
    · rw [hk']; exact (n_le (a := 25) (by omega) (by omega)).mpr (by omega)
    · have hl' : m = Nm.length := (n_eq (by omega) (by omega)).mp (hk.symm.trans x.1)
      omega
end CNAMES
section MNAMES
variable {G : qG} {d : Nat} {T : tkD} {a dp : Nat} {fk fp : Int32} {hm : qh} {Nm : List nmE}
theorem m_alike_l (R : TR T) (c : MB T a dp fk fp hm) {i j : Nat} (hi : i < T.n) (hj : j < T.n) (ki : T.k i = 2) (kj : T.k j = 2) (e : T.vm i = T.vm j) {l : Nat} (hl : l ≤ 8) (el : T.vm i = Int32.ofNat l) (pi : T.pn i + l ≤ 2000) (pj : T.pn j + l ≤ 2000) : ∀ (m x : Nat), l - x = m → x ≤ l → (∀ y, y < x → T.tx (T.pn i + y) = T.tx (T.pn j + y)) → ∀ hx Q, Q (riv (if T.v i = T.v j then 1 else 0)) (mg hx hm) → q_N0 G m_X12_areAlike (d + 1) Q 19 [.ref 43, .int (Int32.ofNat i), .int (Int32.ofNat j), .int (Int32.ofNat x)] [] (mg hx hm)
  | m, x, e1, hx1, hb, hx, Q, hQ => by
    have h2 := R.2.1
    have hii := m_inA R hi
    have hij := m_inA R hj
    have ci := R.2.2.2.2.1 i hi
    have cj := R.2.2.2.2.1 j hj
    have e3 : (mg hx hm).I 49 (Int32.ofNat i).toNatClampNeg = Int32.ofNat l := by rw [mI (by decide), c.2.2.2.2, n_N (by omega), el]
    have e4 : (mg hx hm).I 48 (Int32.ofNat i).toNatClampNeg + Int32.ofNat x = Int32.ofNat (T.pn i + x) := by rw [mI (by decide), c.2.2.2.1, n_N (by omega), ci.2.1, n_add]
    have e5 : (mg hx hm).I 48 (Int32.ofNat j).toNatClampNeg + Int32.ofNat x = Int32.ofNat (T.pn j + x) := by rw [mI (by decide), c.2.2.2.1, n_N (by omega), cj.2.1, n_add]
    refine x_X12_areAlike_19 G d _ _ _ _ Q ⟨hii, ?_, ?_⟩
    · intro q
      rw [e3] at q
      have q' := (n_le (by omega) (by omega)).mp q
      have : T.v i = T.v j := (R.2.2.2.2.2.2.2.2 i j hi hj ki kj).mpr ⟨e, fun y hy => hb y (by rw [el, n_N (by omega)] at hy; omega)⟩
      rw [if_pos this] at hQ
      exact hQ
    · intro q
      rw [e3] at q
      have q' : x < l := by
        rcases Nat.lt_or_ge x l with w | w
        · exact w
        · exact absurd ((n_le (by omega) (by omega)).mpr w) q
      rw [e4, e5, mI (by decide), c.2.1, n_N (by omega), n_N (by omega)]
      refine ⟨hii, n_in (by omega) (by omega), hij, n_in (by omega) (by omega), fun w => ?_, fun w => ?_⟩
      · rw [n_add1]
        match m, e1 with
        | m + 1, e1 => exact m_alike_l R c hi hj ki kj e hl el pi pj m (x + 1) (by omega) (by omega) (fun y hy => by
            rcases Nat.lt_or_ge y x with u | u
            · exact hb y u
            · have : y = x := by omega
              rw [this]; exact w) hx Q hQ
        | 0, e1 => omega
      · have : ¬ T.v i = T.v j := fun u => w (((R.2.2.2.2.2.2.2.2 i j hi hj ki kj).mp u).2 x (by rw [el, n_N (by omega)]; omega))
        rw [if_neg this] at hQ
        exact hQ
theorem m_alike (hd : 1 ≤ d) (R : TR T) (c : MB T a dp fk fp hm) {i j : Nat} (hi : i < T.n) (hj : j < T.n) (ki : T.k i = 2) (kj : T.k j = 2) : mR G d yX12_areAlike [.ref 43, .int (Int32.ofNat i), .int (Int32.ofNat j)] hm (riv (if T.v i = T.v j then 1 else 0)) hm := by
  obtain ⟨d, rfl⟩ := Nat.exists_eq_add_of_le' hd
  have h2 := R.2.1
  obtain ⟨l, hl, el, pl⟩ := R.2.2.2.2.2.2.2.1 i hi ki
  obtain ⟨l', hl', el', pl'⟩ := R.2.2.2.2.2.2.2.1 j hj kj
  intro hx Q hQ
  have e3 : (mg hx hm).I 49 (Int32.ofNat i).toNatClampNeg = T.vm i := by rw [mI (by decide), c.2.2.2.2, n_N (by omega)]
  have e4 : (mg hx hm).I 49 (Int32.ofNat j).toNatClampNeg = T.vm j := by rw [mI (by decide), c.2.2.2.2, n_N (by omega)]
  refine x_X12_areAlike G d _ _ _ Q ⟨m_inA R hi, m_inA R hj, fun q => ?_, fun q => ?_⟩
  · rw [e3, e4] at q
    have : l = l' := (n_eq (by omega) (by omega)).mp (el.symm.trans (q.trans el'))
    subst this
    exact m_alike_l R c hi hj ki kj q hl el pl pl' l 0 (by omega) (by omega) (fun y hy => by omega) hx Q hQ
  · rw [e3, e4] at q
    have : ¬ T.v i = T.v j := fun u => q (((R.2.2.2.2.2.2.2.2 i j hi hj ki kj).mp u).1)
    rw [if_neg this] at hQ
    exact hQ
theorem m_meaning_l (R : TR T) (c : MB T a dp fk fp hm) {t : Nat} (ht : t < T.n) (kt : T.k t = 2) : ∀ (L : List nmE), L.length ≤ 2000 → nms hm L → (∀ x ∈ L, nOk T x) → ∀ hx Q, Q (riv (fnd T L (T.v t))) (mg hx hm) → q_N0 G m_X12_meaning (d + 2) Q 7 [.ref 43, .int (Int32.ofNat t), .int (Int32.ofNat L.length - 1)] [] (mg hx hm)
  | [], _, _, _, hx, Q, hQ => x_X12_meaning_7 G (d + 1) _ _ _ Q ⟨fun _ => hQ, fun q => absurd (by decide) q⟩
  | x :: r, hl, ⟨⟨a1, a2, a3⟩, b⟩, ho, hx, Q, hQ => by
    obtain ⟨o1, o2, o3⟩ := ho x (by simp)
    rw [List.length_cons] at hl ⊢
    rw [n_sub1]
    refine x_X12_meaning_7 G (d + 1) _ _ _ Q ⟨fun q => absurd q (n_nneg (by omega)), fun _ => ⟨n_in (by omega) (by omega), ?_⟩⟩
    have e : (mg hx hm).I 73 (Int32.ofNat r.length).toNatClampNeg = Int32.ofNat x.1 := by rw [mI (by decide), n_N (by omega)]; exact a1
    rw [e]
    refine m_alike (d := d + 1) (by omega) R c o1 ht o2 kt hx _ ⟨fun q => ?_, fun q => ?_⟩
    · have hne : ¬ T.v x.1 = T.v t := fun w => by rw [if_pos w] at q; exact absurd q (by decide)
      simp only [fnd] at hQ
      rw [if_neg hne] at hQ
      have := m_meaning_l R c ht kt r (by omega) b (fun y hy => ho y (List.mem_cons_of_mem _ hy)) hx Q hQ
      rwa [Int32.sub_eq_add_neg] at this
    · have hne : T.v x.1 = T.v t := Classical.byContradiction fun w => by rw [if_neg w] at q; exact absurd rfl q
      simp only [fnd] at hQ
      rw [if_pos hne] at hQ
      exact hQ
theorem m_meaning (hd : 2 ≤ d) (R : TR T) (c : MB T a dp fk fp hm) (n : MN T Nm hm) {t : Nat} (ht : t < T.n) (kt : T.k t = 2) : mR G d yX12_meaning [.ref 43, .int (Int32.ofNat t)] hm (riv (fnd T Nm (T.v t))) hm := by
  obtain ⟨d, rfl⟩ := Nat.exists_eq_add_of_le' hd
  intro hx Q hQ
  refine x_X12_meaning G (d + 1) _ _ Q ?_
  rw [mI (by decide), n.1]
  exact m_meaning_l R c ht kt Nm n.2.1 n.2.2.1 n.2.2.2 hx Q hQ
theorem MN.to {h h' : qh} (n : MN T Nm h) (e : h'.I 43 27 = h.I 43 27) (e3 : ∀ o, 73 ≤ o → o ≤ 75 → h'.I o = h.I o) : MN T Nm h' :=
  ⟨e.trans n.1, n.2.1, nms_to (fun j _ => by rw [e3 73 (by decide) (by decide), e3 74 (by decide) (by decide), e3 75 (by decide) (by decide)]; exact ⟨rfl, rfl, rfl⟩) n.2.2.1, n.2.2.2⟩
theorem R43.mn {h h' : qh} (r : R43 h h') (n : MN T Nm h) : MN T Nm h' := n.to (r.2.2.2 27 (by decide)) (fun o a b => r.1 o (by omega))
theorem m_asks (hd : 3 ≤ d) (R : TR T) (c : MB T a dp fk fp hm) (n : MN T Nm hm) {t : Nat} (ht : t < T.n) (kt : T.k t = 2) : ∃ hm', mR G d yX12_asksNew [.ref 43, .int (Int32.ofNat t)] hm rvv hm' ∧ MB T a dp (wK fk fp (if lk T Nm (T.v t) = none then 0 else 2) (T.p t)) (wP fk fp (if lk T Nm (T.v t) = none then 0 else 2) (T.p t)) hm' ∧ R43 hm hm' := by
  obtain ⟨d, rfl⟩ := Nat.exists_eq_add_of_le' hd
  have m1 := m_meaning (G := G) (d := d + 2) (by omega) R c n ht kt
  have nl := n.2.1
  rcases fl T (T.v t) Nm with ⟨e1, e2⟩ | ⟨i, z, a1, a2, a3, a4, a5, a6⟩
  · refine ⟨hm, fun hx Q hQ => x_X12_asksNew G (d + 2) _ _ Q (m1 hx _ ⟨fun _ => hQ, fun q => absurd e1 q⟩), ?_, R43.rf _⟩
    rw [if_pos e2]
    unfold wK wP
    rw [if_pos rfl, if_pos rfl]
    exact c
  · obtain ⟨h1, r1, r2, r3⟩ := m_wrong (G := G) (d := d + 2) (by omega) R c ht (k := 2) (by decide)
    refine ⟨h1, fun hx Q hQ => x_X12_asksNew G (d + 2) _ _ Q (m1 hx _ ⟨fun q => absurd q ?_, fun _ => r1 hx _ hQ⟩), ?_, r3⟩
    · rw [a3]; exact n_ne1 (by omega)
    · rw [if_neg (by rw [a4]; exact fun w => by cases w)]
      exact r2
theorem m_uses (hd : 3 ≤ d) (R : TR T) (c : MB T a dp fk fp hm) (n : MN T Nm hm) {t : Nat} (ht : t < T.n) (kt : T.k t = 2) {b : Int32} (hb : b = 0 ∨ b = 1) : ∃ hm', mR G d yX12_uses [.ref 43, .int (Int32.ofNat t), .int b] hm (riv (uN (lk T Nm (T.v t)))) hm' ∧ MB T a dp (wK fk fp (uF (lk T Nm (T.v t)) b) (T.p t)) (wP fk fp (uF (lk T Nm (T.v t)) b) (T.p t)) hm' ∧ R43 hm hm' := by
  obtain ⟨d, rfl⟩ := Nat.exists_eq_add_of_le' hd
  have m1 := m_meaning (G := G) (d := d + 2) (by omega) R c n ht kt
  have nl := n.2.1
  rcases fl T (T.v t) Nm with ⟨e1, e2⟩ | ⟨i, z, a1, a2, a3, a4, a5, a6⟩
  · obtain ⟨h1, r1, r2, r3⟩ := m_wrong (G := G) (d := d + 2) (by omega) R c ht (k := 3) (by decide)
    refine ⟨h1, fun hx Q hQ => x_X12_uses G (d + 2) _ _ _ Q (m1 hx _ ⟨fun q => absurd e1 q, fun _ => r1 hx _ ?_⟩), ?_, r3⟩
    · rw [e2] at hQ; exact hQ
    · rw [e2]; exact r2
  · have hin := n_in (a := i) (n := 2000) (by omega) (by omega)
    obtain ⟨s1, s2⟩ := a5 hm n.2.2.1
    have e4 : ∀ hx, (mg hx hm).I 74 (Int32.ofNat i).toNatClampNeg = z.2.1 := fun hx => by rw [mI (by decide), n_N (by omega)]; exact s1
    have e5 : ∀ hx h', R43 hm h' → (mg hx h').I 75 (Int32.ofNat i).toNatClampNeg = z.2.2 := fun hx h' r => by rw [mI (by decide), n_N (by omega), r.1 75 (by decide)]; exact s2
    have hz := (n.2.2.2 z a2).2.2
    rw [a3] at m1
    rw [a4]
    obtain ⟨h1, r1, r2, r3⟩ := m_wrong (G := G) (d := d + 2) (by omega) R c ht (k := 4) (by decide)
    have hne := n_ne1 (a := i) (by omega)
    rcases hz with hz | hz | hz
    · rcases hb with hb | hb
      · refine ⟨h1, fun hx Q hQ => x_X12_uses G (d + 2) _ _ _ Q (m1 hx _ ⟨fun _ => ⟨hin, fun q => ?_, fun _ => ⟨hin, fun q => ?_, fun _ => r1 hx _ ⟨hin, ?_⟩⟩⟩, fun q => absurd q hne⟩), ?_, r3⟩
        · rw [e4, hz] at q; exact absurd q (by decide)
        · rw [e4, hz, hb] at q; exact absurd q (by decide)
        · rw [e5 hx h1 r3]; exact hQ
        · have : uF (some z.2) b = 4 := by simp only [uF, hz, hb]; decide
          rw [this]; exact r2
      · refine ⟨hm, fun hx Q hQ => x_X12_uses G (d + 2) _ _ _ Q (m1 hx _ ⟨fun _ => ⟨hin, fun q => ?_, fun _ => ⟨hin, fun _ => ⟨hin, ?_⟩, fun q => ?_⟩⟩, fun q => absurd q hne⟩), ?_, R43.rf _⟩
        · rw [e4, hz] at q; exact absurd q (by decide)
        · rw [e5 hx hm (R43.rf _)]; exact hQ
        · rw [e4, hz, hb] at q; exact absurd rfl q
        · have : uF (some z.2) b = 0 := by simp only [uF, hz, hb]; decide
          rw [this]; unfold wK wP; rw [if_pos rfl, if_pos rfl]; exact c
    · refine ⟨h1, fun hx Q hQ => x_X12_uses G (d + 2) _ _ _ Q (m1 hx _ ⟨fun _ => ⟨hin, fun _ => r1 hx _ ⟨hin, ?_⟩, fun q => ?_⟩, fun q => absurd q hne⟩), ?_, r3⟩
      · rw [e5 hx h1 r3]; exact hQ
      · rw [e4, hz] at q; exact absurd rfl q
      · have : uF (some z.2) b = 4 := by rcases hb with hb | hb <;> simp only [uF, hz, hb] <;> decide
        rw [this]; exact r2
    · rcases hb with hb | hb
      · refine ⟨hm, fun hx Q hQ => x_X12_uses G (d + 2) _ _ _ Q (m1 hx _ ⟨fun _ => ⟨hin, fun q => ?_, fun _ => ⟨hin, fun _ => ⟨hin, ?_⟩, fun q => ?_⟩⟩, fun q => absurd q hne⟩), ?_, R43.rf _⟩
        · rw [e4, hz] at q; exact absurd q (by decide)
        · rw [e5 hx hm (R43.rf _)]; exact hQ
        · rw [e4, hz, hb] at q; exact absurd (by decide) q
        · have : uF (some z.2) b = 0 := by simp only [uF, hz, hb]; decide
          rw [this]; unfold wK wP; rw [if_pos rfl, if_pos rfl]; exact c
      · refine ⟨h1, fun hx Q hQ => x_X12_uses G (d + 2) _ _ _ Q (m1 hx _ ⟨fun _ => ⟨hin, fun q => ?_, fun _ => ⟨hin, fun q => ?_, fun _ => r1 hx _ ⟨hin, ?_⟩⟩⟩, fun q => absurd q hne⟩), ?_, r3⟩
        · rw [e4, hz] at q; exact absurd q (by decide)
        · rw [e4, hz, hb] at q; exact absurd q (by decide)
        · rw [e5 hx h1 r3]; exact hQ
        · have : uF (some z.2) b = 4 := by simp only [uF, hz, hb]; decide
          rw [this]; exact r2
end MNAMES
