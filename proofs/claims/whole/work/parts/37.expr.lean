/-! ===== an E: the class's row of what waits against the reference's descent ===== -/
def VN (Nm : List nmE) (x : Int32) : Prop := ∃ y ∈ Nm, y.2.1 = 2 ∧ y.2.2 = x
def AN (Nm : List nmE) (x : Int32) : Prop := ∃ y ∈ Nm, y.2.1 = 0 ∧ y.2.2 = x
/-- one code and the part that was laid for it; the parts whose tokens are not taken before and behind -/
def ECs (V A : Int32 → Prop) (o : cod) (pt : prt) (S' S : List Int32) (q : Int32) : Prop :=
  (o.1 = 0 ∧ pt = (1, -1, -1, o.2) ∧ S = q :: S') ∨ (o.1 = 1 ∧ V o.2 ∧ pt = (2, -1, -1, o.2) ∧ S = q :: S') ∨
  (∃ l r, S' = l :: r ∧ S = q :: r ∧ ((o.1 = 2 ∧ A o.2 ∧ pt = (3, l, -1, o.2)) ∨ (o.1 = 4 ∧ pt = (-45, l, -1, -1)) ∨ (o.1 = 5 ∧ pt = (-33, l, -1, -1)) ∨ (o.1 = 6 ∧ pt = (-126, l, -1, -1)))) ∨
  (∃ b l r, S' = b :: l :: r ∧ S = q :: r ∧ o.1 = 3 ∧ 1 ≤ lvl o.2 ∧ pt = (o.2, l, b, -1))
def EC (V A : Int32 → Prop) : List cod → List prt → Nat → List Int32 → Prop
  | [], Pe, _, S => Pe = [] ∧ S = []
  | o :: Ce, Pe, P0, S => ∃ pt Pe' S', Pe = pt :: Pe' ∧ EC V A Ce Pe' P0 S' ∧ ECs V A o pt S' S (Int32.ofNat (P0 + Pe'.length))
theorem EC.len {V A : Int32 → Prop} {P0 : Nat} : ∀ {Ce : List cod} {Pe : List prt} {S : List Int32}, EC V A Ce Pe P0 S → Pe.length = Ce.length
  | [], Pe, S, h => by rw [h.1]; rfl
  | o :: Ce, Pe, S, ⟨pt, Pe', S', e, h, _⟩ => by rw [e, List.length_cons, List.length_cons, EC.len h]
/-- while nothing is wrong -/
def XCl (T : tkD) (Nm : List nmE) (Cd0 : List cod) (Pt0 : List prt) (wk0 : Nat) (hcE : qh) (wk s : Nat) (Cd : List cod) (Pt : List prt) (Mk : List Int32) : Prop :=
  wk ≤ 400 ∧ CN T Nm hcE ∧ uq T Nm ∧ Pt0.length < 1000 + wk0 ∧ ∃ Ce Pe, Cd = Ce ++ Cd0 ∧ Pt = Pe ++ Pt0 ∧ EC (VN Nm) (AN Nm) Ce Pe Pt0.length Mk ∧ Ce.length + wk0 + s ≤ wk
theorem XCl.room {T : tkD} {Nm : List nmE} {Cd0 : List cod} {Pt0 : List prt} {wk0 : Nat} {hcE : qh} {wk s : Nat} {Cd : List cod} {Pt : List prt} {Mk : List Int32} (x : XCl T Nm Cd0 Pt0 wk0 hcE wk s Cd Pt Mk) : Pt.length < 1400 := by
  obtain ⟨h1, h2, h3, h4, Ce, Pe, h5, h6, h7, h8⟩ := x
  have := h7.len
  rw [h6, List.length_append]
  omega
theorem XCl.emit {T : tkD} {Nm : List nmE} {Cd0 : List cod} {Pt0 : List prt} {wk0 : Nat} {hcE : qh} {wk s : Nat} {Cd : List cod} {Pt : List prt} {Mk : List Int32} (x : XCl T Nm Cd0 Pt0 wk0 hcE wk (s + 1) Cd Pt Mk) {o : cod} {pt : prt} {S : List Int32} {v : Int32} {Pt' : List prt} (hl : Pt.length < 1400 → v = Int32.ofNat Pt.length ∧ Pt' = pt :: Pt) (e : ECs (VN Nm) (AN Nm) o pt Mk S v) : XCl T Nm Cd0 Pt0 wk0 hcE wk s (o :: Cd) Pt' S := by
  obtain ⟨e1, e2⟩ := hl x.room
  obtain ⟨h1, h2, h3, h4, Ce, Pe, h5, h6, h7, h8⟩ := x
  refine ⟨h1, h2, h3, h4, o :: Ce, pt :: Pe, by rw [h5]; rfl, by rw [e2, h6]; rfl, ⟨pt, Pe, Mk, rfl, h7, ?_⟩, by rw [List.length_cons]; omega⟩
  rw [e1, h6, List.length_append, Nat.add_comm] at e
  exact e
theorem XCl.count {T : tkD} {Nm : List nmE} {Cd0 : List cod} {Pt0 : List prt} {wk0 : Nat} {hcE : qh} {wk s : Nat} {Cd : List cod} {Pt : List prt} {Mk : List Int32} (x : XCl T Nm Cd0 Pt0 wk0 hcE wk s Cd Pt Mk) (h : cnt wk = 0) : XCl T Nm Cd0 Pt0 wk0 hcE (wk + 1) (s + 1) Cd Pt Mk := by
  obtain ⟨h1, h2, h3, h4, Ce, Pe, h5, h6, h7, h8⟩ := x
  refine ⟨?_, h2, h3, h4, Ce, Pe, h5, h6, h7, by omega⟩
  unfold cnt at h
  split at h
  · assumption
  · exact absurd h (by decide)
section EXPR
variable (G : qG) (D : Nat) (T : tkD) (c p e : Nat) (Nm : List nmE) (Cd0 : List cod) (Pt0 : List prt) (wk0 : Nat) (hcE hmE : qh)
def XI (a dp : Nat) (fk fp : Int32) (wk : Nat) (Wt Wi Mk : List Int32) (wn : Int32) (Pt : List prt) (Cd : List cod) (s : Nat) (hc hm : qh) : Prop :=
  CX T c a dp fk fp Wt Wi Mk wk wn Pt hc ∧ MX T p e a dp fk fp wk Cd Nm hm ∧ (a < T.n ∧ dp ≤ 16 ∧ Cd.length + s ≤ a ∧ wk ≤ a) ∧ FG T a fk fp ∧ CXF c hcE hc ∧ MXF p hmE hm ∧ (fk = 0 → XCl T Nm Cd0 Pt0 wk0 hcE wk s Cd Pt Mk)
def xF (hc hm : qh) : Prop := ∃ k t, (k = 1 ∨ k = 7) ∧ CFail k t hc ∧ MFail k t hm ∧ CXF c hcE hc ∧ MXF p hmE hm
def wR (i : Nat) (hc : qh) : qT := fun hx Q => q_N0 G m_X1_read (D + 4) Q 17 [.ref 27, .int (Int32.ofNat i), .null] [] (mg hc hx)
def kRaw (l1 r3 : Int32) (h6 : qh) (Q : qr → qh → Prop) : Prop := (¬ r3 = 0 → ((r3 ≤ 0 → (q_M0 G (D + 3) yX1_readClosing [.ref 27] h6 (q_ri (fun r8 h7 => (¬ r8 = 0 → (q_N0 G m_X1_read (D + 3 + 1) Q 17 [.ref 27, .int (l1 + 1), .null] [] h7)) ∧ (r8 = 0 → (Q (.inl (some (.int 0))) h7))) (fun E h => Q (.inr E) h)))) ∧ (¬ r3 ≤ 0 → (q_M0 G (D + 3) yX1_readTwo [.ref 27] h6 (q_ri (fun r10 h9 => (r10 = 0 → (Q (.inl (some (.int 0))) h9)) ∧ (¬ r10 = 0 → (q_N0 G m_X1_read (D + 3 + 1) Q 17 [.ref 27, .int (l1 + 1), .null] [] h9))) (fun E h => Q (.inr E) h)))))) ∧ (r3 = 0 → ((¬ (h6.I 27 6) = 0 → ((r3 ≤ 0 → (q_M0 G (D + 3) yX1_readClosing [.ref 27] h6 (q_ri (fun r12 h11 => (¬ r12 = 0 → (q_N0 G m_X1_read (D + 3 + 1) Q 17 [.ref 27, .int (l1 + 1), .null] [] h11)) ∧ (r12 = 0 → (Q (.inl (some (.int 0))) h11))) (fun E h => Q (.inr E) h)))) ∧ (¬ r3 ≤ 0 → (q_M0 G (D + 3) yX1_readTwo [.ref 27] h6 (q_ri (fun r14 h13 => (r14 = 0 → (Q (.inl (some (.int 0))) h13)) ∧ (¬ r14 = 0 → (q_N0 G m_X1_read (D + 3 + 1) Q 17 [.ref 27, .int (l1 + 1), .null] [] h13))) (fun E h => Q (.inr E) h)))))) ∧ ((h6.I 27 6) = 0 → (Q (.inl (some (.int 1))) h6))))
def kO (l1 : Int32) (h1 : qh) (Q : qr → qh → Prop) : Prop := q_M0 G (D + 3) yX1_levelOf [.int (h1.I 22 3)] h1 (q_ri (fun r3 h2 => q_M0 G (D + 3) yJ9_max_7cf53 [.int r3, .int 1] h2 (q_ri (fun r5 h4 => q_M0 G (D + 3) yX1_layTwos [.ref 27, .int r5] h4 (q_rv (fun h6 => kRaw G D l1 r3 h6 Q) (fun E h => Q (.inr E) h))) (fun E h => Q (.inr E) h))) (fun E h => Q (.inr E) h))
def wO (i : Nat) (hc : qh) : qT := fun hx Q => q_N0 G m_X1_layOnes (D + 3) (q_rv (fun h1 => kO G D (Int32.ofNat i) h1 Q) (fun E h => Q (.inr E) h)) 0 [.ref 27] [] (mg hc hx)
def mx (n : Nat) : Int32 := if Int32.ofNat n < 1 then 1 else Int32.ofNat n
def wT (i a : Nat) (hc : qh) : qT := fun hx Q => q_N0 G m_X1_layTwos (D + 3) (q_rv (fun h6 => kRaw G D (Int32.ofNat i) (Int32.ofNat (lvl (T.k a))) h6 Q) (fun E h => Q (.inr E) h)) 0 [.ref 27, .int (mx (lvl (T.k a))), .null, .null] [] (mg hc hx)
variable {G} {D} {T} {c} {p} {e} {Nm} {Cd0} {Pt0} {wk0} {hcE} {hmE}
theorem mx_eq {n : Nat} (h : n ≤ 10) : mx n = Int32.ofNat (max n 1) := by
  unfold mx
  rcases Nat.eq_zero_or_pos n with rfl | q
  · rfl
  · rw [if_neg (show ¬ Int32.ofNat n < 1 from fun w => absurd ((n_lt (b := 1) (by omega) (by omega)).mp w) (by omega)), Nat.max_eq_left q]
variable {Wm : qT} {P : qr → qh → qr → qh → Prop} {a dp : Nat} {fk fp : Int32} {wk : Nat} {Wt Wi Mk : List Int32} {wn : Int32} {Pt : List prt} {hc hc' : qh} {i : Nat}
theorem s_op (hi : i ≤ 2001) (hw : ¬ hc.I 27 9 = 0) (r : cR G (D + 3) yX1_readOperand [.ref 27] hc (riv 1) hc') (k : J (wR G D (i + 1) hc') Wm P) : J (wR G D i hc) Wm P := by
  refine J.c (fun hx Q hF => x_X1_read_17 G (D + 3) _ _ Q ⟨fun q => absurd ((n_lt (a := 2001) (by omega) (by omega)).mp q) (by omega), fun _ => ⟨fun q => absurd (by rw [cI (by decide)] at q; exact q) hw, fun _ => r hx _ ⟨fun _ => ?_, fun q => absurd q (by decide)⟩⟩⟩) k
  rw [n_add1]
  exact hF
theorem s_opNo (hi : i ≤ 2001) (hw : ¬ hc.I 27 9 = 0) (r : cR G (D + 3) yX1_readOperand [.ref 27] hc (riv 0) hc') (k : J (fun hx Q => Q (riv 0) (mg hc' hx)) Wm P) : J (wR G D i hc) Wm P :=
  J.c (fun hx Q hF => x_X1_read_17 G (D + 3) _ _ Q ⟨fun q => absurd ((n_lt (a := 2001) (by omega) (by omega)).mp q) (by omega), fun _ => ⟨fun q => absurd (by rw [cI (by decide)] at q; exact q) hw, fun _ => r hx _ ⟨fun q => absurd rfl q, fun _ => hF⟩⟩⟩) k
theorem s_WO (hi : i ≤ 2001) (hw : hc.I 27 9 = 0) (k : J (wO G D i hc) Wm P) : J (wR G D i hc) Wm P :=
  J.c (fun hx Q hF => x_X1_read_17 G (D + 3) _ _ Q ⟨fun q => absurd ((n_lt (a := 2001) (by omega) (by omega)).mp q) (by omega), fun _ => ⟨fun _ => x_X1_layOnes G (D + 2) _ _ hF, fun q => absurd (by rw [cI (by decide)]; exact hw) q⟩⟩) k
theorem s_kO (x : CX T c a dp fk fp Wt Wi Mk wk wn Pt hc) : ∀ hx Q, wT G D T i a hc hx Q → kO G D (Int32.ofNat i) (mg hc hx) Q := fun hx Q hF => by
  unfold kO
  rw [cI (by decide), x.1.1.2.2.1]
  exact c_levelOf (d := D + 3) (by omega) (T.k a) hc hx _ (c_max (d := D + 3) (by omega) _ _ hc hx _ (x_X1_layTwos G (D + 2) _ _ _ hF))
theorem s_OT (x : CX T c a dp fk fp Wt Wi Mk wk wn Pt hc) (ht : ∀ s r, Wt = s :: r → ¬ s < 0) (k : J (wT G D T i a hc) Wm P) : J (wO G D i hc) Wm P := by
  have hw := x.2.1.2.2.1
  refine J.c (fun hx Q hF => x_X1_layOnes_0 G (D + 2) _ _ ⟨fun _ => s_kO x hx Q hF, fun q => ?_⟩) k
  match hWt : Wt with
  | [] =>
    exfalso; apply q
    rw [cI (by decide), x.2.1.1]; decide
  | s :: r =>
    refine c_last (d := D + 2) (by omega) x.2.1 hx _ ⟨fun _ => s_kO x hx Q hF, fun w => absurd (Int32.not_lt.mp (ht s r rfl)) w⟩
theorem s_one (hq : q_cir c) {s t v : Int32} (x : CX T c a (dp + 1) fk fp (s :: Wt) (t :: Wi) (v :: Mk) wk wn Pt hc) (hs : s < 0) (hdp : dp ≤ 16) : ∃ hc' v' Pt', CX T c a dp fk fp Wt Wi (v' :: Mk) wk wn Pt' hc' ∧ CXF c hc hc' ∧ (Pt.length < 1400 → v' = Int32.ofNat Pt.length ∧ Pt' = (s, v, -1, -1) :: Pt) ∧ (∀ hx Q, wO G D i hc' hx Q → wO G D i hc hx Q) := by
  have a1 := c_last (G := G) (d := D + 2) (by omega) x.2.1
  obtain ⟨h1, b1, b2, b3, -⟩ := c_pop (G := G) (d := D + 2) (by omega) x.2.1
  have x1 := x.r27 hq b2 b3
  obtain ⟨h2, v', Pt', e1, e2, e3, e4, e5⟩ := x_lay (G := G) (d := D + 2) (by omega) hq x1 s v (-1) (-1)
  have hmk := x.2.1.2.2.2.2.2.2.1
  rw [List.length_cons] at hmk
  obtain ⟨h3, f1, f2, f3⟩ := c_push (G := G) (d := D + 2) (by omega) e2.2.1 (by omega) v'
  have x3 := e2.r27 hq f2 f3
  have r27 := R27.sI h3 27 6 (Int32.ofNat Wt.length) (by decide)
  have x4 := x3.r27 hq x3.2.1.drop r27
  obtain ⟨h5, g1, g2, g3⟩ := c_leave (G := G) (d := D + 2) (by omega) x4.1 hdp
  refine ⟨h5, v', Pt', x4.r22 hq g2 g3, (b3.xf hq).tr (e3.tr ((f3.xf hq).tr ((r27.xf hq).tr (g3.xf hq)))), e4, fun hx Q hF => ?_⟩
  have hl := x.2.1.2.2.1
  rw [List.length_cons] at hl
  refine x_X1_layOnes_0 G (D + 2) _ _ ⟨fun q => ?_, fun _ => a1 hx _ ⟨fun q => absurd hs (Int32.not_lt.mpr q), fun _ => ⟨c, by rw [cRr (by decide)]; exact x.2.2.2.2.1, hq, a1 hx _ (b1 hx _ (e1 hx _ (f1 hx _ ?_)))⟩⟩⟩
  · rw [cI (by decide), x.2.1.1, List.length_cons] at q
    exact absurd ((n_le (b := 0) (by omega) (by omega)).mp q) (by omega)
  · show q_M0 G (D + 2) yX4_leave [.ref 22] ((mg h3 hx).sI 27 6 ((mg h3 hx).I 27 6 - 1)) _
    rw [cI (by decide), x3.2.1.1, List.length_cons, n_sub1, mg_sI_c (by decide)]
    exact g1 hx _ hF
theorem s_two (hq : q_cir c) {s t l b : Int32} (x : CX T c a dp fk fp (s :: Wt) (t :: Wi) (b :: l :: Mk) wk wn Pt hc) (hs : max (lvl (T.k a)) 1 ≤ lvl s) : ∃ hc' v' Pt', CX T c a dp fk fp Wt Wi (v' :: Mk) wk wn Pt' hc' ∧ CXF c hc hc' ∧ (Pt.length < 1400 → v' = Int32.ofNat Pt.length ∧ Pt' = (s, l, b, -1) :: Pt) ∧ (∀ hx Q, wT G D T i a hc' hx Q → wT G D T i a hc hx Q) := by
  have a1 := c_last (G := G) (d := D + 2) (by omega) x.2.1
  have a2 := c_levelOf (G := G) (d := D + 2) (by omega) s hc
  obtain ⟨h1, b1, b2, b3, -⟩ := c_pop (G := G) (d := D + 2) (by omega) x.2.1
  have x1 := x.r27 hq b2 b3
  obtain ⟨h1', b1', b2', b3', -⟩ := c_pop (G := G) (d := D + 2) (by omega) x1.2.1
  have x1' := x1.r27 hq b2' b3'
  have a3 := c_last (G := G) (d := D + 2) (by omega) x1'.2.1
  obtain ⟨h2, v', Pt', e1, e2, e3, e4, e5⟩ := x_lay (G := G) (d := D + 2) (by omega) hq x1' s l b (-1)
  have hmk := x.2.1.2.2.2.2.2.2.1
  rw [List.length_cons, List.length_cons] at hmk
  obtain ⟨h3, f1, f2, f3⟩ := c_push (G := G) (d := D + 2) (by omega) e2.2.1 (by omega) v'
  have x3 := e2.r27 hq f2 f3
  have r27 := R27.sI h3 27 6 (Int32.ofNat Wt.length) (by decide)
  have x4 := x3.r27 hq x3.2.1.drop r27
  refine ⟨_, v', Pt', x4, (b3.xf hq).tr ((b3'.xf hq).tr (e3.tr ((f3.xf hq).tr (r27.xf hq)))), e4, fun hx Q hF => ?_⟩
  have hl := x.2.1.2.2.1
  have l1 := lvl_le s
  have l2 := lvl_le (T.k a)
  rw [List.length_cons] at hl
  refine x_X1_layTwos_0 G (D + 2) _ _ _ ⟨fun q => ?_, fun _ => a1 hx _ (a2 hx _ ⟨fun q => ?_, fun _ => b1 hx _ (b1' hx _ ⟨c, by rw [cRr (by decide)]; exact x1'.2.2.2.2.1, hq, a3 hx _ (e1 hx _ (f1 hx _ ?_))⟩)⟩)⟩
  · rw [cI (by decide), x.2.1.1, List.length_cons] at q
    exact absurd ((n_le (b := 0) (by omega) (by omega)).mp q) (by omega)
  · rw [mx_eq l2] at q
    exact absurd ((n_lt (by omega) (by omega)).mp q) (by omega)
  · show q_N0 G m_X1_layTwos (D + 2 + 1) _ 0 _ [] ((mg h3 hx).sI 27 6 ((mg h3 hx).I 27 6 - 1))
    rw [cI (by decide), x3.2.1.1, List.length_cons, n_sub1, mg_sI_c (by decide)]
    exact hF
theorem s_Tx (x : CX T c a dp fk fp Wt Wi Mk wk wn Pt hc) (ht : ∀ s r, Wt = s :: r → lvl s < max (lvl (T.k a)) 1) : ∀ hx Q, kRaw G D (Int32.ofNat i) (Int32.ofNat (lvl (T.k a))) (mg hc hx) Q → wT G D T i a hc hx Q := fun hx Q hF => by
  refine x_X1_layTwos_0 G (D + 2) _ _ _ ⟨fun _ => hF, fun q => ?_⟩
  match hWt : Wt with
  | [] =>
    exfalso; apply q
    rw [cI (by decide), x.2.1.1]; decide
  | s :: r =>
    refine c_last (d := D + 2) (by omega) x.2.1 hx _ (c_levelOf (d := D + 2) (by omega) s hc hx _ ⟨fun _ => hF, fun w => absurd ?_ w⟩)
    have l1 := lvl_le s
    have l2 := lvl_le (T.k a)
    rw [mx_eq l2]
    exact (n_lt (by omega) (by omega)).mpr (ht s r rfl)
theorem s_fin (x : CX T c a dp fk fp [] Wi Mk wk wn Pt hc) (h0 : lvl (T.k a) = 0) (k : J (fun hx Q => Q (riv 1) (mg hc hx)) Wm P) : J (wT G D T i a hc) Wm P := by
  refine J.c (fun hx Q hF => s_Tx x (fun s r q => by cases q) hx Q ?_) k
  rw [h0]
  refine ⟨fun q => absurd rfl q, fun _ => ⟨fun q => absurd ?_ q, fun _ => hF⟩⟩
  rw [cI (by decide), x.2.1.1]; rfl
theorem s_cl {s : Int32} (x : CX T c a dp fk fp (s :: Wt) Wi Mk wk wn Pt hc) (hs : lvl s = 0) (h0 : lvl (T.k a) = 0) (r : cR G (D + 3) yX1_readClosing [.ref 27] hc (riv 1) hc') (k : J (wR G D (i + 1) hc') Wm P) : J (wT G D T i a hc) Wm P := by
  refine J.c (fun hx Q hF => s_Tx x (fun s' r q => by cases q; rw [hs, h0]; decide) hx Q ?_) k
  rw [h0]
  refine ⟨fun q => absurd rfl q, fun _ => ⟨fun _ => ⟨fun _ => r hx _ ⟨fun _ => ?_, fun q => absurd q (by decide)⟩, fun q => absurd (by decide) q⟩, fun q => ?_⟩⟩
  · rw [n_add1]; exact hF
  · rw [cI (by decide), x.2.1.1, List.length_cons] at q
    have hl := x.2.1.2.2.1
    rw [List.length_cons] at hl
    exact absurd ((n_eq (b := 0) (by omega) (by omega)).mp q) (by omega)
theorem s_clNo {s : Int32} (x : CX T c a dp fk fp (s :: Wt) Wi Mk wk wn Pt hc) (hs : lvl s = 0) (h0 : lvl (T.k a) = 0) (r : cR G (D + 3) yX1_readClosing [.ref 27] hc (riv 0) hc') (k : J (fun hx Q => Q (riv 0) (mg hc' hx)) Wm P) : J (wT G D T i a hc) Wm P := by
  refine J.c (fun hx Q hF => s_Tx x (fun s' r q => by cases q; rw [hs, h0]; decide) hx Q ?_) k
  rw [h0]
  refine ⟨fun q => absurd rfl q, fun _ => ⟨fun _ => ⟨fun _ => r hx _ ⟨fun q => absurd rfl q, fun _ => hF⟩, fun q => absurd (by decide) q⟩, fun q => ?_⟩⟩
  rw [cI (by decide), x.2.1.1, List.length_cons] at q
  have hl := x.2.1.2.2.1
  rw [List.length_cons] at hl
  exact absurd ((n_eq (b := 0) (by omega) (by omega)).mp q) (by omega)
theorem s_tw (x : CX T c a dp fk fp Wt Wi Mk wk wn Pt hc) (ht : ∀ s r, Wt = s :: r → lvl s < lvl (T.k a)) (h0 : 1 ≤ lvl (T.k a)) (r : cR G (D + 3) yX1_readTwo [.ref 27] hc (riv 1) hc') (k : J (wR G D (i + 1) hc') Wm P) : J (wT G D T i a hc) Wm P := by
  have l2 := lvl_le (T.k a)
  refine J.c (fun hx Q hF => s_Tx x (fun s' r q => by have := ht s' r q; omega) hx Q ⟨fun _ => ⟨fun q => absurd ((n_le (b := 0) (by omega) (by omega)).mp q) (by omega), fun _ => r hx _ ⟨fun q => absurd q (by decide), fun _ => ?_⟩⟩, fun q => absurd ((n_eq (b := 0) (by omega) (by omega)).mp q) (by omega)⟩) k
  rw [n_add1]
  exact hF
end EXPR
