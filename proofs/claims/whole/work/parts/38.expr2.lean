/-! ===== an E: unary, binary, its loop ===== -/
theorem uF_or (o : Option (Int32 × Int32)) (b : Int32) : uF o b = 0 ∨ uF o b = 3 ∨ uF o b = 4 := by
  unfold uF
  split
  · exact Or.inr (Or.inl rfl)
  · exact (Classical.em _).elim (fun q => Or.inl (if_pos q)) (fun q => Or.inr (Or.inr (if_neg q)))
theorem use_eq {fk fp f u k1 p : Int32} (h : ¬ fk = 0 → ¬ fk ≤ 0 ∧ fp < p) (hf : fk = 0 → f = u) (h1 : k1 = 0 ∨ k1 = 6) (h2 : u = 0 ∨ u = 3 ∨ u = 4) : wK (wK fk fp k1 p) (wP fk fp k1 p) u p = bK (bK fk f) k1 ∧ wP (wK fk fp k1 p) (wP fk fp k1 p) u p = bP (bK fk f) (bP fk fp f p) k1 p := by
  have w := wK_two h h1 h2
  by_cases h0 : fk = 0
  · rw [hf h0]; exact w
  · rw [(bK_keep (fp := fp) (k := f) (p := p) h0).1, (bK_keep (fp := fp) (k := f) (p := p) h0).2]
    rw [(bK_keep (fp := fp) (k := u) (p := p) h0).1, (bK_keep (fp := fp) (k := u) (p := p) h0).2] at w
    exact w
theorem FG.at {T : tkD} {a b : Nat} {fk fp k : Int32} (R : TR T) (ha : a < T.n) (f : FG T b fk fp) (hk : k = 0 ∨ (¬ k ≤ 0 ∧ k ≤ 6)) (hb : T.pn a < T.pn b) : FG T b (bK fk k) (bP fk fp k (T.p a)) := by
  unfold bK bP
  rcases f with ⟨e, e'⟩ | ⟨e1, e2, q, e3, e4⟩
  · rw [if_pos e]
    rcases hk with hk | hk
    · rw [if_neg (fun q => q.2 hk)]; exact Or.inl ⟨hk, e'⟩
    · have h0 : ¬ k = 0 := fun q => hk.1 (by rw [q]; decide)
      rw [if_pos ⟨e, h0⟩]
      exact Or.inr ⟨hk.1, hk.2, T.pn a, (R.2.2.2.2.1 a ha).1, hb⟩
  · have h0 : ¬ fk = 0 := fun q => e1 (by rw [q]; decide)
    rw [if_neg h0, if_neg (fun q => h0 q.1)]
    exact Or.inr ⟨e1, e2, q, e3, e4⟩
theorem f_or {f : Int32} (h : f = 0 ∨ f = 3 ∨ f = 4) : f = 0 ∨ (¬ f ≤ 0 ∧ f ≤ 6) := by
  rcases h with rfl | rfl | rfl
  · exact Or.inl rfl
  · exact Or.inr (by decide)
  · exact Or.inr (by decide)
theorem lvl_pos {x : Int32} (h : 1 ≤ lvl x) : ¬ x < 0 := fun q => by
  have : lvl x = 0 := by
    unfold lvl
    repeat (rw [if_neg (by grind)])
  omega
theorem lvl_kind {x : Int32} (h : 1 ≤ lvl x) : 33 ≤ x := by
  rcases Int32.lt_or_le x 33 with q | q
  · have : lvl x = 0 := by
      unfold lvl
      repeat (rw [if_neg (by grind)])
    omega
  · exact q
def kOne (G : qG) (d a : Nat) (Km : qh → (qr → qh → Prop) → Prop) (h5 : qh) (Q : qr → qh → Prop) : Prop := vp_in (Int32.ofNat a) 2001 ∧ ((¬ (h5.I 49 a) = 45 → (vp_in (Int32.ofNat a) 2001 ∧ (q_M0 G d yX12_code [.ref 43, .int (if (h5.I 49 a) = 33 then (5 : Int32) else 6), .int 0] (h5.sI 43 15 ((h5.I 43 15) - 1)) (q_rv (fun h9 => Km h9 Q) (fun E h => Q (.inr E) h))))) ∧ ((h5.I 49 a) = 45 → (q_M0 G d yX12_code [.ref 43, .int 4, .int 0] (h5.sI 43 15 ((h5.I 43 15) - 1)) (q_rv (fun h10 => Km h10 Q) (fun E h => Q (.inr E) h)))))
def kPar (G : qG) (d : Nat) (Km : qh → (qr → qh → Prop) → Prop) (h5 : qh) (Q : qr → qh → Prop) : Prop := q_M0 G d yX12_closes [.ref 43, .int 41] h5 (q_rv (fun h27 => Km h27 Q) (fun E h => Q (.inr E) h))
def kIdx (G : qG) (d : Nat) (num : Int32) (Km : qh → (qr → qh → Prop) → Prop) (h37 : qh) (Q : qr → qh → Prop) : Prop := q_M0 G d yX12_closes [.ref 43, .int 93] h37 (q_rv (fun h38 => q_M0 G d yX12_code [.ref 43, .int 2, .int num] h38 (q_rv (fun h39 => Km h39 Q) (fun E h => Q (.inr E) h))) (fun E h => Q (.inr E) h))
def kTwo (G : qG) (d a : Nat) (l : Int32) (Km : qh → (qr → qh → Prop) → Prop) (h6 : qh) (Q : qr → qh → Prop) : Prop := vp_in (Int32.ofNat a) 2001 ∧ (q_M0 G d yX12_code [.ref 43, .int 3, .int (h6.I 49 a)] h6 (q_rv (fun h8 => q_N0 G m_X12_binary (d + 1) (q_rv (fun h1 => Km h1 Q) (fun E h => Q (.inr E) h)) 18 [.ref 43, .int l, .null] [] h8) (fun E h => Q (.inr E) h)))
section EXPR2
variable (G : qG) (D : Nat) (T : tkD) (c p e : Nat) (Nm : List nmE) (Cd0 : List cod) (Pt0 : List prt) (wk0 : Nat) (hcE hmE : qh)
def okU (a dp : Nat) (fk fp : Int32) (Wt Wi Mk : List Int32) (s : Nat) (Km : qh → (qr → qh → Prop) → Prop) (P : qr → qh → qr → qh → Prop) : Prop := ∀ a' fk' fp' wk' v Pt' Cd' i' hc' hm', a < a' → XI T c p e Nm Cd0 Pt0 wk0 hcE hmE a' dp fk' fp' wk' Wt Wi (v :: Mk) 0 Pt' Cd' s hc' hm' → (¬ fk = 0 → fk' = fk ∧ fp' = fp) → i' ≤ a' → J (wO G D i' hc') (fun hx Q => Km (mg hx hm') Q) P
def sU (a : Nat) : Prop := ∀ dp fk fp wk Wt Wi Mk Pt Cd s i d hc hm (Km : qh → (qr → qh → Prop) → Prop) (P : qr → qh → qr → qh → Prop), XI T c p e Nm Cd0 Pt0 wk0 hcE hmE a dp fk fp wk Wt Wi Mk 1 Pt Cd s hc hm → Wt.length ≤ 11 * dp + 10 → Mk.length ≤ Wt.length → i ≤ a → 13 * (17 - dp) + 6 ≤ d → okU G D T c p e Nm Cd0 Pt0 wk0 hcE hmE a dp fk fp Wt Wi Mk s Km P → (∀ hc' hm', xF c p hcE hmE hc' hm' → P (riv 0) hc' rxx hm') →
  J (wR G D i hc) (fun hx Q => q_M0 G d yX12_unary [.ref 43] (mg hx hm) (q_rv (fun h1 => Km h1 Q) (fun E h => Q (.inr E) h))) P
def okB (l a dp : Nat) (fk fp : Int32) (Wt Wi Mk : List Int32) (s : Nat) (Km : qh → (qr → qh → Prop) → Prop) (P : qr → qh → qr → qh → Prop) : Prop := ∀ a' fk' fp' wk' v Pt' Cd' i' hc' hm', a < a' → XI T c p e Nm Cd0 Pt0 wk0 hcE hmE a' dp fk' fp' wk' Wt Wi (v :: Mk) 0 Pt' Cd' s hc' hm' → (¬ fk = 0 → fk' = fk ∧ fp' = fp) → i' ≤ a' → lvl (T.k a') ≤ l → J (wT G D T i' a' hc') (fun hx Q => Km (mg hx hm') Q) P
def tOk (l : Nat) (Wt : List Int32) : Prop := ∀ s r, Wt = s :: r → lvl s ≤ l ∧ ¬ s < 0
def sB (a l : Nat) : Prop := ∀ dp fk fp wk Wt Wi Mk Pt Cd s i d hc hm (Km : qh → (qr → qh → Prop) → Prop) (P : qr → qh → qr → qh → Prop), XI T c p e Nm Cd0 Pt0 wk0 hcE hmE a dp fk fp wk Wt Wi Mk 1 Pt Cd s hc hm → tOk l Wt → Wt.length ≤ 11 * dp + l → Mk.length ≤ Wt.length → i ≤ a → 13 * (17 - dp) + (10 - l) + 7 ≤ d → okB G D T c p e Nm Cd0 Pt0 wk0 hcE hmE l a dp fk fp Wt Wi Mk s Km P → (∀ hc' hm', xF c p hcE hmE hc' hm' → P (riv 0) hc' rxx hm') →
  J (wR G D i hc) (fun hx Q => q_M0 G d yX12_binary [.ref 43, .int (Int32.ofNat l)] (mg hx hm) (q_rv (fun h1 => Km h1 Q) (fun E h => Q (.inr E) h))) P
def sL (a l : Nat) : Prop := ∀ dp fk fp wk Wt Wi v Mk Pt Cd s i d hc hm (Km : qh → (qr → qh → Prop) → Prop) (P : qr → qh → qr → qh → Prop), XI T c p e Nm Cd0 Pt0 wk0 hcE hmE a dp fk fp wk Wt Wi (v :: Mk) 0 Pt Cd s hc hm → tOk l Wt → Wt.length ≤ 11 * dp + l → Mk.length ≤ Wt.length → i ≤ a → lvl (T.k a) ≤ l + 1 → 13 * (17 - dp) + (10 - l) + 7 ≤ d + 1 → (∀ a' fk' fp' wk' v Pt' Cd' i' hc' hm', a ≤ a' → XI T c p e Nm Cd0 Pt0 wk0 hcE hmE a' dp fk' fp' wk' Wt Wi (v :: Mk) 0 Pt' Cd' s hc' hm' → (¬ fk = 0 → fk' = fk ∧ fp' = fp) → i' ≤ a' → lvl (T.k a') ≤ l → J (wT G D T i' a' hc') (fun hx Q => Km (mg hx hm') Q) P) → (∀ hc' hm', xF c p hcE hmE hc' hm' → P (riv 0) hc' rxx hm') →
  J (wT G D T i a hc) (fun hx Q => q_N0 G m_X12_binary (d + 1) (q_rv (fun h1 => Km h1 Q) (fun E h => Q (.inr E) h)) 18 [.ref 43, .int (Int32.ofNat l), .null] [] (mg hx hm)) P
variable {G} {D} {T} {c} {p} {e} {Nm} {Cd0} {Pt0} {wk0} {hcE} {hmE}
theorem e_L (R : TR T) (hq : q_cir c) (hp : q_prg p) {l : Nat} (hl : l ≤ 9) (a0 : Nat) (IH : ∀ a', a0 < a' → sB G D T c p e Nm Cd0 Pt0 wk0 hcE hmE a' (l + 1)) : ∀ (M a : Nat), a0 ≤ a → T.n - a ≤ M → sL G D T c p e Nm Cd0 Pt0 wk0 hcE hmE a l
  | M, a, ha0, hM => by
    intro dp fk fp wk Wt Wi v Mk Pt Cd s i d hc hm Km P X hT hW hMk hi hlv hd hok hfail
    obtain ⟨x1, x2, ⟨x3, x4, x5, x6⟩, x7, x8, x9, x10⟩ := X
    have hn := R.2.1
    have l10 := lvl_le (T.k a)
    have hlev := m_levelOf (G := G) (d := d) (by omega) R x2.1 x3
    by_cases hl1 : lvl (T.k a) = l + 1
    · have hk33 := lvl_kind (x := T.k a) (by omega)
      have ha1 := tk_more' R x3 rfl (Int32.le_trans (by decide) hk33)
      obtain ⟨h1, a1, a2, a3⟩ := c_two (G := G) (d := D + 3) (by omega) hq x1 (by omega) hn ha1 (by omega)
      obtain ⟨m1, b1, b2, b3⟩ := m_part (G := G) (d := d) (by omega) hp R x2 (by omega) x3
      obtain ⟨k1, k2⟩ := wK_eq (fk := fk) (fp := fp) (k := cnt wk) (p := T.p a) (fun h0 => by have := x7.lt R x3 h0; exact ⟨this.1, this.2.2⟩)
      rw [k1, k2] at b2
      have r43 := R43.sI m1 14 (Int32.ofNat (a + 1)) (by decide)
      have b4 := b2.r43 hp (b2.1.seta (a + 1)) r43
      have hpn := tk_pn R ha1
      have X1 : XI T c p e Nm Cd0 Pt0 wk0 hcE hmE (a + 1) dp (bK fk (cnt wk)) (bP fk fp (cnt wk) (T.p a)) (wk + 1) (T.k a :: Wt) (-1 :: Wi) (v :: Mk) 1 Pt Cd (s + 1) h1 (m1.sI 43 14 (Int32.ofNat (a + 1))) :=
        ⟨a2, b4, ⟨ha1, x4, by omega, by omega⟩, x7.blame R x3 (cnt_or wk) hpn, x8.tr a3, x9.tr (b3.tr (r43.xf hp)), fun h0 => (x10 (bK_zero h0).1).count (bK_zero h0).2⟩
      refine s_tw x1 (fun s' r' q => by have := hT s' r' q; omega) (by omega) a1 ?_
      refine J.m (Wm' := fun hx Q => q_M0 G d yX12_binary [.ref 43, .int (Int32.ofNat (l + 1))] (mg hx (m1.sI 43 14 (Int32.ofNat (a + 1)))) (q_rv (fun h1 => kTwo G d a (Int32.ofNat l) Km h1 Q) (fun E h => Q (.inr E) h))) (fun hx Q hF => ?_) ?_
      · refine x_X12_binary_18 G d _ _ _ (hlev hx _ ⟨fun q => absurd ?_ q, fun _ => ?_⟩)
        · rw [hl1, n_sub1]
        · rw [mI (by decide), x2.1.1.1]
          refine b1 hx _ ?_
          show q_M0 G d yX12_binary [.ref 43, .int (Int32.ofNat l + 1)] ((mg hx m1).sI 43 14 ((mg hx m1).I 43 14 + 1)) _
          rw [mI (by decide), b2.1.1.1, n_add1, n_add1, mg_sI_m (by decide), n_N (by omega)]
          exact hF
      · refine IH (a + 1) (by omega) dp _ _ _ _ _ _ _ _ (s + 1) (i + 1) d h1 _ _ P X1 (fun s' r' q => by cases q; exact ⟨by omega, lvl_pos (by omega)⟩) (by rw [List.length_cons]; omega) (by rw [List.length_cons, List.length_cons]; omega) (by omega) (by omega) ?_ hfail
        intro a' fk' fp' wk' v2 Pt' Cd' i' hc' hm' ha' X' hk' hi' hlv'
        obtain ⟨y1, y2, ⟨y3, y4, y5, y6⟩, y7, y8, y9, y10⟩ := X'
        obtain ⟨h3, v', Pt3, f1, f2, f3, f4⟩ := s_two (G := G) (D := D) (i := i') hq y1 (by omega)
        obtain ⟨m3, g1, g2, g3⟩ := m_code (G := G) (d := d) (by omega) hp y2 (by omega) 3 (T.k a)
        refine J.c f4 ?_
        refine J.m (Wm' := fun hx Q => q_N0 G m_X12_binary (d + 1) (q_rv (fun h1 => Km h1 Q) (fun E h => Q (.inr E) h)) 18 [.ref 43, .int (Int32.ofNat l), .null] [] (mg hx m3)) (fun hx Q hF => ?_) ?_
        · refine ⟨m_inA R x3, ?_⟩
          rw [mI (by decide), y2.1.2.2.2.2, show T.vm a = T.k a from ((tk_sign R x3 hk33).mp rfl).2]
          exact g1 hx _ hF
        · have hz : fk' = 0 → fk = 0 := fun h0 => (bK_zero (Classical.byContradiction fun q => q ((hk' q).1.symm.trans h0))).1
          have X3 : XI T c p e Nm Cd0 Pt0 wk0 hcE hmE a' dp fk' fp' wk' Wt Wi (v' :: Mk) 0 Pt3 ((3, T.k a) :: Cd') s h3 m3 :=
            ⟨f1, g2, ⟨y3, y4, by rw [List.length_cons]; omega, y6⟩, y7, y8.tr f2, y9.tr g3, fun h0 => (y10 h0).emit f3 (Or.inr (Or.inr (Or.inr ⟨v2, v, Mk, rfl, rfl, rfl, by show 1 ≤ lvl (T.k a); omega, rfl⟩)))⟩
          refine e_L R hq hp hl a0 IH (M - 1) a' (by omega) (by omega) dp _ _ _ _ _ _ _ _ _ s i' d h3 m3 Km P X3 hT hW hMk hi' (by omega) hd ?_ hfail
          intro a4 fk4 fp4 wk4 v4 Pt4 Cd4 i4 hc4 hm4 h4 X4 hk4 hi4 hlv4
          refine hok a4 fk4 fp4 wk4 v4 Pt4 Cd4 i4 hc4 hm4 (by omega) X4 (fun h0 => ?_) hi4 hlv4
          have e0 := bK_keep (fp := fp) (k := cnt wk) (p := T.p a) h0
          have e1 := hk' (by rw [e0.1]; exact h0)
          rw [e0.1, e0.2] at e1
          have e2 := hk4 (by rw [e1.1]; exact h0)
          exact ⟨e2.1.trans e1.1, e2.2.trans e1.2⟩
    · have := hok a fk fp wk v Pt Cd i hc hm (Nat.le_refl _) ⟨x1, x2, ⟨x3, x4, x5, x6⟩, x7, x8, x9, x10⟩ (fun _ => ⟨rfl, rfl⟩) hi (by omega)
      refine J.m (fun hx Q hF => ?_) this
      refine x_X12_binary_18 G d _ _ _ (hlev hx _ ⟨fun _ => hF, fun q => absurd ?_ hl1⟩)
      match hk : lvl (T.k a), q with
      | 0, q => exact absurd q.symm (n_ne1 (by omega))
      | m + 1, q =>
        rw [n_sub1] at q
        have := (n_eq (by omega) (by omega)).mp q
        omega
termination_by M a => T.n - a
decreasing_by omega
theorem e_B10 (R : TR T) {a : Nat} (h : sU G D T c p e Nm Cd0 Pt0 wk0 hcE hmE a) : sB G D T c p e Nm Cd0 Pt0 wk0 hcE hmE a 10 := by
  intro dp fk fp wk Wt Wi Mk Pt Cd s i d hc hm Km P X hT hW hMk hi hd hok hfail
  obtain ⟨d, rfl⟩ : ∃ d', d = d' + 1 := ⟨d - 1, by omega⟩
  refine J.m (Wm' := fun hx Q => q_M0 G d yX12_unary [.ref 43] (mg hx hm) (q_rv (fun h1 => Km h1 Q) (fun E h => Q (.inr E) h))) (fun hx Q hF => x_X12_binary G d _ _ _ ⟨fun q => absurd rfl q, fun _ => hF⟩) ?_
  refine h dp fk fp wk Wt Wi Mk Pt Cd s i d hc hm Km P X hW hMk hi (by omega) ?_ hfail
  intro a' fk' fp' wk' v Pt' Cd' i' hc' hm' ha' X' hk' hi'
  exact s_OT X'.1 (fun s' r' q => (hT s' r' q).2) (hok a' fk' fp' wk' v Pt' Cd' i' hc' hm' ha' X' hk' hi' (lvl_le _))
theorem e_B (R : TR T) (hq : q_cir c) (hp : q_prg p) {l a : Nat} (hl : l ≤ 9) (h : sB G D T c p e Nm Cd0 Pt0 wk0 hcE hmE a (l + 1)) (IH : ∀ a', a < a' → sB G D T c p e Nm Cd0 Pt0 wk0 hcE hmE a' (l + 1)) : sB G D T c p e Nm Cd0 Pt0 wk0 hcE hmE a l := by
  intro dp fk fp wk Wt Wi Mk Pt Cd s i d hc hm Km P X hT hW hMk hi hd hok hfail
  obtain ⟨d, rfl⟩ : ∃ d', d = d' + 1 := ⟨d - 1, by omega⟩
  refine J.m (Wm' := fun hx Q => q_M0 G d yX12_binary [.ref 43, .int (Int32.ofNat (l + 1))] (mg hx hm) (q_rv (fun h1 => q_N0 G m_X12_binary (d + 1) (q_rv (fun h1 => Km h1 Q) (fun E h => Q (.inr E) h)) 18 [.ref 43, .int (Int32.ofNat l), .null] [] h1) (fun E h => Q (.inr E) h))) (fun hx Q hF => x_X12_binary G d _ _ _ ⟨fun _ => ?_, fun q => absurd ((n_eq (b := 10) (by omega) (by omega)).mp q) (by omega)⟩) ?_
  · rw [n_add1]; exact hF
  refine h dp fk fp wk Wt Wi Mk Pt Cd s i d hc hm _ P X (fun s' r' q => ⟨by have := (hT s' r' q).1; omega, (hT s' r' q).2⟩) (by omega) hMk hi (by omega) ?_ hfail
  intro a' fk' fp' wk' v Pt' Cd' i' hc' hm' ha' X' hk' hi' hlv
  refine e_L R hq hp hl a IH (T.n - a') a' (by omega) (Nat.le_refl _) dp fk' fp' wk' Wt Wi v Mk Pt' Cd' s i' d hc' hm' Km P X' hT hW hMk hi' hlv hd ?_ hfail
  intro a4 fk4 fp4 wk4 v4 Pt4 Cd4 i4 hc4 hm4 h4 X4 hk4 hi4 hlv4
  refine hok a4 fk4 fp4 wk4 v4 Pt4 Cd4 i4 hc4 hm4 (by omega) X4 (fun h0 => ?_) hi4 hlv4
  have e1 := hk' h0
  have e2 := hk4 (by rw [e1.1]; exact h0)
  exact ⟨e2.1.trans e1.1, e2.2.trans e1.2⟩
end EXPR2
