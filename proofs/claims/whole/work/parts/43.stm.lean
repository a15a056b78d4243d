/-! ===== STATEMENTS: more steps ===== -/
theorem PFc.sI {c : Nat} (h : qh) (o k : Nat) (v : Int32) (e : ((21 ≤ o ∧ o ≤ 30) ∨ (c ≤ o ∧ o ≤ c + 6)) ∧ ¬ (o = c ∧ k = 6)) : PFc c h (h.sI o k v) := ⟨fun o' e1 e2 => sI_row h (by omega), fun _ _ => rfl, rfl, fun x => x.to (by rw [sI_I]; exact if_neg (by omega))⟩
theorem PFm.sI {p e : Nat} (hp : q_prg p) (he : q_end e) (h : qh) (o k : Nat) (v : Int32) (x : (o = 43 ∧ (k = 14 ∨ k = 15 ∨ (17 ≤ k ∧ k ≤ 20) ∨ k = 27 ∨ k = 40)) ∨ (73 ≤ o ∧ o ≤ 75) ∨ (p ≤ o ∧ o ≤ p + 10) ∨ o = e) : PFm p e h (h.sI o k v) := by
  have := prg_lt hp
  have := end_lt he
  refine ⟨fun o' e1 e2 e3 e4 => sI_row h (by omega), rfl, rfl, fun k' e1 => ?_⟩
  rw [sI_I]; exact if_neg (by omega)
theorem R43.pf {p e : Nat} {h h' : qh} (hp : q_prg p) (r : R43 h h') : PFm p e h h' := (r.xf hp).pf
theorem R22.pf {c : Nat} {h h' : qh} (hq : q_cir c) (r : R22 h h') : PFc c h h' := (r.xf hq).pf
section STM
variable {G : qG} {d : Nat} {T : tkD} {c p e a dp : Nat} {fk fp : Int32} {wk : Nat} {Pt : List prt} {Cd : List cod} {Nm : List nmE} {st nv nl jn wh : Nat} {ag bh : Int32} {hc hm : qh}
theorem CSt.s10 (x : CSt T c a dp fk fp wk Pt jn nv nl ag bh hc) (hq : q_cir c) (v : Nat) : CSt T c a dp fk fp wk Pt jn v nl ag bh (hc.sI c 10 (Int32.ofNat v)) := by
  have hc8 := cir_lt hq
  obtain ⟨y1, y2, y3, y4, y5, y6, y7, y8, y9, y10, y11⟩ := x
  have s1 : ∀ o, o ≠ c → (hc.sI c 10 (Int32.ofNat v)).I o = hc.I o := fun o ho => sI_row _ ho
  exact ⟨y1.to (s1 _ (by omega)) rfl (s1 _ (by omega)) (s1 _ (by omega)) (s1 _ (by omega)) rfl, by rw [s1 _ (by omega)]; exact y2, ⟨by rw [sI_I, if_neg (by omega)]; exact y3.1, y3.2.1, prts_to (fun j _ => by rw [s1 _ (by omega), s1 _ (by omega), s1 _ (by omega), s1 _ (by omega)]; exact ⟨rfl, rfl, rfl, rfl⟩) y3.2.2⟩, y4.to (s1 _ (by omega)), y5, y6, by rw [sI_I, if_neg (by omega)]; exact y7, by rw [sI_I]; exact if_pos ⟨rfl, rfl⟩, by rw [sI_I, if_neg (by omega)]; exact y9, by rw [s1 _ (by omega)]; exact y10, by rw [s1 _ (by omega)]; exact y11⟩
theorem SFc.s10 (hq : q_cir c) (h : qh) (v : Int32) : SFc c jn h (h.sI c 10 v) := by
  exact ⟨fun j _ => by rw [sI_row _ (by omega)], sI_row _ (by omega), fun k hk => by rw [sI_I]; exact if_neg (by omega)⟩
theorem CSt.s21 (x : CSt T c a dp fk fp wk Pt jn nv nl ag bh hc) (hq : q_cir c) (v w : Int32) : CSt T c a dp fk fp wk Pt jn nv nl v w ((hc.sI 21 4 v).sI 21 5 w) := by
  have hc8 := cir_lt hq
  obtain ⟨y1, y2, y3, y4, y5, y6, y7, y8, y9, y10, y11⟩ := x
  have s1 : ∀ o, o ≠ 21 → ((hc.sI 21 4 v).sI 21 5 w).I o = hc.I o := fun o ho => (sI_row _ ho).trans (sI_row _ ho)
  exact ⟨y1.to (s1 _ (by omega)) rfl (s1 _ (by omega)) (s1 _ (by omega)) (s1 _ (by omega)) rfl, by rw [s1 _ (by omega)]; exact y2, y3.to (fun o _ _ => s1 o (by omega)), y4.to (s1 _ (by omega)), y5, y6, by rw [s1 _ (by omega)]; exact y7, by rw [s1 _ (by omega)]; exact y8, by rw [s1 _ (by omega)]; exact y9, rfl, rfl⟩
theorem SFc.row (hq : q_cir c) (h : qh) (o k : Nat) (v : Int32) (ho : 15 ≤ o) : SFc c jn h (h.sI o k v) := by
  have hc8 := cir_lt hq
  exact ⟨fun j _ => by rw [sI_row _ (by omega)], sI_row _ (by omega), fun k hk => by rw [sI_row _ (by omega)]⟩
theorem CSt.s23 (x : CSt T c a dp fk fp wk Pt jn nv nl ag bh hc) (hq : q_cir c) {n : Nat} (hn : n ≤ 25) : CSt T c a dp fk fp wk Pt jn nv nl ag bh (hc.sI 23 3 (Int32.ofNat n)) := by
  have hc8 := cir_lt hq
  obtain ⟨y1, y2, y3, y4, y5, y6, y7, y8, y9, y10, y11⟩ := x
  have s1 : ∀ o, o ≠ 23 → (hc.sI 23 3 (Int32.ofNat n)).I o = hc.I o := fun o ho => sI_row _ ho
  exact ⟨y1.to (s1 _ (by omega)) rfl (s1 _ (by omega)) (s1 _ (by omega)) (s1 _ (by omega)) rfl, by rw [s1 _ (by omega)]; exact y2, y3.to (fun o _ _ => s1 o (by omega)), ⟨n, hn, rfl⟩, y5, y6, by rw [s1 _ (by omega)]; exact y7, by rw [s1 _ (by omega)]; exact y8, by rw [s1 _ (by omega)]; exact y9, by rw [s1 _ (by omega)]; exact y10, by rw [s1 _ (by omega)]; exact y11⟩
theorem cnm_tail {h : qh} {L : List nmE} : ∀ {X : List nmE}, cnm T h (X ++ L) → cnm T h L
  | [], h => h
  | _ :: _, ⟨_, b⟩ => cnm_tail b
theorem nms_tail {h : qh} {L : List nmE} : ∀ {X : List nmE}, nms h (X ++ L) → nms h L
  | [], h => h
  | _ :: _, ⟨_, b⟩ => nms_tail b
theorem CN.cut {X : List nmE} (n : CN T (X ++ Nm) hc) : CN T Nm (hc.sI 23 3 (Int32.ofNat Nm.length)) := by
  refine ⟨rfl, by have := n.2.1; rw [List.length_append] at this; omega, cnm_to (h := hc) (fun j _ => ⟨rfl, ?_, ?_⟩) (cnm_tail n.2.2)⟩
  · rw [sI_row _ (by decide)]
  · rw [sI_row _ (by decide)]
theorem uq_tail : ∀ {X : List nmE}, uq T (X ++ Nm) → uq T Nm
  | [], h => h
  | _ :: _, ⟨_, b⟩ => uq_tail b
theorem MN.cut {X : List nmE} (n : MN T (X ++ Nm) hm) : MN T Nm (hm.sI 43 27 (Int32.ofNat Nm.length)) := by
  refine ⟨rfl, by have := n.2.1; rw [List.length_append] at this; omega, nms_to (fun j _ => ⟨?_, ?_, ?_⟩) (nms_tail n.2.2.1), fun x hx => n.2.2.2 x (List.mem_append_right _ hx)⟩
  · rw [sI_row _ (by decide)]
  · rw [sI_row _ (by decide)]
  · rw [sI_row _ (by decide)]
theorem MSt.cut {X : List nmE} (x : MSt T p e a dp fk fp wk Cd (X ++ Nm) st nv nl wh hm) (hp : q_prg p) : MSt T p e a dp fk fp wk Cd Nm st nv nl wh (hm.sI 43 27 (Int32.ofNat Nm.length)) := by
  have hpl := prg_lt hp
  obtain ⟨⟨x1, x2, x3, x4, x5, x6⟩, y1, y2, y3, y4⟩ := x
  have s1 : ∀ o, o ≠ 43 → (hm.sI 43 27 (Int32.ofNat Nm.length)).I o = hm.I o := fun o ho => sI_row _ ho
  exact ⟨⟨x1.set (by decide), x2.to (by rw [s1 _ (by omega)]) (s1 _ (by omega)) (s1 _ (by omega)), by rw [s1 _ (by omega)]; exact x3, x4.cut, x5, x6⟩, by rw [s1 _ (by omega)]; exact y1, by rw [s1 _ (by omega)]; exact y2, by rw [s1 _ (by omega)]; exact y3, by rw [sI_I, if_neg (by decide)]; exact y4⟩
theorem MSt.s40 (x : MSt T p e a dp fk fp wk Cd Nm st nv nl wh hm) (hp : q_prg p) (v : Nat) : MSt T p e a dp fk fp wk Cd Nm st nv nl v (hm.sI 43 40 (Int32.ofNat v)) := by
  have hpl := prg_lt hp
  obtain ⟨⟨x1, x2, x3, x4, x5, x6⟩, y1, y2, y3, y4⟩ := x
  have s1 : ∀ o, o ≠ 43 → (hm.sI 43 40 (Int32.ofNat v)).I o = hm.I o := fun o ho => sI_row _ ho
  exact ⟨⟨x1.set (by decide), x2.to (by rw [s1 _ (by omega)]) (s1 _ (by omega)) (s1 _ (by omega)), by rw [s1 _ (by omega)]; exact x3, x4.to (by rw [sI_I, if_neg (by decide)]) (fun o _ _ => s1 o (by omega)), x5, x6⟩, by rw [s1 _ (by omega)]; exact y1, by rw [s1 _ (by omega)]; exact y2, by rw [s1 _ (by omega)]; exact y3, rfl⟩
theorem MSt.row (x : MSt T p e a dp fk fp wk Cd Nm st nv nl wh hm) (hp : q_prg p) {o : Nat} (h2 : 1 ≤ o) (h8 : o ≤ 8) (s : Nat) (v : Int32) : MSt T p e a dp fk fp wk Cd Nm st nv nl wh (hm.sI (p + o) s v) := by
  have hpl := prg_lt hp
  obtain ⟨⟨x1, x2, x3, x4, x5, x6⟩, y1, y2, y3, y4⟩ := x
  have s1 : ∀ o', o' ≠ p + o → (hm.sI (p + o) s v).I o' = hm.I o' := fun o' ho => sI_row _ ho
  exact ⟨⟨x1.to (fun o' ho => s1 o' (by omega)), x2.to (by rw [s1 _ (by omega)]) (s1 _ (by omega)) (s1 _ (by omega)), by rw [s1 _ (by omega)]; exact x3, x4.to (by rw [s1 _ (by omega)]) (fun o' _ _ => s1 o' (by omega)), x5, x6⟩, by rw [s1 _ (by omega)]; exact y1, by rw [s1 _ (by omega)]; exact y2, by rw [s1 _ (by omega)]; exact y3, by rw [s1 _ (by omega)]; exact y4⟩
theorem SFm.row (hp : q_prg p) (he : q_end e) (h : qh) {o s n st : Nat} (v : Int32) (h2 : 2 ≤ o) (h8 : o ≤ 8) (hs : st ≤ s) : SFm p e st n h (h.sI (p + o) s v) := by
  have hpl := prg_lt hp
  have hel := end_lt he
  exact ⟨fun o' e1 e2 i e3 => by rw [sI_I]; exact if_neg (by omega), fun i _ => by rw [sI_row _ (by omega)], sI_row _ (by omega), fun k _ => by rw [sI_row _ (by omega)]⟩
theorem SFm.s43 (hp : q_prg p) (he : q_end e) (h : qh) {k n st : Nat} (v : Int32) : SFm p e st n h (h.sI 43 k v) := by
  have hpl := prg_lt hp
  have hel := end_lt he
  exact ⟨fun o' e1 e2 i e3 => by rw [sI_row _ (by omega)], fun i _ => by rw [sI_row _ (by omega)], sI_row _ (by omega), fun k _ => by rw [sI_row _ (by omega)]⟩
theorem sm_new (hd : 1 ≤ d) (hp : q_prg p) (he : q_end e) (x : MSt T p e a dp fk fp wk Cd Nm st nv nl wh hm) (hs : st < 2000) (k : Int32) : ∃ hm', mR G d yX12_newStatement [.ref 43, .int k] hm (riv (Int32.ofNat st)) hm' ∧ MSt T p e a dp fk fp wk Cd Nm (st + 1) nv nl wh hm' ∧ PFm p e hm hm' ∧ (∀ n, SFm p e st n hm hm') ∧ (hm'.I (p + 2) st = k ∧ hm'.I (p + 6) st = -1 ∧ hm'.I (p + 7) st = -1 ∧ hm'.I (p + 8) st = -1) := by
  obtain ⟨d, rfl⟩ := Nat.exists_eq_add_of_le' hd
  have hpl := prg_lt hp
  have hel := end_lt he
  have x0 : MSt T p e a dp fk fp wk Cd Nm (st + 1) nv nl wh (hm.sI p 5 (Int32.ofNat (st + 1))) := by
    obtain ⟨⟨x1, x2, x3, x4, x5, x6⟩, y1, y2, y3, y4⟩ := x
    have s1 : ∀ o', o' ≠ p → (hm.sI p 5 (Int32.ofNat (st + 1))).I o' = hm.I o' := fun o' ho => sI_row _ ho
    exact ⟨⟨x1.to (fun o' ho => s1 o' (by omega)), x2.to (by rw [sI_I]; exact if_neg (by omega)) (s1 _ (by omega)) (s1 _ (by omega)), by rw [sI_I, if_neg (by omega)]; exact x3, x4.to (by rw [s1 _ (by omega)]) (fun o' _ _ => s1 o' (by omega)), x5, x6⟩, by rw [sI_I]; exact if_pos ⟨rfl, rfl⟩, by rw [sI_I, if_neg (by omega)]; exact y2, by rw [sI_I, if_neg (by omega)]; exact y3, by rw [s1 _ (by omega)]; exact y4⟩
  have x1 := ((((x0.row hp (o := 2) (by decide) (by decide) st k).row hp (o := 3) (by decide) (by decide) st 0).row hp (o := 6) (by decide) (by decide) st (-1)).row hp (o := 7) (by decide) (by decide) st (-1)).row hp (o := 8) (by decide) (by decide) st (-1)
  refine ⟨_, fun hx Q hQ => ?_, x1, ?_, fun n => ?_, ?_⟩
  · refine x_X12_newStatement G d k _ Q ⟨p, by rw [mRr (by decide)]; exact x.1.2.2.2.2.1, hp, ?_⟩
    have hin := n_in (a := st) (n := 2000) (by omega) hs
    rw [mI (by omega), x.2.1, n_N (by omega), n_add1, mg_sI_m (by omega), mg_sI_m (by omega), mg_sI_m (by omega), mg_sI_m (by omega), mg_sI_m (by omega), mg_sI_m (by omega)]
    exact ⟨hin, hin, hin, hin, hin, hQ⟩
  · exact (((((PFm.sI hp he _ _ _ _ (by omega)).tr (PFm.sI hp he _ _ _ _ (by omega))).tr (PFm.sI hp he _ _ _ _ (by omega))).tr (PFm.sI hp he _ _ _ _ (by omega))).tr (PFm.sI hp he _ _ _ _ (by omega))).tr (PFm.sI hp he _ _ _ _ (by omega))
  · have f0 : SFm p e st n hm (hm.sI p 5 (Int32.ofNat (st + 1))) := ⟨fun o' e1 e2 i e3 => by rw [sI_row _ (by omega)], fun i _ => by rw [sI_row _ (by omega)], sI_row _ (by omega), fun k hk => by rw [sI_I]; exact if_neg (by omega)⟩
    exact ((((f0.tr (SFm.row hp he _ _ (by decide) (by decide) (Nat.le_refl _)) (Nat.le_refl _) (Nat.le_refl _)).tr (SFm.row hp he _ _ (by decide) (by decide) (Nat.le_refl _)) (Nat.le_refl _) (Nat.le_refl _)).tr (SFm.row hp he _ _ (by decide) (by decide) (Nat.le_refl _)) (Nat.le_refl _) (Nat.le_refl _)).tr (SFm.row hp he _ _ (by decide) (by decide) (Nat.le_refl _)) (Nat.le_refl _) (Nat.le_refl _)).tr (SFm.row hp he _ _ (by decide) (by decide) (Nat.le_refl _)) (Nat.le_refl _) (Nat.le_refl _)
  · simp only [sI_I, Nat.add_left_cancel_iff, Nat.reduceEqDiff, false_and, and_self, if_true, if_false]
theorem sm_loop (hd : 2 ≤ d) (hp : q_prg p) (he : q_end e) (R : TR T) (x : MSt T p e a dp fk fp wk Cd Nm st nv nl wh hm) (hl : nl < 5000) {t : Nat} (ht : t < T.n) : ∃ hm', mR G d yX12_loop [.ref 43, .int (Int32.ofNat t)] hm rvv hm' ∧ MSt T p e a dp (wK fk fp (if nl < 40 then 0 else 6) (T.p t)) (wP fk fp (if nl < 40 then 0 else 6) (T.p t)) wk Cd Nm st nv (nl + 1) wh hm' ∧ PFm p e hm hm' ∧ (∀ n, SFm p e st n hm hm') := by
  obtain ⟨d, rfl⟩ := Nat.exists_eq_add_of_le' hd
  have hpl := prg_lt hp
  have hel := end_lt he
  have x0 : MSt T p e a dp fk fp wk Cd Nm st nv (nl + 1) wh (hm.sI p 3 (Int32.ofNat (nl + 1))) := by
    obtain ⟨⟨x1, x2, x3, x4, x5, x6⟩, y1, y2, y3, y4⟩ := x
    have s1 : ∀ o', o' ≠ p → (hm.sI p 3 (Int32.ofNat (nl + 1))).I o' = hm.I o' := fun o' ho => sI_row _ ho
    exact ⟨⟨x1.to (fun o' ho => s1 o' (by omega)), x2.to (by rw [sI_I]; exact if_neg (by omega)) (s1 _ (by omega)) (s1 _ (by omega)), by rw [sI_I, if_neg (by omega)]; exact x3, x4.to (by rw [s1 _ (by omega)]) (fun o' _ _ => s1 o' (by omega)), x5, x6⟩, by rw [sI_I, if_neg (by omega)]; exact y1, by rw [sI_I, if_neg (by omega)]; exact y2, by rw [sI_I]; exact if_pos ⟨rfl, rfl⟩, by rw [s1 _ (by omega)]; exact y4⟩
  have f0 : ∀ n, SFm p e st n hm (hm.sI p 3 (Int32.ofNat (nl + 1))) := fun n => ⟨fun o' e1 e2 i e3 => by rw [sI_row _ (by omega)], fun i _ => by rw [sI_row _ (by omega)], sI_row _ (by omega), fun k hk => by rw [sI_I]; exact if_neg (by omega)⟩
  have pf0 : PFm p e hm (hm.sI p 3 (Int32.ofNat (nl + 1))) := PFm.sI hp he _ _ _ _ (by omega)
  have e1 : ∀ hx, (mg hx hm).I p 3 + 1 = Int32.ofNat (nl + 1) := fun hx => by rw [mI (by omega), x.2.2.2.1, n_add1]
  by_cases h : nl < 40
  · refine ⟨hm.sI p 3 (Int32.ofNat (nl + 1)), fun hx Q hQ => ?_, ?_, pf0, f0⟩
    · refine x_X12_loop G (d + 1) _ _ Q ⟨p, by rw [mRr (by decide)]; exact x.1.2.2.2.2.1, hp, fun _ => ?_, fun q => absurd ?_ q⟩
      · rw [e1, mg_sI_m (by omega)]; exact hQ
      · rw [e1]; exact (n_le (b := 40) (by omega) (by omega)).mpr (by omega)
    · rw [if_pos h]; unfold wK wP; rw [if_pos rfl, if_pos rfl]; exact x0
  · obtain ⟨h1, r1, r2, r3⟩ := m_wrong (G := G) (d := d + 1) (by omega) R x0.1.1 ht (k := 6) (by decide)
    refine ⟨h1, fun hx Q hQ => ?_, ?_, pf0.tr (r3.pf hp), fun n => (f0 n).tr ((r3.xf hp).sf hp he) (Nat.le_refl _) (Nat.le_refl n)⟩
    · refine x_X12_loop G (d + 1) _ _ Q ⟨p, by rw [mRr (by decide)]; exact x.1.2.2.2.2.1, hp, fun q => absurd q ?_, fun _ => ?_⟩
      · rw [e1]; exact fun q => h (by have := (n_le (b := 40) (by omega) (by omega)).mp q; omega)
      · rw [e1, mg_sI_m (by omega)]; exact r1 hx _ hQ
    · rw [if_neg h]; exact x0.r43 hp r2 r3
theorem sm_told (hd : 1 ≤ d) (hp : q_prg p) (he : q_end e) (x : MSt T p e a dp fk fp wk Cd Nm st nv nl wh hm) (hN : Nm.length < 2000) {t : Nat} {s n : Int32} (ok : nOk T (t, s, n)) : ∃ hm', mR G d yX12_told [.ref 43, .int (Int32.ofNat t), .int s, .int n] hm rvv hm' ∧ MSt T p e a dp fk fp wk Cd ((t, s, n) :: Nm) st nv nl wh hm' ∧ PFm p e hm hm' ∧ (∀ m, SFm p e st m hm hm') := by
  obtain ⟨d, rfl⟩ := Nat.exists_eq_add_of_le' hd
  have hpl := prg_lt hp
  have hel := end_lt he
  obtain ⟨⟨x1, x2, x3, x4, x5, x6⟩, y1, y2, y3, y4⟩ := x
  have s1 : ∀ o, o ≠ 43 → o ≠ 73 → o ≠ 74 → o ≠ 75 → ((((hm.sI 73 Nm.length (Int32.ofNat t)).sI 74 Nm.length s).sI 75 Nm.length n).sI 43 27 (Int32.ofNat (Nm.length + 1))).I o = hm.I o := fun o a1 a2 a3 a4 => by
    rw [sI_row _ a1, sI_row _ a4, sI_row _ a3, sI_row _ a2]
  have s2 : ∀ k, k ≠ 27 → ((((hm.sI 73 Nm.length (Int32.ofNat t)).sI 74 Nm.length s).sI 75 Nm.length n).sI 43 27 (Int32.ofNat (Nm.length + 1))).I 43 k = hm.I 43 k := fun k hk => by
    rw [sI_I, if_neg (by omega), sI_row _ (by decide), sI_row _ (by decide), sI_row _ (by decide)]
  refine ⟨_, fun hx Q hQ => ?_, ⟨⟨⟨⟨(s2 14 (by decide)).trans x1.1.1, (s2 15 (by decide)).trans x1.1.2.1, (s2 19 (by decide)).trans x1.1.2.2.1, fun q => (s2 20 (by decide)).trans (x1.1.2.2.2.1 q), (s2 17 (by decide)).trans x1.1.2.2.2.2⟩, by rw [s1 _ (by decide) (by decide) (by decide) (by decide)]; exact x1.2.1, by rw [s1 _ (by decide) (by decide) (by decide) (by decide)]; exact x1.2.2.1, by rw [s1 _ (by decide) (by decide) (by decide) (by decide)]; exact x1.2.2.2.1, by rw [s1 _ (by decide) (by decide) (by decide) (by decide)]; exact x1.2.2.2.2⟩, x2.to (by rw [s1 p (by omega) (by omega) (by omega) (by omega)]) (s1 _ (by omega) (by omega) (by omega) (by omega)) (s1 _ (by omega) (by omega) (by omega) (by omega)), by rw [s1 p (by omega) (by omega) (by omega) (by omega)]; exact x3, ⟨rfl, by rw [List.length_cons]; omega, ⟨?_, nms_to (fun j hj => ?_) x4.2.2.1⟩, fun z hz => ?_⟩, x5, x6⟩, by rw [s1 p (by omega) (by omega) (by omega) (by omega)]; exact y1, by rw [s1 p (by omega) (by omega) (by omega) (by omega)]; exact y2, by rw [s1 p (by omega) (by omega) (by omega) (by omega)]; exact y3, (s2 40 (by decide)).trans y4⟩, ⟨fun o e1 e2 e3 e4 => s1 o e1 (by omega) (by omega) (by omega), rfl, rfl, fun k hk => s2 k (by omega)⟩, fun m => ⟨fun o e1 e2 i _ => by rw [s1 _ (by omega) (by omega) (by omega) (by omega)], fun i _ => by rw [s1 e (by omega) (by omega) (by omega) (by omega)], s1 _ (by omega) (by omega) (by omega) (by omega), fun k _ => by rw [s1 p (by omega) (by omega) (by omega) (by omega)]⟩⟩
  · have hin := n_in (a := Nm.length) (n := 2000) (by omega) hN
    refine x_X12_told G d _ _ _ _ Q ?_
    rw [mI (by decide), x4.1, n_N (by omega), n_add1, mg_sI_m (by decide), mg_sI_m (by decide), mg_sI_m (by decide), mg_sI_m (by decide)]
    exact ⟨hin, hin, hin, hQ⟩
  · simp only [sI_I, Nat.reduceEqDiff, false_and, and_self, if_true, if_false]
  · simp only [sI_I, Nat.reduceEqDiff, false_and, true_and, if_false]
    rw [if_neg (by omega), if_neg (by omega), if_neg (by omega)]
    exact ⟨rfl, rfl, rfl⟩
  · rcases List.mem_cons.mp hz with rfl | q
    · exact ok
    · exact x4.2.2.2 z q
theorem MSt.s2 (x : MSt T p e a dp fk fp wk Cd Nm st nv nl wh hm) (hp : q_prg p) (v : Nat) : MSt T p e a dp fk fp wk Cd Nm st v nl wh (hm.sI p 2 (Int32.ofNat v)) := by
  have hpl := prg_lt hp
  obtain ⟨⟨x1, x2, x3, x4, x5, x6⟩, y1, y2, y3, y4⟩ := x
  have s1 : ∀ o', o' ≠ p → (hm.sI p 2 (Int32.ofNat v)).I o' = hm.I o' := fun o' ho => sI_row _ ho
  exact ⟨⟨x1.to (fun o' ho => s1 o' (by omega)), x2.to (by rw [sI_I]; exact if_neg (by omega)) (s1 _ (by omega)) (s1 _ (by omega)), by rw [sI_I, if_neg (by omega)]; exact x3, x4.to (by rw [s1 _ (by omega)]) (fun o' _ _ => s1 o' (by omega)), x5, x6⟩, by rw [sI_I, if_neg (by omega)]; exact y1, by rw [sI_I]; exact if_pos ⟨rfl, rfl⟩, by rw [sI_I, if_neg (by omega)]; exact y3, by rw [s1 _ (by omega)]; exact y4⟩
theorem sm_varTold (hd : 2 ≤ d) (hp : q_prg p) (he : q_end e) (R : TR T) (x : MSt T p e a dp fk fp wk Cd Nm st nv nl wh hm) (hN : Nm.length < 2000) (hv : nv < 5000) {t : Nat} (ht : t < T.n) (kt : T.k t = 2) : ∃ hm', mR G d yX12_variableTold [.ref 43, .int (Int32.ofNat t)] hm rvv hm' ∧ MSt T p e a dp (wK fk fp (if nv < 16 then 0 else 6) (T.p t)) (wP fk fp (if nv < 16 then 0 else 6) (T.p t)) wk Cd ((t, 2, Int32.ofNat nv) :: Nm) st (nv + 1) nl wh hm' ∧ PFm p e hm hm' ∧ (∀ n, SFm p e st n hm hm') := by
  obtain ⟨d, rfl⟩ := Nat.exists_eq_add_of_le' hd
  have hpl := prg_lt hp
  have hel := end_lt he
  have ok : nOk T (t, 2, Int32.ofNat nv) := ⟨ht, kt, Or.inr (Or.inr rfl)⟩
  have e1 : ∀ hx, (mg hx hm).I p 2 = Int32.ofNat nv := fun hx => by rw [mI (by omega)]; exact x.2.2.1
  have f2 : ∀ (h : qh) n, SFm p e st n h (h.sI p 2 (Int32.ofNat (nv + 1))) := fun h n => ⟨fun o' e1 e2 i e3 => by rw [sI_row _ (by omega)], fun i _ => by rw [sI_row _ (by omega)], sI_row _ (by omega), fun k hk => by rw [sI_I]; exact if_neg (by omega)⟩
  by_cases h : nv < 16
  · obtain ⟨h1, r1, r2, r3, r4⟩ := sm_told (G := G) (d := d + 1) (by omega) hp he x hN ok
    refine ⟨h1.sI p 2 (Int32.ofNat (nv + 1)), fun hx Q hQ => ?_, ?_, r3.tr (PFm.sI hp he _ _ _ _ (by omega)), fun n => (r4 n).tr (f2 _ n) (Nat.le_refl _) (Nat.le_refl _)⟩
    · refine x_X12_variableTold G (d + 1) _ _ Q ⟨p, by rw [mRr (by decide)]; exact x.1.2.2.2.2.1, hp, fun _ => ?_, fun q => absurd ?_ q⟩
      · rw [e1]
        refine r1 hx _ ?_
        show Q _ ((mg hx h1).sI p 2 ((mg hx h1).I p 2 + 1))
        rw [mI (by omega), r2.2.2.1, n_add1, mg_sI_m (by omega)]
        exact hQ
      · rw [e1]; exact (n_lt (b := 16) (by omega) (by omega)).mpr h
    · rw [if_pos h]; unfold wK wP; rw [if_pos rfl, if_pos rfl]; exact r2.s2 hp _
  · obtain ⟨h0, q1, q2, q3⟩ := m_wrong (G := G) (d := d + 1) (by omega) R x.1.1 ht (k := 6) (by decide)
    have x0 := x.r43 hp q2 q3
    obtain ⟨h1, r1, r2, r3, r4⟩ := sm_told (G := G) (d := d + 1) (by omega) hp he x0 hN ok
    refine ⟨h1.sI p 2 (Int32.ofNat (nv + 1)), fun hx Q hQ => ?_, ?_, (q3.pf hp).tr (r3.tr (PFm.sI hp he _ _ _ _ (by omega))), fun n => ((q3.xf hp).sf hp he).tr ((r4 n).tr (f2 _ n) (Nat.le_refl _) (Nat.le_refl _)) (Nat.le_refl _) (Nat.le_refl _)⟩
    · refine x_X12_variableTold G (d + 1) _ _ Q ⟨p, by rw [mRr (by decide)]; exact x.1.2.2.2.2.1, hp, fun q => absurd q ?_, fun _ => q1 hx _ ?_⟩
      · rw [e1]; exact fun q => h ((n_lt (b := 16) (by omega) (by omega)).mp q)
      · show q_M0 G (d + 1) yX12_told [.ref 43, .int (Int32.ofNat t), .int 2, .int ((mg hx h0).I p 2)] (mg hx h0) _
        rw [mI (by omega), x0.2.2.1]
        refine r1 hx _ ?_
        show Q _ ((mg hx h1).sI p 2 ((mg hx h1).I p 2 + 1))
        rw [mI (by omega), r2.2.2.1, n_add1, mg_sI_m (by omega)]
        exact hQ
    · rw [if_neg h]; exact r2.s2 hp _
/-- a NAME that is told -/
theorem sc_name (hd : 3 ≤ d) (hq : q_cir c) (x : CSt T c a dp fk fp wk Pt jn nv nl ag bh hc) (hn : T.n ≤ 2001) (ha : a + 1 < T.n) (hk : T.k a = 2) : ∃ hc' f, cR G d yX2_readNewName [.ref 21] hc (riv 1) hc' ∧ CSt T c (a + 1) dp (bK fk f) (bP fk fp f (T.p a)) wk Pt jn nv nl ag bh hc' ∧ hc'.L 21 6 = T.v a ∧ hc'.I 21 7 = T.p a ∧ PFc c hc hc' ∧ (∀ Nm', CN T Nm' hc → CN T Nm' hc') ∧ SFc c jn hc hc' ∧ (f = 0 ∨ f = 2) ∧ (∀ Nm', CN T Nm' hc → uq T Nm' → f = if lk T Nm' (T.v a) = none then 0 else 2) := by
  obtain ⟨d, rfl⟩ := Nat.exists_eq_add_of_le' hd
  have hc8 := cir_lt hq
  obtain ⟨h0, e0⟩ : ∃ h0, h0 = (hc.sL 21 6 (T.v a)).sI 21 7 (T.p a) := ⟨_, rfl⟩
  have s1 : ∀ o, o ≠ 21 → h0.I o = hc.I o := fun o ho => by rw [e0, sI_row _ ho, sL_I]
  have s2 : ∀ o, o ≠ 21 → h0.L o = hc.L o := fun o ho => by rw [e0]; exact sL_row _ ho
  have s3 : ∀ k, k ≠ 7 → h0.I 21 k = hc.I 21 k := fun k hk => by rw [e0, sI_I, if_neg (by omega), sL_I]
  have x0 : CSt T c a dp fk fp wk Pt jn nv nl ag bh h0 := by
    obtain ⟨y1, y2, y3, y4, y5, y6, y7, y8, y9, y10, y11⟩ := x
    exact ⟨y1.to (s1 _ (by omega)) (s2 _ (by omega)) (s1 _ (by omega)) (s1 _ (by omega)) (s1 _ (by omega)) (s2 _ (by omega)), by rw [s1 _ (by omega)]; exact y2, y3.to (fun o _ _ => s1 o (by omega)), y4.to (s1 _ (by omega)), by rw [e0]; exact y5, by rw [e0]; exact y6, by rw [s1 _ (by omega)]; exact y7, by rw [s1 _ (by omega)]; exact y8, by rw [s1 _ (by omega)]; exact y9, (s3 4 (by decide)).trans y10, (s3 5 (by decide)).trans y11⟩
  obtain ⟨h1, a1, a2, a3⟩ := c_pass (G := G) (d := d + 2) (by omega) x0.1 hk ha hn
  have x1 := x0.r22 hq a2 a3
  have l21 : h1.L 21 6 = T.v a := by rw [a3.2.1 21 (by decide), e0]; show (hc.sL 21 6 (T.v a)).L 21 6 = _; rw [sL_L]; exact if_pos ⟨rfl, rfl⟩
  have i21 : h1.I 21 7 = T.p a := by rw [a3.1 21 (by decide), e0, sI_I]; exact if_pos ⟨rfl, rfl⟩
  obtain ⟨f, b1, b2, b3⟩ := c_fTell (G := G) (d := d + 2) (T := T) (by omega) x1.2.2.2.1 (T.v a)
  obtain ⟨h2, g1, g2, g3⟩ := c_blame (G := G) (d := d + 2) (by omega) x1.1 f (T.p a)
  have hcn : ∀ Nm', CN T Nm' hc → CN T Nm' h1 := fun Nm' n => (a3.xf hq).cn hq (n.to (s1 _ (by decide)) (s2 _ (by decide)) (s1 _ (by decide)) (s1 _ (by decide)))
  refine ⟨h2, f, fun hx Q hQ => ?_, x1.r22 hq g2 g3, by rw [g3.2.1 21 (by decide)]; exact l21, by rw [g3.1 21 (by decide)]; exact i21, ?_, fun Nm' n => (g3.xf hq).cn hq (hcn Nm' n), ?_, b2, fun Nm' n u => b3 Nm' (hcn Nm' n) u⟩
  · refine x_X2_readNewName G (d + 2) _ Q ?_
    rw [cL (by decide), x.1.1.2.2.2.2.1, cI (by decide), x.1.1.2.2.2.1, mg_sL_c (by decide), mg_sI_c (by decide), ← e0]
    refine a1 hx _ ⟨fun _ => ?_, fun q => absurd q (by decide)⟩
    rw [cL (by decide), l21]
    refine b1 hx _ ?_
    show q_M0 G (d + 2) yX4_blame [.ref 22, .int f, .int ((mg h1 hx).I 21 7)] (mg h1 hx) _
    rw [cI (by decide), i21]
    exact g1 hx _ hQ
  · refine PFc.tr ⟨fun o e1 e2 => s1 o (by omega), fun o e1 => s2 o (by omega), by rw [e0]; rfl, fun x => x.to (by rw [s1 c (by omega)])⟩ ((a3.pf hq).tr (g3.pf hq))
  · refine SFc.tr (jn' := jn) ⟨fun j _ => by rw [s1 _ (by omega)], s1 _ (by omega), fun k _ => by rw [s1 _ (by omega)]⟩ (((a3.xf hq).sf hq).tr (jn' := jn) ((g3.xf hq).sf hq) (Nat.le_refl _)) (Nat.le_refl _)
theorem sc_nameNo (hd : 3 ≤ d) (hq : q_cir c) (x : CSt T c a dp fk fp wk Pt jn nv nl ag bh hc) (hk : ¬ T.k a = 2) : ∃ hc', cR G d yX2_readNewName [.ref 21] hc (riv 0) hc' ∧ CFail 1 (T.p a) hc' ∧ PFc c hc hc' := by
  obtain ⟨d, rfl⟩ := Nat.exists_eq_add_of_le' hd
  have hc8 := cir_lt hq
  obtain ⟨h0, e0⟩ : ∃ h0, h0 = (hc.sL 21 6 (T.v a)).sI 21 7 (T.p a) := ⟨_, rfl⟩
  have s1 : ∀ o, o ≠ 21 → h0.I o = hc.I o := fun o ho => by rw [e0, sI_row _ ho, sL_I]
  have s2 : ∀ o, o ≠ 21 → h0.L o = hc.L o := fun o ho => by rw [e0]; exact sL_row _ ho
  have b0 : CB T a dp fk fp h0 := x.1.to (s1 _ (by omega)) (s2 _ (by omega)) (s1 _ (by omega)) (s1 _ (by omega)) (s1 _ (by omega)) (s2 _ (by omega))
  obtain ⟨h1, a1, a2, a3⟩ := c_passNo (G := G) (d := d + 2) (by omega) b0 hk
  refine ⟨h1, fun hx Q hQ => ?_, a2, PFc.tr ⟨fun o e1 e2 => s1 o (by omega), fun o e1 => s2 o (by omega), by rw [e0]; rfl, fun x => x.to (by rw [s1 c (by omega)])⟩ (a3.pf hq)⟩
  refine x_X2_readNewName G (d + 2) _ Q ?_
  rw [cL (by decide), x.1.1.2.2.2.2.1, cI (by decide), x.1.1.2.2.2.1, mg_sL_c (by decide), mg_sI_c (by decide), ← e0]
  exact a1 hx _ ⟨fun q => absurd rfl q, fun _ => hQ⟩
theorem sc_tell (hd : 1 ≤ d) (hq : q_cir c) (x : CSt T c a dp fk fp wk Pt jn nv nl ag bh hc) (v : Int64) (s n : Int32) : ∃ hc', cR G d yX5_tell [.ref 23, .long v, .int (s + 1), .int n] hc rvv hc' ∧ CSt T c a dp fk fp wk Pt jn nv nl ag bh hc' ∧ PFc c hc hc' ∧ SFc c jn hc hc' ∧ (∀ Nm t, CN T Nm hc → Nm.length < 25 → v = T.v t → CN T ((t, s, n) :: Nm) hc') := by
  have hc8 := cir_lt hq
  obtain ⟨h1, a1, a2, a3, a4⟩ := c_tell (G := G) (T := T) hd x.2.2.2.1 v s n
  have s1 : ∀ o, ¬ (o = 23 ∨ o = 25 ∨ o = 26) → h1.I o = hc.I o := a3.1
  obtain ⟨y1, y2, y3, y4, y5, y6, y7, y8, y9, y10, y11⟩ := x
  refine ⟨h1, a1, ⟨y1.to (s1 _ (by decide)) (a3.2.1 22 (by decide)) (s1 _ (by decide)) (s1 _ (by decide)) (s1 _ (by decide)) (a3.2.1 20 (by decide)), by rw [s1 _ (by decide)]; exact y2, y3.to (fun o _ _ => s1 o (by omega)), a2, by rw [a3.2.2]; exact y5, by rw [a3.2.2]; exact y6, by rw [s1 _ (by omega)]; exact y7, by rw [s1 _ (by omega)]; exact y8, by rw [s1 _ (by omega)]; exact y9, by rw [s1 _ (by decide)]; exact y10, by rw [s1 _ (by decide)]; exact y11⟩, ⟨fun o e1 e2 => s1 o (by omega), fun o e1 => a3.2.1 o (by omega), a3.2.2, fun x => x.to (by rw [s1 c (by omega)])⟩, ⟨fun j _ => by rw [s1 _ (by omega)], s1 _ (by omega), fun k _ => by rw [s1 _ (by omega)]⟩, a4⟩
end STM
