/-! ===== the end of array() ===== -/
def kArr (G : qG) (d p : Nat) (x1 r4 : Int32) (h6 : qh) (Q : qr → qh → Prop) : Prop := ((h6.I p 0) < 8 → (vp_in r4 2001 ∧ (((h6.I 49 r4.toNatClampNeg) < 1 → (q_M0 G d yX12_wrong [.ref 43, .int 6, .int r4] h6 (q_rv (fun h8 => (8 ≤ (h8.I p 0) → (q_M0 G d yX12_told [.ref 43, .int x1, .int 0, .int (h8.I p 0)] h8 (q_rv (fun h9 => Q (.inl none) (h9.sI p 0 ((h9.I p 0) + 1))) (fun E h => Q (.inr E) h)))) ∧ (¬ 8 ≤ (h8.I p 0) → (vp_in r4 2001 ∧ (vp_in (h8.I p 0) 8 ∧ (q_M0 G d yX12_told [.ref 43, .int x1, .int 0, .int (h8.I p 0)] (h8.sI (p + 1) ((h8.I p 0).toNatClampNeg) (h8.I 49 r4.toNatClampNeg)) (q_rv (fun h12 => Q (.inl none) (h12.sI p 0 ((h12.I p 0) + 1))) (fun E h => Q (.inr E) h))))))) (fun E h => Q (.inr E) h)))) ∧ (¬ (h6.I 49 r4.toNatClampNeg) < 1 → (vp_in r4 2001 ∧ (((h6.I 49 r4.toNatClampNeg) ≤ 256 → ((8 ≤ (h6.I p 0) → (q_M0 G d yX12_told [.ref 43, .int x1, .int 0, .int (h6.I p 0)] h6 (q_rv (fun h14 => Q (.inl none) (h14.sI p 0 ((h14.I p 0) + 1))) (fun E h => Q (.inr E) h)))) ∧ (¬ 8 ≤ (h6.I p 0) → (vp_in r4 2001 ∧ (vp_in (h6.I p 0) 8 ∧ (q_M0 G d yX12_told [.ref 43, .int x1, .int 0, .int (h6.I p 0)] (h6.sI (p + 1) ((h6.I p 0).toNatClampNeg) (h6.I 49 r4.toNatClampNeg)) (q_rv (fun h17 => Q (.inl none) (h17.sI p 0 ((h17.I p 0) + 1))) (fun E h => Q (.inr E) h)))))))) ∧ (¬ (h6.I 49 r4.toNatClampNeg) ≤ 256 → (q_M0 G d yX12_wrong [.ref 43, .int 6, .int r4] h6 (q_rv (fun h18 => (8 ≤ (h18.I p 0) → (q_M0 G d yX12_told [.ref 43, .int x1, .int 0, .int (h18.I p 0)] h18 (q_rv (fun h19 => Q (.inl none) (h19.sI p 0 ((h19.I p 0) + 1))) (fun E h => Q (.inr E) h)))) ∧ (¬ 8 ≤ (h18.I p 0) → (vp_in r4 2001 ∧ (vp_in (h18.I p 0) 8 ∧ (q_M0 G d yX12_told [.ref 43, .int x1, .int 0, .int (h18.I p 0)] (h18.sI (p + 1) ((h18.I p 0).toNatClampNeg) (h18.I 49 r4.toNatClampNeg)) (q_rv (fun h22 => Q (.inl none) (h22.sI p 0 ((h22.I p 0) + 1))) (fun E h => Q (.inr E) h))))))) (fun E h => Q (.inr E) h)))))))))) ∧ (¬ (h6.I p 0) < 8 → (q_M0 G d yX12_wrong [.ref 43, .int 6, .int x1] h6 (q_rv (fun h23 => vp_in r4 2001 ∧ (((h23.I 49 r4.toNatClampNeg) < 1 → (q_M0 G d yX12_wrong [.ref 43, .int 6, .int r4] h23 (q_rv (fun h25 => (8 ≤ (h25.I p 0) → (q_M0 G d yX12_told [.ref 43, .int x1, .int 0, .int (h25.I p 0)] h25 (q_rv (fun h26 => Q (.inl none) (h26.sI p 0 ((h26.I p 0) + 1))) (fun E h => Q (.inr E) h)))) ∧ (¬ 8 ≤ (h25.I p 0) → (vp_in r4 2001 ∧ (vp_in (h25.I p 0) 8 ∧ (q_M0 G d yX12_told [.ref 43, .int x1, .int 0, .int (h25.I p 0)] (h25.sI (p + 1) ((h25.I p 0).toNatClampNeg) (h25.I 49 r4.toNatClampNeg)) (q_rv (fun h29 => Q (.inl none) (h29.sI p 0 ((h29.I p 0) + 1))) (fun E h => Q (.inr E) h))))))) (fun E h => Q (.inr E) h)))) ∧ (¬ (h23.I 49 r4.toNatClampNeg) < 1 → (vp_in r4 2001 ∧ (((h23.I 49 r4.toNatClampNeg) ≤ 256 → ((8 ≤ (h23.I p 0) → (q_M0 G d yX12_told [.ref 43, .int x1, .int 0, .int (h23.I p 0)] h23 (q_rv (fun h31 => Q (.inl none) (h31.sI p 0 ((h31.I p 0) + 1))) (fun E h => Q (.inr E) h)))) ∧ (¬ 8 ≤ (h23.I p 0) → (vp_in r4 2001 ∧ (vp_in (h23.I p 0) 8 ∧ (q_M0 G d yX12_told [.ref 43, .int x1, .int 0, .int (h23.I p 0)] (h23.sI (p + 1) ((h23.I p 0).toNatClampNeg) (h23.I 49 r4.toNatClampNeg)) (q_rv (fun h34 => Q (.inl none) (h34.sI p 0 ((h34.I p 0) + 1))) (fun E h => Q (.inr E) h)))))))) ∧ (¬ (h23.I 49 r4.toNatClampNeg) ≤ 256 → (q_M0 G d yX12_wrong [.ref 43, .int 6, .int r4] h23 (q_rv (fun h35 => (8 ≤ (h35.I p 0) → (q_M0 G d yX12_told [.ref 43, .int x1, .int 0, .int (h35.I p 0)] h35 (q_rv (fun h36 => Q (.inl none) (h36.sI p 0 ((h36.I p 0) + 1))) (fun E h => Q (.inr E) h)))) ∧ (¬ 8 ≤ (h35.I p 0) → (vp_in r4 2001 ∧ (vp_in (h35.I p 0) 8 ∧ (q_M0 G d yX12_told [.ref 43, .int x1, .int 0, .int (h35.I p 0)] (h35.sI (p + 1) ((h35.I p 0).toNatClampNeg) (h35.I 49 r4.toNatClampNeg)) (q_rv (fun h39 => Q (.inl none) (h39.sI p 0 ((h39.I p 0) + 1))) (fun E h => Q (.inr E) h))))))) (fun E h => Q (.inr E) h))))))))) (fun E h => Q (.inr E) h))))
section ARR
variable {G : qG} {d : Nat} {T : tkD} {c p e a dp : Nat} {fk fp : Int32} {wk : Nat} {Pt : List prt} {Cd : List cod} {Nm : List nmE} {st nv nl jn wh : Nat} {ag bh : Int32} {hc hm : qh}
theorem MSt.s0 (x : MSt T p e a dp fk fp wk Cd Nm st nv nl wh hm) (hp : q_prg p) {k : Nat} (hk : k = 0 ∨ k = 1 ∨ k = 7) (v : Int32) : MSt T p e a dp fk fp wk Cd Nm st nv nl wh (hm.sI p k v) := by
  have hpl := prg_lt hp
  obtain ⟨⟨x1, x2, x3, x4, x5, x6⟩, y1, y2, y3, y4⟩ := x
  have s1 : ∀ o', o' ≠ p → (hm.sI p k v).I o' = hm.I o' := fun o' ho => sI_row _ ho
  exact ⟨⟨x1.to (fun o' ho => s1 o' (by omega)), x2.to (by rw [sI_I]; exact if_neg (by omega)) (s1 _ (by omega)) (s1 _ (by omega)), by rw [sI_I, if_neg (by omega)]; exact x3, x4.to (by rw [s1 _ (by omega)]) (fun o' _ _ => s1 o' (by omega)), x5, x6⟩, by rw [sI_I, if_neg (by omega)]; exact y1, by rw [sI_I, if_neg (by omega)]; exact y2, by rw [sI_I, if_neg (by omega)]; exact y3, by rw [s1 _ (by omega)]; exact y4⟩
theorem ite_n {n b : Nat} (hn : n < 5000) (hb : b < 5000) {x : Int32} (hx : x = Int32.ofNat n) : (if x < Int32.ofNat b then (0 : Int32) else 6) = if n < b then 0 else 6 := by
  have := n_lt (a := n) (b := b) (by omega) (by omega)
  rw [hx]
  by_cases h : n < b
  · rw [if_pos h]; exact if_pos (this.mpr h)
  · rw [if_neg h]; exact if_neg (fun q => h (this.mp q))
/-- the reference puts an ARRAY down -/
theorem m_arrT (hd : 1 ≤ d) (hp : q_prg p) (he : q_end e) (R : TR T) (x : MSt T p e a dp fk fp wk Cd Nm st nv nl wh hm) (hN : Nm.length < 2000) {t nt nr q : Nat} (ht : t < T.n) (kt : T.k t = 2) (hnt : nt < T.n) (hq : q < 2147483648) (ev : T.vm nt = Int32.ofNat q) (enr : hm.I p 0 = Int32.ofNat nr) (hnr : nr < 5000) : ∃ hm', (∀ (hx : qh) (Q : qr → qh → Prop), Q (.inl none) (mg hx hm') → kArr G d p (Int32.ofNat t) (Int32.ofNat nt) (mg hx hm) Q) ∧
    MSt T p e a dp (wK (wK fk fp (if nr < 8 then 0 else 6) (T.p t)) (wP fk fp (if nr < 8 then 0 else 6) (T.p t)) (if 1 ≤ q ∧ q ≤ 256 then 0 else 6) (T.p nt)) (wP (wK fk fp (if nr < 8 then 0 else 6) (T.p t)) (wP fk fp (if nr < 8 then 0 else 6) (T.p t)) (if 1 ≤ q ∧ q ≤ 256 then 0 else 6) (T.p nt)) wk Cd ((t, 0, Int32.ofNat nr) :: Nm) st nv nl wh hm' ∧ PFm p e hm hm' ∧ hm'.I p 0 = Int32.ofNat (nr + 1) ∧ hm'.I p 1 = hm.I p 1 ∧ (∀ j, hm'.I (p + 1) j = if nr < 8 ∧ j = nr then Int32.ofNat q else hm.I (p + 1) j) := by
  have hpl := prg_lt hp
  have hel := end_lt he
  have hn := R.2.1
  have hin := m_inA R hnt
  -- a step: perhaps wrong
  have W : ∀ (u : Int32) (t' : Nat), t' < T.n → ∀ {fk fp : Int32} {m : qh}, MSt T p e a dp fk fp wk Cd Nm st nv nl wh m → ∃ m', (¬ u = 0 → mR G d yX12_wrong [.ref 43, .int u, .int (Int32.ofNat t')] m rvv m') ∧ (u = 0 → m' = m) ∧ MSt T p e a dp (wK fk fp u (T.p t')) (wP fk fp u (T.p t')) wk Cd Nm st nv nl wh m' ∧ R43 m m' := fun u t' h' fk fp m y => by
    by_cases hu : u = 0
    · refine ⟨m, fun q => absurd hu q, fun _ => rfl, ?_, R43.rf _⟩
      rw [hu]; unfold wK wP; rw [if_pos rfl, if_pos rfl]; exact y
    · obtain ⟨m', q1, q2, q3⟩ := m_wrong (G := G) (d := d) hd R y.1.1 h' (k := u) hu
      exact ⟨m', fun _ => q1, fun q => absurd q hu, y.r43 hp q2 q3, q3⟩
  obtain ⟨u1, e1⟩ : ∃ u1 : Int32, u1 = if nr < 8 then 0 else 6 := ⟨_, rfl⟩
  obtain ⟨u2, e2⟩ : ∃ u2 : Int32, u2 = if 1 ≤ q ∧ q ≤ 256 then 0 else 6 := ⟨_, rfl⟩
  obtain ⟨m1, A1, A2, A3, A4⟩ := W u1 t ht x
  obtain ⟨m2, B1, B2, B3, B4⟩ := W u2 nt hnt A3
  rw [← e1, ← e2]
  have p0 : m2.I p 0 = Int32.ofNat nr := by rw [B4.1 p (by omega), A4.1 p (by omega)]; exact enr
  have p01 : m1.I p 0 = Int32.ofNat nr := by rw [A4.1 p (by omega)]; exact enr
  -- the cells
  obtain ⟨m3, em3⟩ : ∃ m3, m3 = if nr < 8 then m2.sI (p + 1) nr (Int32.ofNat q) else m2 := ⟨_, rfl⟩
  have C3 : MSt T p e a dp (wK (wK fk fp u1 (T.p t)) (wP fk fp u1 (T.p t)) u2 (T.p nt)) (wP (wK fk fp u1 (T.p t)) (wP fk fp u1 (T.p t)) u2 (T.p nt)) wk Cd Nm st nv nl wh m3 := by
    rw [em3]; split
    · exact B3.row hp (by decide) (by decide) _ _
    · exact B3
  have pf3 : PFm p e m2 m3 := by
    rw [em3]; split
    · exact PFm.sI hp he _ _ _ _ (by omega)
    · exact PFm.rf _ _ _
  have r3p : ∀ k, m3.I p k = m2.I p k := fun k => by
    rw [em3]; split
    · rw [sI_row _ (by omega)]
    · rfl
  obtain ⟨m4, D1, D2, D3, D4⟩ := sm_told (G := G) (d := d) hd hp he C3 hN (t := t) (s := 0) (n := Int32.ofNat nr) ⟨ht, kt, Or.inl rfl⟩
  have p04 : m4.I p 0 = Int32.ofNat nr := by rw [(D4 0).2.2.2 0 (by omega), r3p]; exact p0
  refine ⟨m4.sI p 0 (Int32.ofNat (nr + 1)), fun hx Q hQ => ?_, D2.s0 hp (by omega) _, (A4.pf hp).tr ((B4.pf hp).tr (pf3.tr (D3.tr (PFm.sI hp he _ _ _ _ (by omega))))), by rw [sI_I]; exact if_pos ⟨rfl, rfl⟩, ?_, fun j => ?_⟩
  · -- the way through
    have tail : ∀ m, m = m2 → (8 ≤ (mg hx m).I p 0 → q_M0 G d yX12_told [.ref 43, .int (Int32.ofNat t), .int 0, .int ((mg hx m).I p 0)] (mg hx m) (q_rv (fun h9 => Q (.inl none) (h9.sI p 0 ((h9.I p 0) + 1))) (fun E h => Q (.inr E) h))) ∧ (¬ 8 ≤ (mg hx m).I p 0 → vp_in (Int32.ofNat nt) 2001 ∧ (vp_in ((mg hx m).I p 0) 8 ∧ q_M0 G d yX12_told [.ref 43, .int (Int32.ofNat t), .int 0, .int ((mg hx m).I p 0)] ((mg hx m).sI (p + 1) ((mg hx m).I p 0).toNatClampNeg ((mg hx m).I 49 (Int32.ofNat nt).toNatClampNeg)) (q_rv (fun h12 => Q (.inl none) (h12.sI p 0 ((h12.I p 0) + 1))) (fun E h => Q (.inr E) h)))) := fun m hm => by
      subst hm
      have fin : q_rv (fun h9 => Q (.inl none) (h9.sI p 0 ((h9.I p 0) + 1))) (fun E h => Q (.inr E) h) rvv (mg hx m4) := by
        show Q (.inl none) ((mg hx m4).sI p 0 ((mg hx m4).I p 0 + 1))
        rw [mI (by omega), p04, n_add1, mg_sI_m (by omega)]
        exact hQ
      rw [mI (by omega), p0, mI (by decide), B3.1.1.2.2.2.2, n_N (by omega), n_N (by omega), ev]
      refine ⟨fun h8 => ?_, fun h8 => ⟨hin, n_in (by omega) ?_, ?_⟩⟩
      · have : ¬ nr < 8 := fun w => absurd ((n_le (a := 8) (by omega) (by omega)).mp h8) (by omega)
        rw [if_neg this] at em3
        rw [← em3]
        exact D1 hx _ fin
      · rcases Nat.lt_or_ge nr 8 with w | w
        · exact w
        · exact absurd ((n_le (a := 8) (by omega) (by omega)).mpr w) h8
      · have : nr < 8 := by
          rcases Nat.lt_or_ge nr 8 with w | w
          · exact w
          · exact absurd ((n_le (a := 8) (by omega) (by omega)).mpr w) h8
        rw [if_pos this] at em3
        rw [mg_sI_m (by omega), ← em3]
        exact D1 hx _ fin
    have mid : ∀ m, m = m1 → ((mg hx m).I 49 (Int32.ofNat nt).toNatClampNeg < 1 → q_M0 G d yX12_wrong [.ref 43, .int 6, .int (Int32.ofNat nt)] (mg hx m) (q_rv (fun h8 => (8 ≤ (h8.I p 0) → (q_M0 G d yX12_told [.ref 43, .int (Int32.ofNat t), .int 0, .int (h8.I p 0)] h8 (q_rv (fun h9 => Q (.inl none) (h9.sI p 0 ((h9.I p 0) + 1))) (fun E h => Q (.inr E) h)))) ∧ (¬ 8 ≤ (h8.I p 0) → (vp_in (Int32.ofNat nt) 2001 ∧ (vp_in (h8.I p 0) 8 ∧ (q_M0 G d yX12_told [.ref 43, .int (Int32.ofNat t), .int 0, .int (h8.I p 0)] (h8.sI (p + 1) ((h8.I p 0).toNatClampNeg) (h8.I 49 (Int32.ofNat nt).toNatClampNeg)) (q_rv (fun h12 => Q (.inl none) (h12.sI p 0 ((h12.I p 0) + 1))) (fun E h => Q (.inr E) h))))))) (fun E h => Q (.inr E) h))) ∧ (¬ (mg hx m).I 49 (Int32.ofNat nt).toNatClampNeg < 1 → vp_in (Int32.ofNat nt) 2001 ∧ (((mg hx m).I 49 (Int32.ofNat nt).toNatClampNeg ≤ 256 → (8 ≤ (mg hx m).I p 0 → q_M0 G d yX12_told [.ref 43, .int (Int32.ofNat t), .int 0, .int ((mg hx m).I p 0)] (mg hx m) (q_rv (fun h9 => Q (.inl none) (h9.sI p 0 ((h9.I p 0) + 1))) (fun E h => Q (.inr E) h))) ∧ (¬ 8 ≤ (mg hx m).I p 0 → vp_in (Int32.ofNat nt) 2001 ∧ (vp_in ((mg hx m).I p 0) 8 ∧ q_M0 G d yX12_told [.ref 43, .int (Int32.ofNat t), .int 0, .int ((mg hx m).I p 0)] ((mg hx m).sI (p + 1) ((mg hx m).I p 0).toNatClampNeg ((mg hx m).I 49 (Int32.ofNat nt).toNatClampNeg)) (q_rv (fun h12 => Q (.inl none) (h12.sI p 0 ((h12.I p 0) + 1))) (fun E h => Q (.inr E) h))))) ∧ (¬ (mg hx m).I 49 (Int32.ofNat nt).toNatClampNeg ≤ 256 → q_M0 G d yX12_wrong [.ref 43, .int 6, .int (Int32.ofNat nt)] (mg hx m) (q_rv (fun h8 => (8 ≤ (h8.I p 0) → (q_M0 G d yX12_told [.ref 43, .int (Int32.ofNat t), .int 0, .int (h8.I p 0)] h8 (q_rv (fun h9 => Q (.inl none) (h9.sI p 0 ((h9.I p 0) + 1))) (fun E h => Q (.inr E) h)))) ∧ (¬ 8 ≤ (h8.I p 0) → (vp_in (Int32.ofNat nt) 2001 ∧ (vp_in (h8.I p 0) 8 ∧ (q_M0 G d yX12_told [.ref 43, .int (Int32.ofNat t), .int 0, .int (h8.I p 0)] (h8.sI (p + 1) ((h8.I p 0).toNatClampNeg) (h8.I 49 (Int32.ofNat nt).toNatClampNeg)) (q_rv (fun h12 => Q (.inl none) (h12.sI p 0 ((h12.I p 0) + 1))) (fun E h => Q (.inr E) h))))))) (fun E h => Q (.inr E) h))))) := fun m hm => by
      subst hm
      have e49 : (mg hx m).I 49 (Int32.ofNat nt).toNatClampNeg = Int32.ofNat q := by rw [mI (by decide), A3.1.1.2.2.2.2, n_N (by omega), ev]
      have bad : ¬ (1 ≤ q ∧ q ≤ 256) → q_M0 G d yX12_wrong [.ref 43, .int 6, .int (Int32.ofNat nt)] (mg hx m) (q_rv (fun h8 => (8 ≤ (h8.I p 0) → (q_M0 G d yX12_told [.ref 43, .int (Int32.ofNat t), .int 0, .int (h8.I p 0)] h8 (q_rv (fun h9 => Q (.inl none) (h9.sI p 0 ((h9.I p 0) + 1))) (fun E h => Q (.inr E) h)))) ∧ (¬ 8 ≤ (h8.I p 0) → (vp_in (Int32.ofNat nt) 2001 ∧ (vp_in (h8.I p 0) 8 ∧ (q_M0 G d yX12_told [.ref 43, .int (Int32.ofNat t), .int 0, .int (h8.I p 0)] (h8.sI (p + 1) ((h8.I p 0).toNatClampNeg) (h8.I 49 (Int32.ofNat nt).toNatClampNeg)) (q_rv (fun h12 => Q (.inl none) (h12.sI p 0 ((h12.I p 0) + 1))) (fun E h => Q (.inr E) h))))))) (fun E h => Q (.inr E) h)) := fun w => by
        have hu : u2 = 6 := by rw [e2, if_neg w]
        have := B1 (by rw [hu]; decide)
        rw [hu] at this
        exact this hx _ (tail m2 rfl)
      refine ⟨fun w => bad ?_, fun w => ⟨hin, fun w2 => ?_, fun w2 => bad ?_⟩⟩
      · rw [e49] at w
        have := (n_lt (b := 1) hq (by omega)).mp w
        omega
      · have h1 : 1 ≤ q := by
          rcases Nat.lt_or_ge q 1 with u | u
          · exact absurd (by rw [e49]; exact (n_lt (b := 1) hq (by omega)).mpr u) w
          · exact u
        have h2 : q ≤ 256 := by rw [e49] at w2; exact (n_le (b := 256) hq (by omega)).mp w2
        exact tail m (B2 (by rw [e2, if_pos ⟨h1, h2⟩])).symm
      · rw [e49] at w2
        exact fun u => w2 ((n_le (b := 256) hq (by omega)).mpr u.2)
    have e0 : (mg hx hm).I p 0 = Int32.ofNat nr := by rw [mI (by omega)]; exact enr
    refine ⟨fun w => ⟨hin, ?_⟩, fun w => ?_⟩
    · have : nr < 8 := by rw [e0] at w; exact (n_lt (b := 8) (by omega) (by omega)).mp w
      exact mid hm (A2 (by rw [e1, if_pos this])).symm
    · have : ¬ nr < 8 := fun u => w (by rw [e0]; exact (n_lt (b := 8) (by omega) (by omega)).mpr u)
      have hu : u1 = 6 := by rw [e1, if_neg this]
      have A := A1 (by rw [hu]; decide)
      rw [hu] at A
      exact A hx _ ⟨hin, mid m1 rfl⟩
  · rw [sI_I, if_neg (by omega), (D4 0).2.2.2 1 (by omega), r3p, B4.1 p (by omega), A4.1 p (by omega)]
  · rw [sI_row _ (by omega), (D4 0).2.2.1, em3]
    split
    · rename_i w
      rw [sI_I]
      by_cases hj : j = nr
      · rw [if_pos ⟨rfl, hj⟩, if_pos ⟨w, hj⟩]
      · rw [if_neg (fun u => hj u.2), if_neg (fun u => hj u.2), B4.1 _ (by omega), A4.1 _ (by omega)]
    · rename_i w
      rw [if_neg (fun u => w u.1), B4.1 _ (by omega), A4.1 _ (by omega)]
end ARR
