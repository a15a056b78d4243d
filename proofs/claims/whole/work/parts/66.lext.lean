/-! ===== one token on both sides ===== -/
/-- the class's heap behind a token -/
def hcE (hc : qh) (cnt e : Nat) (V : Option Int64) : qh := match V with
  | none => hc.sI 17 5 (Int32.ofNat e)
  | some v => (hc.sI 17 5 (Int32.ofNat e)).sL 20 cnt v
/-- a token from s to e: its kind and value in both -/
def TK (n : Nat) (B : Nat → Nat) (s e : Nat) (kc : Int32) (V : Option Int64) (kr vr : Int32) : Prop :=
  tkr kc kr vr ∧ kc ≠ 0 ∧ (kc ≠ 1 → s < e ∧ e ≤ n) ∧ ((kc = 8 ∨ kc = 9) → s + 5 ≤ e) ∧ (kc = 3 → ∃ q : Nat, q < 2147483648 ∧ vr = Int32.ofNat q ∧ V = some (Int32.ofNat q).toInt64) ∧ (kc = 2 → ∃ l : Nat, l ≤ 8 ∧ vr = Int32.ofNat l ∧ e = s + l ∧ V = some (pk B s l) ∧ ∀ x, x < l → 0 < B (s + x))
section LEXT
variable {G : qG} {D d n : Nat} {B : Nat → Nat} {hc hm : qh}
theorem n33 {c : Nat} (h : sgS c) : 33 ≤ c ∧ c ≤ 126 := by
  simp only [sgS, List.mem_cons, List.not_mem_nil, or_false] at h
  omega
set_option maxRecDepth 100000 in
theorem sg2_val : ∀ c ∈ [33, 37, 38, 40, 41, 42, 43, 44, 45, 47, 59, 60, 61, 62, 91, 93, 94, 123, 124, 125, 126], (∀ r, r < 256 → 33 ≤ r → (33 : Int32) ≤ ((Int32.ofNat c <<< (8 &&& 31)) ||| Int32.ofNat r) ∧ ¬ ((Int32.ofNat c <<< (8 &&& 31)) ||| Int32.ofNat r) ≤ 255 ∧ ¬ ((Int32.ofNat c <<< (8 &&& 31)) ||| Int32.ofNat r) ≤ 0) := by decide +kernel
theorem sgE_S {c : Nat} (h : sgE c) : sgS c := by
  simp only [sgE, List.mem_cons, List.not_mem_nil, or_false] at h
  rcases h with h | h | h | h <;> (subst h; decide)
theorem sgD_S {c : Nat} (h : sgD c) : sgS c := by
  simp only [sgD, List.mem_cons, List.not_mem_nil, or_false] at h
  rcases h with h | h | h | h <;> (subst h; decide)
/-- the byte behind a sign: the class and the reference see the same -/
theorem sg2_same (hB : ∀ x, x < n → B x < 256) {c i : Nat} (hc : c < 256) : (sg2 c (bc n B i) ↔ sg2 c (bm n B i)) ∧ (sg2 c (bc n B i) → bc n B i = bm n B i ∧ i < n ∧ bm n B i = Int32.ofNat (B i) ∧ 33 ≤ B i ∧ sgS c) := by
  unfold bc bm
  by_cases h : i < n
  · rw [if_pos h, if_pos h]
    refine ⟨Iff.rfl, fun q => ⟨rfl, h, rfl, ?_⟩⟩
    have := hB i h
    rcases q with ⟨a, b⟩ | ⟨a, b⟩
    · have := (n_eq (b := 61) (by omega) (by omega)).mp a
      exact ⟨by omega, sgE_S b⟩
    · have := (n_eq (by omega) (by omega)).mp a
      have b' := sgD_S b
      have := n33 b'
      exact ⟨by omega, b'⟩
  · rw [if_neg h, if_neg h]
    have A : ∀ r : Int32, r = -1 ∨ r = 0 → ¬ sg2 c r := by
      rintro r hr (⟨a, b⟩ | ⟨a, b⟩)
      · rcases hr with hr | hr <;> (rw [hr] at a; exact absurd a (by decide))
      · have := n33 (sgD_S b)
        rcases hr with hr | hr
        · rw [hr] at a; exact n_ne1 (by omega) a.symm
        · rw [hr] at a; have := (n_eq (a := 0) (by omega) (by omega)).mp a; omega
    exact ⟨⟨fun q => absurd q (A _ (Or.inl rfl)), fun q => absurd q (A _ (Or.inr rfl))⟩, fun q => absurd q (A _ (Or.inl rfl))⟩
/-- the class's cutToken, by the first byte -/
theorem c_first (L : LB n B hc) {s : Nat} (hs : s < n) {kc : Int32} {h' : qh}
    (H1 : smN (B s) → cR G (d + 1) yX8_cutName [.ref 17] (hc.sI 17 5 (Int32.ofNat s)) (riv kc) h')
    (H2 : ¬ smN (B s) → dgN (B s) → cR G (d + 1) yX8_cutNumber [.ref 17] (hc.sI 17 5 (Int32.ofNat s)) (riv kc) h')
    (H3 : ¬ smN (B s) → ¬ dgN (B s) → cR G (d + 1) yX8_cutSign [.ref 17, .int (Int32.ofNat (B s))] (hc.sI 17 5 (Int32.ofNat s)) (riv kc) h') :
    cR G (d + 2) yX8_cutToken [.ref 17, .int (bc n B s)] (hc.sI 17 5 (Int32.ofNat s)) (riv kc) h' := by
  intro hx Q hQ
  have hB := L.2.2.1 s hs
  have hn := L.2.2.2
  have e : bc n B s = Int32.ofNat (B s) := if_pos hs
  refine x_X8_cutToken G (d + 1) _ _ Q ⟨fun _ => ?_, fun q => absurd (e.symm.trans q) (n_ne1 (by omega))⟩
  refine c_let (G := G) (d := d + 1) (by omega) (bc_sm L.2.2.1 s) hx _ ?_
  by_cases z : smN (B s)
  · rw [if_pos (show s < n ∧ smN (B s) from ⟨hs, z⟩)]
    exact ⟨fun q => absurd q (by decide), fun _ => H1 z hx _ hQ⟩
  · rw [if_neg (show ¬ (s < n ∧ smN (B s)) from fun y => z y.2)]
    refine ⟨fun _ => ?_, fun q => absurd rfl q⟩
    refine c_dig (G := G) (d := d + 1) (by omega) (bc_dg L.2.2.1 s) hx _ ?_
    by_cases z' : dgN (B s)
    · rw [if_pos (show s < n ∧ dgN (B s) from ⟨hs, z'⟩)]
      exact ⟨fun q => absurd q (by decide), fun _ => H2 z z' hx _ hQ⟩
    · rw [if_neg (show ¬ (s < n ∧ dgN (B s)) from fun y => z' y.2)]
      refine ⟨fun _ => ?_, fun q => absurd rfl q⟩
      rw [e]
      exact H3 z z' hx _ hQ
theorem e5 (h : qh) (v : Int32) (hx : qh) : (mg (h.sI 17 5 v) hx).I 17 5 = v := by
  simp only [mg_I, Nat.reduceLT, if_true, sI_I, and_self]
/-- what is claimed of a token -/
def TO (G : qG) (D d n : Nat) (B : Nat → Nat) (hc hm : qh) (s cnt : Nat) : Prop := ∃ e e' kc V kr vr, cR G (D + 6) yX8_cutToken [.ref 17, .int (bc n B s)] (hc.sI 17 5 (Int32.ofNat s)) (riv kc) (hcE hc cnt e V) ∧ (∀ hx Q, q_N0 G m_X12_scans (d + 4) Q 9 [.ref 43, .int (Int32.ofNat e'), .int (if kc = 1 then 0 else 1), .null, .null, .null] [] (mg hx (tokh hm cnt kr (Int32.ofNat s) vr)) → q_N0 G m_X12_scans (d + 4) Q 13 [.ref 43, .int (Int32.ofNat s), .int 1, .null, .null, .null] [] (mg hx hm)) ∧ (kc ≠ 1 → e' = e) ∧ TK n B s e kc V kr vr
theorem to_name (L : LB n B hc) (M : LM' n B hm) {s cnt : Nat} (hs : s < n) (hb : ¬ blN (B s)) (k6 : hc.I 17 6 = Int32.ofNat cnt) (e13 : hm.I 43 13 = Int32.ofNat cnt) (hcn : cnt < 2001) (z : smN (B s)) : TO G D d n B hc hm s cnt := by
  have hn := L.2.2.2
  obtain ⟨j, j1, j2, j3, j4⟩ := run_ex (n := n) (fun x => x < n ∧ (smN (B x) ∨ dgN (B x))) (fun x h => h.1) (n - s) s rfl (by omega)
  obtain ⟨m, rfl⟩ : ∃ m, j = s + m := ⟨j - s, by omega⟩
  have hall : ∀ x, x < m → smN (B (s + x)) ∨ dgN (B (s + x)) := fun x hx => (j3 (s + x) (by omega) (by omega)).2
  have hm1 : 1 ≤ m := by
    rcases Nat.eq_zero_or_pos m with q | q
    · subst q; exact absurd ⟨hs, Or.inl z⟩ j4
    · exact q
  by_cases h8 : m ≤ 8
  · have wr' := wk_rel (pk B s m)
    have k1 : wki (pk B s m) 7 0 ≠ 1 := by
      intro q; rw [q] at wr'; rcases wr' with w | w
      · exact absurd w.1 (by decide)
      · exact absurd w.1 (by decide)
    refine ⟨s + m, s + m, wki (pk B s m) 7 0, some (pk B s m), wr (pk B s m), Int32.ofNat m, ?_, fun hx Q H => ?_, fun _ => rfl, ?_⟩
    · refine c_first (d := D + 4) L hs (fun _ hx Q hQ => ?_) (fun q => absurd z q) (fun q => absurd z q)
      refine x_X8_cutName G (D + 4) _ Q ?_
      rw [e5]
      exact c_name7 (d := D + 3) j2 hcn j4 m 0 hc L k6 (by omega) (fun x _ b => hall x b) hx Q (fun _ => hQ) (fun q => absurd h8 q)
    · rw [if_neg k1] at H
      exact m_first (d := d + 1) M hs hb e13 hcn 1 0 hx Q (fun q => absurd z q) (fun _ => m_run73 (d := d + 2) M.lm j2 hall 1 hx Q (m_end73 (d := d) M.lm j2 j4 e13 hcn 1 hx Q (fun _ => H) (fun q => absurd h8 q)) m 0 (by omega)) (fun q => absurd z q) (fun q => absurd z q)
    · refine ⟨?_, ?_, fun _ => ⟨by omega, j2⟩, fun q => ?_, fun q => ?_, fun q => ⟨m, h8, rfl, rfl, rfl, fun x hx => ?_⟩⟩
      · rcases wr' with w | w
        · exact Or.inr (Or.inr (Or.inl w))
        · exact Or.inr (Or.inr (Or.inr (Or.inr (Or.inl w))))
      · intro q; rw [q] at wr'; rcases wr' with w | w
        · exact absurd w.1 (by decide)
        · exact absurd w.1 (by decide)
      · have := pk_long h8 (fun x hx => L.2.2.1 (s + x) (by omega)) q
        omega
      · rw [q] at wr'; rcases wr' with w | w
        · exact absurd w.1 (by decide)
        · exact absurd w.1 (by decide)
      · rcases hall x hx with w | w
        · have := w.1; omega
        · have := w.1; omega
  · refine ⟨s + m, s + m, 1, none, 1, Int32.ofNat m, ?_, fun hx Q H => ?_, fun _ => rfl, ?_⟩
    · refine c_first (d := D + 4) L hs (fun _ hx Q hQ => ?_) (fun q => absurd z q) (fun q => absurd z q)
      refine x_X8_cutName G (D + 4) _ Q ?_
      rw [e5]
      exact c_name7 (d := D + 3) j2 hcn j4 m 0 hc L k6 (by omega) (fun x _ b => hall x b) hx Q (fun q => absurd q h8) (fun _ => hQ)
    · rw [if_pos rfl] at H
      exact m_first (d := d + 1) M hs hb e13 hcn 1 0 hx Q (fun q => absurd z q) (fun _ => m_run73 (d := d + 2) M.lm j2 hall 1 hx Q (m_end73 (d := d) M.lm j2 j4 e13 hcn 1 hx Q (fun q => absurd q h8) (fun _ => H)) m 0 (by omega)) (fun q => absurd z q) (fun q => absurd z q)
    · exact ⟨Or.inr (Or.inl ⟨rfl, rfl⟩), by decide, fun q => absurd rfl q, fun q => absurd q (by decide), fun q => absurd q (by decide), fun q => absurd q (by decide)⟩
theorem to_num (L : LB n B hc) (M : LM' n B hm) {s cnt : Nat} (hs : s < n) (hb : ¬ blN (B s)) (k6 : hc.I 17 6 = Int32.ofNat cnt) (e13 : hm.I 43 13 = Int32.ofNat cnt) (hcn : cnt < 2001) (z : ¬ smN (B s)) (z' : dgN (B s)) : TO G D d n B hc hm s cnt := by
  have hn := L.2.2.2
  obtain ⟨j, j1, j2, j3, j4⟩ := run_ex (n := n) (fun x => x < n ∧ dgN (B x)) (fun x h => h.1) (n - s) s rfl (by omega)
  obtain ⟨m, rfl⟩ : ∃ m, j = s + m := ⟨j - s, by omega⟩
  have hall : ∀ x, x < m → dgN (B (s + x)) := fun x hx => (j3 (s + x) (by omega) (by omega)).2
  have hm1 : 1 ≤ m := by
    rcases Nat.eq_zero_or_pos m with q | q
    · subst q; exact absurd ⟨hs, z'⟩ j4
    · exact q
  have C : ∀ kc, kc = (if 2147483647 < nv B s m ∨ (s + m < n ∧ smN (B (s + m))) then (1 : Int32) else 3) → cR G (D + 6) yX8_cutToken [.ref 17, .int (bc n B s)] (hc.sI 17 5 (Int32.ofNat s)) (riv kc) (hcE hc cnt (s + m) (some (vC B s m))) := by
    rintro kc rfl
    refine c_first (d := D + 4) L hs (fun q => absurd q z) (fun _ _ hx Q hQ => ?_) (fun _ q => absurd z' q)
    refine x_X8_cutNumber G (D + 4) _ Q ?_
    exact c_num2 (d := D + 3) j2 hcn j4 hall m 0 hc L k6 (by omega) hx Q hQ
  by_cases h : 2147483647 < nv B s m ∨ (s + m < n ∧ smN (B (s + m)))
  · refine ⟨s + m, s + m, 1, some (vC B s m), 1, (vM B s m).toInt32, C 1 (by rw [if_pos h]), fun hx Q H => ?_, fun _ => rfl, ?_⟩
    · rw [if_pos rfl] at H
      exact m_first (d := d + 1) M hs hb e13 hcn 1 0 hx Q (fun _ q => absurd z' q) (fun q => absurd q z) (fun _ _ => m_run156 (d := d + 2) M.lm j2 hall 1 hx Q (m_end156 (d := d) M.lm j2 j4 hall e13 hcn 1 hx Q (fun q => absurd h q) (fun _ => H)) m 0 (by omega)) (fun _ q => absurd z' q)
    · exact ⟨Or.inr (Or.inl ⟨rfl, rfl⟩), by decide, fun q => absurd rfl q, fun q => absurd q (by decide), fun q => absurd q (by decide), fun q => absurd q (by decide)⟩
  · have hv : nv B s m ≤ 2147483647 := by
      rcases Nat.lt_or_ge 2147483647 (nv B s m) with q | q
      · exact absurd (Or.inl q) h
      · exact q
    refine ⟨s + m, s + m, 3, some (vC B s m), 3, (vM B s m).toInt32, C 3 (by rw [if_neg h]), fun hx Q H => ?_, fun _ => rfl, ?_⟩
    · rw [if_neg (by decide)] at H
      exact m_first (d := d + 1) M hs hb e13 hcn 1 0 hx Q (fun _ q => absurd z' q) (fun q => absurd q z) (fun _ _ => m_run156 (d := d + 2) M.lm j2 hall 1 hx Q (m_end156 (d := d) M.lm j2 j4 hall e13 hcn 1 hx Q (fun _ => H) (fun q => absurd q h)) m 0 (by omega)) (fun _ q => absurd z' q)
    · exact ⟨Or.inr (Or.inr (Or.inr (Or.inl ⟨rfl, rfl⟩))), by decide, fun _ => ⟨by omega, j2⟩, fun q => absurd q (by decide), fun _ => ⟨nv B s m, by omega, vM_eq hall hv, by rw [vC_eq hall hv]⟩, fun q => absurd q (by decide)⟩
theorem TK.sg {s e : Nat} {k : Int32} (h : 33 ≤ k) (h1 : s < e) (h2 : e ≤ n) : TK n B s e k none 4 k := by
  have A : ∀ x : Int32, ¬ 33 ≤ x → k ≠ x := fun x hx q => hx (q ▸ h)
  refine ⟨Or.inr (Or.inr (Or.inr (Or.inr (Or.inr ⟨h, rfl, rfl⟩)))), A 0 (by decide), fun _ => ⟨h1, h2⟩, fun q => ?_, fun q => absurd q (A 3 (by decide)), fun q => absurd q (A 2 (by decide))⟩
  rcases q with q | q
  · exact absurd q (A 8 (by decide))
  · exact absurd q (A 9 (by decide))
theorem to_sign (L : LB n B hc) (M : LM' n B hm) {s cnt : Nat} (hs : s < n) (hb : ¬ blN (B s)) (k6 : hc.I 17 6 = Int32.ofNat cnt) (e13 : hm.I 43 13 = Int32.ofNat cnt) (hcn : cnt < 2001) (z : ¬ smN (B s)) (z' : ¬ dgN (B s)) : TO G D d n B hc hm s cnt := by
  have hn := L.2.2.2
  have hB := L.2.2.1 s hs
  obtain ⟨v, v0, v2, v1, v00⟩ := m_sign (G := G) (d := d + 3) (by omega) M.lm hs
  obtain ⟨S1, S2⟩ := sg2_same (n := n) (B := B) L.2.2.1 (c := B s) (i := s + 1) hB
  have R : ∀ hx Q, q_N0 G m_X12_scans (d + 4) Q 9 [.ref 43, .int (Int32.ofNat s + (if v ≤ 255 then (1 : Int32) else 2)), .int (if v ≤ 0 then (0 : Int32) else 1), .null, .null, .null] [] (mg hx (tokh hm cnt (if (if v ≤ 0 then (0 : Int32) else 1) = 0 then (1 : Int32) else 4) (Int32.ofNat s) v)) → q_N0 G m_X12_scans (d + 4) Q 13 [.ref 43, .int (Int32.ofNat s), .int 1, .null, .null, .null] [] (mg hx hm) := fun hx Q H => m_first (d := d + 1) M hs hb e13 hcn 1 v hx Q (fun _ _ => v0) (fun q => absurd q z) (fun _ q => absurd q z') (fun _ _ => H)
  have C : ∀ kc h', (∀ hx Q, Q (riv kc) (mg h' hx) → q_M0 G (D + 5) yX8_cutSign [.ref 17, .int (Int32.ofNat (B s))] (mg (hc.sI 17 5 (Int32.ofNat s)) hx) Q) → cR G (D + 6) yX8_cutToken [.ref 17, .int (bc n B s)] (hc.sI 17 5 (Int32.ofNat s)) (riv kc) h' := fun kc h' H => c_first (d := D + 4) L hs (fun q => absurd q z) (fun _ q => absurd q z') (fun _ _ => H)
  by_cases hS : sgS (B s)
  · have hc33 := n33 hS
    by_cases h2 : sg2 (B s) (bc n B (s + 1))
    · obtain ⟨t1, t2, t3, t4, -⟩ := S2 h2
      have hB1 := L.2.2.1 (s + 1) t2
      have ev := v2 (S1.mp h2)
      rw [t3] at ev
      obtain ⟨w1, w2, w3⟩ := sg2_val (B s) hS (B (s + 1)) hB1 t4
      rw [← ev] at w1 w2 w3
      have k1 : v ≠ 1 := fun q => absurd (q ▸ w1) (by decide)
      refine ⟨s + 2, s + 2, v, none, 4, v, C _ _ (fun hx Q hQ => ?_), fun hx Q H => R hx Q ?_, fun _ => rfl, TK.sg w1 (by omega) (by omega)⟩
      · refine c_sign (d := D) L (by omega) hB hx Q (fun q => absurd hS q) (fun _ q => absurd h2 q) (fun _ _ => ?_)
        rw [t1, t3, ← ev]; exact hQ
      · rw [if_neg k1] at H
        rw [if_neg w2, if_neg w3, if_neg (by decide), show (2 : Int32) = Int32.ofNat 2 from rfl, n_add]
        exact H
    · have ev := v1 (fun q => h2 (S1.mpr q)) hS
      have w1 : (33 : Int32) ≤ v := by rw [ev]; exact (n_le (a := 33) (by omega) (by omega)).mpr (by omega)
      have w2 : v ≤ 255 := by rw [ev]; exact (n_le (b := 255) (by omega) (by omega)).mpr (by omega)
      have w3 : ¬ v ≤ 0 := by rw [ev]; exact fun q => absurd ((n_le (b := 0) (by omega) (by omega)).mp q) (by omega)
      have k1 : v ≠ 1 := fun q => absurd (q ▸ w1) (by decide)
      refine ⟨s + 1, s + 1, v, none, 4, v, C _ _ (fun hx Q hQ => ?_), fun hx Q H => R hx Q ?_, fun _ => rfl, TK.sg w1 (by omega) (by omega)⟩
      · refine c_sign (d := D) L (by omega) hB hx Q (fun q => absurd hS q) (fun _ _ => ?_) (fun _ q => absurd q h2)
        rw [← ev]; exact hQ
      · rw [if_neg k1] at H
        rw [if_pos w2, if_neg w3, if_neg (by decide), n_add1]
        exact H
  · have h2 : ¬ sg2 (B s) (bc n B (s + 1)) := fun q => hS (S2 q).2.2.2.2
    have ev := v00 (fun q => h2 (S1.mpr q)) hS
    refine ⟨s, s + 1, 1, none, 1, 0, C _ _ (fun hx Q hQ => ?_), fun hx Q H => R hx Q ?_, fun q => absurd rfl q, ?_⟩
    · exact c_sign (d := D) L (by omega) hB hx Q (fun _ => hQ) (fun q => absurd q hS) (fun q => absurd q hS)
    · rw [if_pos rfl] at H
      rw [ev, if_pos (by decide), if_pos (by decide), if_pos rfl, n_add1]
      exact H
    · exact ⟨Or.inr (Or.inl ⟨rfl, rfl⟩), by decide, fun q => absurd rfl q, fun q => absurd q (by decide), fun q => absurd q (by decide), fun q => absurd q (by decide)⟩
theorem tok_one (L : LB n B hc) (M : LM' n B hm) {s cnt : Nat} (hs : s < n) (hb : ¬ blN (B s)) (k6 : hc.I 17 6 = Int32.ofNat cnt) (e13 : hm.I 43 13 = Int32.ofNat cnt) (hcn : cnt < 2001) : TO G D d n B hc hm s cnt := by
  by_cases z : smN (B s)
  · exact to_name L M hs hb k6 e13 hcn z
  · by_cases z' : dgN (B s)
    · exact to_num L M hs hb k6 e13 hcn z z'
    · exact to_sign L M hs hb k6 e13 hcn z z'
end LEXT
