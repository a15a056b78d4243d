/-! ===== the text cut into tokens: the reference's steps ===== -/
/-- a byte as it is kept -/
def sb (c : Nat) : Int32 := (Int32.ofNat c).toInt8.toInt32
set_option maxRecDepth 100000 in
theorem sb_all : ∀ c, c < 256 → sb c &&& 255 = Int32.ofNat c ∧ (sb c = 32 ↔ c = 32) ∧ (sb c = 10 ↔ c = 10) ∧ (sb c).toInt8.toInt32 = sb c := by decide +kernel
theorem sb_inj {a b : Nat} (ha : a < 256) (hb : b < 256) : sb a = sb b ↔ a = b := by
  refine ⟨fun q => ?_, fun q => by rw [q]⟩
  have e := (sb_all a ha).1
  rw [q, (sb_all b hb).1, n_eq (by omega) (by omega)] at e
  exact e.symm
def LM' (n : Nat) (B : Nat → Nat) (h : qh) : Prop := h.I 43 9 = Int32.ofNat n ∧ (∀ x, x < n → h.I 46 x = sb (B x)) ∧ (∀ x, x < n → B x < 256) ∧ n ≤ 2000
theorem LM'.lm {n : Nat} {B : Nat → Nat} {h : qh} (L : LM' n B h) : LM n B h := ⟨L.1, fun x q => by rw [L.2.1 x q]; exact (sb_all _ (L.2.2.1 x q)).1, L.2.2.1, L.2.2.2⟩
section LEXM
variable {G : qG} {d n : Nat} {B : Nat → Nat} {hm : qh}
theorem m_87 {c : Nat} (h2 : c < 256) (l1 l3 : Int32) (h : qh) (Q : qr → qh → Prop) (H1 : sgS c → Q (riv (Int32.ofNat c)) h) (H0 : ¬ sgS c → Q (riv 0) h) : q_N0 G m_X12_signAt (d + 1) Q 87 [.ref 43, .int l1, .int (Int32.ofNat c), .int l3] [] h := by
  have z : ∀ k, k < 256 → Int32.ofNat c = Int32.ofNat k → c = k := fun k hk q => (n_eq (by omega) (by omega)).mp q
  have a1 : sgS c → q_N0 G m_X12_signAt (d + 1) Q 480 [.ref 43, .int l1, .int (Int32.ofNat c), .int l3] [] h := fun q => x_X12_signAt_480 G d _ _ _ _ Q (H1 q)
  have a0 : ¬ sgS c → q_N0 G m_X12_signAt (d + 1) Q 482 [.ref 43, .int l1, .int (Int32.ofNat c), .int l3] [] h := fun q => x_X12_signAt_482 G d _ _ _ _ Q (H0 q)
  refine x_X12_signAt_87 G d _ _ _ _ Q ?_
  refine ⟨fun e => a1 (by rw [z 33 (by omega) e]; decide), fun e => a0 (by rw [z 34 (by omega) e]; decide), fun e => a0 (by rw [z 35 (by omega) e]; decide), fun e => a0 (by rw [z 36 (by omega) e]; decide), fun e => a1 (by rw [z 37 (by omega) e]; decide), fun e => a1 (by rw [z 38 (by omega) e]; decide), fun e => a0 (by rw [z 39 (by omega) e]; decide), fun e => a1 (by rw [z 40 (by omega) e]; decide), fun e => a1 (by rw [z 41 (by omega) e]; decide), fun e => a1 (by rw [z 42 (by omega) e]; decide), fun e => a1 (by rw [z 43 (by omega) e]; decide), fun e => a1 (by rw [z 44 (by omega) e]; decide), fun e => a1 (by rw [z 45 (by omega) e]; decide), fun e => a0 (by rw [z 46 (by omega) e]; decide), fun e => a1 (by rw [z 47 (by omega) e]; decide), fun e => a0 (by rw [z 48 (by omega) e]; decide), fun e => a0 (by rw [z 49 (by omega) e]; decide), fun e => a0 (by rw [z 50 (by omega) e]; decide), fun e => a0 (by rw [z 51 (by omega) e]; decide), fun e => a0 (by rw [z 52 (by omega) e]; decide), fun e => a0 (by rw [z 53 (by omega) e]; decide), fun e => a0 (by rw [z 54 (by omega) e]; decide), fun e => a0 (by rw [z 55 (by omega) e]; decide), fun e => a0 (by rw [z 56 (by omega) e]; decide), fun e => a0 (by rw [z 57 (by omega) e]; decide), fun e => a0 (by rw [z 58 (by omega) e]; decide), fun e => a1 (by rw [z 59 (by omega) e]; decide), fun e => a1 (by rw [z 60 (by omega) e]; decide), fun e => a1 (by rw [z 61 (by omega) e]; decide), fun e => a1 (by rw [z 62 (by omega) e]; decide), fun e => a0 (by rw [z 63 (by omega) e]; decide), fun e => a0 (by rw [z 64 (by omega) e]; decide), fun e => a0 (by rw [z 65 (by omega) e]; decide), fun e => a0 (by rw [z 66 (by omega) e]; decide), fun e => a0 (by rw [z 67 (by omega) e]; decide), fun e => a0 (by rw [z 68 (by omega) e]; decide), fun e => a0 (by rw [z 69 (by omega) e]; decide), fun e => a0 (by rw [z 70 (by omega) e]; decide), fun e => a0 (by rw [z 71 (by omega) e]; decide), fun e => a0 (by rw [z 72 (by omega) e]; decide), fun e => a0 (by rw [z 73 (by omega) e]; decide), fun e => a0 (by rw [z 74 (by omega) e]; decide), fun e => a0 (by rw [z 75 (by omega) e]; decide), fun e => a0 (by rw [z 76 (by omega) e]; decide), fun e => a0 (by rw [z 77 (by omega) e]; decide), fun e => a0 (by rw [z 78 (by omega) e]; decide), fun e => a0 (by rw [z 79 (by omega) e]; decide), fun e => a0 (by rw [z 80 (by omega) e]; decide), fun e => a0 (by rw [z 81 (by omega) e]; decide), fun e => a0 (by rw [z 82 (by omega) e]; decide), fun e => a0 (by rw [z 83 (by omega) e]; decide), fun e => a0 (by rw [z 84 (by omega) e]; decide), fun e => a0 (by rw [z 85 (by omega) e]; decide), fun e => a0 (by rw [z 86 (by omega) e]; decide), fun e => a0 (by rw [z 87 (by omega) e]; decide), fun e => a0 (by rw [z 88 (by omega) e]; decide), fun e => a0 (by rw [z 89 (by omega) e]; decide), fun e => a0 (by rw [z 90 (by omega) e]; decide), fun e => a1 (by rw [z 91 (by omega) e]; decide), fun e => a0 (by rw [z 92 (by omega) e]; decide), fun e => a1 (by rw [z 93 (by omega) e]; decide), fun e => a1 (by rw [z 94 (by omega) e]; decide), fun e => a0 (by rw [z 95 (by omega) e]; decide), fun e => a0 (by rw [z 96 (by omega) e]; decide), fun e => a0 (by rw [z 97 (by omega) e]; decide), fun e => a0 (by rw [z 98 (by omega) e]; decide), fun e => a0 (by rw [z 99 (by omega) e]; decide), fun e => a0 (by rw [z 100 (by omega) e]; decide), fun e => a0 (by rw [z 101 (by omega) e]; decide), fun e => a0 (by rw [z 102 (by omega) e]; decide), fun e => a0 (by rw [z 103 (by omega) e]; decide), fun e => a0 (by rw [z 104 (by omega) e]; decide), fun e => a0 (by rw [z 105 (by omega) e]; decide), fun e => a0 (by rw [z 106 (by omega) e]; decide), fun e => a0 (by rw [z 107 (by omega) e]; decide), fun e => a0 (by rw [z 108 (by omega) e]; decide), fun e => a0 (by rw [z 109 (by omega) e]; decide), fun e => a0 (by rw [z 110 (by omega) e]; decide), fun e => a0 (by rw [z 111 (by omega) e]; decide), fun e => a0 (by rw [z 112 (by omega) e]; decide), fun e => a0 (by rw [z 113 (by omega) e]; decide), fun e => a0 (by rw [z 114 (by omega) e]; decide), fun e => a0 (by rw [z 115 (by omega) e]; decide), fun e => a0 (by rw [z 116 (by omega) e]; decide), fun e => a0 (by rw [z 117 (by omega) e]; decide), fun e => a0 (by rw [z 118 (by omega) e]; decide), fun e => a0 (by rw [z 119 (by omega) e]; decide), fun e => a0 (by rw [z 120 (by omega) e]; decide), fun e => a0 (by rw [z 121 (by omega) e]; decide), fun e => a0 (by rw [z 122 (by omega) e]; decide), fun e => a1 (by rw [z 123 (by omega) e]; decide), fun e => a1 (by rw [z 124 (by omega) e]; decide), fun e => a1 (by rw [z 125 (by omega) e]; decide), fun e => a1 (by rw [z 126 (by omega) e]; decide), fun q => a0 (fun hs => ?_)⟩
  simp only [sgS, List.mem_cons, List.not_mem_nil, or_false] at hs
  rcases hs with hs | hs | hs | hs | hs | hs | hs | hs | hs | hs | hs | hs | hs | hs | hs | hs | hs | hs | hs | hs | hs
  · exact q.1 (by rw [hs]; rfl)
  · exact q.2.2.2.2.1 (by rw [hs]; rfl)
  · exact q.2.2.2.2.2.1 (by rw [hs]; rfl)
  · exact q.2.2.2.2.2.2.2.1 (by rw [hs]; rfl)
  · exact q.2.2.2.2.2.2.2.2.1 (by rw [hs]; rfl)
  · exact q.2.2.2.2.2.2.2.2.2.1 (by rw [hs]; rfl)
  · exact q.2.2.2.2.2.2.2.2.2.2.1 (by rw [hs]; rfl)
  · exact q.2.2.2.2.2.2.2.2.2.2.2.1 (by rw [hs]; rfl)
  · exact q.2.2.2.2.2.2.2.2.2.2.2.2.1 (by rw [hs]; rfl)
  · exact q.2.2.2.2.2.2.2.2.2.2.2.2.2.2.1 (by rw [hs]; rfl)
  · exact q.2.2.2.2.2.2.2.2.2.2.2.2.2.2.2.2.2.2.2.2.2.2.2.2.2.2.1 (by rw [hs]; rfl)
  · exact q.2.2.2.2.2.2.2.2.2.2.2.2.2.2.2.2.2.2.2.2.2.2.2.2.2.2.2.1 (by rw [hs]; rfl)
  · exact q.2.2.2.2.2.2.2.2.2.2.2.2.2.2.2.2.2.2.2.2.2.2.2.2.2.2.2.2.1 (by rw [hs]; rfl)
  · exact q.2.2.2.2.2.2.2.2.2.2.2.2.2.2.2.2.2.2.2.2.2.2.2.2.2.2.2.2.2.1 (by rw [hs]; rfl)
  · exact q.2.2.2.2.2.2.2.2.2.2.2.2.2.2.2.2.2.2.2.2.2.2.2.2.2.2.2.2.2.2.2.2.2.2.2.2.2.2.2.2.2.2.2.2.2.2.2.2.2.2.2.2.2.2.2.2.2.2.1 (by rw [hs]; rfl)
  · exact q.2.2.2.2.2.2.2.2.2.2.2.2.2.2.2.2.2.2.2.2.2.2.2.2.2.2.2.2.2.2.2.2.2.2.2.2.2.2.2.2.2.2.2.2.2.2.2.2.2.2.2.2.2.2.2.2.2.2.2.2.1 (by rw [hs]; rfl)
  · exact q.2.2.2.2.2.2.2.2.2.2.2.2.2.2.2.2.2.2.2.2.2.2.2.2.2.2.2.2.2.2.2.2.2.2.2.2.2.2.2.2.2.2.2.2.2.2.2.2.2.2.2.2.2.2.2.2.2.2.2.2.2.1 (by rw [hs]; rfl)
  · exact q.2.2.2.2.2.2.2.2.2.2.2.2.2.2.2.2.2.2.2.2.2.2.2.2.2.2.2.2.2.2.2.2.2.2.2.2.2.2.2.2.2.2.2.2.2.2.2.2.2.2.2.2.2.2.2.2.2.2.2.2.2.2.2.2.2.2.2.2.2.2.2.2.2.2.2.2.2.2.2.2.2.2.2.2.2.2.2.2.2.2.1 (by rw [hs]; rfl)
  · exact q.2.2.2.2.2.2.2.2.2.2.2.2.2.2.2.2.2.2.2.2.2.2.2.2.2.2.2.2.2.2.2.2.2.2.2.2.2.2.2.2.2.2.2.2.2.2.2.2.2.2.2.2.2.2.2.2.2.2.2.2.2.2.2.2.2.2.2.2.2.2.2.2.2.2.2.2.2.2.2.2.2.2.2.2.2.2.2.2.2.2.2.1 (by rw [hs]; rfl)
  · exact q.2.2.2.2.2.2.2.2.2.2.2.2.2.2.2.2.2.2.2.2.2.2.2.2.2.2.2.2.2.2.2.2.2.2.2.2.2.2.2.2.2.2.2.2.2.2.2.2.2.2.2.2.2.2.2.2.2.2.2.2.2.2.2.2.2.2.2.2.2.2.2.2.2.2.2.2.2.2.2.2.2.2.2.2.2.2.2.2.2.2.2.2.1 (by rw [hs]; rfl)
  · exact q.2.2.2.2.2.2.2.2.2.2.2.2.2.2.2.2.2.2.2.2.2.2.2.2.2.2.2.2.2.2.2.2.2.2.2.2.2.2.2.2.2.2.2.2.2.2.2.2.2.2.2.2.2.2.2.2.2.2.2.2.2.2.2.2.2.2.2.2.2.2.2.2.2.2.2.2.2.2.2.2.2.2.2.2.2.2.2.2.2.2.2.2.2 (by rw [hs]; rfl)
theorem m_sign (hd : 2 ≤ d) (L : LM n B hm) {i : Nat} (hi : i < n) : ∃ v, mR G d yX12_signAt [.ref 43, .int (Int32.ofNat i)] hm (riv v) hm ∧ (sg2 (B i) (bm n B (i + 1)) → v = (Int32.ofNat (B i) <<< (8 &&& 31)) ||| bm n B (i + 1)) ∧ (¬ sg2 (B i) (bm n B (i + 1)) → sgS (B i) → v = Int32.ofNat (B i)) ∧ (¬ sg2 (B i) (bm n B (i + 1)) → ¬ sgS (B i) → v = 0) := by
  obtain ⟨d, rfl⟩ := Nat.exists_eq_add_of_le' hd
  have hn := L.2.2.2
  have h2 := L.2.2.1 i hi
  have eb : bm n B i = Int32.ofNat (B i) := if_pos hi
  have z : ∀ k, k < 256 → (Int32.ofNat (B i) = Int32.ofNat k ↔ B i = k) := fun k hk => n_eq (by omega) (by omega)
  have b0 := m_byte (G := G) (d := d + 1) (by omega) L (x := i) (by omega)
  have b1 := m_byte (G := G) (d := d + 1) (by omega) L (x := i + 1) (by omega)
  generalize bm n B (i + 1) = r at b1
  generalize B i = c at *
  obtain ⟨v, hv2, hv1, hv0⟩ : ∃ v : Int32, (sg2 c r → v = (Int32.ofNat c <<< (8 &&& 31)) ||| r) ∧ (¬ sg2 c r → sgS c → v = Int32.ofNat c) ∧ (¬ sg2 c r → ¬ sgS c → v = 0) := by
    rcases Classical.em (sg2 c r) with p | p
    · exact ⟨_, fun _ => rfl, fun q => absurd p q, fun q => absurd p q⟩
    · rcases Classical.em (sgS c) with p' | p'
      · exact ⟨Int32.ofNat c, fun q => absurd q p, fun _ _ => rfl, fun _ q => absurd p' q⟩
      · exact ⟨0, fun q => absurd q p, fun _ q => absurd q p', fun _ _ => rfl⟩
  refine ⟨v, fun hx Q hQ => ?_, hv2, hv1, hv0⟩
  have a87 : ¬ sg2 c r → q_N0 G m_X12_signAt (d + 2) Q 87 [.ref 43, .int (Int32.ofNat i), .int (Int32.ofNat c), .int r] [] (mg hx hm) := fun q => m_87 (d := d + 1) h2 _ _ _ Q (fun p => by rw [← hv1 q p]; exact hQ) (fun p => by rw [← hv0 q p]; exact hQ)
  have two : sg2 c r → Q (riv ((Int32.ofNat c <<< (8 &&& 31)) ||| r)) (mg hx hm) := fun q => by rw [← hv2 q]; exact hQ
  have a75 : sgD c → ¬ (r = 61 ∧ sgE c) → q_N0 G m_X12_signAt (d + 2) Q 75 [.ref 43, .int (Int32.ofNat i), .int (Int32.ofNat c), .int r] [] (mg hx hm) := fun q q' => x_X12_signAt_75 G (d + 1) _ _ _ _ Q ⟨fun p => a87 (fun y => y.elim q' (fun y => p y.1)), fun p => two (Or.inr ⟨p, q⟩)⟩
  have a51 : ¬ (r = 61 ∧ sgE c) → q_N0 G m_X12_signAt (d + 2) Q 51 [.ref 43, .int (Int32.ofNat i), .int (Int32.ofNat c), .int r] [] (mg hx hm) := fun q' => x_X12_signAt_51 G (d + 1) _ _ _ _ Q ⟨fun p => a75 (by rw [(z 60 (by omega)).mp p]; decide) q', fun p1 => ⟨fun p => a75 (by rw [(z 62 (by omega)).mp p]; decide) q', fun p2 => ⟨fun p => a75 (by rw [(z 38 (by omega)).mp p]; decide) q', fun p3 => ⟨fun p4 => a87 (fun y => y.elim q' (fun y => ?_)), fun p => a75 (by rw [(z 124 (by omega)).mp p]; decide) q'⟩⟩⟩⟩
  · have a38 : sgE c → q_N0 G m_X12_signAt (d + 2) Q 38 [.ref 43, .int (Int32.ofNat i), .int (Int32.ofNat c), .int r] [] (mg hx hm) := fun q => x_X12_signAt_38 G (d + 1) _ _ _ _ Q ⟨fun p => a51 (fun y => p y.1), fun p => two (Or.inl ⟨p, q⟩)⟩
    refine x_X12_signAt G (d + 1) _ _ Q ?_
    refine b0 hx _ ?_
    rw [eb, n_add1]
    refine b1 hx _ ?_
    refine ⟨fun p => a38 (by rw [(z 61 (by omega)).mp p]; decide), fun p1 => ⟨fun p => a38 (by rw [(z 33 (by omega)).mp p]; decide), fun p2 => ⟨fun p => a38 (by rw [(z 60 (by omega)).mp p]; decide), fun p3 => ⟨fun p4 => a51 (fun y => ?_), fun p => a38 (by rw [(z 62 (by omega)).mp p]; decide)⟩⟩⟩⟩
    have y := y.2
    simp only [sgE, List.mem_cons, List.not_mem_nil, or_false] at y
    rcases y with y | y | y | y
    · exact p1 (by rw [y]; rfl)
    · exact p2 (by rw [y]; rfl)
    · exact p3 (by rw [y]; rfl)
    · exact p4 (by rw [y]; rfl)
  · have y := y.2
    simp only [sgD, List.mem_cons, List.not_mem_nil, or_false] at y
    rcases y with y | y | y | y
    · exact p1 (by rw [y]; rfl)
    · exact p2 (by rw [y]; rfl)
    · exact p3 (by rw [y]; rfl)
    · exact p4 (by rw [y]; rfl)
theorem m_isWord6 (L : LM n B hm) {s m : Nat} (hs : s + m ≤ n) (w : Int64) : ∀ k l, l + k = m → ∀ hx Q, Q (riv (if pk B s m = w then 1 else 0)) (mg hx hm) → q_N0 G m_X12_isWord (d + 2) Q 6 [.ref 43, .int (Int32.ofNat s), .int (Int32.ofNat m), .long w, .null, .long (pk B s l), .null, .int (Int32.ofNat l)] [] (mg hx hm) := by
  intro k
  have hn := L.2.2.2
  induction k with
  | zero =>
    intro l h1 hx Q hQ
    obtain rfl : l = m := by omega
    refine x_X12_isWord_6 G (d + 1) _ _ _ _ _ _ Q ⟨fun _ => ⟨?_, ?_⟩, fun q => absurd ((n_le (by omega) (by omega)).mpr (Nat.le_refl _)) q⟩
    · split <;> simp
    · simp only [lg_cmp_eq]; exact hQ
  | succ k ih =>
    intro l h1 hx Q hQ
    refine x_X12_isWord_6 G (d + 1) _ _ _ _ _ _ Q ⟨fun q => absurd ((n_le (by omega) (by omega)).mp q) (by omega), fun _ => ?_⟩
    rw [n_add]
    refine m_byte (G := G) (d := d + 1) (by omega) L (x := s + l) (by omega) hx _ ?_
    rw [show bm n B (s + l) = Int32.ofNat (B (s + l)) from if_pos (by omega), n_add1]
    exact ih (l + 1) (by omega) hx Q hQ
theorem m_isWord (hd : 2 ≤ d) (L : LM n B hm) {s m : Nat} (hs : s + m ≤ n) (w : Int64) : mR G d yX12_isWord [.ref 43, .int (Int32.ofNat s), .int (Int32.ofNat m), .long w] hm (riv (if pk B s m = w then 1 else 0)) hm := by
  obtain ⟨d, rfl⟩ := Nat.exists_eq_add_of_le' hd
  intro hx Q hQ
  exact x_X12_isWord G (d + 1) _ _ _ _ Q (m_isWord6 L hs w m 0 (by omega) hx Q hQ)
theorem m_wordOf (hd : 3 ≤ d) (L : LM n B hm) {s m : Nat} (hs : s + m ≤ n) : mR G d yX12_wordOf [.ref 43, .int (Int32.ofNat s), .int (Int32.ofNat m)] hm (riv (wr (pk B s m))) hm := by
  obtain ⟨d, rfl⟩ := Nat.exists_eq_add_of_le' hd
  intro hx Q hQ
  refine x_X12_wordOf G (d + 2) _ _ _ Q ?_
  generalize hw : pk B s m = w at hQ
  have I := fun (u : Int64) => m_isWord (G := G) (d := d + 2) (by omega) L hs u
  rw [hw] at I
  unfold wr at hQ
  refine I 6909556 hx _ ?_
  by_cases e0 : w = 6909556
  · rw [if_pos e0] at hQ ⊢; exact ⟨fun q => absurd q (by decide), fun _ => hQ⟩
  rw [if_neg e0] at hQ ⊢
  refine ⟨fun _ => ?_, fun q => absurd rfl q⟩
  refine I 26982 hx _ ?_
  by_cases e1 : w = 26982
  · rw [if_pos e1] at hQ ⊢; exact ⟨fun q => absurd q (by decide), fun _ => hQ⟩
  rw [if_neg e1] at hQ ⊢
  refine ⟨fun _ => ?_, fun q => absurd rfl q⟩
  refine I 1701606245 hx _ ?_
  by_cases e2 : w = 1701606245
  · rw [if_pos e2] at hQ ⊢; exact ⟨fun q => absurd q (by decide), fun _ => hQ⟩
  rw [if_neg e2] at hQ ⊢
  refine ⟨fun _ => ?_, fun q => absurd rfl q⟩
  refine I 512852847717 hx _ ?_
  by_cases e3 : w = 512852847717
  · rw [if_pos e3] at hQ ⊢; exact ⟨fun q => absurd q (by decide), fun _ => hQ⟩
  rw [if_neg e3] at hQ ⊢
  refine ⟨fun _ => ?_, fun q => absurd rfl q⟩
  refine I 422826041707 hx _ ?_
  by_cases e4 : w = 422826041707
  · rw [if_pos e4] at hQ ⊢; exact ⟨fun q => absurd q (by decide), fun _ => hQ⟩
  rw [if_neg e4] at hQ ⊢
  refine ⟨fun _ => ?_, fun q => absurd rfl q⟩
  refine I 7165066978433856869 hx _ ?_
  by_cases e5 : w = 7165066978433856869
  · rw [if_pos e5] at hQ ⊢; exact ⟨fun q => absurd q (by decide), fun _ => hQ⟩
  rw [if_neg e5] at hQ ⊢
  refine ⟨fun _ => ?_, fun q => absurd rfl q⟩
  refine I 125780071117422 hx _ ?_
  by_cases e6 : w = 125780071117422
  · rw [if_pos e6] at hQ ⊢; exact ⟨fun q => absurd q (by decide), fun _ => hQ⟩
  rw [if_neg e6] at hQ ⊢
  refine ⟨fun _ => ?_, fun q => absurd rfl q⟩
  exact hQ
/-- what a token makes of the heap -/
def tokh (h : qh) (cnt : Nat) (k f v : Int32) : qh := (((h.sI 47 cnt k).sI 48 cnt f).sI 49 cnt v).sI 43 13 (Int32.ofNat (cnt + 1))
theorem m_token (hd : 1 ≤ d) {cnt : Nat} (e : hm.I 43 13 = Int32.ofNat cnt) (hcn : cnt < 2001) (k f v : Int32) : mR G d yX12_token [.ref 43, .int k, .int f, .int v] hm rvv (tokh hm cnt k f v) := by
  obtain ⟨d, rfl⟩ := Nat.exists_eq_add_of_le' hd
  intro hx Q hQ
  refine x_X12_token G d _ _ _ _ Q ?_
  simp only [mg_I, Nat.reduceLT, if_false, e, n_N (show cnt < 2147483648 by omega), n_add1, mg_sI_m (show 43 ≤ 47 by decide), mg_sI_m (show 43 ≤ 48 by decide), mg_sI_m (show 43 ≤ 49 by decide), mg_sI_m (show 43 ≤ 43 by decide)]
  have i := n_in (a := cnt) (n := 2001) (by omega) hcn
  exact ⟨i, i, i, hQ⟩
end LEXM
