/-! ===== a STATEMENT in the reference's rows, and the parts that were laid for it ===== -/
def pAt (h : qh) (c i : Nat) : prt := (h.I (c + 1) i, h.I (c + 2) i, h.I (c + 3) i, h.I (c + 4) i)
def cAt (h : qh) (p i : Nat) : cod := (h.I (p + 9) i, h.I (p + 10) i)
def prtsF (h : qh) (c a : Nat) : List prt → Prop
  | [] => True
  | x :: r => pAt h c (a + r.length) = x ∧ prtsF h c a r
def cdsF (h : qh) (p a : Nat) : List cod → Prop
  | [] => True
  | x :: r => cAt h p (a + r.length) = x ∧ cdsF h p a r
theorem prts_F {h : qh} {c : Nat} {L : List prt} : ∀ {X : List prt}, prts h c (X ++ L) → prtsF h c L.length X
  | [], _ => trivial
  | x :: r, ⟨⟨a1, a2, a3, a4⟩, b⟩ => by
    rw [show (r.append L).length = L.length + r.length from by show (r ++ L).length = _; rw [List.length_append, Nat.add_comm]] at a1 a2 a3 a4
    exact ⟨by unfold pAt; rw [a1, a2, a3, a4], prts_F b⟩
theorem cds_F {h : qh} {p : Nat} {L : List cod} : ∀ {X : List cod}, cds h p (X ++ L) → cdsF h p L.length X
  | [], _ => trivial
  | x :: r, ⟨⟨a1, a2⟩, b⟩ => by
    rw [show (r.append L).length = L.length + r.length from by show (r ++ L).length = _; rw [List.length_append, Nat.add_comm]] at a1 a2
    exact ⟨by unfold cAt; rw [a1, a2], cds_F b⟩
theorem prts_tail {h : qh} {c : Nat} {L : List prt} : ∀ {X : List prt}, prts h c (X ++ L) → prts h c L
  | [], h => h
  | _ :: _, ⟨_, b⟩ => prts_tail b
theorem cds_tail {h : qh} {p : Nat} {L : List cod} : ∀ {X : List cod}, cds h p (X ++ L) → cds h p L
  | [], h => h
  | _ :: _, ⟨_, b⟩ => cds_tail b
theorem prts_eq {h h' : qh} {c : Nat} : ∀ {L : List prt}, prts h c L → prts h' c L → ∀ i, i < L.length → pAt h' c i = pAt h c i
  | [], _, _, i, hi => by simp at hi
  | x :: r, ⟨⟨a1, a2, a3, a4⟩, b⟩, ⟨⟨e1, e2, e3, e4⟩, f⟩, i, hi => by
    by_cases h : i = r.length
    · subst h; unfold pAt; rw [a1, a2, a3, a4, e1, e2, e3, e4]
    · exact prts_eq b f i (by simp at hi; omega)
theorem cds_eq {h h' : qh} {p : Nat} : ∀ {L : List cod}, cds h p L → cds h' p L → ∀ i, i < L.length → cAt h' p i = cAt h p i
  | [], _, _, i, hi => by simp at hi
  | x :: r, ⟨⟨a1, a2⟩, b⟩, ⟨⟨e1, e2⟩, f⟩, i, hi => by
    by_cases h : i = r.length
    · subst h; unfold cAt; rw [a1, a2, e1, e2]
    · exact cds_eq b f i (by simp at hi; omega)
theorem prtsF_to {h h' : qh} {c a B : Nat} (e : ∀ i, i < B → pAt h' c i = pAt h c i) : ∀ {X : List prt}, a + X.length ≤ B → prtsF h c a X → prtsF h' c a X
  | [], _, _ => trivial
  | x :: r, hb, ⟨a1, b⟩ => by
    rw [List.length_cons] at hb
    exact ⟨(e _ (by omega)).trans a1, prtsF_to e (by omega) b⟩
theorem cdsF_to {h h' : qh} {p a B : Nat} (e : ∀ i, i < B → cAt h' p i = cAt h p i) : ∀ {X : List cod}, a + X.length ≤ B → cdsF h p a X → cdsF h' p a X
  | [], _, _ => trivial
  | x :: r, hb, ⟨a1, b⟩ => by
    rw [List.length_cons] at hb
    exact ⟨(e _ (by omega)).trans a1, cdsF_to e (by omega) b⟩
theorem EC.mono {V A V' A' : Int32 → Prop} (hV : ∀ x, V x → V' x) (hA : ∀ x, A x → A' x) {P0 : Nat} : ∀ {Ce : List cod} {Pe : List prt} {S : List Int32}, EC V A Ce Pe P0 S → EC V' A' Ce Pe P0 S
  | [], _, _, h => h
  | o :: Ce, Pe, S, ⟨pt, Pe', S', e, h, s⟩ => by
    refine ⟨pt, Pe', S', e, EC.mono hV hA h, ?_⟩
    rcases s with s | ⟨s1, s2, s3⟩ | ⟨l, r, s1, s2, s3⟩ | s
    · exact Or.inl s
    · exact Or.inr (Or.inl ⟨s1, hV _ s2, s3⟩)
    · refine Or.inr (Or.inr (Or.inl ⟨l, r, s1, s2, ?_⟩))
      rcases s3 with ⟨t1, t2, t3⟩ | t
      · exact Or.inl ⟨t1, hA _ t2, t3⟩
      · exact Or.inr t
    · exact Or.inr (Or.inr (Or.inr s))
/-- the E whose codes begin at f (m of them, all below N), laid from part a on, its value made by part v -/
def EP (c p e : Nat) (hc hm : qh) (V A : Int32 → Prop) (N f a m : Nat) (v : Int32) : Prop := ∃ Ce Pe, EC V A Ce Pe a [v] ∧ Ce.length = m ∧ cdsF hm p f Ce ∧ prtsF hc c a Pe ∧ hm.I e f = Int32.ofNat (f + m) ∧ f + m ≤ N ∧ 1 ≤ m
def stp : prt := (7, -1, -1, -1)
section SCD
variable (c p e : Nat) (hc hm : qh) (A : Int32 → Prop) (S N J0 J1 : Nat)
/-- what is known of variables behind STATEMENT s -/
def vaft (V : Int32 → Prop) (s : Nat) : Int32 → Prop := fun y => V y ∨ (hm.I (p + 2) s = 0 ∧ y = hm.I (p + 3) s)
/-- a row of STATEMENTS from f on, one leading to the next, the last to g -/
def LC (SC : (Int32 → Prop) → Nat → Nat → Nat → Prop) : (Int32 → Prop) → List Nat → Int32 → Nat → Nat → Int32 → Prop
  | _, [], f, a, b, g => f = g ∧ a = b
  | V, s :: r, f, a, b, g => f = Int32.ofNat s ∧ s < S ∧ ∃ x, SC V s a x ∧ LC SC (vaft p hm V s) r (hm.I (p + 8) s) x b g
def SC : Nat → (Int32 → Prop) → Nat → Nat → Nat → Int32 → Int32 → Prop
  | 0, _, _, _, _, _, _ => False
  | n + 1, V, s, a, b, ag, bh =>
    (hm.I (p + 2) s = 0 ∧ ∃ f m v x, hm.I (p + 4) s = Int32.ofNat f ∧ EP c p e hc hm V A N f a m v ∧ hm.I (p + 3) s = Int32.ofNat x ∧ x < 16 ∧ pAt hc c (a + m) = (4, v, -1, Int32.ofNat x) ∧ b = a + m + 1) ∨
    (hm.I (p + 2) s = 1 ∧ ∃ f m v f2 m2 v2, hm.I (p + 4) s = Int32.ofNat f ∧ hm.I (p + 5) s = Int32.ofNat f2 ∧ EP c p e hc hm V A N f a m v ∧ EP c p e hc hm V A N f2 (a + m) m2 v2 ∧ A (hm.I (p + 3) s) ∧ pAt hc c (a + m + m2) = (5, v, v2, hm.I (p + 3) s) ∧ b = a + m + m2 + 1) ∨
    (hm.I (p + 2) s = 2 ∧ ∃ f m v j t x, hm.I (p + 4) s = Int32.ofNat f ∧ EP c p e hc hm V A N f a m v ∧ J0 ≤ j ∧ j < J1 ∧ pAt hc c (a + m) = (6, v, -1, Int32.ofNat j) ∧ pAt hc c (a + m + 1) = stp ∧ hm.I (p + 6) s = Int32.ofNat t ∧ s < t ∧ t < S ∧ SC n V t (a + m + 2) x ag bh ∧
      ((hm.I (p + 7) s = -1 ∧ hc.I (c + 5) j = Int32.ofNat x ∧ pAt hc c x = stp ∧ b = x + 1) ∨
       (∃ u j2 y, hm.I (p + 7) s = Int32.ofNat u ∧ s < u ∧ u < S ∧ J0 ≤ j2 ∧ j2 < J1 ∧ pAt hc c x = (8, -1, -1, Int32.ofNat j2) ∧ hc.I (c + 5) j = Int32.ofNat (x + 1) ∧ pAt hc c (x + 1) = stp ∧ SC n V u (x + 2) y ag bh ∧ hc.I (c + 5) j2 = Int32.ofNat y ∧ pAt hc c y = stp ∧ b = y + 1))) ∨
    (hm.I (p + 2) s = 3 ∧ ∃ f m v j j2 t x, hm.I (p + 4) s = Int32.ofNat f ∧ J0 ≤ j ∧ j < J1 ∧ J0 ≤ j2 ∧ j2 < J1 ∧ hc.I (c + 5) j = Int32.ofNat a ∧ pAt hc c a = stp ∧ EP c p e hc hm V A N f (a + 1) m v ∧ pAt hc c (a + 1 + m) = (6, v, -1, Int32.ofNat j2) ∧ pAt hc c (a + 1 + m + 1) = stp ∧ hm.I (p + 6) s = Int32.ofNat t ∧ s < t ∧ t < S ∧ SC n V t (a + 1 + m + 2) x (Int32.ofNat j) (Int32.ofNat j2) ∧ pAt hc c x = (8, -1, -1, Int32.ofNat j) ∧ hc.I (c + 5) j2 = Int32.ofNat (x + 1) ∧ pAt hc c (x + 1) = stp ∧ b = x + 2) ∨
    (hm.I (p + 2) s = 4 ∧ ¬ bh = -1 ∧ pAt hc c a = (8, -1, -1, bh) ∧ b = a + 1) ∨
    (hm.I (p + 2) s = 5 ∧ ¬ ag = -1 ∧ pAt hc c a = (8, -1, -1, ag) ∧ b = a + 1) ∨
    (hm.I (p + 2) s = 6 ∧ ∃ f m v, hm.I (p + 4) s = Int32.ofNat f ∧ EP c p e hc hm V A N f a m v ∧ pAt hc c (a + m) = (9, v, -1, -1) ∧ b = a + m + 1) ∨
    (hm.I (p + 2) s = 7 ∧ ∃ L, (∀ t ∈ L, s < t) ∧ LC p hm S (fun V t a b => SC n V t a b ag bh) V L (hm.I (p + 6) s) a b (-1))
end SCD
theorem EP.to {c p e : Nat} {hc hm hc' hm' : qh} {V A V' A' : Int32 → Prop} {N N' f a m B : Nat} {v : Int32} (x : EP c p e hc hm V A N f a m v) (hV : ∀ x, V x → V' x) (hA : ∀ x, A x → A' x) (hN : N ≤ N') (e1 : ∀ i, i < B → pAt hc' c i = pAt hc c i) (hB : a + m ≤ B) (e2 : ∀ i, i < N → cAt hm' p i = cAt hm p i) (e3 : ∀ i, i < N → hm'.I e i = hm.I e i) : EP c p e hc' hm' V' A' N' f a m v := by
  obtain ⟨Ce, Pe, h1, h2, h3, h4, h5, h6, h7⟩ := x
  refine ⟨Ce, Pe, h1.mono hV hA, h2, cdsF_to e2 (by omega) h3, prtsF_to e1 (by have := h1.len; omega) h4, (e3 f (by omega)).trans h5, by omega, h7⟩
/-- a STATEMENT's rows stay while others are written: what it takes -/
def SAg (c p e s S N J0 J1 B : Nat) (hc hm hc' hm' : qh) : Prop := (∀ i, i < B → pAt hc' c i = pAt hc c i) ∧ (∀ i, i < N → cAt hm' p i = cAt hm p i) ∧ (∀ i, i < N → hm'.I e i = hm.I e i) ∧ (∀ j, J0 ≤ j → j < J1 → hc'.I (c + 5) j = hc.I (c + 5) j) ∧ (∀ o, 2 ≤ o → o ≤ 7 → ∀ i, s ≤ i → i < S → hm'.I (p + o) i = hm.I (p + o) i) ∧ (∀ i, s < i → i < S → hm'.I (p + 8) i = hm.I (p + 8) i)
theorem SAg.sub {c p e s t S N J0 J1 B : Nat} {hc hm hc' hm' : qh} (x : SAg c p e s S N J0 J1 B hc hm hc' hm') (h : s ≤ t) : SAg c p e t S N J0 J1 B hc hm hc' hm' :=
  ⟨x.1, x.2.1, x.2.2.1, x.2.2.2.1, fun o h1 h2 i h3 h4 => x.2.2.2.2.1 o h1 h2 i (by omega) h4, fun i h3 h4 => x.2.2.2.2.2 i (by omega) h4⟩
theorem LC.to {p S S' : Nat} {hm hm' : qh} {F F' : (Int32 → Prop) → Nat → Nat → Nat → Prop} {s0 B : Nat} (hS : S ≤ S') (e1 : ∀ o, 2 ≤ o → o ≤ 7 → ∀ i, s0 < i → i < S → hm'.I (p + o) i = hm.I (p + o) i) (e2 : ∀ i, s0 < i → i < S → hm'.I (p + 8) i = hm.I (p + 8) i) (hF : ∀ (V V' : Int32 → Prop) s a b, (∀ x, V x → V' x) → s0 < s → s < S → b ≤ B → F V s a b → F' V' s a b) (hle : ∀ V s a b, F V s a b → a ≤ b) : ∀ (L : List Nat) (V V' : Int32 → Prop) (f : Int32) (a b : Nat) (g : Int32), (∀ x, V x → V' x) → (∀ t ∈ L, s0 < t) → b ≤ B → LC p hm S F V L f a b g → LC p hm' S' F' V' L f a b g ∧ a ≤ b
  | [], V, V', f, a, b, g, _, _, _, h => ⟨h, by rw [h.2]; exact Nat.le_refl _⟩
  | s :: r, V, V', f, a, b, g, hV, hL, hb, ⟨h1, h2, x, h3, h4⟩ => by
    have hs := hL s (by simp)
    have E3 := e2 s hs h2
    have E1 := e1 2 (by decide) (by decide) s hs h2
    have E2 := e1 3 (by decide) (by decide) s hs h2
    obtain ⟨i1, i2⟩ := LC.to hS e1 e2 hF hle r (vaft p hm V s) (vaft p hm' V' s) _ x b g (fun y q => by
      rcases q with q | q
      · exact Or.inl (hV y q)
      · exact Or.inr ⟨E1.trans q.1, q.2.trans E2.symm⟩) (fun t ht => hL t (List.mem_cons_of_mem _ ht)) hb h4
    refine ⟨⟨h1, by omega, x, hF V V' s a x hV hs h2 (by omega) h3, ?_⟩, by have := hle _ _ _ _ h3; omega⟩
    rw [E3]
    exact i1
theorem LC.le {p S : Nat} {hm : qh} {F : (Int32 → Prop) → Nat → Nat → Nat → Prop} (hle : ∀ V s a b, F V s a b → a ≤ b) : ∀ (L : List Nat) (V : Int32 → Prop) (f : Int32) (a b : Nat) (g : Int32), LC p hm S F V L f a b g → a ≤ b
  | [], V, f, a, b, g, h => by rw [h.2]; exact Nat.le_refl _
  | s :: r, V, f, a, b, g, ⟨h1, h2, x, h3, h4⟩ => by
    have := LC.le hle r _ _ _ _ _ h4
    have := hle _ _ _ _ h3
    omega
theorem SC.le {c p e : Nat} {hc hm : qh} {A : Int32 → Prop} {S N J0 J1 : Nat} : ∀ (n : Nat) (V : Int32 → Prop) (s a b : Nat) (ag bh : Int32), SC c p e hc hm A S N J0 J1 n V s a b ag bh → a < b ∨ a ≤ b
  | 0, _, _, _, _, _, _, h => h.elim
  | n + 1, V, s, a, b, ag, bh, h => by
    rcases h with ⟨_, f, m, v, x, _, _, _, _, _, h⟩ | ⟨_, f, m, v, f2, m2, v2, _, _, _, _, _, _, h⟩ | ⟨_, f, m, v, j, t, x, _, _, _, _, _, _, _, _, _, h1, h⟩ | ⟨_, f, m, v, j, j2, t, x, _, _, _, _, _, _, _, _, _, _, _, _, _, h1, _, _, _, h⟩ | ⟨_, _, _, h⟩ | ⟨_, _, _, h⟩ | ⟨_, f, m, v, _, _, _, h⟩ | ⟨_, L, _, h⟩
    · omega
    · omega
    · have := SC.le n _ _ _ _ _ _ h1
      rcases h with ⟨_, _, _, h⟩ | ⟨u, j2, y, _, _, _, _, _, _, _, _, h2, _, _, h⟩
      · omega
      · have := SC.le n _ _ _ _ _ _ h2
        omega
    · have := SC.le n _ _ _ _ _ _ h1
      omega
    · omega
    · omega
    · omega
    · exact Or.inr (LC.le (fun V s a b h => by have := SC.le n _ _ _ _ _ _ h; omega) _ _ _ _ _ _ h)
theorem SC.to {c p e : Nat} {hc hm hc' hm' : qh} {A A' : Int32 → Prop} {S N J0 J1 S' N' J0' J1' B : Nat} (hA : ∀ x, A x → A' x) (hS : S ≤ S') (hN : N ≤ N') (h0 : J0' ≤ J0) (h1 : J1 ≤ J1') : ∀ (n : Nat) (V V' : Int32 → Prop) (s a b : Nat) (ag bh : Int32), (∀ x, V x → V' x) → s < S → b ≤ B → SAg c p e s S N J0 J1 B hc hm hc' hm' → SC c p e hc hm A S N J0 J1 n V s a b ag bh → SC c p e hc' hm' A' S' N' J0' J1' n V' s a b ag bh
  | 0, _, _, _, _, _, _, _, _, _, _, _, h => h.elim
  | n + 1, V, V', s, a, b, ag, bh, hV, hs, hB, g, h => by
    have G := g
    obtain ⟨g1, g2, g3, g4, g5, g6⟩ := g
    have r2 := g5 2 (by decide) (by decide) s (Nat.le_refl _) hs
    have r3 := g5 3 (by decide) (by decide) s (Nat.le_refl _) hs
    have r4 := g5 4 (by decide) (by decide) s (Nat.le_refl _) hs
    have r5 := g5 5 (by decide) (by decide) s (Nat.le_refl _) hs
    have r6 := g5 6 (by decide) (by decide) s (Nat.le_refl _) hs
    have r7 := g5 7 (by decide) (by decide) s (Nat.le_refl _) hs
    have lew := fun V s a b ag bh (q : SC c p e hc hm A S N J0 J1 n V s a b ag bh) => SC.le n V s a b ag bh q
    rcases h with ⟨k, f, m, v, x, q1, q2, q3, q4, q5, q6⟩ | ⟨k, f, m, v, f2, m2, v2, q1, q2, q3, q4, q5, q6, q7⟩ | ⟨k, f, m, v, j, t, x, q1, q2, q3, q4, q5, q6, q7, q8, q9, q10, q11⟩ | ⟨k, f, m, v, j, j2, t, x, q1, q2, q3, q4, q5, q6, q7, q8, q9, q10, q11, q12, q13, q14, q15, q16, q17, q18⟩ | ⟨k, q0, q1, q2⟩ | ⟨k, q0, q1, q2⟩ | ⟨k, f, m, v, q1, q2, q3, q4⟩ | ⟨k, L, q1, q2⟩
    · refine Or.inl ⟨r2.trans k, f, m, v, x, r4.trans q1, q2.to hV hA hN g1 (by omega) g2 g3, r3.trans q3, q4, (g1 _ (by omega)).trans q5, q6⟩
    · refine Or.inr (Or.inl ⟨r2.trans k, f, m, v, f2, m2, v2, r4.trans q1, r5.trans q2, q3.to hV hA hN g1 (by omega) g2 g3, q4.to hV hA hN g1 (by omega) g2 g3, by rw [r3]; exact hA _ q5, ?_, q7⟩)
      rw [g1 _ (by omega), q6, r3]
    · have hx := lew _ _ _ _ _ _ q10
      refine Or.inr (Or.inr (Or.inl ⟨r2.trans k, f, m, v, j, t, x, r4.trans q1, ?_⟩))
      rcases q11 with ⟨w1, w2, w3, w4⟩ | ⟨u, j2, y, w1, w2, w3, w4, w5, w6, w7, w8, w9, w10, w11, w12⟩
      · refine ⟨q2.to hV hA hN g1 (by omega) g2 g3, by omega, by omega, (g1 _ (by omega)).trans q5, (g1 _ (by omega)).trans q6, r6.trans q7, q8, by omega, SC.to hA hS hN h0 h1 n V V' t _ x ag bh hV q9 (by omega) (G.sub (by omega)) q10, Or.inl ⟨r7.trans w1, (g4 j (by omega) (by omega)).trans w2, (g1 _ (by omega)).trans w3, w4⟩⟩
      · have hy := lew _ _ _ _ _ _ w9
        refine ⟨q2.to hV hA hN g1 (by omega) g2 g3, by omega, by omega, (g1 _ (by omega)).trans q5, (g1 _ (by omega)).trans q6, r6.trans q7, q8, by omega, SC.to hA hS hN h0 h1 n V V' t _ x ag bh hV q9 (by omega) (G.sub (by omega)) q10, Or.inr ⟨u, j2, y, r7.trans w1, w2, by omega, by omega, by omega, (g1 _ (by omega)).trans w6, (g4 j (by omega) (by omega)).trans w7, (g1 _ (by omega)).trans w8, SC.to hA hS hN h0 h1 n V V' u _ y ag bh hV w3 (by omega) (G.sub (by omega)) w9, (g4 j2 (by omega) (by omega)).trans w10, (g1 _ (by omega)).trans w11, w12⟩⟩
    · have hx := lew _ _ _ _ _ _ q14
      exact Or.inr (Or.inr (Or.inr (Or.inl ⟨r2.trans k, f, m, v, j, j2, t, x, r4.trans q1, by omega, by omega, by omega, by omega, (g4 j (by omega) (by omega)).trans q6, (g1 _ (by omega)).trans q7, q8.to hV hA hN g1 (by omega) g2 g3, (g1 _ (by omega)).trans q9, (g1 _ (by omega)).trans q10, r6.trans q11, q12, by omega, SC.to hA hS hN h0 h1 n V V' t _ x _ _ hV q13 (by omega) (G.sub (by omega)) q14, (g1 _ (by omega)).trans q15, (g4 j2 (by omega) (by omega)).trans q16, (g1 _ (by omega)).trans q17, q18⟩)))
    · exact Or.inr (Or.inr (Or.inr (Or.inr (Or.inl ⟨r2.trans k, q0, (g1 _ (by omega)).trans q1, q2⟩))))
    · exact Or.inr (Or.inr (Or.inr (Or.inr (Or.inr (Or.inl ⟨r2.trans k, q0, (g1 _ (by omega)).trans q1, q2⟩)))))
    · exact Or.inr (Or.inr (Or.inr (Or.inr (Or.inr (Or.inr (Or.inl ⟨r2.trans k, f, m, v, r4.trans q1, q2.to hV hA hN g1 (by omega) g2 g3, (g1 _ (by omega)).trans q3, q4⟩))))))
    · refine Or.inr (Or.inr (Or.inr (Or.inr (Or.inr (Or.inr (Or.inr ⟨r2.trans k, L, q1, ?_⟩))))))
      rw [r6]
      exact (LC.to (s0 := s) (B := B) hS (fun o o1 o2 i i1 i2 => g5 o o1 o2 i (by omega) i2) g6 (fun V V' t a b hV ht ht2 hb q => SC.to hA hS hN h0 h1 n V V' t a b ag bh hV ht2 hb (G.sub (by omega)) q) (fun V t a b q => by have := lew _ _ _ _ _ _ q; omega) L V V' _ a b (-1) hV q1 hB q2).1
