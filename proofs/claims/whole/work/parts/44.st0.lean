/-! ===== STATEMENTS: what holds between them, and how two runs of them are held together ===== -/
def AK (na : Nat) (y : Int32) : Prop := ∃ k : Nat, k < na ∧ y = Int32.ofNat k
def SCl (T : tkD) (na a wk : Nat) (Pt : List prt) (Nm : List nmE) (jn nv nl wh : Nat) (ag bh : Int32) (hc : qh) : Prop :=
  wk ≤ 400 ∧ CN T Nm hc ∧ uq T Nm ∧ nv ≤ 16 ∧ nl ≤ 40 ∧ jn ≤ 2 * nl ∧ 6 * Pt.length ≤ 12 * wk + 30 * nl + 6 + T.pn a ∧ Nm.length ≤ 9 + nv ∧ (∀ x ∈ Nm, (x.2.1 = 2 → ∃ k : Nat, k < nv ∧ x.2.2 = Int32.ofNat k) ∧ (x.2.1 = 0 → AK na x.2.2)) ∧ (wh = 0 → ag = -1 ∧ bh = -1) ∧ (¬ wh = 0 → ∃ j1 j2 : Nat, ag = Int32.ofNat j1 ∧ bh = Int32.ofNat j2 ∧ j1 < jn ∧ j2 < jn)
def SB (T : tkD) (a dp : Nat) (Cd : List cod) (Nm : List nmE) (wk st nv nl jn wh : Nat) : Prop := a < T.n ∧ dp ≤ 16 ∧ Cd.length ≤ a ∧ wk ≤ a ∧ st ≤ a ∧ nv ≤ a ∧ nl ≤ a ∧ Nm.length ≤ a ∧ wh ≤ a ∧ jn ≤ 80
def SI (T : tkD) (c p e na : Nat) (hc0 hm0 : qh) (a dp : Nat) (fk fp : Int32) (wk : Nat) (Pt : List prt) (Cd : List cod) (Nm : List nmE) (st nv nl jn wh : Nat) (ag bh : Int32) (hc hm : qh) : Prop :=
  CSt T c a dp fk fp wk Pt jn nv nl ag bh hc ∧ MSt T p e a dp fk fp wk Cd Nm st nv nl wh hm ∧ SB T a dp Cd Nm wk st nv nl jn wh ∧ FG T a fk fp ∧ PFc c hc0 hc ∧ PFm p e hm0 hm ∧ (fk = 0 → SCl T na a wk Pt Nm jn nv nl wh ag bh hc)
/-- a STATEMENT was read -/
def sOk (T : tkD) (c p e na : Nat) (hc0 hm0 : qh) (a dp : Nat) (fk fp : Int32) (wk : Nat) (Pt : List prt) (Cd : List cod) (Nm : List nmE) (st nv nl jn wh : Nat) (ag bh : Int32) (hc hm : qh) (x : Int32) (hc' hm' : qh) : Prop :=
  x = Int32.ofNat st ∧ ∃ a' fk' fp' wk' Pt' Cd' X st' nv' nl' jn', a < a' ∧ SI T c p e na hc0 hm0 a' dp fk' fp' wk' Pt' Cd' (X ++ Nm) st' nv' nl' jn' wh ag bh hc' hm' ∧ (¬ fk = 0 → fk' = fk ∧ fp' = fp) ∧
    (fk' = 0 → fk = 0 ∧ SFc c jn hc hc' ∧ SFm p e st Cd.length hm hm' ∧ st < st' ∧ jn ≤ jn' ∧ nv ≤ nv' ∧ (∃ Ce, Cd' = Ce ++ Cd) ∧ (∃ Pe, Pt' = Pe ++ Pt) ∧ SC c p e hc' hm' (AK na) st' Cd'.length jn jn' (17 - dp) (VN Nm) st Pt.length Pt'.length ag bh ∧ (∀ y, VN (X ++ Nm) y → VN Nm y ∨ (hm'.I (p + 2) st = 0 ∧ y = hm'.I (p + 3) st)) ∧ hm'.I (p + 8) st = -1 ∧ jn' + 2 * nl ≤ jn + 2 * nl' ∧ 6 * Pt'.length + 12 * wk + 30 * nl + T.pn a ≤ 6 * Pt.length + 12 * wk' + 30 * nl' + T.pn a')
def PP (A : Int32 → qh → qh → Prop) (B : qh → qh → Prop) : qr → qh → qr → qh → Prop := fun rc hc' rm hm' => (rc = riv 1 ∧ ∃ x, rm = riv x ∧ A x hc' hm') ∨ (rc = riv 0 ∧ rm = rxx ∧ B hc' hm')
section JR2
variable {Wc Wm : qT} {P : qr → qh → qr → qh → Prop} {G : qG} {d d2 : Nat} {y y2 : MethodName} {av av2 : List Value} {hc hm : qh}
theorem J.callii {A : Int32 → qh → qh → Prop} {B : qh → qh → Prop} {F Fm : (qr → qh → Prop) → Int32 → qh → Prop} {X Xm : (qr → qh → Prop) → String → qh → Prop} (h : J (fun hx Q => q_M0 G d y av (mg hc hx) Q) (fun hx Q => q_M0 G d2 y2 av2 (mg hx hm) Q) (PP A B))
    (k1 : ∀ x hc' hm', A x hc' hm' → J (fun hx Q => F Q 1 (mg hc' hx)) (fun hx Q => Fm Q x (mg hx hm')) P) (k2 : ∀ hc' hm', B hc' hm' → J (fun hx Q => F Q 0 (mg hc' hx)) (fun hx Q => Xm Q "java/lang/IllegalStateException" (mg hx hm')) P) :
    J (fun hx Q => q_M0 G d y av (mg hc hx) (q_ri (F Q) (X Q))) (fun hx Q => q_M0 G d2 y2 av2 (mg hx hm) (q_ri (Fm Q) (Xm Q))) P := by
  obtain ⟨rc, hc', rm, hm', a, b, q⟩ := h
  rcases q with ⟨rfl, x, rfl, q⟩ | ⟨rfl, rfl, q⟩
  · exact J.c (fun hx Q w => a hx _ w) (J.m (fun hx Q w => b hx _ w) (k1 x hc' hm' q))
  · exact J.c (fun hx Q w => a hx _ w) (J.m (fun hx Q w => b hx _ w) (k2 hc' hm' q))
theorem J.mE {F : Nat → qT} (n : Nat) (k : J Wc (F n) P) : J Wc (fun hx Q => ∃ n, F n hx Q) P := J.m (fun _ _ q => ⟨n, q⟩) k
theorem J.cE {F : Nat → qT} (n : Nat) (k : J (F n) Wm P) : J (fun hx Q => ∃ n, F n hx Q) Wm P := J.c (fun _ _ q => ⟨n, q⟩) k
theorem J.ca' {A : qh → Prop} {X : qT} (a : ∀ hx, A hx) (k : J X Wm P) : J (fun hx Q => A hx ∧ X hx Q) Wm P := J.c (fun hx _ q => ⟨a hx, q⟩) k
theorem J.ma' {A : qh → Prop} {X : qT} (a : ∀ hx, A hx) (k : J Wc X P) : J Wc (fun hx Q => A hx ∧ X hx Q) P := J.m (fun hx _ q => ⟨a hx, q⟩) k
theorem J.fail {B : qh → qh → Prop} {A : Int32 → qh → qh → Prop} (h : B hc hm) : J (fun hx Q => Q (riv 0) (mg hc hx)) (fun hx Q => Q rxx (mg hx hm)) (PP A B) := J.end (Or.inr ⟨rfl, rfl, h⟩)
theorem J.ok {B : qh → qh → Prop} {A : Int32 → qh → qh → Prop} {x : Int32} (h : A x hc hm) : J (fun hx Q => Q (riv 1) (mg hc hx)) (fun hx Q => Q (riv x) (mg hx hm)) (PP A B) := J.end (Or.inl ⟨rfl, x, rfl, h⟩)
end JR2
theorem wK_eq' {fk fp k p : Int32} (h : ¬ fk = 0 → ¬ fk ≤ 0 ∧ (fp < p ∨ (fp = p ∧ ¬ k < fk))) : wK fk fp k p = bK fk k ∧ wP fk fp k p = bP fk fp k p := by
  unfold wK wP bK bP
  by_cases h0 : fk = 0
  · subst h0
    by_cases hk : k = 0
    · subst hk; simp
    · simp [hk]
  · obtain ⟨a, b⟩ := h h0
    have : ¬ fk ≤ 0 ∧ (fp < p ∨ fp = p ∧ ¬ k < fk) := ⟨a, b⟩
    rw [if_pos this, if_pos this, if_neg h0]
    simp [h0]
theorem bK_sub {fk fp f u p : Int32} (h : fk = 0 → f = u) : bK fk f = bK fk u ∧ bP fk fp f p = bP fk fp u p := by
  by_cases h0 : fk = 0
  · rw [h h0]; exact ⟨rfl, rfl⟩
  · unfold bK bP
    rw [if_neg h0, if_neg h0, if_neg (fun q => h0 q.1), if_neg (fun q => h0 q.1)]
    exact ⟨rfl, rfl⟩
theorem EP.mk {c p e : Nat} {hc hm : qh} {A : Int32 → Prop} {N : Nat} {v : Int32} {Ce Cd : List cod} {Pe Pt : List prt} {Nm : List nmE} (h1 : prts hc c (Pe ++ Pt)) (h2 : cds hm p (Ce ++ Cd)) (h3 : hm.I e Cd.length = Int32.ofNat (Ce ++ Cd).length) (ec : EC (VN Nm) (AN Nm) Ce Pe Pt.length [v]) (hA : ∀ x, AN Nm x → A x) (hN : (Ce ++ Cd).length ≤ N) : EP c p e hc hm (VN Nm) A N Cd.length Pt.length Ce.length v := by
  rw [List.length_append] at h3 hN
  refine ⟨Ce, Pe, ec.mono (fun _ q => q) hA, rfl, cds_F h2, prts_F h1, by rw [h3, Nat.add_comm], by omega, ?_⟩
  cases Ce with
  | nil => exact absurd ec.2 (by simp)
  | cons x r => simp
theorem SCl.an {T : tkD} {na a wk : Nat} {Pt : List prt} {Nm : List nmE} {jn nv nl wh : Nat} {ag bh : Int32} {hc : qh} (x : SCl T na a wk Pt Nm jn nv nl wh ag bh hc) : ∀ y, AN Nm y → AK na y := fun y ⟨z, z1, z2, z3⟩ => by
  rw [← z3]; exact (x.2.2.2.2.2.2.2.2.1 z z1).2 z2
theorem SCl.ex {T : tkD} {na a wk : Nat} {Pt : List prt} {Nm : List nmE} {jn nv nl wh : Nat} {ag bh : Int32} {hc : qh} (R : TR T) (ha : a < T.n) (x : SCl T na a wk Pt Nm jn nv nl wh ag bh hc) : Pt.length < 1000 + wk ∧ Pt.length < 1390 := by
  have := (R.2.2.2.2.1 a ha).2.2
  obtain ⟨x1, x2, x3, x4, x5, x6, x7, _⟩ := x
  omega
