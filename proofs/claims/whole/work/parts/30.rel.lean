/-! ===== two runs beside each other: the class over the cells below 43, the reference over those from 43 on ===== -/
def mg (a b : qh) : qh := (fun o => if o < 43 then a.I o else b.I o, fun o => if o < 43 then a.L o else b.L o, fun o => if o < 43 then a.R o else b.R o)
theorem mg_I (a b : qh) (o : Nat) : (mg a b).I o = if o < 43 then a.I o else b.I o := rfl
theorem mg_L (a b : qh) (o : Nat) : (mg a b).L o = if o < 43 then a.L o else b.L o := rfl
theorem mg_R (a b : qh) (o : Nat) : (mg a b).R o = if o < 43 then a.R o else b.R o := rfl
theorem mg_self (a : qh) : mg a a = a := by
  refine Prod.ext ?_ (Prod.ext ?_ ?_) <;> (funext o; simp only [mg, ite_self])
theorem mg_mg (a b c : qh) : mg (mg a b) c = mg a c := by
  refine Prod.ext ?_ (Prod.ext ?_ ?_) <;> (funext o; show (if o < 43 then (if o < 43 then _ else _) else _) = (if o < 43 then _ else _); split <;> rfl)
theorem mg_mg' (a b c : qh) : mg a (mg b c) = mg a c := by
  refine Prod.ext ?_ (Prod.ext ?_ ?_) <;> (funext o; show (if o < 43 then _ else (if o < 43 then _ else _)) = (if o < 43 then _ else _); split <;> rfl)
theorem sI_I (h : qh) (o k : Nat) (v : Int32) (o' k' : Nat) : (h.sI o k v).I o' k' = if o' = o ∧ k' = k then v else h.I o' k' := rfl
theorem sI_row (h : qh) {o k : Nat} {v : Int32} {o' : Nat} (e : o' ≠ o) : (h.sI o k v).I o' = h.I o' := q_up_o _ _ _ e
theorem sI_L (h : qh) (o k : Nat) (v : Int32) : (h.sI o k v).L = h.L := rfl
theorem sI_R (h : qh) (o k : Nat) (v : Int32) : (h.sI o k v).R = h.R := rfl
theorem sL_L (h : qh) (o k : Nat) (v : Int64) (o' k' : Nat) : (h.sL o k v).L o' k' = if o' = o ∧ k' = k then v else h.L o' k' := rfl
theorem sL_row (h : qh) {o k : Nat} {v : Int64} {o' : Nat} (e : o' ≠ o) : (h.sL o k v).L o' = h.L o' := q_up_o _ _ _ e
theorem sL_I (h : qh) (o k : Nat) (v : Int64) : (h.sL o k v).I = h.I := rfl
theorem sL_R (h : qh) (o k : Nat) (v : Int64) : (h.sL o k v).R = h.R := rfl
theorem sR_R (h : qh) (o k : Nat) (v : Option Nat) (o' k' : Nat) : (h.sR o k v).R o' k' = if o' = o ∧ k' = k then v else h.R o' k' := rfl
theorem sR_I (h : qh) (o k : Nat) (v : Option Nat) : (h.sR o k v).I = h.I := rfl
theorem sR_L (h : qh) (o k : Nat) (v : Option Nat) : (h.sR o k v).L = h.L := rfl
theorem mg_sI_c {o : Nat} (ho : o < 43) (a b : qh) (k : Nat) (v : Int32) : (mg a b).sI o k v = mg (a.sI o k v) b := by
  refine Prod.ext ?_ rfl
  funext o' k'
  show (if o' = o ∧ k' = k then v else (if o' < 43 then a.I o' else b.I o') k') = (if o' < 43 then (a.sI o k v).I o' else b.I o') k'
  by_cases h : o' = o
  · subst h; rw [if_pos ho, if_pos ho, sI_I]
  · rw [if_neg (fun q => h q.1)]; split
    · rw [sI_row _ h]
    · rfl
theorem mg_sI_m {o : Nat} (ho : 43 ≤ o) (a b : qh) (k : Nat) (v : Int32) : (mg a b).sI o k v = mg a (b.sI o k v) := by
  refine Prod.ext ?_ rfl
  funext o' k'
  show (if o' = o ∧ k' = k then v else (if o' < 43 then a.I o' else b.I o') k') = (if o' < 43 then a.I o' else (b.sI o k v).I o') k'
  by_cases h : o' = o
  · subst h; rw [if_neg (show ¬ o' < 43 by omega), if_neg (show ¬ o' < 43 by omega), sI_I]
  · rw [if_neg (fun q => h q.1)]; split
    · rfl
    · rw [sI_row _ h]
theorem mg_sL_c {o : Nat} (ho : o < 43) (a b : qh) (k : Nat) (v : Int64) : (mg a b).sL o k v = mg (a.sL o k v) b := by
  refine Prod.ext rfl (Prod.ext ?_ rfl)
  funext o' k'
  show (if o' = o ∧ k' = k then v else (if o' < 43 then a.L o' else b.L o') k') = (if o' < 43 then (a.sL o k v).L o' else b.L o') k'
  by_cases h : o' = o
  · subst h; rw [if_pos ho, if_pos ho, sL_L]
  · rw [if_neg (fun q => h q.1)]; split
    · rw [sL_row _ h]
    · rfl
theorem mg_sL_m {o : Nat} (ho : 43 ≤ o) (a b : qh) (k : Nat) (v : Int64) : (mg a b).sL o k v = mg a (b.sL o k v) := by
  refine Prod.ext rfl (Prod.ext ?_ rfl)
  funext o' k'
  show (if o' = o ∧ k' = k then v else (if o' < 43 then a.L o' else b.L o') k') = (if o' < 43 then a.L o' else (b.sL o k v).L o') k'
  by_cases h : o' = o
  · subst h; rw [if_neg (show ¬ o' < 43 by omega), if_neg (show ¬ o' < 43 by omega), sL_L]
  · rw [if_neg (fun q => h q.1)]; split
    · rfl
    · rw [sL_row _ h]
theorem mg_sR_c {o : Nat} (ho : o < 43) (a b : qh) (k : Nat) (v : Option Nat) : (mg a b).sR o k v = mg (a.sR o k v) b := by
  refine Prod.ext rfl (Prod.ext rfl ?_)
  funext o' k'
  show (if o' = o ∧ k' = k then v else (if o' < 43 then a.R o' else b.R o') k') = (if o' < 43 then (a.sR o k v).R o' else b.R o') k'
  by_cases h : o' = o
  · subst h; rw [if_pos ho, if_pos ho, sR_R]
  · rw [if_neg (fun q => h q.1)]; split
    · rw [sR_R, if_neg (fun q => h q.1)]
    · rfl
theorem mg_sR_m {o : Nat} (ho : 43 ≤ o) (a b : qh) (k : Nat) (v : Option Nat) : (mg a b).sR o k v = mg a (b.sR o k v) := by
  refine Prod.ext rfl (Prod.ext rfl ?_)
  funext o' k'
  show (if o' = o ∧ k' = k then v else (if o' < 43 then a.R o' else b.R o') k') = (if o' < 43 then a.R o' else (b.sR o k v).R o') k'
  by_cases h : o' = o
  · subst h; rw [if_neg (show ¬ o' < 43 by omega), if_neg (show ¬ o' < 43 by omega), sR_R]
  · rw [if_neg (fun q => h q.1)]; split
    · rfl
    · rw [sR_R, if_neg (fun q => h q.1)]
/-! numbers that are not below 0 -/
theorem n_lt {a b : Nat} (ha : a < 2147483648) (hb : b < 2147483648) : (Int32.ofNat a < Int32.ofNat b) ↔ a < b := Int32.ofNat_lt_ofNat ha hb
theorem n_le {a b : Nat} (ha : a < 2147483648) (hb : b < 2147483648) : (Int32.ofNat a ≤ Int32.ofNat b) ↔ a ≤ b := Int32.ofNat_le_ofNat ha hb
theorem n_toInt {a : Nat} (ha : a < 2147483648) : (Int32.ofNat a).toInt = a := Int32.toInt_ofNat_of_lt ha
theorem n_N {a : Nat} (ha : a < 2147483648) : (Int32.ofNat a).toNatClampNeg = a := by
  show (Int32.ofNat a).toInt.toNat = a
  rw [n_toInt ha]; rfl
theorem n_eq {a b : Nat} (ha : a < 2147483648) (hb : b < 2147483648) : (Int32.ofNat a = Int32.ofNat b) ↔ a = b := by
  refine ⟨fun h => ?_, fun h => by rw [h]⟩
  have := congrArg Int32.toNatClampNeg h
  rwa [n_N ha, n_N hb] at this
theorem n_nneg {a : Nat} (ha : a < 2147483648) : ¬ Int32.ofNat a < 0 := fun h => by
  have := (n_lt (b := 0) ha (by decide)).mp h
  omega
theorem n_in {a n : Nat} (ha : a < 2147483648) (h : a < n) : vp_in (Int32.ofNat a) n := fun q => by
  rcases q with q | q
  · exact n_nneg ha q
  · rw [n_N ha] at q; omega
theorem n_add (a b : Nat) : Int32.ofNat a + Int32.ofNat b = Int32.ofNat (a + b) := (Int32.ofNat_add a b).symm
theorem n_add1 (a : Nat) : Int32.ofNat a + 1 = Int32.ofNat (a + 1) := n_add a 1
theorem n_sub {a b : Nat} (h : b ≤ a) : Int32.ofNat a - Int32.ofNat b = Int32.ofNat (a - b) := by
  have : Int32.ofNat a = Int32.ofNat (a - b) + Int32.ofNat b := by rw [n_add]; congr 1; omega
  rw [this, Int32.add_sub_cancel]
theorem n_sub1 (a : Nat) : Int32.ofNat (a + 1) - 1 = Int32.ofNat a := n_sub (a := a + 1) (b := 1) (by omega)
theorem n_ne1 {a : Nat} (ha : a < 2147483648) : ¬ Int32.ofNat a = -1 := fun h => n_nneg ha (by rw [h]; decide)
theorem n_of {x : Int32} (h : ¬ x < 0) : ∃ a : Nat, a < 2147483648 ∧ x = Int32.ofNat a := by
  have h1 : ¬ x.toInt < 0 := fun q => h (Int32.lt_iff_toInt_lt.mpr q)
  have h2 := Int32.toInt_lt x
  refine ⟨x.toInt.toNat, by omega, ?_⟩
  apply Int32.toInt.inj
  rw [n_toInt (by omega)]
  omega
/-! ===== the judgement of two runs ===== -/
abbrev qT : Type := qh → (qr → qh → Prop) → Prop
def J (Wc Wm : qT) (P : qr → qh → qr → qh → Prop) : Prop := ∃ (rc : qr) (hc : qh) (rm : qr) (hm : qh), (∀ hx Q, Q rc (mg hc hx) → Wc hx Q) ∧ (∀ hx Q, Q rm (mg hx hm) → Wm hx Q) ∧ P rc hc rm hm
def cR (G : qG) (d : Nat) (y : MethodName) (av : List Value) (hc : qh) (r : qr) (hc' : qh) : Prop := ∀ hx Q, Q r (mg hc' hx) → q_M0 G d y av (mg hc hx) Q
def mR (G : qG) (d : Nat) (y : MethodName) (av : List Value) (hm : qh) (r : qr) (hm' : qh) : Prop := ∀ hx Q, Q r (mg hx hm') → q_M0 G d y av (mg hx hm) Q
abbrev riv (x : Int32) : qr := .inl (some (.int x))
abbrev rvv : qr := .inl none
abbrev rxx : qr := .inr "java/lang/IllegalStateException"
section JR
variable {Wc Wm Wc' Wm' : qT} {P : qr → qh → qr → qh → Prop} {G : qG} {d : Nat} {y : MethodName} {av : List Value} {hc hc' hm hm' : qh}
theorem J.end {rc rm : qr} (h : P rc hc rm hm) : J (fun hx Q => Q rc (mg hc hx)) (fun hx Q => Q rm (mg hx hm)) P := ⟨rc, hc, rm, hm, fun _ _ q => q, fun _ _ q => q, h⟩
theorem J.c (s : ∀ hx Q, Wc' hx Q → Wc hx Q) (h : J Wc' Wm P) : J Wc Wm P := by
  obtain ⟨rc, hc, rm, hm, a, b, p⟩ := h
  exact ⟨rc, hc, rm, hm, fun hx Q q => s hx Q (a hx Q q), b, p⟩
theorem J.m (s : ∀ hx Q, Wm' hx Q → Wm hx Q) (h : J Wc Wm' P) : J Wc Wm P := by
  obtain ⟨rc, hc, rm, hm, a, b, p⟩ := h
  exact ⟨rc, hc, rm, hm, a, fun hx Q q => s hx Q (b hx Q q), p⟩
theorem J.mono {P' : qr → qh → qr → qh → Prop} (h : J Wc Wm P') (s : ∀ rc hc rm hm, P' rc hc rm hm → P rc hc rm hm) : J Wc Wm P := by
  obtain ⟨rc, hc, rm, hm, a, b, p⟩ := h
  exact ⟨rc, hc, rm, hm, a, b, s _ _ _ _ p⟩
/-- a call on the class's side -/
theorem J.ci {F : (qr → qh → Prop) → Int32 → qh → Prop} {X : (qr → qh → Prop) → String → qh → Prop} {x : Int32} (r : cR G d y av hc (riv x) hc') (k : J (fun hx Q => F Q x (mg hc' hx)) Wm P) : J (fun hx Q => q_M0 G d y av (mg hc hx) (q_ri (F Q) (X Q))) Wm P :=
  J.c (fun hx Q q => r hx _ q) k
theorem J.cv {F : (qr → qh → Prop) → qh → Prop} {X : (qr → qh → Prop) → String → qh → Prop} (r : cR G d y av hc rvv hc') (k : J (fun hx Q => F Q (mg hc' hx)) Wm P) : J (fun hx Q => q_M0 G d y av (mg hc hx) (q_rv (F Q) (X Q))) Wm P :=
  J.c (fun hx Q q => r hx _ q) k
theorem J.mi {F : (qr → qh → Prop) → Int32 → qh → Prop} {X : (qr → qh → Prop) → String → qh → Prop} {x : Int32} (r : mR G d y av hm (riv x) hm') (k : J Wc (fun hx Q => F Q x (mg hx hm')) P) : J Wc (fun hx Q => q_M0 G d y av (mg hx hm) (q_ri (F Q) (X Q))) P :=
  J.m (fun hx Q q => r hx _ q) k
theorem J.mv {F : (qr → qh → Prop) → qh → Prop} {X : (qr → qh → Prop) → String → qh → Prop} (r : mR G d y av hm rvv hm') (k : J Wc (fun hx Q => F Q (mg hx hm')) P) : J Wc (fun hx Q => q_M0 G d y av (mg hx hm) (q_rv (F Q) (X Q))) P :=
  J.m (fun hx Q q => r hx _ q) k
theorem J.mxi {F : (qr → qh → Prop) → Int32 → qh → Prop} {X : (qr → qh → Prop) → String → qh → Prop} {E : String} (r : mR G d y av hm (.inr E) hm') (k : J Wc (fun hx Q => X Q E (mg hx hm')) P) : J Wc (fun hx Q => q_M0 G d y av (mg hx hm) (q_ri (F Q) (X Q))) P :=
  J.m (fun hx Q q => r hx _ q) k
theorem J.mxv {F : (qr → qh → Prop) → qh → Prop} {X : (qr → qh → Prop) → String → qh → Prop} {E : String} (r : mR G d y av hm (.inr E) hm') (k : J Wc (fun hx Q => X Q E (mg hx hm')) P) : J Wc (fun hx Q => q_M0 G d y av (mg hx hm) (q_rv (F Q) (X Q))) P :=
  J.m (fun hx Q q => r hx _ q) k
/-- which way: the condition holds, or not -/
theorem J.c1 {A : Prop} {X Y : qT} (a : A) (k : J X Wm P) : J (fun hx Q => (A → X hx Q) ∧ (¬ A → Y hx Q)) Wm P := J.c (fun _ _ q => ⟨fun _ => q, fun n => absurd a n⟩) k
theorem J.c2 {A : Prop} {X Y : qT} (a : ¬ A) (k : J Y Wm P) : J (fun hx Q => (A → X hx Q) ∧ (¬ A → Y hx Q)) Wm P := J.c (fun _ _ q => ⟨fun n => absurd n a, fun _ => q⟩) k
theorem J.c3 {A : Prop} {X Y : qT} (a : A) (k : J Y Wm P) : J (fun hx Q => (¬ A → X hx Q) ∧ (A → Y hx Q)) Wm P := J.c (fun _ _ q => ⟨fun n => absurd a n, fun _ => q⟩) k
theorem J.c4 {A : Prop} {X Y : qT} (a : ¬ A) (k : J X Wm P) : J (fun hx Q => (¬ A → X hx Q) ∧ (A → Y hx Q)) Wm P := J.c (fun _ _ q => ⟨fun _ => q, fun n => absurd n a⟩) k
theorem J.m1 {A : Prop} {X Y : qT} (a : A) (k : J Wc X P) : J Wc (fun hx Q => (A → X hx Q) ∧ (¬ A → Y hx Q)) P := J.m (fun _ _ q => ⟨fun _ => q, fun n => absurd a n⟩) k
theorem J.m2 {A : Prop} {X Y : qT} (a : ¬ A) (k : J Wc Y P) : J Wc (fun hx Q => (A → X hx Q) ∧ (¬ A → Y hx Q)) P := J.m (fun _ _ q => ⟨fun n => absurd n a, fun _ => q⟩) k
theorem J.m3 {A : Prop} {X Y : qT} (a : A) (k : J Wc Y P) : J Wc (fun hx Q => (¬ A → X hx Q) ∧ (A → Y hx Q)) P := J.m (fun _ _ q => ⟨fun n => absurd a n, fun _ => q⟩) k
theorem J.m4 {A : Prop} {X Y : qT} (a : ¬ A) (k : J Wc X P) : J Wc (fun hx Q => (¬ A → X hx Q) ∧ (A → Y hx Q)) P := J.m (fun _ _ q => ⟨fun _ => q, fun n => absurd n a⟩) k
/-- what must hold on the way -/
theorem J.ca {A : Prop} {X : qT} (a : A) (k : J X Wm P) : J (fun hx Q => A ∧ X hx Q) Wm P := J.c (fun _ _ q => ⟨a, q⟩) k
theorem J.ma {A : Prop} {X : qT} (a : A) (k : J Wc X P) : J Wc (fun hx Q => A ∧ X hx Q) P := J.m (fun _ _ q => ⟨a, q⟩) k
end JR
