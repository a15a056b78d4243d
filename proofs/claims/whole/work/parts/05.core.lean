/-! ===== the walk's own judgement: a heap of ints, longs and references by numbers, over the kit's rows ===== -/
/-- what a walk is made in: the launch, the classes' numbers and slots, the array classes, where the cells begin -/
abbrev qG : Type := Launch × va_G × (Nat → ClassId) × Nat
abbrev qG.l (G : qG) : Launch := G.1
abbrev qG.D (G : qG) : va_G := G.2.1
abbrev qG.A (G : qG) : Nat → ClassId := G.2.2.1
abbrev qG.b (G : qG) : Nat := G.2.2.2
/-- a method's body: its class, bytes, locals, what it returns, its table, whether it is a constructor -/
abbrev qm : Type := String × ByteArray × Nat × Option FieldType × List (Nat × Nat × Nat × Nat) × Bool
abbrev qm.own (M : qm) : String := M.1
abbrev qm.cc (M : qm) : ByteArray := M.2.1
abbrev qm.nL (M : qm) : Nat := M.2.2.1
abbrev qm.rt (M : qm) : Option FieldType := M.2.2.2.1
abbrev qm.hh (M : qm) : List (Nat × Nat × Nat × Nat) := M.2.2.2.2.1
abbrev qm.ini (M : qm) : Bool := M.2.2.2.2.2
/-- what stands still while no cell is made: whether nothing lies behind the cells, how many there are, the references that never change -/
abbrev qz : Type := Bool × Nat × (Nat → Nat → Option Nat)
abbrev qz.ex (z : qz) : Bool := z.1
abbrev qz.n (z : qz) : Nat := z.2.1
abbrev qz.P (z : qz) : Nat → Nat → Option Nat := z.2.2
/-- ints, longs, references that change: by object and field, array and place -/
abbrev qh : Type := (Nat → Nat → Int32) × (Nat → Nat → Int64) × (Nat → Nat → Option Nat)
abbrev qh.I (h : qh) : Nat → Nat → Int32 := h.1
abbrev qh.L (h : qh) : Nat → Nat → Int64 := h.2.1
abbrev qh.R (h : qh) : Nat → Nat → Option Nat := h.2.2
/-- how a method ends: with a value, or with a thrown thing of a class -/
abbrev qr : Type := Option Value ⊕ String
def q_up {α : Type} (f : Nat → Nat → α) (o k : Nat) (v : α) : Nat → Nat → α := fun o' k' => if o' = o ∧ k' = k then v else f o' k'
theorem q_up_same {α : Type} (f : Nat → Nat → α) (o k : Nat) (v : α) : q_up f o k v o k = v := if_pos ⟨rfl, rfl⟩
theorem q_up_ne {α : Type} (f : Nat → Nat → α) {o k o' k' : Nat} (v : α) (h : ¬ (o' = o ∧ k' = k)) : q_up f o k v o' k' = f o' k' := if_neg h
theorem q_up_o {α : Type} (f : Nat → Nat → α) {o o' : Nat} (k : Nat) (v : α) (h : o' ≠ o) : q_up f o k v o' = f o' := by
  funext k'
  exact q_up_ne f v (fun q => h q.1)
def qh.sI (h : qh) (o k : Nat) (v : Int32) : qh := (q_up h.I o k v, h.L, h.R)
def qh.sL (h : qh) (o k : Nat) (v : Int64) : qh := (h.I, q_up h.L o k v, h.R)
def qh.sR (h : qh) (o k : Nat) (v : Option Nat) : qh := (h.I, h.L, q_up h.R o k v)
def qz.sP (z : qz) (o k : Nat) (v : Option Nat) : qz := (z.ex, z.n, q_up z.P o k v)
def q_cv (b : Nat) : Value → Value
  | .ref k => .ref (b + k)
  | v => v
def q_K (o : Nat) : Nat × Nat := q_lay.getD o (0, 0)
def q_N (c : Nat) : Nat := (q_fts.getD c []).length
def q_ft (c j : Nat) : Nat := (q_fts.getD c []).getD j 0
/-- field j of the object o of class c: an int, a long, a reference that changes, one that doesn't -/
def q_fv (b : Nat) (z : qz) (h : qh) (o c j : Nat) : Value := match q_ft c j with
  | 0 => .int (h.I o j)
  | 1 => .long (h.L o j)
  | 2 => va_rf ((h.R o j).map (b + ·))
  | _ => va_rf ((z.P o j).map (b + ·))
def q_fs (b : Nat) (z : qz) (h : qh) (o c : Nat) : List Value := (List.range (q_N c)).map (q_fv b z h o c)
def q_ent (G : qG) (z : qz) (h : qh) (o : Nat) : va_E :=
  if (q_K o).1 < 100 then .inr ((q_K o).1, q_fs G.b z h o (q_K o).1)
  else if (q_K o).1 = 103 then .inl (G.A 3, (q_K o).2, .inr (.inl (h.L o))) else .inl (G.A ((q_K o).1 - 100), (q_K o).2, .inl (h.I o))
def q_wl (G : qG) (z : qz) (h : qh) : va_W := (List.range z.n).map (fun o => (G.b + o, q_ent G z h o))
def q_A (G : qG) : Nat → Prop := fun q => G.b ≤ q
def q_tys (G : qG) : List (ClassId × FieldType) := [(G.A 0, .int), (G.A 1, .byte), (G.A 2, .boolean), (G.A 3, .long)]
def q_R (G : qG) (z : qz) (h : qh) (H : Heap) : Prop := va_P G.D vwCl (q_wl G z h) H ∧ G.b + z.n ≤ H.size ∧ (z.ex = true → H.size = G.b + z.n)
theorem q_wl_get (G : qG) (z : qz) (h : qh) {o : Nat} (ho : o < z.n) : (q_wl G z h)[o]? = some (G.b + o, q_ent G z h o) := by
  simp [q_wl, ho]
theorem q_wl_len (G : qG) (z : qz) (h : qh) : (q_wl G z h).length = z.n := by simp [q_wl]
theorem q_wl_inv {G : qG} {z : qz} {h : qh} {o : Nat} {q : Nat × va_E} (hq : (q_wl G z h)[o]? = some q) : o < z.n ∧ q = (G.b + o, q_ent G z h o) := by
  have ho : o < z.n := by
    have := (List.getElem?_eq_some_iff.mp hq).1
    rwa [q_wl_len] at this
  rw [q_wl_get G z h ho] at hq
  exact ⟨ho, (Option.some.inj hq).symm⟩
theorem q_wl_D (G : qG) (z : qz) (h : qh) : va_D (q_A G) (q_wl G z h) := by
  constructor
  · intro i j p q hp hq e
    rw [(q_wl_inv hp).2, (q_wl_inv hq).2] at e
    dsimp only at e
    omega
  · intro k q hq
    rw [(q_wl_inv hq).2]
    exact Nat.le_add_right _ _
theorem q_wl_set {G : qG} {z z' : qz} {h h' : qh} {o : Nat} {e : va_E} (hn : z'.n = z.n) (he : q_ent G z' h' o = e) (hne : ∀ o', o' ≠ o → q_ent G z' h' o' = q_ent G z h o') : (q_wl G z h).set o (G.b + o, e) = q_wl G z' h' := by
  apply List.ext_getElem?
  intro i
  rw [List.getElem?_set]
  by_cases hi : i < z.n
  · rw [q_wl_get G z' h' (by rw [hn]; exact hi), q_wl_len]
    by_cases ho : o = i
    · subst ho
      rw [if_pos rfl, if_pos hi, he]
    · rw [if_neg ho, q_wl_get G z h hi, hne i (fun q => ho q.symm)]
  · have h1 : (q_wl G z' h')[i]? = none := List.getElem?_eq_none (by rw [q_wl_len, hn]; omega)
    rw [h1]
    by_cases ho : o = i
    · rw [if_pos ho, if_neg (by rw [q_wl_len]; omega)]
    · rw [if_neg ho]
      exact List.getElem?_eq_none (by rw [q_wl_len]; omega)
theorem q_ent_obj (G : qG) (z : qz) (h : qh) {o c : Nat} (hk : q_K o = (c, 0)) (hc : c < 100) : q_ent G z h o = .inr (c, q_fs G.b z h o c) := by
  unfold q_ent
  rw [hk]
  exact if_pos hc
theorem q_ent_int (G : qG) (z : qz) (h : qh) {o t n : Nat} (hk : q_K o = (100 + t, n)) (ht : t < 3) : q_ent G z h o = .inl (G.A t, n, .inl (h.I o)) := by
  unfold q_ent
  rw [hk]
  dsimp only
  rw [if_neg (by omega), if_neg (by omega), Nat.add_sub_cancel_left]
theorem q_ent_long (G : qG) (z : qz) (h : qh) {o n : Nat} (hk : q_K o = (103, n)) : q_ent G z h o = .inl (G.A 3, n, .inr (.inl (h.L o))) := by
  unfold q_ent
  rw [hk]
  dsimp only
  rw [if_neg (by decide), if_pos rfl]
theorem q_fs_get (b : Nat) (z : qz) (h : qh) (o : Nat) {c j : Nat} (hj : j < q_N c) : (q_fs b z h o c)[j]? = some (q_fv b z h o c j) := by
  simp [q_fs, hj]
theorem q_fs_len (b : Nat) (z : qz) (h : qh) (o c : Nat) : (q_fs b z h o c).length = q_N c := by simp [q_fs]
theorem q_fs_set {b : Nat} {z z' : qz} {h h' : qh} {o c j : Nat} {v : Value} (hv : q_fv b z' h' o c j = v) (hne : ∀ j', j' ≠ j → q_fv b z' h' o c j' = q_fv b z h o c j') : (q_fs b z h o c).set j v = q_fs b z' h' o c := by
  apply List.ext_getElem?
  intro i
  rw [List.getElem?_set, q_fs_len]
  by_cases hi : i < q_N c
  · rw [q_fs_get b z' h' o hi]
    by_cases hj : j = i
    · subst hj
      rw [if_pos rfl, if_pos hi, hv]
    · rw [if_neg hj, q_fs_get b z h o hi, hne i (fun q => hj q.symm)]
  · have h1 : (q_fs b z' h' o c)[i]? = none := List.getElem?_eq_none (by rw [q_fs_len]; omega)
    rw [h1]
    by_cases hj : j = i
    · rw [if_pos hj, if_neg (by omega)]
    · rw [if_neg hj]
      exact List.getElem?_eq_none (by rw [q_fs_len]; omega)
/-! what is written in one cell is seen in no other -/
theorem q_fv_I (b : Nat) (z : qz) (h : qh) (o k : Nat) (v : Int32) {o' c j : Nat} (hne : ¬ (o' = o ∧ j = k)) : q_fv b z (h.sI o k v) o' c j = q_fv b z h o' c j := by
  unfold q_fv
  split
  · exact congrArg Value.int (q_up_ne _ _ hne)
  all_goals rfl
theorem q_fv_L (b : Nat) (z : qz) (h : qh) (o k : Nat) (v : Int64) {o' c j : Nat} (hne : ¬ (o' = o ∧ j = k)) : q_fv b z (h.sL o k v) o' c j = q_fv b z h o' c j := by
  unfold q_fv
  split
  · rfl
  · exact congrArg Value.long (q_up_ne _ _ hne)
  all_goals rfl
theorem q_fv_R (b : Nat) (z : qz) (h : qh) (o k : Nat) (v : Option Nat) {o' c j : Nat} (hne : ¬ (o' = o ∧ j = k)) : q_fv b z (h.sR o k v) o' c j = q_fv b z h o' c j := by
  unfold q_fv
  split
  · rfl
  · rfl
  · exact congrArg (fun x : Option Nat => va_rf (x.map (b + ·))) (q_up_ne _ _ hne)
  · rfl
theorem q_fv_P (b : Nat) (z : qz) (h : qh) (o k : Nat) (v : Option Nat) {o' c j : Nat} (hne : ¬ (o' = o ∧ j = k)) : q_fv b (z.sP o k v) h o' c j = q_fv b z h o' c j := by
  unfold q_fv
  split
  · rfl
  · rfl
  · rfl
  · exact congrArg (fun x : Option Nat => va_rf (x.map (b + ·))) (q_up_ne _ _ hne)
theorem q_ent_off {G : qG} {z z' : qz} {h h' : qh} {o : Nat} (hf : ∀ c j, q_fv G.b z' h' o c j = q_fv G.b z h o c j) (hI : h'.I o = h.I o) (hL : h'.L o = h.L o) : q_ent G z' h' o = q_ent G z h o := by
  have h1 : ∀ c, q_fs G.b z' h' o c = q_fs G.b z h o c := fun c => by
    unfold q_fs
    exact List.map_congr_left (fun j _ => hf c j)
  unfold q_ent
  rw [hI, hL, h1]
theorem q_ent_I {G : qG} {z : qz} {h : qh} {o : Nat} (k : Nat) (v : Int32) (o' : Nat) (hne : o' ≠ o) : q_ent G z (h.sI o k v) o' = q_ent G z h o' :=
  q_ent_off (fun c j => q_fv_I _ _ _ _ _ _ (fun q => hne q.1)) (q_up_o _ _ _ hne) rfl
theorem q_ent_L {G : qG} {z : qz} {h : qh} {o : Nat} (k : Nat) (v : Int64) (o' : Nat) (hne : o' ≠ o) : q_ent G z (h.sL o k v) o' = q_ent G z h o' :=
  q_ent_off (fun c j => q_fv_L _ _ _ _ _ _ (fun q => hne q.1)) rfl (q_up_o _ _ _ hne)
theorem q_ent_R {G : qG} {z : qz} {h : qh} {o : Nat} (k : Nat) (v : Option Nat) (o' : Nat) (hne : o' ≠ o) : q_ent G z (h.sR o k v) o' = q_ent G z h o' :=
  q_ent_off (fun c j => q_fv_R _ _ _ _ _ _ (fun q => hne q.1)) rfl rfl
theorem q_ent_P {G : qG} {z : qz} {h : qh} {o : Nat} (k : Nat) (v : Option Nat) (o' : Nat) (hne : o' ≠ o) : q_ent G (z.sP o k v) h o' = q_ent G z h o' :=
  q_ent_off (fun c j => q_fv_P _ _ _ _ _ _ (fun q => hne q.1)) rfl rfl
