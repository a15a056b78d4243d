/-! ===== calls by what comes back; the objects of which there are two; where the locals are forgotten ===== -/
def zN : qz := (false, 84, q_rh)
def q_cir (c : Nat) : Prop := c = 1 ∨ c = 8
def q_prg (p : Nat) : Prop := p = 51 ∨ p = 62
def q_end (a : Nat) : Prop := a = 81 ∨ a = 82
theorem q_cir_n {c : Nat} (h : q_cir c) (k : Nat) (hk : k < 7 := by decide) : c + k < zN.n := by
  rcases h with rfl | rfl <;> (show _ < 84; omega)
theorem q_cir_K {c : Nat} (h : q_cir c) : q_K c = (1, 0) := by rcases h with rfl | rfl <;> rfl
theorem q_cir_P {c : Nat} (h : q_cir c) (j : Nat) (hj : j < 6 := by decide) : zN.P c j = some (c + (j + 1)) := by
  match j, hj with
  | 0, _ => rcases h with rfl | rfl <;> rfl
  | 1, _ => rcases h with rfl | rfl <;> rfl
  | 2, _ => rcases h with rfl | rfl <;> rfl
  | 3, _ => rcases h with rfl | rfl <;> rfl
  | 4, _ => rcases h with rfl | rfl <;> rfl
  | 5, _ => rcases h with rfl | rfl <;> rfl
theorem q_cir_A {c : Nat} (h : q_cir c) (j : Nat) (hj : j < 6 := by decide) : q_K (c + (j + 1)) = (100, if j < 4 then 1400 else if j = 4 then 80 else 8) := by
  match j, hj with
  | 0, _ => rcases h with rfl | rfl <;> rfl
  | 1, _ => rcases h with rfl | rfl <;> rfl
  | 2, _ => rcases h with rfl | rfl <;> rfl
  | 3, _ => rcases h with rfl | rfl <;> rfl
  | 4, _ => rcases h with rfl | rfl <;> rfl
  | 5, _ => rcases h with rfl | rfl <;> rfl
theorem q_prg_n {c : Nat} (h : q_prg c) (k : Nat) (hk : k < 11 := by decide) : c + k < zN.n := by
  rcases h with rfl | rfl <;> (show _ < 84; omega)
theorem q_prg_K {c : Nat} (h : q_prg c) : q_K c = (12, 0) := by rcases h with rfl | rfl <;> rfl
theorem q_prg_P {c : Nat} (h : q_prg c) (j : Nat) (hj : 8 ≤ j ∧ j < 18 := by decide) : zN.P c j = some (c + (j - 7)) := by
  have hj' : j = 8 ∨ j = 9 ∨ j = 10 ∨ j = 11 ∨ j = 12 ∨ j = 13 ∨ j = 14 ∨ j = 15 ∨ j = 16 ∨ j = 17 := by omega
  rcases h with rfl | rfl <;> rcases hj' with rfl | rfl | rfl | rfl | rfl | rfl | rfl | rfl | rfl | rfl <;> rfl
theorem q_prg_A {c : Nat} (h : q_prg c) (j : Nat) (hj : 8 ≤ j ∧ j < 18 := by decide) : q_K (c + (j - 7)) = (100, if j = 8 then 8 else 2000) := by
  have hj' : j = 8 ∨ j = 9 ∨ j = 10 ∨ j = 11 ∨ j = 12 ∨ j = 13 ∨ j = 14 ∨ j = 15 ∨ j = 16 ∨ j = 17 := by omega
  rcases h with rfl | rfl <;> rcases hj' with rfl | rfl | rfl | rfl | rfl | rfl | rfl | rfl | rfl | rfl <;> rfl
theorem q_end_n {a : Nat} (h : q_end a) : a < zN.n := by rcases h with rfl | rfl <;> decide
theorem q_end_K {a : Nat} (h : q_end a) : q_K a = (100, 2000) := by rcases h with rfl | rfl <;> rfl
theorem q_ite {c : Prop} [Decidable c] {a b : Int32} {X : Int32 → Prop} (hk : X (if c then a else b)) : (c → X a) ∧ (¬ c → X b) := ⟨fun q => by rw [if_pos q] at hk; exact hk, fun q => by rw [if_neg q] at hk; exact hk⟩
section QN
variable {G : qG} {M : qm} {d : Nat} {Q : qr → qh → Prop} {pc : Nat} {l st : List Value} {h : qh}
/-- a body of which no cell is made -/
abbrev q_N0 (G : qG) (M : qm) (d : Nat) (Q : qr → qh → Prop) (pc : Nat) (l st : List Value) (h : qh) : Prop := q_W G M zN d 0 0 Q 0 0 zN pc l st h
/-- a method of which no cell is made -/
abbrev q_M0 (G : qG) (d : Nat) (y : MethodName) (av : List Value) (h : qh) (Q : qr → qh → Prop) : Prop := q_M G zN zN d 0 0 y av h Q
/-- l' knows no more than l -/
def q_lq : List Value → List Value → Prop
  | [], _ => True
  | a :: r, b :: t => (a = .null ∨ a = b) ∧ q_lq r t
  | _ :: _, [] => False
theorem q_lq_get : ∀ (l' l : List Value), q_lq l' l → ∀ (j : Nat) (v : Value), l'[j]? = some v → v ≠ .null → l[j]? = some v
  | [], _, _, j, v, hj, _ => by simp at hj
  | a :: r, b :: t, ⟨h1, h2⟩, 0, v, hj, hv => by
    cases hj
    rcases h1 with rfl | rfl
    · exact absurd rfl hv
    · rfl
  | a :: r, b :: t, ⟨h1, h2⟩, j + 1, v, hj, hv => q_lq_get r t h2 j v hj hv
theorem q_fgt {l' : List Value} (hl : q_lq l' l) (kk : q_N0 G M d Q pc l' st h) : q_N0 G M d Q pc l st h :=
  fun p e s m args below meth c H locs ls C hR hS ⟨lv, h1, h2⟩ => kk p e s m args below meth c H locs ls C hR hS ⟨lv, h1, fun j v hj hv => h2 j v (q_lq_get _ _ hl j v hj hv) hv⟩
theorem q_callVi {ix n ci o d1 : Nat} {y : MethodName} {As stk : List Value} {F : Int32 → qh → Prop} (hcv : q_Cv M.own ix y n) (hci : ∃ (T : u_T) (N : Nat), vwCl[ci]? = some (y.cls, T, N)) (ho : o < zN.n) (hk : q_K o = (ci, 0)) (hn : As.length = n) (hd1 : d1 + 1 ≤ d) (hw : (st.map fun v => v.category).sum ≤ 8) (hout : ∀ x ∈ tableOf M.hh, covers x pc = false) (hdg : decode M.cc pc = .ok (.invokevirtual ix, 3)) (hstk : stk = As.reverse ++ .ref o :: st)
    (hM : q_M0 G d1 y (.ref o :: As) h (q_ri F (fun E h => Q (.inr E) h))) (kk : ∀ x h1, F x h1 → q_N0 G M d Q (pc + 3) l (.int x :: st) h1) : q_N0 G M d Q pc l stk h :=
  q_callV hcv hci ho hk hn hd1 (Nat.le_refl _) (Nat.le_refl _) hw hout hdg hstk hM (fun E h1 q => ⟨rfl, q⟩) (fun r h1 hr => by
    match r, hr with
    | some (.int x), hr => exact kk x h1 hr)
theorem q_callVl {ix n ci o d1 : Nat} {y : MethodName} {As stk : List Value} {F : Int64 → qh → Prop} (hcv : q_Cv M.own ix y n) (hci : ∃ (T : u_T) (N : Nat), vwCl[ci]? = some (y.cls, T, N)) (ho : o < zN.n) (hk : q_K o = (ci, 0)) (hn : As.length = n) (hd1 : d1 + 1 ≤ d) (hw : (st.map fun v => v.category).sum ≤ 8) (hout : ∀ x ∈ tableOf M.hh, covers x pc = false) (hdg : decode M.cc pc = .ok (.invokevirtual ix, 3)) (hstk : stk = As.reverse ++ .ref o :: st)
    (hM : q_M0 G d1 y (.ref o :: As) h (q_rl F (fun E h => Q (.inr E) h))) (kk : ∀ x h1, F x h1 → q_N0 G M d Q (pc + 3) l (.long x :: st) h1) : q_N0 G M d Q pc l stk h :=
  q_callV hcv hci ho hk hn hd1 (Nat.le_refl _) (Nat.le_refl _) hw hout hdg hstk hM (fun E h1 q => ⟨rfl, q⟩) (fun r h1 hr => by
    match r, hr with
    | some (.long x), hr => exact kk x h1 hr)
theorem q_callVv {ix n ci o d1 : Nat} {y : MethodName} {As stk : List Value} {F : qh → Prop} (hcv : q_Cv M.own ix y n) (hci : ∃ (T : u_T) (N : Nat), vwCl[ci]? = some (y.cls, T, N)) (ho : o < zN.n) (hk : q_K o = (ci, 0)) (hn : As.length = n) (hd1 : d1 + 1 ≤ d) (hw : (st.map fun v => v.category).sum ≤ 8) (hout : ∀ x ∈ tableOf M.hh, covers x pc = false) (hdg : decode M.cc pc = .ok (.invokevirtual ix, 3)) (hstk : stk = As.reverse ++ .ref o :: st)
    (hM : q_M0 G d1 y (.ref o :: As) h (q_rv F (fun E h => Q (.inr E) h))) (kk : ∀ h1, F h1 → q_N0 G M d Q (pc + 3) l st h1) : q_N0 G M d Q pc l stk h :=
  q_callV hcv hci ho hk hn hd1 (Nat.le_refl _) (Nat.le_refl _) hw hout hdg hstk hM (fun E h1 q => ⟨rfl, q⟩) (fun r h1 hr => by
    match r, hr with
    | none, hr => exact kk h1 hr)
theorem q_callSi {ix n d1 : Nat} {y : MethodName} {As stk : List Value} {F : Int32 → qh → Prop} (hcv : q_Cs M.own ix y n) (hn : As.length = n) (hd1 : d1 + 1 ≤ d) (hw : (st.map fun v => v.category).sum ≤ 8) (hout : ∀ x ∈ tableOf M.hh, covers x pc = false) (hdg : decode M.cc pc = .ok (.invokestatic ix, 3)) (hstk : stk = As.reverse ++ st)
    (hM : q_M0 G d1 y As h (q_ri F (fun E h => Q (.inr E) h))) (kk : ∀ x h1, F x h1 → q_N0 G M d Q (pc + 3) l (.int x :: st) h1) : q_N0 G M d Q pc l stk h :=
  q_callS hcv hn hd1 (Nat.le_refl _) (Nat.le_refl _) hw hout hdg hstk hM (fun E h1 q => ⟨rfl, q⟩) (fun r h1 hr => by
    match r, hr with
    | some (.int x), hr => exact kk x h1 hr)
theorem q_callSl {ix n d1 : Nat} {y : MethodName} {As stk : List Value} {F : Int64 → qh → Prop} (hcv : q_Cs M.own ix y n) (hn : As.length = n) (hd1 : d1 + 1 ≤ d) (hw : (st.map fun v => v.category).sum ≤ 8) (hout : ∀ x ∈ tableOf M.hh, covers x pc = false) (hdg : decode M.cc pc = .ok (.invokestatic ix, 3)) (hstk : stk = As.reverse ++ st)
    (hM : q_M0 G d1 y As h (q_rl F (fun E h => Q (.inr E) h))) (kk : ∀ x h1, F x h1 → q_N0 G M d Q (pc + 3) l (.long x :: st) h1) : q_N0 G M d Q pc l stk h :=
  q_callS hcv hn hd1 (Nat.le_refl _) (Nat.le_refl _) hw hout hdg hstk hM (fun E h1 q => ⟨rfl, q⟩) (fun r h1 hr => by
    match r, hr with
    | some (.long x), hr => exact kk x h1 hr)
theorem q_callSv {ix n d1 : Nat} {y : MethodName} {As stk : List Value} {F : qh → Prop} (hcv : q_Cs M.own ix y n) (hn : As.length = n) (hd1 : d1 + 1 ≤ d) (hw : (st.map fun v => v.category).sum ≤ 8) (hout : ∀ x ∈ tableOf M.hh, covers x pc = false) (hdg : decode M.cc pc = .ok (.invokestatic ix, 3)) (hstk : stk = As.reverse ++ st)
    (hM : q_M0 G d1 y As h (q_rv F (fun E h => Q (.inr E) h))) (kk : ∀ h1, F h1 → q_N0 G M d Q (pc + 3) l st h1) : q_N0 G M d Q pc l stk h :=
  q_callS hcv hn hd1 (Nat.le_refl _) (Nat.le_refl _) hw hout hdg hstk hM (fun E h1 q => ⟨rfl, q⟩) (fun r h1 hr => by
    match r, hr with
    | none, hr => exact kk h1 hr)
end QN
