/-! ===== making cells: new, newarray, constructors ===== -/
def qh.clr (h : qh) (o : Nat) : qh := (fun o' k => if o' = o then 0 else h.I o' k, fun o' k => if o' = o then 0 else h.L o' k, fun o' k => if o' = o then none else h.R o' k)
def qz.one (z : qz) : qz := (z.ex, z.n + 1, fun o' k => if o' = z.n then none else z.P o' k)
def q_dv (c j : Nat) : Value := match q_ft c j with
  | 0 => .int 0
  | 1 => .long 0
  | _ => .null
theorem q_cld {ci : Nat} {C : String} {T : u_T} {N : Nat} (hc : vwCl[ci]? = some (C, T, N)) : N = q_N ci ∧ ∃ ty0 : Nat → FieldType, (∀ k, k < N → parseFieldDescriptor (T k).2.2.1 = some (ty0 k)) ∧ (∀ k, k < N → defaultValue (ty0 k) = q_dv ci k) := by
  match ci, hc with
  | 0, hc => cases hc; exact ⟨rfl, fun _ => .int, fun k h => absurd h (Nat.not_lt_zero k), fun k h => absurd h (Nat.not_lt_zero k)⟩
  | 1, hc => cases hc; exact ⟨rfl, tyX0, tyX0_ok, by decide⟩
  | 2, hc => cases hc; exact ⟨rfl, tyX1, tyX1_ok, by decide⟩
  | 3, hc => cases hc; exact ⟨rfl, tyX2, tyX2_ok, by decide⟩
  | 4, hc => cases hc; exact ⟨rfl, tyX3, tyX3_ok, by decide⟩
  | 5, hc => cases hc; exact ⟨rfl, tyX4, tyX4_ok, by decide⟩
  | 6, hc => cases hc; exact ⟨rfl, tyX5, tyX5_ok, by decide⟩
  | 7, hc => cases hc; exact ⟨rfl, tyX6, tyX6_ok, by decide⟩
  | 8, hc => cases hc; exact ⟨rfl, tyX7, tyX7_ok, by decide⟩
  | 9, hc => cases hc; exact ⟨rfl, tyX8, tyX8_ok, by decide⟩
  | 10, hc => cases hc; exact ⟨rfl, tyX9, tyX9_ok, by decide⟩
  | 11, hc => cases hc; exact ⟨rfl, tyX10, tyX10_ok, by decide⟩
  | 12, hc => cases hc; exact ⟨rfl, tyX11, tyX11_ok, by decide⟩
  | 13, hc => cases hc; exact ⟨rfl, tyX12, tyX12_ok, by decide⟩
  | ci + 14, hc => simp [vwCl] at hc
theorem q_fv_clr (b : Nat) (z : qz) (h : qh) (c j : Nat) : q_fv b z.one (h.clr z.n) z.n c j = q_dv c j := by
  unfold q_fv q_dv
  generalize q_ft c j = k
  match k with
  | 0 => exact congrArg Value.int (if_pos rfl)
  | 1 => exact congrArg Value.long (if_pos rfl)
  | 2 => exact congrArg (fun x : Option Nat => va_rf (x.map (b + ·))) (if_pos rfl)
  | k + 3 => exact congrArg (fun x : Option Nat => va_rf (x.map (b + ·))) (if_pos rfl)
theorem q_ent_one {G : qG} {z : qz} {h : qh} {o : Nat} (hne : o ≠ z.n) : q_ent G z.one (h.clr z.n) o = q_ent G z h o := by
  refine q_ent_off (fun c j => ?_) ?_ ?_
  · unfold q_fv
    split
    · exact congrArg Value.int (if_neg hne)
    · exact congrArg Value.long (if_neg hne)
    · exact congrArg (fun x : Option Nat => va_rf (x.map (G.b + ·))) (if_neg hne)
    · exact congrArg (fun x : Option Nat => va_rf (x.map (G.b + ·))) (if_neg hne)
  · funext k; exact if_neg hne
  · funext k; exact if_neg hne
theorem q_R.one {G : qG} {z : qz} {h : qh} {H H1 : Heap} (hR : q_R G z h H) (hex : z.ex = true) (hz : H1.size = H.size + 1) (hq : ∀ q : Nat, q < H.size → H1[q]? = H[q]?) (hat : va_at G.D vwCl (G.b + z.n, q_ent G z.one (h.clr z.n) z.n) H1) : q_R G z.one (h.clr z.n) H1 := by
  have hs := hR.2.2 hex
  refine ⟨fun k q hk => ?_, by rw [hz, hs]; exact Nat.le_refl _, fun _ => by rw [hz, hs]; rfl⟩
  obtain ⟨h1, rfl⟩ := q_wl_inv hk
  by_cases ho : k = z.n
  · subst ho; exact hat
  · rw [q_ent_one ho]
    have h1' : k < z.n + 1 := h1
    have hk' : k < z.n := by omega
    exact (hR.at hk' rfl).kept (hq _ (by rw [hs]; omega))
theorem q_S_one {G : qG} {H0 H H1 : Heap} {locs : List Loc} (hS : va_S (q_A G) H0 H locs) (hz : H1.size = H.size + 1) (hq : ∀ q : Nat, q < H.size → H1[q]? = H[q]?) : va_S (q_A G) H0 H1 locs :=
  ⟨by have := hS.1; omega, fun q h1 h2 => by rw [hq q (Nat.lt_of_lt_of_le h1 hS.1)]; exact hS.2.1 q h1 h2, hS.2.2⟩
section QMK
variable {G : qG} {M : qm} {z z' : qz} {d mc ms : Nat} {Q : qr → qh → Prop} {cells slots pc : Nat} {l st : List Value} {h : qh}
theorem q_new {ix ci N : Nat} {C : String} {T : u_T} (hc : vwCl[ci]? = some (C, T, N)) (hex : z.ex = true) (hk : q_K z.n = (ci, 0)) (hl : Cond.classLink M.own ix C ∈ q_tb) (hi : Cond.instantiable C N ∈ q_tb) (hn : Cond.initialized C ∈ q_tb) (hcc : cells + 1 ≤ mc) (hss : slots + N ≤ ms) (hdg : decode M.cc pc = .ok (.new ix, 3)) (kk : q_W G M z' d mc ms Q (cells + 1) (slots + N) z.one (pc + 3) l (.ref z.n :: st) (h.clr z.n)) : q_W G M z' d mc ms Q cells slots z pc l st h := by
  intro p e s m args below meth c H locs ls C' hR hS hL
  have hts := C'.2.2.2.2.1
  have hK : va_K G.D vwCl (q_tys G) s := C'.2.2.2.2.2.2.2.2.2.1
  have hKn := hK.1 ci _ hc
  obtain ⟨hin, -⟩ := q_cl hc
  obtain ⟨hN, ty0, hty, hdv⟩ := q_cld hc
  have hs := hR.2.2 hex
  refine W.newcK C'.1 C'.2.1 C'.2.2.2.1 (hts _ hl) (hts _ hi) (hts _ hn) rfl hdg hcc hss hKn.2.1 rfl fun H1 kC hkC e1 z1 o1 => ?_
  have hat : va_at G.D vwCl (G.b + z.n, q_ent G z.one (h.clr z.n) z.n) H1 := by
    rw [q_ent_obj G z.one (h.clr z.n) hk (q_vw_lt hc), ← hs]
    refine ⟨_, hc, (u_born ty0 hts hin hKn hkC e1 hty).to (fun j hj => ?_)⟩
    rw [hdv j hj]
    have hj' : j < q_N ci := by rw [← hN]; exact hj
    simp only [vp_V, List.getD, q_fs_get _ _ _ _ hj', Option.getD_some]
    exact (q_fv_clr _ _ _ _ _).symm
  have key := kk p e s m args below meth c H1 locs ls C' (hR.one hex z1 o1 hat) (q_S_one hS z1 o1) hL
  have e2 : F0 m (pc + 3) ls ((Value.ref z.n :: st).map (q_cv G.b)) = F0 m (pc + 3) ls (.ref H.size :: st.map (q_cv G.b)) := by
    rw [hs]; rfl
  rw [e2] at key
  exact key
theorem q_newa {t N : Nat} {x : Int32} {at_ : ArrayType} (hex : z.ex = true) (hk : q_K z.n = (100 + t, N)) (ht : t < 3) (hty : (t = 0 ∧ Op.newarray.typeOf at_ = .int) ∨ (t = 1 ∧ Op.newarray.typeOf at_ = .byte) ∨ (t = 2 ∧ Op.newarray.typeOf at_ = .boolean)) (hw : Cond.arrayClass (Op.newarray.typeOf at_) ∈ q_tb) (hx : ¬ x < 0) (hN : x.toNatClampNeg = N) (hb : N * componentBytes (Op.newarray.typeOf at_) ≤ 536870912) (hcc : cells + 1 ≤ mc) (hss : slots + N ≤ ms) (hdg : decode M.cc pc = .ok (.newarray at_, 2))
    (kk : q_W G M z' d mc ms Q (cells + 1) (slots + N) z.one (pc + 2) l (.ref z.n :: st) (h.clr z.n)) : q_W G M z' d mc ms Q cells slots z pc l (.int x :: st) h := by
  intro p e s m args below meth c H locs ls C hR hS hL
  have hts := C.2.2.2.2.1
  have hK : va_K G.D vwCl (q_tys G) s := C.2.2.2.2.2.2.2.2.2.1
  have hs := hR.2.2 hex
  refine va_newaK C.1 C.2.1 (hts _ hw) (g := F0 m pc ls ((Value.int x :: st).map (q_cv G.b))) rfl hdg rfl hx hN hb hcc hss rfl fun H1 cA e1 z1 o1 hAr hNm => ?_
  have hcA : cA = G.A t ∧ ∀ n f, arrV cA n (fun _ => defaultValue (Op.newarray.typeOf at_)) = arrV cA n (fun _ => Value.int f) ∨ f ≠ 0 := by
    rcases hty with ⟨rfl, hty⟩ | ⟨rfl, hty⟩ | ⟨rfl, hty⟩
    · rw [hty] at hNm ⊢
      exact ⟨Option.some.inj (hNm.symm.trans (hK.2 0 _ rfl).2), fun n f => by
        by_cases hf : f = 0
        · exact Or.inl (by rw [hf]; rfl)
        · exact Or.inr hf⟩
    · rw [hty] at hNm ⊢
      exact ⟨Option.some.inj (hNm.symm.trans (hK.2 1 _ rfl).2), fun n f => by
        by_cases hf : f = 0
        · exact Or.inl (by rw [hf]; rfl)
        · exact Or.inr hf⟩
    · rw [hty] at hNm ⊢
      exact ⟨Option.some.inj (hNm.symm.trans (hK.2 2 _ rfl).2), fun n f => by
        by_cases hf : f = 0
        · exact Or.inl (by rw [hf]; rfl)
        · exact Or.inr hf⟩
  have hat : va_at G.D vwCl (G.b + z.n, q_ent G z.one (h.clr z.n) z.n) H1 := by
    rw [q_ent_int (t := t) G z.one (h.clr z.n) hk ht, ← hs]
    show H1[H.size]? = some (vp_cell _ _)
    rw [e1, vp_cell_i, ← hcA.1]
    rcases hcA.2 N 0 with q | q
    · rw [q]
      congr 2
      funext j
      exact (congrArg Value.int (if_pos rfl)).symm
    · exact absurd rfl q
  have key := kk p e s m args below meth c H1 locs ls C (hR.one hex z1 o1 hat) (q_S_one hS z1 o1) hL
  have e2 : F0 m (pc + 2) ls ((Value.ref z.n :: st).map (q_cv G.b)) = F0 m (pc + 2) ls (.ref H.size :: st.map (q_cv G.b)) := by
    rw [hs]; rfl
  rw [e2] at key
  exact key
theorem q_newl {N : Nat} {x : Int32} {at_ : ArrayType} (hex : z.ex = true) (hk : q_K z.n = (103, N)) (hty : Op.newarray.typeOf at_ = .long) (hw : Cond.arrayClass (Op.newarray.typeOf at_) ∈ q_tb) (hx : ¬ x < 0) (hN : x.toNatClampNeg = N) (hb : N * componentBytes (Op.newarray.typeOf at_) ≤ 536870912) (hcc : cells + 1 ≤ mc) (hss : slots + N ≤ ms) (hdg : decode M.cc pc = .ok (.newarray at_, 2))
    (kk : q_W G M z' d mc ms Q (cells + 1) (slots + N) z.one (pc + 2) l (.ref z.n :: st) (h.clr z.n)) : q_W G M z' d mc ms Q cells slots z pc l (.int x :: st) h := by
  intro p e s m args below meth c H locs ls C hR hS hL
  have hts := C.2.2.2.2.1
  have hK : va_K G.D vwCl (q_tys G) s := C.2.2.2.2.2.2.2.2.2.1
  have hs := hR.2.2 hex
  refine va_newaK C.1 C.2.1 (hts _ hw) (g := F0 m pc ls ((Value.int x :: st).map (q_cv G.b))) rfl hdg rfl hx hN hb hcc hss rfl fun H1 cA e1 z1 o1 hAr hNm => ?_
  have hcA : cA = G.A 3 := by
    rw [hty] at hNm
    exact Option.some.inj (hNm.symm.trans (hK.2 3 _ rfl).2)
  have hat : va_at G.D vwCl (G.b + z.n, q_ent G z.one (h.clr z.n) z.n) H1 := by
    rw [q_ent_long G z.one (h.clr z.n) hk, ← hs]
    show H1[H.size]? = some (vp_cell _ _)
    rw [e1, vp_cell_l, ← hcA, hty]
    congr 2
    funext j
    exact (congrArg Value.long (if_pos rfl)).symm
  have key := kk p e s m args below meth c H1 locs ls C (hR.one hex z1 o1 hat) (q_S_one hS z1 o1) hL
  have e2 : F0 m (pc + 2) ls ((Value.ref z.n :: st).map (q_cv G.b)) = F0 m (pc + 2) ls (.ref H.size :: st.map (q_cv G.b)) := by
    rw [hs]; rfl
  rw [e2] at key
  exact key
theorem q_objInit {ix o : Nat} (hl : Cond.methodLink M.own ix Lib.objectInit ∈ q_tb) (hi : Cond.instanceMethod Lib.objectInit ∈ q_tb) (hc : Cond.code Lib.objectInit ⟨#[0xb1]⟩ 1 none ∈ q_tb) (hst : (st.map fun v => v.category).sum ≤ 8) (hdg : decode M.cc pc = .ok (.invokespecial ix, 3)) (kk : q_W G M z' d mc ms Q cells slots z (pc + 3) l st h) : q_W G M z' d mc ms Q cells slots z pc l (.ref o :: st) h := by
  intro p e s m args below meth c H locs ls C hR hS hL
  have hts := C.2.2.2.2.1
  refine W.objInit C.1 C.2.1 C.2.2.2.1 (hts _ hl) (hts _ hi) (hts _ hc) (g := F0 m pc ls ((Value.ref o :: st).map (q_cv G.b))) rfl (hL.size.trans C.2.2.1.symm) rfl hdg (by simp [q_rm]) ?_ (kk p e s m args below meth c H locs ls C hR hS hL)
  show 2 * (F0 m pc ls _).monitorRoom + ((st.map (q_cv G.b)).map fun v => v.category).sum + 12 ≤ 60 + 40 * d
  rw [q_sum]
  show 2 * 0 + _ + 12 ≤ _
  omega
/-- what a constructor of the claim's own promises, as the kit's contract -/
theorem q_met {z1 : qz} {mc1 ms1 d1 : Nat} {y : MethodName} {av : List Value} {Q1 : qr → qh → Prop} (hM : q_M G z z1 d1 mc1 ms1 y av h Q1) (hx : ∀ E h1, ¬ Q1 (.inr E) h1) : Met G.l y q_tb (q_rm d1 mc1 ms1) (q_P G z av h) (q_Q G z1 Q1) mc1 ms1 (q_A G) := by
  intro p e ha hc hk s m args below hf happ hP hK
  obtain ⟨n, o, h1, h2, h3, hq⟩ := hM p e ha hc hk s m args below hf happ hP hK
  refine ⟨n, o, h1, h2, h3, ?_⟩
  rcases hq with hq | ⟨q, ho, E, ce, L, ⟨⟨h9, hq9, -⟩, -⟩, -⟩
  · exact hq
  · exact absurd hq9 (hx E h9)
def q_Ci (own : String) (ix : Nat) (y : MethodName) (n : Nat) : Prop := ∃ (bytes : ByteArray) (maxL : Nat), maxL ≤ 21 ∧ Cond.code y bytes maxL none ∈ q_tb ∧ (Cond.methodLink own ix y ∈ q_tb ∨ ∃ host, Cond.methodLinkNest own ix y host ∈ lw_tbl) ∧ Cond.initialized y.cls ∈ q_tb ∧ (y.cls ≠ "java/lang/invoke/MethodHandle" ∧ y.cls ≠ "java/lang/invoke/VarHandle") ∧ (parseMethodDescriptor y.desc).map (fun d => d.parameters.length) = some n ∧ y.name = "<init>" ∧ Cond.instanceMethod y ∈ q_tb
theorem q_callI {ix n o d1 mc1 ms1 : Nat} {y : MethodName} {As stk : List Value} {z1 : qz} {F : qh → Prop} (hcv : q_Ci M.own ix y n) (hn : As.length = n) (hd1 : d1 + 1 ≤ d) (hc : cells + mc1 ≤ mc) (hs : slots + ms1 ≤ ms) (hw : (st.map fun v => v.category).sum ≤ 8) (hdg : decode M.cc pc = .ok (.invokespecial ix, 3)) (hstk : stk = As.reverse ++ .ref o :: st)
    (hM : q_M G z z1 d1 mc1 ms1 y (.ref o :: As) h (q_rv F (fun _ _ => False))) (kk : ∀ h1, F h1 → q_W G M z' d mc ms Q (cells + mc1) (slots + ms1) z1 (pc + 3) l st h1) : q_W G M z' d mc ms Q cells slots z pc l stk h := by
  intro p e s m args below meth c H locs ls C hR hS hL
  subst hstk
  obtain ⟨bytes, maxL, hm, w1, w2, w3, w4, w5, w6, w7⟩ := hcv
  have hts := C.2.2.2.2.1
  have hSt : q_St G s s.heap := C.2.2.2.2.2.2.2.2.2
  have hMet := q_met hM (fun _ _ q => q)
  have h5 : ∀ sig, parseMethodDescriptor y.desc = some sig → n = sig.parameters.length := fun sig hsig => by
    rw [hsig] at w5
    exact (Option.some.inj w5).symm
  have hstack : (F0 m pc ls ((As.reverse ++ .ref o :: st).map (q_cv G.b))).stack = (As.map (q_cv G.b)).reverse ++ .ref (G.b + o) :: st.map (q_cv G.b) := by
    show List.map (q_cv G.b) (As.reverse ++ .ref o :: st) = _
    rw [List.map_append, List.map_reverse]
    rfl
  have hroom : 2 * (F0 m pc ls ((As.reverse ++ .ref o :: st).map (q_cv G.b))).monitorRoom + ((st.map (q_cv G.b)).map fun v => v.category).sum ≤ 8 := by
    rw [q_sum]
    exact lv_room (m := m) (pc := pc) (ls := ls) (rest := []) hw
  have hpre : PreS s H (q_P G z (.ref o :: As) h) (.ref (G.b + o) :: As.map (q_cv G.b)) := ⟨q_blind _ _ _ _, fun U hU hW => q_pre (av := .ref o :: As) hSt hS hR U hU hW⟩
  have hr : va_Run p G.l e (q_rm d mc ms) s m args below meth c H locs cells slots mc1 ms1 (F0 m pc ls ((As.reverse ++ .ref o :: st).map (q_cv G.b))) (st.map (q_cv G.b)) (q_Q G z1 (q_rv F (fun _ _ => False)) (Value.ref (G.b + o) :: As.map (q_cv G.b)).toArray) (q_A G) := by
    rcases w2 with w2 | ⟨host, w2⟩
    · exact va_runI (Ts := q_tb) (n := n) (bytes := bytes) (maxL := maxL) (index := ix) ⟨C.1, C.2.1, C.2.2.1, C.2.2.2.1, hts⟩ hMet ⟨⟨rfl, rfl, by simp [q_rm]; omega, by simp [q_rm]; omega, pay_in hts q_tb_good, w1, hts _ w1, hts _ w3, w4, h5, hts _ w2⟩, w6, hts _ w7⟩ hpre rfl (by rw [List.length_map]; exact hn) hL.size hstack hroom hdg ⟨hc, hs⟩
    · obtain ⟨-, s0, a0, v1, v2, v3, v4, v5, v6⟩ := id hSt
      exact va_runIN (Ts := q_tb) (n := n) (bytes := bytes) (maxL := maxL) (index := ix) (host := host) ⟨C.1, C.2.1, C.2.2.1, C.2.2.2.1, hts⟩ hMet ⟨⟨⟨rfl, rfl, by simp [q_rm]; omega, by simp [q_rm]; omega, pay_in hts q_tb_good, w1⟩, hts _ w1, hts _ w3, w4, h5, va_Nw.use rfl (va_Nw.warmM v1 (va_Nw.of rfl (v5 _ w2)))⟩, w6, hts _ w7⟩ hpre rfl (by rw [List.length_map]; exact hn) hL.size hstack hroom hdg ⟨hc, hs⟩
  intro T hT X
  obtain ⟨v, st₀, t, T', L, h0, X', hL', e1, e2, ⟨⟨r, h1, hv, hq, hR1⟩, hF⟩, stp⟩ := hr T hT X
  obtain ⟨rfl, hq⟩ := q_rv_inv hq
  cases hv
  obtain ⟨k1, k2, k3⟩ := vx_keep h0 e1 hS (fun q _ hq => hq) (fun q hq => hq) hL' hF
  obtain ⟨t2, a1, b1⟩ := kk h1 hq p e s m args below meth c T'.heap (locs ++ L) ls C (e1 ▸ hR1) k3 hL T' rfl X'
  exact ⟨t2, stp t2 a1, b1⟩
end QMK
