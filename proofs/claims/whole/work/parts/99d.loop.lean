/-! ===== the law's loop; making its objects ===== -/
theorem l_and15 (v : Int32) : ∃ k : Nat, k < 16 ∧ v &&& 15 = Int32.ofNat k := by
  have h : (v &&& 15).toBitVec.toNat ≤ 15 := by
    rw [Int32.toBitVec_and, BitVec.toNat_and]
    exact Nat.and_le_right
  refine ⟨(v &&& 15).toBitVec.toNat, by omega, ?_⟩
  apply Int32.toBitVec_inj.mp
  rw [Int32.toBitVec_ofNat']
  apply BitVec.eq_of_toNat_eq
  rw [BitVec.toNat_ofNat]
  exact (Nat.mod_eq_of_lt (by omega)).symm
theorem l_len {L i : Nat} (hL : L ≤ 3072) (hi : i ≤ 4000) (h : ¬ Int32.ofNat L - 6 < Int32.ofNat i) : i + 6 ≤ L := by
  refine Nat.le_of_not_lt (fun q => h ?_)
  rw [Int32.lt_iff_toInt_lt, Int32.toInt_sub, n_toInt (by omega), n_toInt (by omega), show (6 : Int32).toInt = 6 from by decide, Int.bmod_eq_of_le (by omega) (by omega)]
  omega
section LOOP
variable {G : qG} {p : Program} {e : Env} {s : State} {m : MethodId} {below : List Frame} {meth : Method} {c : Code} {b L : Nat} {xs : Nat → Int32} {cells slots : Nat} {z : qz} {pc : Nat} {lv : List (Nat × Value)} {st : List Value} {h : qh}
theorem l_ret (C : l_C G p s m meth c b L xs) (hcc : cells ≤ 601024) (hss : slots ≤ 7293034) : l_W G p e s m below meth c b cells slots z 721 lv [] h := fun H locs ls hR hS hl =>
  lv_iconst (v := 1) C.1.1 C.1.2.1 dL_law_721 rfl (va_forget (fun q hq => by have h1 : G.b ≤ q.base := hS.2.2 q hq; have h2 := C.2.1; omega) (W.widen hcc hss (lw_ret C.1.1 C.1.2.1 C.1.2.2.1 C.1.2.2.2.2.2.2.2.2.1 dL_law_722)))
set_option maxRecDepth 100000 in
theorem law_loop (C : l_C G p s m meth c b L xs) (hL : L ≤ 3072) : ∀ (k i cells slots : Nat) (hc hm : qh), L < i + 6 * k → i ≤ L + 6 → cells + k ≤ 600000 → slots + 6 * k ≤ 7000000 → INV hc hm → l_W G p e s m below meth c b cells slots zN 23 (lvS G b i) [] (mg hc hm) := by
  intro k
  induction k with
  | zero =>
    intro i cells slots hc hm hk hi hcc hss x
    refine l_iload (j := 4) C dL_law_23 rfl (l_aload (j := 0) C dL_law_25 rfl rfl (l_slen C dL_law_26 (l_bipush (v := 6) C dL_law_27 rfl (l_isub C dL_law_29 (l_icmp_gt (tgt := 721) C dL_law_30 (by decide) (fun _ => l_ret C (by omega) (by omega)) (fun q => ?_))))))
    have := l_len hL (by omega) q
    omega
  | succ k ih =>
    intro i cells slots hc hm hk hi hcc hss x
    refine l_iload (j := 4) C dL_law_23 rfl (l_aload (j := 0) C dL_law_25 rfl rfl (l_slen C dL_law_26 (l_bipush (v := 6) C dL_law_27 rfl (l_isub C dL_law_29 (l_icmp_gt (tgt := 721) C dL_law_30 (by decide) (fun _ => l_ret C (by omega) (by omega)) (fun q => ?_))))))
    have hl := l_len hL (by omega) q
    have K : l_K G p e s m below meth c b i cells slots := fun hc1 hm1 cells' slots' I h1 h2 => by
      refine l_iinc (j := 4) (x := Int32.ofNat i) (v := Int32.ofNat (i + 6)) C dL_law_715 rfl (n_add i 6) (by decide) rfl (l_goto (tgt := 23) C dL_law_718 (by decide) ?_)
      exact l_sub [1, 2, 3, 4, 0] rfl (ih (i + 6) cells' slots' hc1 hm1 (by omega) (by omega) (by omega) (by omega) I)
    refine l_aload (j := 0) C dL_law_33 rfl rfl (l_iload (j := 4) C dL_law_34 rfl (l_sld C (n_in (by omega) (by omega)) dL_law_36 (l_bipush (v := 15) C dL_law_37 rfl (l_iand C dL_law_39 ?_))))
    obtain ⟨n, hn, en⟩ := l_and15 (xs ((Int32.ofNat i).toNatClampNeg))
    rw [en]
    have h15 : n = 0 ∨ n = 1 ∨ n = 2 ∨ n = 3 ∨ n = 4 ∨ n = 5 ∨ n = 6 ∨ n = 7 ∨ n = 8 ∨ n = 9 ∨ n = 10 ∨ n = 11 ∨ n = 12 ∨ n = 13 ∨ n = 14 ∨ n = 15 := by omega
    have c1 : cells + 1 ≤ 601024 := by omega
    have c2 : slots + 6 ≤ 7293034 := by omega
    rcases h15 with rfl | rfl | rfl | rfl | rfl | rfl | rfl | rfl | rfl | rfl | rfl | rfl | rfl | rfl | rfl | rfl
    · exact l_tabIn (tgt := 112) C dL_law_40 (by decide) (by decide) rfl (by decide) (lc_feed C hL hl x c1 c2 K)
    · exact l_tabIn (tgt := 185) C dL_law_40 (by decide) (by decide) rfl (by decide) (lc_build C hL hl x c1 c2 K)
    · exact l_tabIn (tgt := 210) C dL_law_40 (by decide) (by decide) rfl (by decide) (lc_fault C hL hl x c1 c2 K)
    · exact l_tabIn (tgt := 235) C dL_law_40 (by decide) (by decide) rfl (by decide) (lc_give C hL hl x c1 c2 K)
    · exact l_tabIn (tgt := 303) C dL_law_40 (by decide) (by decide) rfl (by decide) (lc_poke C hL hl x c1 c2 K)
    · exact l_tabIn (tgt := 383) C dL_law_40 (by decide) (by decide) rfl (by decide) (lc_cell C hL hl x c1 c2 K)
    · exact l_tabIn (tgt := 451) C dL_law_40 (by decide) (by decide) rfl (by decide) (lc_latency C hL hl x c1 c2 K)
    · exact l_tabIn (tgt := 476) C dL_law_40 (by decide) (by decide) rfl (by decide) (lc_free C hL hl x c1 c2 K)
    · exact l_tabIn (tgt := 489) C dL_law_40 (by decide) (by decide) rfl (by decide) (lc_stall C hL hl x c1 c2 K)
    · exact l_tabIn (tgt := 547) C dL_law_40 (by decide) (by decide) rfl (by decide) (lc_run C hL hl x c1 c2 K)
    · exact l_tabIn (tgt := 572) C dL_law_40 (by decide) (by decide) rfl (by decide) (lc_told C hL hl x c1 c2 K)
    · exact l_tabIn (tgt := 597) C dL_law_40 (by decide) (by decide) rfl (by decide) (lc_write C hL hl x c1 c2 K)
    · exact l_tabIn (tgt := 665) C dL_law_40 (by decide) (by decide) rfl (by decide) (lc_count C hL hl x c1 c2 K)
    · exact l_tabIn (tgt := 690) C dL_law_40 (by decide) (by decide) rfl (by decide) (lc_size C hL hl x c1 c2 K)
    · exact l_tabOut (tgt := 715) C dL_law_40 (Or.inr (by decide)) (by decide) (K hc hm cells slots x (by omega) (by omega))
    · exact l_tabOut (tgt := 715) C dL_law_40 (Or.inr (by decide)) (by decide) (K hc hm cells slots x (by omega) (by omega))
theorem l_new {ix ci N : Nat} {C' : String} {T : u_T} (C : l_C G p s m meth c b L xs) (hc : vwCl[ci]? = some (C', T, N)) (hex : z.ex = true) (hk : q_K z.n = (ci, 0)) (hl : Cond.classLink RL ix C' ∈ q_tb) (hi : Cond.instantiable C' N ∈ q_tb) (hn : Cond.initialized C' ∈ q_tb) (hcc : cells + 1 ≤ 601024) (hss : slots + N ≤ 7293034) (hdg : decode code pc = .ok (.new ix, 3)) (kk : l_W G p e s m below meth c b (cells + 1) (slots + N) z.one (pc + 3) lv (.ref (G.b + z.n) :: st) (h.clr z.n)) : l_W G p e s m below meth c b cells slots z pc lv st h := by
  intro H locs ls hR hS hL
  have hts := C.ts
  have hK : va_K G.D vwCl (q_tys G) s := C.2.2.1
  have hKn := hK.1 ci _ hc
  obtain ⟨hin, -⟩ := q_cl hc
  obtain ⟨hN, ty0, hty, hdv⟩ := q_cld hc
  have hs := hR.2.2 hex
  refine W.newcK C.1.1 C.1.2.1 C.1.2.2.2.2.1 (hts _ hl) (hts _ hi) (hts _ hn) rfl hdg hcc hss hKn.2.1 rfl fun H1 kC hkC e1 z1 o1 => ?_
  have hat : va_at G.D vwCl (G.b + z.n, q_ent G z.one (h.clr z.n) z.n) H1 := by
    rw [q_ent_obj G z.one (h.clr z.n) hk (q_vw_lt hc), ← hs]
    refine ⟨_, hc, (u_born ty0 hts hin hKn hkC e1 hty).to (fun j hj => ?_)⟩
    rw [hdv j hj]
    have hj' : j < q_N ci := by rw [← hN]; exact hj
    simp only [vp_V, List.getD, q_fs_get _ _ _ _ hj', Option.getD_some]
    exact (q_fv_clr _ _ _ _ _).symm
  have key := kk H1 locs ls (hR.one hex z1 o1 hat) (q_S_one hS z1 o1) hL
  rw [← hs] at key
  exact key
set_option maxRecDepth 100000 in
theorem l_newl {N : Nat} {x : Int32} {at_ : ArrayType} (C : l_C G p s m meth c b L xs) (hex : z.ex = true) (hk : q_K z.n = (103, N)) (hty : Op.newarray.typeOf at_ = .long) (hw : Cond.arrayClass (Op.newarray.typeOf at_) ∈ q_tb) (hx : ¬ x < 0) (hN : x.toNatClampNeg = N) (hb : N * componentBytes (Op.newarray.typeOf at_) ≤ 536870912) (hcc : cells + 1 ≤ 601024) (hss : slots + N ≤ 7293034) (hdg : decode code pc = .ok (.newarray at_, 2)) (kk : l_W G p e s m below meth c b (cells + 1) (slots + N) z.one (pc + 2) lv (.ref (G.b + z.n) :: st) (h.clr z.n)) : l_W G p e s m below meth c b cells slots z pc lv (.int x :: st) h := by
  intro H locs ls hR hS hL
  have hts := C.ts
  have hK : va_K G.D vwCl (q_tys G) s := C.2.2.1
  have hs := hR.2.2 hex
  refine va_newaK C.1.1 C.1.2.1 (hts _ hw) (g := F0 m pc ls (Value.int x :: st)) rfl hdg rfl hx hN hb hcc hss rfl fun H1 cA e1 z1 o1 hAr hNm => ?_
  have hcA : cA = G.A 3 := by
    rw [hty] at hNm
    exact Option.some.inj (hNm.symm.trans (hK.2 3 _ rfl).2)
  have hat : va_at G.D vwCl (G.b + z.n, q_ent G z.one (h.clr z.n) z.n) H1 := by
    rw [q_ent_long G z.one (h.clr z.n) hk, ← hs]
    show H1[H.size]? = some (vp_cell _ _)
    rw [e1, vp_cell_l, ← hcA, hty]
    congr 2
    funext j
    exact (congrArg Value.long (if_pos rfl)).symm
  have key := kk H1 locs ls (hR.one hex z1 o1 hat) (q_S_one hS z1 o1) hL
  rw [← hs] at key
  exact key
theorem l_callI {ix n o d1 mc1 ms1 : Nat} {y : MethodName} {As stk : List Value} {z1 : qz} {h1 : qh} (C : l_C G p s m meth c b L xs) (hcv : q_Ci RL ix y n) (hn : As.length = n) (hd1 : d1 ≤ 2000) (hc : cells + mc1 ≤ 601024) (hs : slots + ms1 ≤ 7293034) (hw : (st.map fun v => v.category).sum ≤ 8) (hdg : decode code pc = .ok (.invokespecial ix, 3)) (hstk : stk = (As.map (q_cv G.b)).reverse ++ .ref (G.b + o) :: st)
    (hM : q_M G z z1 d1 mc1 ms1 y (.ref o :: As) h (q_rv (fun h' => h' = h1) (fun _ _ => False))) (kk : l_W G p e s m below meth c b (cells + mc1) (slots + ms1) z1 (pc + 3) lv st h1) : l_W G p e s m below meth c b cells slots z pc lv stk h := by
  intro H locs ls hR hS hl
  subst hstk
  obtain ⟨bytes, maxL, hm, w1, w2, w3, w4, w5, w6, w7⟩ := hcv
  have hts := C.ts
  have hSt := C.2.2
  have hMet := q_met hM (fun _ _ q => q)
  have h5 : ∀ sig, parseMethodDescriptor y.desc = some sig → n = sig.parameters.length := fun sig hsig => by
    rw [hsig] at w5
    exact (Option.some.inj w5).symm
  have hpre : PreS s H (q_P G z (.ref o :: As) h) (.ref (G.b + o) :: As.map (q_cv G.b)) := ⟨q_blind _ _ _ _, fun U hU hW => q_pre (av := .ref o :: As) hSt hS hR U hU hW⟩
  have hr : va_Run p G.l e room_1 s m #[Value.ref b] below meth c H locs cells slots mc1 ms1 (F0 m pc ls ((As.map (q_cv G.b)).reverse ++ .ref (G.b + o) :: st)) st (q_Q G z1 (q_rv (fun h' => h' = h1) (fun _ _ => False)) (Value.ref (G.b + o) :: As.map (q_cv G.b)).toArray) (q_A G) := by
    rcases w2 with w2 | ⟨host, w2⟩
    · exact va_runI (Ts := q_tb) (n := n) (bytes := bytes) (maxL := maxL) (index := ix) C.fix hMet ⟨⟨rfl, rfl, by show d1 + 1 + 1 ≤ 2048; omega, by show 8 + (maxL + 11) + (60 + 40 * d1) ≤ 84000; omega, pay_in hts q_tb_good, w1, hts _ w1, hts _ w3, w4, h5, hts _ w2⟩, w6, hts _ w7⟩ hpre rfl (by rw [List.length_map]; exact hn) hl.1 rfl (lv_room (m := m) (pc := pc) (ls := ls) (rest := []) hw) hdg ⟨hc, hs⟩
    · obtain ⟨-, s0, a0, v1, v2, v3, v4, v5, v6⟩ := id hSt
      exact va_runIN (Ts := q_tb) (n := n) (bytes := bytes) (maxL := maxL) (index := ix) (host := host) C.fix hMet ⟨⟨⟨rfl, rfl, by show d1 + 1 + 1 ≤ 2048; omega, by show 8 + (maxL + 11) + (60 + 40 * d1) ≤ 84000; omega, pay_in hts q_tb_good, w1⟩, hts _ w1, hts _ w3, w4, h5, va_Nw.use rfl (va_Nw.warmM v1 (va_Nw.of rfl (v5 _ w2)))⟩, w6, hts _ w7⟩ hpre rfl (by rw [List.length_map]; exact hn) hl.1 rfl (lv_room (m := m) (pc := pc) (ls := ls) (rest := []) hw) hdg ⟨hc, hs⟩
  intro T hT X
  obtain ⟨v, st₀, t, T', Lc, h0, X', hL', e1, e2, ⟨⟨r, h2, hv, hq, hR1⟩, hF⟩, stp⟩ := hr T hT X
  obtain ⟨rfl, hq⟩ := q_rv_inv hq
  subst hq
  cases hv
  obtain ⟨k1, k2, k3⟩ := vx_keep h0 e1 hS (fun q _ hq => hq) (fun q hq => hq) hL' hF
  obtain ⟨t2, a1, b1⟩ := kk T'.heap (locs ++ Lc) ls (e1 ▸ hR1) k3 hl T' rfl X'
  exact ⟨t2, stp t2 a1, b1⟩
end LOOP
