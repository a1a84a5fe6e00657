/-! ===== the reference: what the checks use ===== -/
/-- where a name is -/
def gIx {α : Type} (g : α → List Nat) (l : List α) (nm : List Nat) : Int32 := match l.findIdx? (fun x => decide (g x = nm)) with
  | none => nN
  | some i => nI i
theorem gIx_snoc {α : Type} {g : α → List Nat} {l : List α} {x : α} {nm : List Nat} (hd : ((l ++ [x]).map g).Nodup) : gIx g (l ++ [x]) nm = if g x = nm then nI l.length else gIx g l nm := by
  unfold gIx
  rw [List.findIdx?_append]
  by_cases e : g x = nm
  · rw [if_pos e]
    have : l.findIdx? (fun x => decide (g x = nm)) = none := by
      rw [List.findIdx?_eq_none_iff]
      intro y hy
      simp only [decide_eq_false_iff_not]
      intro z
      rw [List.map_append, List.nodup_append] at hd
      exact hd.2.2 (g y) (List.mem_map.mpr ⟨y, hy, rfl⟩) (g x) (by simp) (z.trans e.symm)
    rw [this]
    simp [List.findIdx?_cons, e]
  · rw [if_neg e]
    cases z : l.findIdx? (fun x => decide (g x = nm)) with
    | none => simp [List.findIdx?_cons, e]
    | some i => simp
def mIx (ms : List xMod) (f : List Nat) : Int32 := gIx xMod.nm ms f
theorem mIx_N {ms : List xMod} {f : List Nat} (h : sp_kind ms f = none) : mIx ms f = nN := by
  unfold mIx gIx
  have : ms.findIdx? (fun m => decide (m.nm = f)) = none := h
  rw [this]
theorem mIx_S {ms : List xMod} {f : List Nat} {j : Nat} (h : sp_kind ms f = some j) : mIx ms f = nI j := by
  unfold mIx gIx
  have : ms.findIdx? (fun m => decide (m.nm = f)) = some j := h
  rw [this]
/-- all modules of the half hv are there -/
def RH (P : xP) (T : xT) (hv : Nat) (lng : Bool) (ms : List xMod) (n : Nat) (σ : xS) : Prop := TH P T hv σ ∧ σ.AI (P.base + 15) hv = nI ms.length ∧ DX lng ms T.2 ∧ n ≤ 500 ∧ ∀ k m', ms[k]? = some m' → RMd P σ T hv n (8 * hv + k) m'
/-- the same, while it is read -/
def CV (P : xP) (T : xT) (hv : Nat) (lng : Bool) (ms : List xMod) (n : Nat) (σ : xS) : Prop := RH P T hv lng ms n σ ∧ σ.I 1140 (P.base + 11) = nI hv ∧ σ.I 1141 (P.base + 11) = nI ms.length
theorem CV.tx {P : xP} {T : xT} {hv : Nat} {lng : Bool} {ms : List xMod} {n : Nat} {σ : xS} (h : CV P T hv lng ms n σ) : TX P T hv σ := h.1.1.tx h.2.1
theorem MB.cs {P : xP} {T : xT} {hv : Nat} {lng : Bool} {ms : List xMod} {n : Nat} {σ : xS} (h : MB P T hv lng ms n σ T.2) : CV P T hv lng ms n σ := by
  obtain ⟨h1, h2, h3, h4, h5, h6, h7⟩ := h
  exact ⟨⟨h1.th, h4, h6, h5.2.b h1.2.1 (Nat.le_refl _), h7⟩, h1.2.2.2.1, h3⟩
theorem rw_mnL {P : xP} {T : xT} {hv : Nat} {lng : Bool} {ms : List xMod} {n : Nat} {σ : xS} {q : Nat} {f : List Nat} (h : CV P T hv lng ms n σ) (hq : NmAt T q f) : ∀ (r j F : Nat), j + r = ms.length → r < F → dm_X12_moduleNamed_L4 P (P.base + 11) F (nI q) (mIx (ms.take j) f) (nI j) σ = some (.inl (mIx ms f), σ) := by
  obtain ⟨⟨h1, h2, h3, h4, h5⟩, h6, h7⟩ := id h
  have r0 := h1.1
  have hv1 := h1.2.2.1
  have l8 := h3.1
  have nd := h3.2.1
  intro r
  induction r with
  | zero =>
    intro j F hj hF
    obtain ⟨F, rfl⟩ : ∃ m, F = m + 1 := ⟨F - 1, by omega⟩
    have e : ms.take j = ms := List.take_of_length_le (by omega)
    have e1 : ms.length ≤ j := by omega
    rw [e]
    unfold dm_X12_moduleNamed_L4
    simp (disch := first | assumption | omega) [ck_T, sm_s, bd_l, bd_r, lt_e, eq_self, and_self, if_true, true_and, and_true, lit_nI, nI_add, nI_mul, nI_sub, nI_clamp, nI_eq, nI_ltI, nI_leI, nN_e, nI_nN, nN_nI, bI_0, bI_1, bI_n, bool_0, bool_1, in_T, lg_cmp0, ofN_nI, ri_0 r0, h7, e1]
  | succ r ih =>
    intro j F hj hF
    obtain ⟨F, rfl⟩ : ∃ m, F = m + 1 := ⟨F - 1, by omega⟩
    obtain ⟨x, hx⟩ : ∃ x, ms[j]? = some x := ⟨_, List.getElem?_eq_getElem (by omega)⟩
    have e1 : ¬ ms.length ≤ j := by omega
    obtain ⟨⟨y1, y2, -⟩, -⟩ := h5 j x hx
    have sm := rw_areSame h.tx y2 hq
    have et : ms.take (j + 1) = ms.take j ++ [x] := by rw [List.take_succ, hx]; rfl
    have nd2 : ((ms.take j ++ [x]).map xMod.nm).Nodup := by
      rw [← et, List.map_take]
      exact nd.sublist (List.take_sublist _ _)
    have fs := gIx_snoc (nm := f) nd2
    have ihh := ih (j + 1) F (by omega) (by omega)
    have lt : (ms.take j).length = j := by rw [List.length_take]; omega
    unfold mIx at ihh ⊢
    rw [et, fs, lt] at ihh
    conv => lhs; unfold dm_X12_moduleNamed_L4 dm_X12_moduleNamed_p39
    by_cases e : x.nm = f
    · rw [decide_eq_true e] at sm
      rw [if_pos e] at ihh
      simp (disch := first | assumption | omega) [ck_T, sm_s, bd_l, bd_r, lt_e, eq_self, and_self, if_true, true_and, and_true, lit_nI, nI_add, nI_mul, nI_sub, nI_clamp, nI_eq, nI_ltI, nI_leI, nN_e, nI_nN, nN_nI, bI_0, bI_1, bI_n, bool_0, bool_1, in_T, lg_cmp0, ofN_nI, ri_0 r0, ri_13 r0, ri_14 r0, ri_15 r0, h6, h7, e1, x_in, dlt_T, dle_T, y1, sm, bI_tt, ihh]
    · rw [decide_eq_false e] at sm
      rw [if_neg e] at ihh
      simp (disch := first | assumption | omega) [ck_T, sm_s, bd_l, bd_r, lt_e, eq_self, and_self, if_true, true_and, and_true, lit_nI, nI_add, nI_mul, nI_sub, nI_clamp, nI_eq, nI_ltI, nI_leI, nN_e, nI_nN, nN_nI, bI_0, bI_1, bI_n, bool_0, bool_1, in_T, lg_cmp0, ofN_nI, ri_0 r0, ri_13 r0, ri_14 r0, ri_15 r0, h6, h7, e1, x_in, dlt_T, dle_T, y1, sm, bI_ff, ihh]
theorem rw_moduleNamed {P : xP} {T : xT} {hv : Nat} {lng : Bool} {ms : List xMod} {n : Nat} {σ : xS} {q : Nat} {f : List Nat} (h : CV P T hv lng ms n σ) (hq : NmAt T q f) : dm_X12_moduleNamed P (P.base + 11) (nI q) σ = some (.inl (mIx ms f), σ) := by
  have hN := h.tx.2.2.2.2.2.2
  have l8 := h.1.2.2.1.1
  exact rw_mnL h hq ms.length 0 P.N (by omega) (by omega)
theorem rw_pnL {P : xP} {T : xT} {hv M : Nat} {m : xMod} {σ : xS} {q : Nat} {nm : List Nat} (h : TX P T hv σ) (hM : M < 16) (hp : σ.AI (P.base + 17) M = nI m.ports.length) (hn : RNs P σ T M m.nets) (hd : (m.nets.map fun x => x.1).Nodup) (h16 : m.nets.length ≤ 16) (hq : NmAt T q nm) : ∀ (r j F : Nat), j + r = m.ports.length → r < F → dm_X12_portNamed_L5 P (P.base + 11) F (nI M) (nI q) (gIx (fun x : xNet => x.1) (m.ports.take j) nm) (nI j) σ = some (.inl (gIx (fun x : xNet => x.1) m.ports nm), σ) := by
  have r0 := h.1
  have pn : m.ports.length ≤ m.nets.length := by unfold xMod.nets; simp
  have nd : (m.ports.map fun x => x.1).Nodup := by
    unfold xMod.nets at hd
    rw [List.map_append, List.nodup_append] at hd
    exact hd.1
  intro r
  induction r with
  | zero =>
    intro j F hj hF
    obtain ⟨F, rfl⟩ : ∃ m, F = m + 1 := ⟨F - 1, by omega⟩
    have e : m.ports.take j = m.ports := List.take_of_length_le (by omega)
    have e1 : m.ports.length ≤ j := by omega
    rw [e]
    unfold dm_X12_portNamed_L5
    simp (disch := first | assumption | omega) [ck_T, sm_s, bd_l, bd_r, lt_e, eq_self, and_self, if_true, true_and, and_true, lit_nI, nI_add, nI_mul, nI_sub, nI_clamp, nI_eq, nI_ltI, nI_leI, nN_e, nI_nN, nN_nI, bI_0, bI_1, bI_n, bool_0, bool_1, in_T, lg_cmp0, ofN_nI, ri_0 r0, ri_16 r0, ri_17 r0, ri_18 r0, hp, e1, x_in, dlt_T, dle_T]
  | succ r ih =>
    intro j F hj hF
    obtain ⟨F, rfl⟩ : ∃ m, F = m + 1 := ⟨F - 1, by omega⟩
    obtain ⟨x, hx⟩ : ∃ x, m.ports[j]? = some x := ⟨_, List.getElem?_eq_getElem (by omega)⟩
    have hx' : m.nets[j]? = some x := by unfold xMod.nets; rw [List.getElem?_append_left (by omega)]; exact hx
    have e1 : ¬ m.ports.length ≤ j := by omega
    obtain ⟨⟨y, y1, y2⟩, -⟩ := hn j x hx'
    have sm := rw_areSame h y2 hq
    have et : m.ports.take (j + 1) = m.ports.take j ++ [x] := by rw [List.take_succ, hx]; rfl
    have nd2 : ((m.ports.take j ++ [x]).map fun x => x.1).Nodup := by
      rw [← et, List.map_take]
      exact nd.sublist (List.take_sublist _ _)
    have fs := gIx_snoc (nm := nm) nd2
    have ihh := ih (j + 1) F (by omega) (by omega)
    have lt : (m.ports.take j).length = j := by rw [List.length_take]; omega
    rw [et, fs, lt] at ihh
    conv => lhs; unfold dm_X12_portNamed_L5 dm_X12_portNamed_p42
    by_cases e : x.1 = nm
    · rw [decide_eq_true e] at sm
      rw [if_pos e] at ihh
      simp (disch := first | assumption | omega) [ck_T, sm_s, bd_l, bd_r, lt_e, eq_self, and_self, if_true, true_and, and_true, lit_nI, nI_add, nI_mul, nI_sub, nI_clamp, nI_eq, nI_ltI, nI_leI, nN_e, nI_nN, nN_nI, bI_0, bI_1, bI_n, bool_0, bool_1, in_T, lg_cmp0, ofN_nI, ri_0 r0, ri_16 r0, ri_17 r0, ri_18 r0, ri_22 r0, ri_23 r0, ri_24 r0, hp, e1, x_in, dlt_T, dle_T, y1, sm, bI_tt, ihh]
    · rw [decide_eq_false e] at sm
      rw [if_neg e] at ihh
      simp (disch := first | assumption | omega) [ck_T, sm_s, bd_l, bd_r, lt_e, eq_self, and_self, if_true, true_and, and_true, lit_nI, nI_add, nI_mul, nI_sub, nI_clamp, nI_eq, nI_ltI, nI_leI, nN_e, nI_nN, nN_nI, bI_0, bI_1, bI_n, bool_0, bool_1, in_T, lg_cmp0, ofN_nI, ri_0 r0, ri_16 r0, ri_17 r0, ri_18 r0, ri_22 r0, ri_23 r0, ri_24 r0, hp, e1, x_in, dlt_T, dle_T, y1, sm, bI_ff, ihh]
theorem rw_portNamed {P : xP} {T : xT} {hv M : Nat} {m : xMod} {σ : xS} {q : Nat} {nm : List Nat} (h : TX P T hv σ) (hM : M < 16) (hp : σ.AI (P.base + 17) M = nI m.ports.length) (hn : RNs P σ T M m.nets) (hd : (m.nets.map fun x => x.1).Nodup) (h16 : m.nets.length ≤ 16) (hq : NmAt T q nm) : dm_X12_portNamed P (P.base + 11) (nI M) (nI q) σ = some (.inl (gIx (fun x : xNet => x.1) m.ports nm), σ) := by
  have hN := h.2.2.2.2.2.2
  have pn : m.ports.length ≤ m.nets.length := by unfold xMod.nets; simp
  exact rw_pnL h hM hp hn hd h16 hq m.ports.length 0 P.N (by omega) (by omega)
/-- how wide a part is -/
theorem rw_refWidth {P : xP} {T : xT} {hv n M r : Nat} {σ : xS} {ns : List xNet} {x : xPart} {v1 : Int32} (h0 : RI P σ) (hv1 : hv ≤ 1) (hM : M < 16) (hn5 : n ≤ 512) (hr : RRef P σ T hv n ns r x) (hw : PW ns x) (hns : RNs P σ T M ns) (hd : (ns.map fun x => x.1).Nodup) (hnw : NW ns) (h16 : ns.length ≤ 16) : dm_X12_refWidth P (P.base + 11) v1 (nI M) (nI r) σ = some (.inl (nI (sp_w x)), σ) ∧ sp_w x ≤ 8 := by
  obtain ⟨c1, c2, c3, c4, c5, c6⟩ := hr
  have x3 := PW_3 hw
  unfold dm_X12_refWidth dm_X12_refWidth_p70
  rcases hw with ⟨w1, w2, w3, w4, w5, w6, w7⟩ | ⟨w1, w2, y, w3, w4, w5, w6, w7, w8⟩
  · obtain ⟨d, d1, d2, d3⟩ := c4 w1
    have ew : sp_w x = x.2.2.2.2.2.length := by unfold sp_w; omega
    rw [w1] at c2
    rw [ew]
    refine ⟨?_, by omega⟩
    simp (disch := first | assumption | omega) [ck_T, sm_s, bd_l, bd_r, lt_e, eq_self, and_self, if_true, true_and, and_true, lit_nI, nI_add, nI_mul, nI_sub, nI_clamp, nI_eq, nI_ltI, nI_leI, nN_e, nI_nN, nN_nI, bI_0, bI_1, bI_n, bool_0, bool_1, in_T, lg_cmp0, ofN_nI, ri_0 h0, ri_43 h0, ri_44 h0, ri_45 h0, ri_52 h0, ri_53 h0, ri_54 h0, c2, d3, x_in, dlt_T, dle_T]
  · have ym := sp_find_mem w3
    have yw := hnw y ym.1
    have y1 := yw.2.2.2 w4
    by_cases e0 : x.1 = 0
    · obtain ⟨j, j1, j2, j3⟩ := c5 (by omega)
      cases ej : ns[j]? with
      | none => rw [ej] at j3; cases j3
      | some z =>
        rw [ej] at j3
        simp only [Option.map_some, Option.some.injEq] at j3
        have zz : sp_find ns z.1 = some z := find_nodup hd ej
        rw [j3, w3] at zz
        cases zz
        have wd := (hns j y ej).2.2.1
        have jl := get_lt ej
        obtain ⟨f1, f2⟩ := w7 e0
        have ew : sp_w x = y.2.2 := by unfold sp_w; omega
        rw [e0] at c2
        rw [ew]
        refine ⟨?_, yw.2.2.1⟩
        simp (disch := first | assumption | omega) [ck_T, sm_s, bd_l, bd_r, lt_e, eq_self, and_self, if_true, true_and, and_true, lit_nI, nI_add, nI_mul, nI_sub, nI_clamp, nI_eq, nI_ltI, nI_leI, nN_e, nI_nN, nN_nI, bI_0, bI_1, bI_n, bool_0, bool_1, in_T, lg_cmp0, ofN_nI, ri_0 h0, ri_43 h0, ri_44 h0, ri_45 h0, ri_46 h0, ri_47 h0, ri_48 h0, ri_28 h0, ri_29 h0, ri_30 h0, c2, j1, wd, x_in, dlt_T, dle_T]
    · obtain ⟨g1, g2⟩ := c6 (by omega)
      have wb : sp_w x ≤ 8 := by unfold sp_w; omega
      refine ⟨?_, wb⟩
      by_cases e1 : x.1 = 1
      · have := w8 e1
        have ew : sp_w x = 1 := by unfold sp_w; omega
        rw [e1] at c2
        rw [ew]
        simp (disch := first | assumption | omega) [ck_T, sm_s, bd_l, bd_r, lt_e, eq_self, and_self, if_true, true_and, and_true, lit_nI, nI_add, nI_mul, nI_sub, nI_clamp, nI_eq, nI_ltI, nI_leI, nN_e, nI_nN, nN_nI, bI_0, bI_1, bI_n, bool_0, bool_1, in_T, lg_cmp0, ofN_nI, ri_0 h0, ri_43 h0, ri_44 h0, ri_45 h0, c2, x_in, dlt_T, dle_T]
      · have e2 : x.1 = 2 := by omega
        rw [e2] at c2
        have ew : sp_w x = x.2.2.2.1 - x.2.2.2.2.1 + 1 := rfl
        rw [ew]
        simp (disch := first | assumption | omega) [ck_T, sm_s, bd_l, bd_r, lt_e, eq_self, and_self, if_true, true_and, and_true, lit_nI, nI_add, nI_mul, nI_sub, nI_clamp, nI_eq, nI_ltI, nI_leI, nN_e, nI_nN, nN_nI, bI_0, bI_1, bI_n, bool_0, bool_1, in_T, lg_cmp0, ofN_nI, ri_0 h0, ri_43 h0, ri_44 h0, ri_45 h0, ri_49 h0, ri_50 h0, ri_51 h0, ri_52 h0, ri_53 h0, ri_54 h0, c2, g1, g2, x_in, dlt_T, dle_T]
/-- a fault: 1001 is none -/
def fI (f : Nat) : Int32 := if f = 1001 then nN else nI f
def ft (P : xP) (σ : xS) (f : Nat) : xS := σ.setI 1139 (P.base + 11) (fI f)
theorem ft_ft {P : xP} {σ : xS} {f g : Nat} : ft P (ft P σ f) g = ft P σ g := by
  unfold ft
  have e : x_up2 (x_up2 σ.I 1139 (P.base + 11) (fI f)) 1139 (P.base + 11) (fI g) = x_up2 σ.I 1139 (P.base + 11) (fI g) := by
    funext k a
    by_cases z : k = 1139 ∧ a = P.base + 11
    · obtain ⟨rfl, rfl⟩ := z
      simp [q_up2, q_up]
    · rw [up2_ne z, up2_ne z, up2_ne z]
  show (σ.K, x_up2 (x_up2 σ.I 1139 (P.base + 11) (fI f)) 1139 (P.base + 11) (fI g), σ.J, σ.R, σ.L, σ.AI, σ.AJ, σ.AR, σ.sz, σ.su) = _
  rw [e]
  rfl
theorem rw_late {P : xP} {σ : xS} {f p : Nat} (h : RI P σ) (hf : f ≤ 1001) (hp : p ≤ 1000) : dm_X12_late P (P.base + 11) (nI p) (ft P σ f) = some (.inl (), ft P σ (min f p)) := by
  have a0 : (ft P σ f).K (P.base + 11) = 12 := ri_0 h
  have e : (ft P σ f).I 1139 (P.base + 11) = fI f := by unfold ft; simp [q_K_setI, q_I_setI, q_J_setI, q_R_setI, q_L_setI, q_AI_setI, q_AJ_setI, q_AR_setI, q_sz_setI, q_su_setI, q_K_setJ, q_I_setJ, q_J_setJ, q_R_setJ, q_L_setJ, q_AI_setJ, q_AJ_setJ, q_AR_setJ, q_sz_setJ, q_su_setJ, q_K_setR, q_I_setR, q_J_setR, q_R_setR, q_L_setR, q_AI_setR, q_AJ_setR, q_AR_setR, q_sz_setR, q_su_setR, q_K_setAI, q_I_setAI, q_J_setAI, q_R_setAI, q_L_setAI, q_AI_setAI, q_AJ_setAI, q_AR_setAI, q_sz_setAI, q_su_setAI, q_K_setAJ, q_I_setAJ, q_J_setAJ, q_R_setAJ, q_L_setAJ, q_AI_setAJ, q_AJ_setAJ, q_AR_setAJ, q_sz_setAJ, q_su_setAJ, q_K_setAR, q_I_setAR, q_J_setAR, q_R_setAR, q_L_setAR, q_AI_setAR, q_AJ_setAR, q_AR_setAR, q_sz_setAR, q_su_setAR, q_K_newO, q_I_newO, q_J_newO, q_R_newO, q_L_newO, q_AI_newO, q_AJ_newO, q_AR_newO, q_sz_newO, q_su_newO, q_K_newA, q_I_newA, q_J_newA, q_R_newA, q_L_newA, q_AI_newA, q_AJ_newA, q_AR_newA, q_sz_newA, q_su_newA, q_K_skip, q_I_skip, q_J_skip, q_R_skip, q_L_skip, q_AI_skip, q_AJ_skip, q_AR_skip, q_sz_skip, q_su_skip, q_up2, q_up]
  have st : ∀ v, (ft P σ f).setI 1139 (P.base + 11) (fI v) = ft P σ v := fun v => ft_ft
  have ep : fI p = nI p := by unfold fI; rw [if_neg (by omega)]
  have key : dm_X12_late P (P.base + 11) (nI p) (ft P σ f) = some (.inl (), (ft P σ f).setI 1139 (P.base + 11) (fI (min f p))) := by
    unfold dm_X12_late dm_X12_late_p17 dm_X12_late_p25
    by_cases e1 : f = 1001
    · have m1 : min f p = p := by omega
      have : fI f = nN := by unfold fI; rw [if_pos e1]
      rw [this] at e
      rw [m1, ep]
      simp (disch := first | assumption | omega) [ck_T, sm_s, bd_l, bd_r, lt_e, eq_self, and_self, if_true, true_and, and_true, lit_nI, nI_add, nI_mul, nI_sub, nI_clamp, nI_eq, nI_ltI, nI_leI, nN_e, nI_nN, nN_nI, bI_0, bI_1, bI_n, bool_0, bool_1, in_T, lg_cmp0, ofN_nI, a0, e]
    · have : fI f = nI f := by unfold fI; rw [if_neg e1]
      rw [this] at e
      have nn : ¬ nI f = nN := by rw [nI_nN (by omega)]; simp
      by_cases e2 : f ≤ p
      · have m1 : min f p = f := by omega
        rw [m1, this]
        simp (disch := first | assumption | omega) [ck_T, sm_s, bd_l, bd_r, lt_e, eq_self, and_self, if_true, true_and, and_true, lit_nI, nI_add, nI_mul, nI_sub, nI_clamp, nI_eq, nI_ltI, nI_leI, nN_e, nI_nN, nN_nI, bI_0, bI_1, bI_n, bool_0, bool_1, in_T, lg_cmp0, ofN_nI, a0, e, nn, e2]
      · have m1 : min f p = p := by omega
        rw [m1, ep]
        simp (disch := first | assumption | omega) [ck_T, sm_s, bd_l, bd_r, lt_e, eq_self, and_self, if_true, true_and, and_true, lit_nI, nI_add, nI_mul, nI_sub, nI_clamp, nI_eq, nI_ltI, nI_leI, nN_e, nI_nN, nN_nI, bI_0, bI_1, bI_n, bool_0, bool_1, in_T, lg_cmp0, ofN_nI, a0, e, nn, e2]
  rw [key, st]
