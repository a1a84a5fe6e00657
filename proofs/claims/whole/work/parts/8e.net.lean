/-! ===== the reference: nets ===== -/
/-- the nets of the module have changed -/
theorem RXf.nets {P : xP} {T : xT} {hv : Nat} {lng : Bool} {ms : List xMod} {m m' : xMod} {n : Nat} {σ σ' : xS} {p : Nat} (h : RXf P T hv lng ms m n σ p) (f : FM P hv (8 * hv + ms.length) m.pl n σ σ') (hI : σ'.I = σ.I) (hc : ∀ k i, ¬ (17 ≤ k ∧ k ≤ 29 ∧ k ≠ 24) → σ'.AI (P.base + k) i = σ.AI (P.base + k) i) (he : m'.asg = m.asg ∧ m'.ins = m.ins ∧ m'.nm = m.nm ∧ m'.pl = m.pl) (h17 : σ'.AI (P.base + 17) (8 * hv + ms.length) = nI m'.ports.length) (h18 : σ'.AI (P.base + 18) (8 * hv + ms.length) = nI m'.nets.length) (hns : RNs P σ' T (8 * hv + ms.length) m'.nets) (hr : ∀ r x, inP m x → RRef P σ T hv n m.nets r x → RRef P σ' T hv n m'.nets r x) (hw : WX lng m' p) : RXf P T hv lng ms m' n σ' p := by
  obtain ⟨h0, hi⟩ := h
  obtain ⟨g1, g2, g3, g4, g5, ⟨ni, ⟨⟨b1, b2, b3, b4, b5, b6⟩, b7, b8, b9⟩⟩, g8, g9, g10⟩ := id h0
  obtain ⟨e1, e2, e3, e4⟩ := he
  have w := g8.2.2.2.1
  refine ⟨h0.cur f hI (hc _ _ (by omega)) ⟨ni, ?_⟩ hw e4, ?_⟩
  · unfold RMc
    rw [e1, e2, e3, e4]
    refine ⟨⟨(hc _ _ (by omega)).trans b1, b2, h17, h18, (hc _ _ (by omega)).trans b5, (hc _ _ (by omega)).trans b6⟩, hns, ?_, ?_⟩
    · exact b8.ag w.2.1 (fun k i hk _ _ => hc _ _ (by omega)) (fun r x hx => hr r x (Or.inl hx))
    · exact b9.ag w.2.2 (fun i hi => (g8.2.2.2.2.1.2.2 i hi).2.2.1) (fun k i hk _ _ => hc _ _ (by omega)) (fun k i hk _ _ => hc _ _ (by omega)) (fun r x hx => hr r x (Or.inr hx))
  · rw [e2]
    exact (hc _ _ (by omega)).trans hi
/-- the names of the nets are where they were -/
theorem RRef.nm {P : xP} {T : xT} {hv n : Nat} {σ σ' : xS} {ns ns' : List xNet} {r : Nat} {x : xPart} (h : RRef P σ T hv n ns r x) (hc : ∀ c, 25 ≤ c → c ≤ 29 → σ'.AI (P.base + c) r = σ.AI (P.base + c) r) (hn : ∀ (j : Nat) (a : List Nat), (ns[j]?).map (fun y : xNet => y.1) = some a → (ns'[j]?).map (fun y : xNet => y.1) = some a) : RRef P σ' T hv n ns' r x := by
  obtain ⟨c1, c2, c3, c4, c5, c6⟩ := h
  unfold RRef
  rw [hc 25 (by omega) (by omega), hc 26 (by omega) (by omega), hc 27 (by omega) (by omega), hc 28 (by omega) (by omega), hc 29 (by omega) (by omega)]
  refine ⟨c1, c2, c3, c4, fun z => ?_, c6⟩
  obtain ⟨j, j1, j2, j3⟩ := c5 z
  exact ⟨j, j1, j2, hn j _ j3⟩
/-- a net more -/
def adN (P : xP) (M k : Nat) (σ : xS) (a s w t : Int32) : xS := ((((σ.setAI (P.base + 19) (16 * M + k) a).setAI (P.base + 20) (16 * M + k) s).setAI (P.base + 21) (16 * M + k) w).setAI (P.base + 23) (16 * M + k) t).setAI (P.base + 18) M (nI (k + 1))
theorem adN_AI {P : xP} {M k : Nat} {σ : xS} {a s w t : Int32} {c i : Nat} (h1 : ¬ ((c = 19 ∨ c = 20 ∨ c = 21 ∨ c = 23) ∧ i = 16 * M + k)) (h2 : ¬ (c = 18 ∧ i = M)) : (adN P M k σ a s w t).AI (P.base + c) i = σ.AI (P.base + c) i := by
  unfold adN
  simp only [q_K_setI, q_I_setI, q_J_setI, q_R_setI, q_L_setI, q_AI_setI, q_AJ_setI, q_AR_setI, q_sz_setI, q_su_setI, q_K_setJ, q_I_setJ, q_J_setJ, q_R_setJ, q_L_setJ, q_AI_setJ, q_AJ_setJ, q_AR_setJ, q_sz_setJ, q_su_setJ, q_K_setR, q_I_setR, q_J_setR, q_R_setR, q_L_setR, q_AI_setR, q_AJ_setR, q_AR_setR, q_sz_setR, q_su_setR, q_K_setAI, q_I_setAI, q_J_setAI, q_R_setAI, q_L_setAI, q_AI_setAI, q_AJ_setAI, q_AR_setAI, q_sz_setAI, q_su_setAI, q_K_setAJ, q_I_setAJ, q_J_setAJ, q_R_setAJ, q_L_setAJ, q_AI_setAJ, q_AJ_setAJ, q_AR_setAJ, q_sz_setAJ, q_su_setAJ, q_K_setAR, q_I_setAR, q_J_setAR, q_R_setAR, q_L_setAR, q_AI_setAR, q_AJ_setAR, q_AR_setAR, q_sz_setAR, q_su_setAR, q_K_newO, q_I_newO, q_J_newO, q_R_newO, q_L_newO, q_AI_newO, q_AJ_newO, q_AR_newO, q_sz_newO, q_su_newO, q_K_newA, q_I_newA, q_J_newA, q_R_newA, q_L_newA, q_AI_newA, q_AJ_newA, q_AR_newA, q_sz_newA, q_su_newA, q_K_skip, q_I_skip, q_J_skip, q_R_skip, q_L_skip, q_AI_skip, q_AJ_skip, q_AR_skip, q_sz_skip, q_su_skip]
  rw [up2_ne (by omega), up2_ne (by omega), up2_ne (by omega), up2_ne (by omega), up2_ne (by omega)]
theorem adN_FM {P : xP} {hv M pl n k : Nat} {σ : xS} {a s w t : Int32} (hk : k < 16) : FM P hv M pl n σ (adN P M k σ a s w t) := by
  unfold adN
  refine FM.trans (FM.trans (FM.trans (FM.trans (FM.set (by unfold cl; omega)) (FM.set (by unfold cl; omega)) (Nat.le_refl _)) (FM.set (by unfold cl; omega)) (Nat.le_refl _)) (FM.set (by unfold cl; omega)) (Nat.le_refl _)) (FM.set (by unfold cl; omega)) (Nat.le_refl _)
theorem rw_netCellI {P : xP} {hv k : Nat} {σ : xS} (h : RI P σ) (hh : σ.I 1140 (P.base + 11) = nI hv) (hm : σ.I 1141 (P.base + 11) = nI k) (j : Nat) : dm_X12_netCell P (P.base + 11) (nI j) σ = some (.inl (nI (16 * (8 * hv + k) + j)), σ) := by
  have a0 := ri_0 h
  unfold dm_X12_netCell dm_X12_mod
  simp (disch := first | assumption | omega) [ck_T, sm_s, bd_l, bd_r, lt_e, eq_self, and_self, if_true, true_and, and_true, lit_nI, nI_add, nI_mul, nI_sub, nI_clamp, nI_eq, nI_ltI, nI_leI, nN_e, nI_nN, nN_nI, bI_0, bI_1, bI_n, bool_0, bool_1, in_T, lg_cmp0, ofN_nI, a0, hh, hm]
theorem rw_modI {P : xP} {hv k : Nat} {σ : xS} (h : RI P σ) (hh : σ.I 1140 (P.base + 11) = nI hv) (hm : σ.I 1141 (P.base + 11) = nI k) : dm_X12_mod P (P.base + 11) σ = some (.inl (nI (8 * hv + k)), σ) := by
  have a0 := ri_0 h
  unfold dm_X12_mod
  simp (disch := first | assumption | omega) [ck_T, sm_s, bd_l, bd_r, lt_e, eq_self, and_self, if_true, true_and, and_true, lit_nI, nI_add, nI_mul, nI_sub, nI_clamp, nI_eq, nI_ltI, nI_leI, nN_e, nI_nN, nN_nI, bI_0, bI_1, bI_n, bool_0, bool_1, in_T, lg_cmp0, ofN_nI, a0, hh, hm]
theorem rw_addNet {P : xP} {T : xT} {hv k K : Nat} {σ : xS} {a s w t : Int32} (h : TX P T hv σ) (hm : σ.I 1141 (P.base + 11) = nI K) (hK : K < 8) (hn : σ.AI (P.base + 18) (8 * hv + K) = nI k) (hk : k < 16) (ha : σ.I 1136 (P.base + 11) = a) (ht : t = nI 0 ∨ t = nI 1) : dm_X12_addNet P (P.base + 11) s w t σ = some (.inl (), adN P (8 * hv + K) k σ a s w t) := by
  have hv1 := h.2.2.1
  have hh := h.2.2.2.1
  have r0 := h.1
  unfold dm_X12_addNet adN
  rcases ht with rfl | rfl
  · simp (config := { maxSteps := 2000000 }) (disch := first | assumption | omega) [ck_T, sm_s, bd_l, bd_r, lt_e, eq_self, and_self, if_true, true_and, and_true, lit_nI, nI_add, nI_mul, nI_sub, nI_clamp, nI_eq, nI_ltI, nI_leI, nN_e, nI_nN, nN_nI, bI_0, bI_1, bI_n, bool_0, bool_1, in_T, lg_cmp0, ofN_nI, q_K_setI, q_I_setI, q_J_setI, q_R_setI, q_L_setI, q_AI_setI, q_AJ_setI, q_AR_setI, q_sz_setI, q_su_setI, q_K_setJ, q_I_setJ, q_J_setJ, q_R_setJ, q_L_setJ, q_AI_setJ, q_AJ_setJ, q_AR_setJ, q_sz_setJ, q_su_setJ, q_K_setR, q_I_setR, q_J_setR, q_R_setR, q_L_setR, q_AI_setR, q_AJ_setR, q_AR_setR, q_sz_setR, q_su_setR, q_K_setAI, q_I_setAI, q_J_setAI, q_R_setAI, q_L_setAI, q_AI_setAI, q_AJ_setAI, q_AR_setAI, q_sz_setAI, q_su_setAI, q_K_setAJ, q_I_setAJ, q_J_setAJ, q_R_setAJ, q_L_setAJ, q_AI_setAJ, q_AJ_setAJ, q_AR_setAJ, q_sz_setAJ, q_su_setAJ, q_K_setAR, q_I_setAR, q_J_setAR, q_R_setAR, q_L_setAR, q_AI_setAR, q_AJ_setAR, q_AR_setAR, q_sz_setAR, q_su_setAR, q_K_newO, q_I_newO, q_J_newO, q_R_newO, q_L_newO, q_AI_newO, q_AJ_newO, q_AR_newO, q_sz_newO, q_su_newO, q_K_newA, q_I_newA, q_J_newA, q_R_newA, q_L_newA, q_AI_newA, q_AJ_newA, q_AR_newA, q_sz_newA, q_su_newA, q_K_skip, q_I_skip, q_J_skip, q_R_skip, q_L_skip, q_AI_skip, q_AJ_skip, q_AR_skip, q_sz_skip, q_su_skip, q_up2, q_up, ri_0 r0, ri_19 r0, ri_20 r0, ri_21 r0, ri_22 r0, ri_23 r0, ri_24 r0, ri_25 r0, ri_26 r0, ri_27 r0, ri_28 r0, ri_29 r0, ri_30 r0, ri_34 r0, ri_35 r0, ri_36 r0, dm_X12_netCell, dm_X12_mod, hh, hm, hn, ha, x_in, dlt_T, dle_T]
  · simp (config := { maxSteps := 2000000 }) (disch := first | assumption | omega) [ck_T, sm_s, bd_l, bd_r, lt_e, eq_self, and_self, if_true, true_and, and_true, lit_nI, nI_add, nI_mul, nI_sub, nI_clamp, nI_eq, nI_ltI, nI_leI, nN_e, nI_nN, nN_nI, bI_0, bI_1, bI_n, bool_0, bool_1, in_T, lg_cmp0, ofN_nI, q_K_setI, q_I_setI, q_J_setI, q_R_setI, q_L_setI, q_AI_setI, q_AJ_setI, q_AR_setI, q_sz_setI, q_su_setI, q_K_setJ, q_I_setJ, q_J_setJ, q_R_setJ, q_L_setJ, q_AI_setJ, q_AJ_setJ, q_AR_setJ, q_sz_setJ, q_su_setJ, q_K_setR, q_I_setR, q_J_setR, q_R_setR, q_L_setR, q_AI_setR, q_AJ_setR, q_AR_setR, q_sz_setR, q_su_setR, q_K_setAI, q_I_setAI, q_J_setAI, q_R_setAI, q_L_setAI, q_AI_setAI, q_AJ_setAI, q_AR_setAI, q_sz_setAI, q_su_setAI, q_K_setAJ, q_I_setAJ, q_J_setAJ, q_R_setAJ, q_L_setAJ, q_AI_setAJ, q_AJ_setAJ, q_AR_setAJ, q_sz_setAJ, q_su_setAJ, q_K_setAR, q_I_setAR, q_J_setAR, q_R_setAR, q_L_setAR, q_AI_setAR, q_AJ_setAR, q_AR_setAR, q_sz_setAR, q_su_setAR, q_K_newO, q_I_newO, q_J_newO, q_R_newO, q_L_newO, q_AI_newO, q_AJ_newO, q_AR_newO, q_sz_newO, q_su_newO, q_K_newA, q_I_newA, q_J_newA, q_R_newA, q_L_newA, q_AI_newA, q_AJ_newA, q_AR_newA, q_sz_newA, q_su_newA, q_K_skip, q_I_skip, q_J_skip, q_R_skip, q_L_skip, q_AI_skip, q_AJ_skip, q_AR_skip, q_sz_skip, q_su_skip, q_up2, q_up, ri_0 r0, ri_19 r0, ri_20 r0, ri_21 r0, ri_22 r0, ri_23 r0, ri_24 r0, ri_25 r0, ri_26 r0, ri_27 r0, ri_28 r0, ri_29 r0, ri_30 r0, ri_34 r0, ri_35 r0, ri_36 r0, dm_X12_netCell, dm_X12_mod, hh, hm, hn, ha, x_in, dlt_T, dle_T]
/-- the state behind a net more -/
theorem RXf.add {P : xP} {T : xT} {hv : Nat} {lng : Bool} {ms : List xMod} {m m' : xMod} {n : Nat} {σ : xS} {p : Nat} (h : RXf P T hv lng ms m n σ p) (x : xNet) {q : Nat} (hq : NmAt T q x.1) (hl : m.nets.length < 16) (he : m'.asg = m.asg ∧ m'.ins = m.ins ∧ m'.nm = m.nm ∧ m'.pl = m.pl) (hn : m'.nets = m.nets ++ [x]) (hw : WX lng m' p) {s : xS} (hs : s = (adN P (8 * hv + ms.length) m.nets.length σ (nI q) (nI (if x.2.1 = 3 then 0 else x.2.1)) (nI x.2.2) (bI (decide (x.2.1 ≠ 3)))).setAI (P.base + 17) (8 * hv + ms.length) (nI m'.ports.length)) : RXf P T hv lng ms m' n s p ∧ FM P hv (8 * hv + ms.length) m.pl n σ s := by
  have f : FM P hv (8 * hv + ms.length) m.pl n σ s := by
    rw [hs]
    exact (adN_FM hl).trans (FM.set (by unfold cl; omega)) (Nat.le_refl _)
  have b7 := (h.1.2.2.2.2.2.1).choose_spec.2.1
  have ne : ∀ c i, ¬ ((c = 19 ∨ c = 20 ∨ c = 21 ∨ c = 23) ∧ i = 16 * (8 * hv + ms.length) + m.nets.length) → ¬ (c = 18 ∧ i = 8 * hv + ms.length) → ¬ (c = 17 ∧ i = 8 * hv + ms.length) → s.AI (P.base + c) i = σ.AI (P.base + c) i := by
    intro c i z1 z2 z3
    rw [hs, q_AI_setAI, up2_ne (by omega)]
    exact adN_AI z1 z2
  refine ⟨h.nets f (by rw [hs]; rfl) (fun k i hk => ne k i (by omega) (by omega) (by omega)) he ?_ ?_ ?_ ?_ hw, f⟩
  · rw [hs]
    simp [q_K_setI, q_I_setI, q_J_setI, q_R_setI, q_L_setI, q_AI_setI, q_AJ_setI, q_AR_setI, q_sz_setI, q_su_setI, q_K_setJ, q_I_setJ, q_J_setJ, q_R_setJ, q_L_setJ, q_AI_setJ, q_AJ_setJ, q_AR_setJ, q_sz_setJ, q_su_setJ, q_K_setR, q_I_setR, q_J_setR, q_R_setR, q_L_setR, q_AI_setR, q_AJ_setR, q_AR_setR, q_sz_setR, q_su_setR, q_K_setAI, q_I_setAI, q_J_setAI, q_R_setAI, q_L_setAI, q_AI_setAI, q_AJ_setAI, q_AR_setAI, q_sz_setAI, q_su_setAI, q_K_setAJ, q_I_setAJ, q_J_setAJ, q_R_setAJ, q_L_setAJ, q_AI_setAJ, q_AJ_setAJ, q_AR_setAJ, q_sz_setAJ, q_su_setAJ, q_K_setAR, q_I_setAR, q_J_setAR, q_R_setAR, q_L_setAR, q_AI_setAR, q_AJ_setAR, q_AR_setAR, q_sz_setAR, q_su_setAR, q_K_newO, q_I_newO, q_J_newO, q_R_newO, q_L_newO, q_AI_newO, q_AJ_newO, q_AR_newO, q_sz_newO, q_su_newO, q_K_newA, q_I_newA, q_J_newA, q_R_newA, q_L_newA, q_AI_newA, q_AJ_newA, q_AR_newA, q_sz_newA, q_su_newA, q_K_skip, q_I_skip, q_J_skip, q_R_skip, q_L_skip, q_AI_skip, q_AJ_skip, q_AR_skip, q_sz_skip, q_su_skip, q_up2, q_up]
  · rw [hs, hn, q_AI_setAI, up2_ne (by omega)]
    unfold adN
    simp [q_K_setI, q_I_setI, q_J_setI, q_R_setI, q_L_setI, q_AI_setI, q_AJ_setI, q_AR_setI, q_sz_setI, q_su_setI, q_K_setJ, q_I_setJ, q_J_setJ, q_R_setJ, q_L_setJ, q_AI_setJ, q_AJ_setJ, q_AR_setJ, q_sz_setJ, q_su_setJ, q_K_setR, q_I_setR, q_J_setR, q_R_setR, q_L_setR, q_AI_setR, q_AJ_setR, q_AR_setR, q_sz_setR, q_su_setR, q_K_setAI, q_I_setAI, q_J_setAI, q_R_setAI, q_L_setAI, q_AI_setAI, q_AJ_setAI, q_AR_setAI, q_sz_setAI, q_su_setAI, q_K_setAJ, q_I_setAJ, q_J_setAJ, q_R_setAJ, q_L_setAJ, q_AI_setAJ, q_AJ_setAJ, q_AR_setAJ, q_sz_setAJ, q_su_setAJ, q_K_setAR, q_I_setAR, q_J_setAR, q_R_setAR, q_L_setAR, q_AI_setAR, q_AJ_setAR, q_AR_setAR, q_sz_setAR, q_su_setAR, q_K_newO, q_I_newO, q_J_newO, q_R_newO, q_L_newO, q_AI_newO, q_AJ_newO, q_AR_newO, q_sz_newO, q_su_newO, q_K_newA, q_I_newA, q_J_newA, q_R_newA, q_L_newA, q_AI_newA, q_AJ_newA, q_AR_newA, q_sz_newA, q_su_newA, q_K_skip, q_I_skip, q_J_skip, q_R_skip, q_L_skip, q_AI_skip, q_AJ_skip, q_AR_skip, q_sz_skip, q_su_skip, q_up2, q_up]
  · intro j y hy
    rw [hn] at hy
    rcases app_get hy with ⟨z1, z2⟩ | ⟨z1, z2⟩
    · obtain ⟨⟨q', y1, y2⟩, y3, y4, y5⟩ := b7 j y z2
      exact ⟨⟨q', (ne 19 _ (by omega) (by omega) (by omega)).trans y1, y2⟩, (ne 20 _ (by omega) (by omega) (by omega)).trans y3, (ne 21 _ (by omega) (by omega) (by omega)).trans y4, (ne 23 _ (by omega) (by omega) (by omega)).trans y5⟩
    · subst z1 z2
      unfold RNet
      rw [hs]
      simp only [q_AI_setAI]
      rw [up2_ne (by omega), up2_ne (by omega), up2_ne (by omega), up2_ne (by omega)]
      unfold adN
      refine ⟨⟨q, ?_, hq⟩, ?_, ?_, ?_⟩ <;> simp [q_K_setI, q_I_setI, q_J_setI, q_R_setI, q_L_setI, q_AI_setI, q_AJ_setI, q_AR_setI, q_sz_setI, q_su_setI, q_K_setJ, q_I_setJ, q_J_setJ, q_R_setJ, q_L_setJ, q_AI_setJ, q_AJ_setJ, q_AR_setJ, q_sz_setJ, q_su_setJ, q_K_setR, q_I_setR, q_J_setR, q_R_setR, q_L_setR, q_AI_setR, q_AJ_setR, q_AR_setR, q_sz_setR, q_su_setR, q_K_setAI, q_I_setAI, q_J_setAI, q_R_setAI, q_L_setAI, q_AI_setAI, q_AJ_setAI, q_AR_setAI, q_sz_setAI, q_su_setAI, q_K_setAJ, q_I_setAJ, q_J_setAJ, q_R_setAJ, q_L_setAJ, q_AI_setAJ, q_AJ_setAJ, q_AR_setAJ, q_sz_setAJ, q_su_setAJ, q_K_setAR, q_I_setAR, q_J_setAR, q_R_setAR, q_L_setAR, q_AI_setAR, q_AJ_setAR, q_AR_setAR, q_sz_setAR, q_su_setAR, q_K_newO, q_I_newO, q_J_newO, q_R_newO, q_L_newO, q_AI_newO, q_AJ_newO, q_AR_newO, q_sz_newO, q_su_newO, q_K_newA, q_I_newA, q_J_newA, q_R_newA, q_L_newA, q_AI_newA, q_AJ_newA, q_AR_newA, q_sz_newA, q_su_newA, q_K_skip, q_I_skip, q_J_skip, q_R_skip, q_L_skip, q_AI_skip, q_AJ_skip, q_AR_skip, q_sz_skip, q_su_skip, q_up2, q_up]
  · intro r y _ hr
    refine hr.nm (fun c _ _ => ne c r (by omega) (by omega) (by omega)) (fun j a ha => ?_)
    rw [hn]
    cases e : m.nets[j]? with
    | none => rw [e] at ha; cases ha
    | some y =>
      rw [e] at ha
      rw [List.getElem?_append_left (get_lt e), e]
      exact ha
