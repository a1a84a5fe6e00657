/-! ===== the reference: unit, units ===== -/
theorem rw_isCN (P : xP) (σ : xS) {c : Nat} (h : c < 2 ^ 31) : dm_X12_isCharacter P (nI c) σ = some (.inl (bI (isC c)), σ) := by
  unfold dm_X12_isCharacter dm_X12_isCharacter_p12 dm_X12_isCharacter_p18 dm_X12_isCharacter_p23 isC
  by_cases e1 : c < 32
  · by_cases e2 : c = 10
    · simp (disch := first | assumption | omega) [ck_T, sm_s, bd_l, bd_r, lt_e, eq_self, and_self, if_true, true_and, and_true, lit_nI, nI_add, nI_mul, nI_sub, nI_clamp, nI_eq, nI_ltI, nI_leI, nN_e, nI_nN, nN_nI, bI_0, bI_1, bI_n, bool_0, bool_1, in_T, lg_cmp0, ofN_nI, e2, bI_tt]
    · have e3 : ¬ 32 ≤ c := by omega
      simp (disch := first | assumption | omega) [ck_T, sm_s, bd_l, bd_r, lt_e, eq_self, and_self, if_true, true_and, and_true, lit_nI, nI_add, nI_mul, nI_sub, nI_clamp, nI_eq, nI_ltI, nI_leI, nN_e, nI_nN, nN_nI, bI_0, bI_1, bI_n, bool_0, bool_1, in_T, lg_cmp0, ofN_nI, e1, e2, e3, bI_ff]
  · have e3 : 32 ≤ c := by omega
    by_cases e2 : c ≤ 126
    · simp (disch := first | assumption | omega) [ck_T, sm_s, bd_l, bd_r, lt_e, eq_self, and_self, if_true, true_and, and_true, lit_nI, nI_add, nI_mul, nI_sub, nI_clamp, nI_eq, nI_ltI, nI_leI, nN_e, nI_nN, nN_nI, bI_0, bI_1, bI_n, bool_0, bool_1, in_T, lg_cmp0, ofN_nI, e1, e2, e3, bI_tt]
    · have e4 : ¬ c = 10 := by omega
      simp (disch := first | assumption | omega) [ck_T, sm_s, bd_l, bd_r, lt_e, eq_self, and_self, if_true, true_and, and_true, lit_nI, nI_add, nI_mul, nI_sub, nI_clamp, nI_eq, nI_ltI, nI_leI, nN_e, nI_nN, nN_nI, bI_0, bI_1, bI_n, bool_0, bool_1, in_T, lg_cmp0, ofN_nI, e1, e2, e3, e4, bI_ff]
theorem rw_isCneg (P : xP) (σ : xS) {v : Int32} (h : v < nI 0) : dm_X12_isCharacter P v σ = some (.inl (bI false), σ) := by
  have h1 : v < nI 32 := by
    rw [Int32.lt_iff_toInt_lt] at h ⊢
    have a : (nI 0).toInt = 0 := by decide
    have b : (nI 32).toInt = 32 := by decide
    omega
  have h2 : ¬ v = nI 10 := by
    intro z
    subst z
    exact absurd h (by decide)
  unfold dm_X12_isCharacter dm_X12_isCharacter_p12 dm_X12_isCharacter_p18 dm_X12_isCharacter_p23
  simp (disch := first | assumption | omega) [ck_T, sm_s, bd_l, bd_r, lt_e, eq_self, and_self, if_true, true_and, and_true, lit_nI, nI_add, nI_mul, nI_sub, nI_clamp, nI_eq, nI_ltI, nI_leI, nN_e, nI_nN, nN_nI, bI_0, bI_1, bI_n, bool_0, bool_1, in_T, lg_cmp0, ofN_nI, h1, h2, bI_ff]
def unR (P : xP) (T : xT) (σ : xS) (c : Nat) : xS := (σ.setAI (P.base + 12) T.2 (nI c)).setI 1102 (P.base + 11) (nI (T.2 + 1))
theorem RS.un {P : xP} {T : xT} {ms : List xMod} {σ : xS} (h : RS P T ms σ) {c : Nat} (hc : isC c = true) (hl : T.2 < 1000) : RS P (un_T T c) ms (unR P T σ c) ∧ FE P σ (unR P T σ c) := by
  obtain ⟨r0, hN, ⟨t1, t2, t3⟩, hv, T', lng, n, q1, q2⟩ := h
  have fe : FE P σ (unR P T σ c) := (FE.setAI (by omega)).trans FE.setI
  have oh : OH P hv σ (unR P T σ c) := (OH.setAI (by unfold iH; omega)).trans OH.setI
  refine ⟨⟨fe.ri r0, hN, ⟨un_TV t1 hc hl, by unfold unR un_T; simp [q_K_setI, q_I_setI, q_J_setI, q_R_setI, q_L_setI, q_AI_setI, q_AJ_setI, q_AR_setI, q_sz_setI, q_su_setI, q_K_setJ, q_I_setJ, q_J_setJ, q_R_setJ, q_L_setJ, q_AI_setJ, q_AJ_setJ, q_AR_setJ, q_sz_setJ, q_su_setJ, q_K_setR, q_I_setR, q_J_setR, q_R_setR, q_L_setR, q_AI_setR, q_AJ_setR, q_AR_setR, q_sz_setR, q_su_setR, q_K_setAI, q_I_setAI, q_J_setAI, q_R_setAI, q_L_setAI, q_AI_setAI, q_AJ_setAI, q_AR_setAI, q_sz_setAI, q_su_setAI, q_K_setAJ, q_I_setAJ, q_J_setAJ, q_R_setAJ, q_L_setAJ, q_AI_setAJ, q_AJ_setAJ, q_AR_setAJ, q_sz_setAJ, q_su_setAJ, q_K_setAR, q_I_setAR, q_J_setAR, q_R_setAR, q_L_setAR, q_AI_setAR, q_AJ_setAR, q_AR_setAR, q_sz_setAR, q_su_setAR, q_K_newO, q_I_newO, q_J_newO, q_R_newO, q_L_newO, q_AI_newO, q_AJ_newO, q_AR_newO, q_sz_newO, q_su_newO, q_K_newA, q_I_newA, q_J_newA, q_R_newA, q_L_newA, q_AI_newA, q_AJ_newA, q_AR_newA, q_sz_newA, q_su_newA, q_K_skip, q_I_skip, q_J_skip, q_R_skip, q_L_skip, q_AI_skip, q_AJ_skip, q_AR_skip, q_sz_skip, q_su_skip, q_up2, q_up], fun i hi => ?_⟩, hv, T', lng, n, by unfold unR; simp [q_K_setI, q_I_setI, q_J_setI, q_R_setI, q_L_setI, q_AI_setI, q_AJ_setI, q_AR_setI, q_sz_setI, q_su_setI, q_K_setJ, q_I_setJ, q_J_setJ, q_R_setJ, q_L_setJ, q_AI_setJ, q_AJ_setJ, q_AR_setJ, q_sz_setJ, q_su_setJ, q_K_setR, q_I_setR, q_J_setR, q_R_setR, q_L_setR, q_AI_setR, q_AJ_setR, q_AR_setR, q_sz_setR, q_su_setR, q_K_setAI, q_I_setAI, q_J_setAI, q_R_setAI, q_L_setAI, q_AI_setAI, q_AJ_setAI, q_AR_setAI, q_sz_setAI, q_su_setAI, q_K_setAJ, q_I_setAJ, q_J_setAJ, q_R_setAJ, q_L_setAJ, q_AI_setAJ, q_AJ_setAJ, q_AR_setAJ, q_sz_setAJ, q_su_setAJ, q_K_setAR, q_I_setAR, q_J_setAR, q_R_setAR, q_L_setAR, q_AI_setAR, q_AJ_setAR, q_AR_setAR, q_sz_setAR, q_su_setAR, q_K_newO, q_I_newO, q_J_newO, q_R_newO, q_L_newO, q_AI_newO, q_AJ_newO, q_AR_newO, q_sz_newO, q_su_newO, q_K_newA, q_I_newA, q_J_newA, q_R_newA, q_L_newA, q_AI_newA, q_AJ_newA, q_AR_newA, q_sz_newA, q_su_newA, q_K_skip, q_I_skip, q_J_skip, q_R_skip, q_L_skip, q_AI_skip, q_AJ_skip, q_AR_skip, q_sz_skip, q_su_skip, q_up2, q_up, q1], q2.oh oh⟩, fe⟩
  have hi' : i < T.2 + 1 := hi
  unfold unR un_T
  simp only
  by_cases e : i = T.2
  · subst e
    simp [q_K_setI, q_I_setI, q_J_setI, q_R_setI, q_L_setI, q_AI_setI, q_AJ_setI, q_AR_setI, q_sz_setI, q_su_setI, q_K_setJ, q_I_setJ, q_J_setJ, q_R_setJ, q_L_setJ, q_AI_setJ, q_AJ_setJ, q_AR_setJ, q_sz_setJ, q_su_setJ, q_K_setR, q_I_setR, q_J_setR, q_R_setR, q_L_setR, q_AI_setR, q_AJ_setR, q_AR_setR, q_sz_setR, q_su_setR, q_K_setAI, q_I_setAI, q_J_setAI, q_R_setAI, q_L_setAI, q_AI_setAI, q_AJ_setAI, q_AR_setAI, q_sz_setAI, q_su_setAI, q_K_setAJ, q_I_setAJ, q_J_setAJ, q_R_setAJ, q_L_setAJ, q_AI_setAJ, q_AJ_setAJ, q_AR_setAJ, q_sz_setAJ, q_su_setAJ, q_K_setAR, q_I_setAR, q_J_setAR, q_R_setAR, q_L_setAR, q_AI_setAR, q_AJ_setAR, q_AR_setAR, q_sz_setAR, q_su_setAR, q_K_newO, q_I_newO, q_J_newO, q_R_newO, q_L_newO, q_AI_newO, q_AJ_newO, q_AR_newO, q_sz_newO, q_su_newO, q_K_newA, q_I_newA, q_J_newA, q_R_newA, q_L_newA, q_AI_newA, q_AJ_newA, q_AR_newA, q_sz_newA, q_su_newA, q_K_skip, q_I_skip, q_J_skip, q_R_skip, q_L_skip, q_AI_skip, q_AJ_skip, q_AR_skip, q_sz_skip, q_su_skip, q_up2, q_up]
  · rw [if_neg e, ← t3 i (by omega)]
    exact up2_ne (fun z => e z.2)
theorem rw_unit {P : xP} {T : xT} {ms : List xMod} {σ : xS} (h : RS P T ms σ) (v : Int32) : ∃ σ', dm_X12_unit P (P.base + 11) v σ = some (.inl (bI (aq_unit T v).1), σ') ∧ RS P (aq_unit T v).2 ms σ' ∧ FE P σ σ' := by
  have h0 : RS P T ms (σ.setI 1100 (P.base + 11) (nI 0)) := h.setI (by omega) (by omega)
  have f0 : FE P σ (σ.setI 1100 (P.base + 11) (nI 0)) := FE.setI
  have r0 := h.1
  have t1 := h.2.2.1.2.1
  have tl := h.2.2.1.1.1
  unfold dm_X12_unit dm_X12_unit_p22 aq_unit
  rcases i32_cases v with ⟨h1, h2⟩ | ⟨c, h1, h2, h3⟩
  · have q := rw_isCneg P (σ.setI 1100 (P.base + 11) (nI 0)) h1
    rw [h2]
    refine ⟨_, ?_, h0, f0⟩
    simp (disch := first | assumption | omega) [ck_T, sm_s, bd_l, bd_r, lt_e, eq_self, and_self, if_true, true_and, and_true, lit_nI, nI_add, nI_mul, nI_sub, nI_clamp, nI_eq, nI_ltI, nI_leI, nN_e, nI_nN, nN_nI, bI_0, bI_1, bI_n, bool_0, bool_1, in_T, lg_cmp0, ofN_nI, ri_0 r0, q, bI_ff]
  · subst h2
    have q := rw_isCN P (σ.setI 1100 (P.base + 11) (nI 0)) h1
    rw [h3]
    simp only
    cases e : isC c with
    | false =>
      rw [e] at q
      refine ⟨_, ?_, h0, f0⟩
      simp (disch := first | assumption | omega) [ck_T, sm_s, bd_l, bd_r, lt_e, eq_self, and_self, if_true, true_and, and_true, lit_nI, nI_add, nI_mul, nI_sub, nI_clamp, nI_eq, nI_ltI, nI_leI, nN_e, nI_nN, nN_nI, bI_0, bI_1, bI_n, bool_0, bool_1, in_T, lg_cmp0, ofN_nI, ri_0 r0, q, bI_ff]
    | true =>
      rw [e] at q
      by_cases e2 : T.2 < 1000
      · obtain ⟨u1, u2⟩ := h0.un e e2
        rw [if_pos ⟨rfl, e2⟩]
        refine ⟨_, ?_, u1, f0.trans u2⟩
        have n1 : ¬ T.2 = 1000 := by omega
        unfold unR
        simp (disch := first | assumption | omega) [ck_T, sm_s, bd_l, bd_r, lt_e, eq_self, and_self, if_true, true_and, and_true, lit_nI, nI_add, nI_mul, nI_sub, nI_clamp, nI_eq, nI_ltI, nI_leI, nN_e, nI_nN, nN_nI, bI_0, bI_1, bI_n, bool_0, bool_1, in_T, lg_cmp0, ofN_nI, q_K_setI, q_I_setI, q_J_setI, q_R_setI, q_L_setI, q_AI_setI, q_AJ_setI, q_AR_setI, q_sz_setI, q_su_setI, q_K_setJ, q_I_setJ, q_J_setJ, q_R_setJ, q_L_setJ, q_AI_setJ, q_AJ_setJ, q_AR_setJ, q_sz_setJ, q_su_setJ, q_K_setR, q_I_setR, q_J_setR, q_R_setR, q_L_setR, q_AI_setR, q_AJ_setR, q_AR_setR, q_sz_setR, q_su_setR, q_K_setAI, q_I_setAI, q_J_setAI, q_R_setAI, q_L_setAI, q_AI_setAI, q_AJ_setAI, q_AR_setAI, q_sz_setAI, q_su_setAI, q_K_setAJ, q_I_setAJ, q_J_setAJ, q_R_setAJ, q_L_setAJ, q_AI_setAJ, q_AJ_setAJ, q_AR_setAJ, q_sz_setAJ, q_su_setAJ, q_K_setAR, q_I_setAR, q_J_setAR, q_R_setAR, q_L_setAR, q_AI_setAR, q_AJ_setAR, q_AR_setAR, q_sz_setAR, q_su_setAR, q_K_newO, q_I_newO, q_J_newO, q_R_newO, q_L_newO, q_AI_newO, q_AJ_newO, q_AR_newO, q_sz_newO, q_su_newO, q_K_newA, q_I_newA, q_J_newA, q_R_newA, q_L_newA, q_AI_newA, q_AJ_newA, q_AR_newA, q_sz_newA, q_su_newA, q_K_skip, q_I_skip, q_J_skip, q_R_skip, q_L_skip, q_AI_skip, q_AJ_skip, q_AR_skip, q_sz_skip, q_su_skip, q_up2, q_up, q, bI_tt, ri_0 r0, ri_1 r0, ri_2 r0, ri_3 r0, t1, n1, x_in, dlt_T, dle_T]
      · have e3 : T.2 = 1000 := by omega
        rw [if_neg (by simp; omega)]
        refine ⟨_, ?_, h0, f0⟩
        simp (disch := first | assumption | omega) [ck_T, sm_s, bd_l, bd_r, lt_e, eq_self, and_self, if_true, true_and, and_true, lit_nI, nI_add, nI_mul, nI_sub, nI_clamp, nI_eq, nI_ltI, nI_leI, nN_e, nI_nN, nN_nI, bI_0, bI_1, bI_n, bool_0, bool_1, in_T, lg_cmp0, ofN_nI, q_K_setI, q_I_setI, q_J_setI, q_R_setI, q_L_setI, q_AI_setI, q_AJ_setI, q_AR_setI, q_sz_setI, q_su_setI, q_K_setJ, q_I_setJ, q_J_setJ, q_R_setJ, q_L_setJ, q_AI_setJ, q_AJ_setJ, q_AR_setJ, q_sz_setJ, q_su_setJ, q_K_setR, q_I_setR, q_J_setR, q_R_setR, q_L_setR, q_AI_setR, q_AJ_setR, q_AR_setR, q_sz_setR, q_su_setR, q_K_setAI, q_I_setAI, q_J_setAI, q_R_setAI, q_L_setAI, q_AI_setAI, q_AJ_setAI, q_AR_setAI, q_sz_setAI, q_su_setAI, q_K_setAJ, q_I_setAJ, q_J_setAJ, q_R_setAJ, q_L_setAJ, q_AI_setAJ, q_AJ_setAJ, q_AR_setAJ, q_sz_setAJ, q_su_setAJ, q_K_setAR, q_I_setAR, q_J_setAR, q_R_setAR, q_L_setAR, q_AI_setAR, q_AJ_setAR, q_AR_setAR, q_sz_setAR, q_su_setAR, q_K_newO, q_I_newO, q_J_newO, q_R_newO, q_L_newO, q_AI_newO, q_AJ_newO, q_AR_newO, q_sz_newO, q_su_newO, q_K_newA, q_I_newA, q_J_newA, q_R_newA, q_L_newA, q_AI_newA, q_AJ_newA, q_AR_newA, q_sz_newA, q_su_newA, q_K_skip, q_I_skip, q_J_skip, q_R_skip, q_L_skip, q_AI_skip, q_AJ_skip, q_AR_skip, q_sz_skip, q_su_skip, q_up2, q_up, q, bI_tt, bI_ff, ri_0 r0, t1, e3]
theorem rw_u92 {P : xP} {ms : List xMod} {v : Int32} : ∀ (k F : Nat) (T : xT) (σ : xS), k + 1 < F → k ≤ 3 → RS P T ms σ → (bt_f (bt_l v k)).all isC = true → T.2 + (bt_f (bt_l v k)).length ≤ 1000 → ∃ σ', dm_X12_units_L92 P (P.base + 11) F v (nI (8 * k)) σ = some (.inl (nI 1), σ') ∧ RS P ((bt_f (bt_l v k)).foldl un_T T) ms σ' ∧ FE P σ σ' := by
  -- one byte
  have one : ∀ (s F : Nat) (T : xT) (σ : xS), s < 32 → RS P T ms σ → (bt4 v s = 0 → dm_X12_units_L92 P (P.base + 11) (F + 1) v (nI s) σ = dm_X12_units_L92 P (P.base + 11) F v (nI s + -nI 8) σ) ∧ (bt4 v s ≠ 0 → isC (bt4 v s) = true → T.2 < 1000 → dm_X12_units_L92 P (P.base + 11) (F + 1) v (nI s) σ = dm_X12_units_L92 P (P.base + 11) F v (nI s + -nI 8) (unR P T σ (bt4 v s))) := by
    intro s F T σ hs h
    have r0 := h.1
    have t1 := h.2.2.1.2.1
    have b := bt4_eq v s
    have bl := bt4_lt v s
    have n0 : ¬ nI s < nI 0 := by rw [nI_ltI (by omega) (by omega)]; omega
    refine ⟨fun e => ?_, fun e hc hl => ?_⟩
    · rw [e] at b
      conv => lhs; unfold dm_X12_units_L92 dm_X12_units_p133
      have l0 : nI 0 ≤ nI 0 := by decide
      simp only [lit_nI, n0, if_false, lt_e, b, l0, if_true]
    · have l0 : ¬ nI (bt4 v s) ≤ nI 0 := by rw [nI_leI (by omega) (by omega)]; omega
      conv => lhs; unfold dm_X12_units_L92 dm_X12_units_p133
      simp only [lit_nI, n0, if_false, lt_e, b, l0]
      unfold unR
      simp (disch := first | assumption | omega) [ck_T, sm_s, bd_l, bd_r, lt_e, eq_self, and_self, if_true, true_and, and_true, lit_nI, nI_add, nI_mul, nI_sub, nI_clamp, nI_eq, nI_ltI, nI_leI, nN_e, nI_nN, nN_nI, bI_0, bI_1, bI_n, bool_0, bool_1, in_T, lg_cmp0, ofN_nI, q_K_setI, q_I_setI, q_J_setI, q_R_setI, q_L_setI, q_AI_setI, q_AJ_setI, q_AR_setI, q_sz_setI, q_su_setI, q_K_setJ, q_I_setJ, q_J_setJ, q_R_setJ, q_L_setJ, q_AI_setJ, q_AJ_setJ, q_AR_setJ, q_sz_setJ, q_su_setJ, q_K_setR, q_I_setR, q_J_setR, q_R_setR, q_L_setR, q_AI_setR, q_AJ_setR, q_AR_setR, q_sz_setR, q_su_setR, q_K_setAI, q_I_setAI, q_J_setAI, q_R_setAI, q_L_setAI, q_AI_setAI, q_AJ_setAI, q_AR_setAI, q_sz_setAI, q_su_setAI, q_K_setAJ, q_I_setAJ, q_J_setAJ, q_R_setAJ, q_L_setAJ, q_AI_setAJ, q_AJ_setAJ, q_AR_setAJ, q_sz_setAJ, q_su_setAJ, q_K_setAR, q_I_setAR, q_J_setAR, q_R_setAR, q_L_setAR, q_AI_setAR, q_AJ_setAR, q_AR_setAR, q_sz_setAR, q_su_setAR, q_K_newO, q_I_newO, q_J_newO, q_R_newO, q_L_newO, q_AI_newO, q_AJ_newO, q_AR_newO, q_sz_newO, q_su_newO, q_K_newA, q_I_newA, q_J_newA, q_R_newA, q_L_newA, q_AI_newA, q_AJ_newA, q_AR_newA, q_sz_newA, q_su_newA, q_K_skip, q_I_skip, q_J_skip, q_R_skip, q_L_skip, q_AI_skip, q_AJ_skip, q_AR_skip, q_sz_skip, q_su_skip, q_up2, q_up, ri_0 r0, ri_1 r0, ri_2 r0, ri_3 r0, t1, x_in, dlt_T, dle_T]
  intro k
  induction k with
  | zero =>
    intro F T σ hF hk h ha hl
    obtain ⟨F, rfl⟩ : ∃ m, F = m + 1 + 1 := ⟨F - 2, by omega⟩
    have neg : nI 0 + -nI 8 < nI 0 := by decide
    have last : ∀ s : xS, dm_X12_units_L92 P (P.base + 11) (F + 1) v (nI 0 + -nI 8) s = some (.inl (nI 1), s) := by
      intro s
      unfold dm_X12_units_L92
      exact if_pos neg
    obtain ⟨o1, o2⟩ := one 0 (F + 1) T σ (by omega) h
    show ∃ σ', dm_X12_units_L92 P (P.base + 11) (F + 1 + 1) v (nI 0) σ = _ ∧ _
    simp only [bt_l] at ha hl ⊢
    by_cases e : bt4 v 0 = 0
    · rw [bt_f0 e] at ha hl ⊢
      exact ⟨σ, (o1 e).trans (last σ), h, FE.refl P σ⟩
    · rw [bt_f1 e] at ha hl ⊢
      simp only [List.all_cons, Bool.and_eq_true] at ha
      simp only [List.length_cons] at hl
      obtain ⟨u1, u2⟩ := h.un ha.1 (show T.2 < 1000 by omega)
      exact ⟨_, (o2 e ha.1 (by omega)).trans (last _), u1, u2⟩
  | succ k ih =>
    intro F T σ hF hk h ha hl
    obtain ⟨F, rfl⟩ : ∃ m, F = m + 1 := ⟨F - 1, by omega⟩
    obtain ⟨o1, o2⟩ := one (8 * (k + 1)) F T σ (by omega) h
    rw [sh8 k] at o1 o2
    simp only [bt_l] at ha hl ⊢
    by_cases e : bt4 v (8 * (k + 1)) = 0
    · rw [bt_f0 e] at ha hl ⊢
      obtain ⟨σ', t1, t2, t3⟩ := ih F T σ (by omega) (by omega) h ha hl
      exact ⟨σ', (o1 e).trans t1, t2, t3⟩
    · rw [bt_f1 e] at ha hl ⊢
      simp only [List.all_cons, Bool.and_eq_true] at ha
      simp only [List.length_cons] at hl
      obtain ⟨u1, u2⟩ := h.un ha.1 (show T.2 < 1000 by omega)
      obtain ⟨σ', t1, t2, t3⟩ := ih F (un_T T (bt4 v (8 * (k + 1)))) _ (by omega) (by omega) u1 ha.2 (by show T.2 + 1 + _ ≤ 1000; omega)
      exact ⟨σ', (o2 e ha.1 (by omega)).trans t1, t2, u2.trans t3⟩
theorem ite_if {α : Type} {c d : Prop} [Decidable c] [Decidable d] (h : c ↔ d) (a b : α) : (if c then a else b) = if d then a else b := by
  by_cases e : c
  · rw [if_pos e, if_pos (h.mp e)]
  · rw [if_neg e, if_neg (fun z => e (h.mpr z))]
theorem rw_u13 {P : xP} {T : xT} {ms : List xMod} {σ : xS} {v : Int32} (h : RS P T ms σ) : ∀ (k F g : Nat) (al : Bool), k + 1 < F → g + k ≤ 3 → dm_X12_units_L13 P (P.base + 11) F v (nI g) (bI al) (nI (8 * k)) σ = if (al = true ∧ (bt_f (bt_l v k)).all isC = true) ∧ T.2 + (g + (bt_f (bt_l v k)).length) ≤ 1000 then dm_X12_units_L92 P (P.base + 11) P.N v (nI 24) σ else some (.inl (nI 0), σ) := by
  have r0 := h.1
  have t1 := h.2.2.1.2.1
  have tl := h.2.2.1.1.1
  have one : ∀ (s F g : Nat) (al : Bool), s < 32 → g ≤ 8 → dm_X12_units_L13 P (P.base + 11) (F + 1) v (nI g) (bI al) (nI s) σ = dm_X12_units_L13 P (P.base + 11) F v (nI (g + if bt4 v s = 0 then 0 else 1)) (bI (al && (decide (bt4 v s = 0) || isC (bt4 v s)))) (nI s + -nI 8) σ := by
    intro s F g al hs hg
    have b := bt4_eq v s
    have bl := bt4_lt v s
    have n0 : ¬ nI s < nI 0 := by rw [nI_ltI (by omega) (by omega)]; omega
    have n1 : ¬ nI 1 = nI 0 := by decide
    have q := rw_isCN P σ (show bt4 v s < 2 ^ 31 by omega)
    conv => lhs; unfold dm_X12_units_L13 dm_X12_units_p40 dm_X12_units_p58 dm_X12_units_p62 dm_X12_units_p63
    by_cases e : bt4 v s = 0
    · rw [e] at b
      have l0 : nI 0 ≤ nI 0 := by decide
      cases al with
      | true => simp only [lit_nI, n0, if_false, lt_e, b, l0, if_true, e, bI_tt, n1, Nat.add_zero, decide_true, Bool.true_or, Bool.and_true]
      | false => simp only [lit_nI, n0, if_false, lt_e, b, l0, if_true, e, bI_ff, Nat.add_zero, Bool.false_and]
    · have l0 : ¬ nI (bt4 v s) ≤ nI 0 := by rw [nI_leI (by omega) (by omega)]; omega
      have e' : ¬ nI (bt4 v s) = nI 0 := by rw [nI_eq (by omega) (by omega)]; exact e
      have ad : nI g + nI 1 = nI (g + 1) := by rw [nI_add]
      cases al with
      | true =>
        cases hc : isC (bt4 v s) with
        | true =>
          rw [hc] at q
          simp only [lit_nI, n0, if_false, lt_e, b, l0, e', e, ad, q, bd_l, bI_tt, n1, decide_false, Bool.or_true, Bool.and_true]
        | false =>
          rw [hc] at q
          simp only [lit_nI, n0, if_false, lt_e, b, l0, e', e, ad, q, bd_l, bI_tt, bI_ff, n1, if_true, decide_false, Bool.or_false, Bool.and_false]
      | false => simp only [lit_nI, n0, if_false, lt_e, b, l0, e, ad, bI_ff, if_true, Bool.false_and]
  have last : ∀ (F g : Nat) (al : Bool), g ≤ 8 → dm_X12_units_L13 P (P.base + 11) (F + 1) v (nI g) (bI al) (nI 0 + -nI 8) σ = if al = true ∧ T.2 + g ≤ 1000 then dm_X12_units_L92 P (P.base + 11) P.N v (nI 24) σ else some (.inl (nI 0), σ) := by
    intro F g al hg
    have neg : nI 0 + -nI 8 < nI 0 := by decide
    have n1 : ¬ nI 1 = nI 0 := by decide
    conv => lhs; unfold dm_X12_units_L13 dm_X12_units_p86
    cases al with
    | false => simp only [lit_nI, neg, if_true, bI_ff, Bool.false_eq_true, false_and, if_false]
    | true =>
      have ad : nI T.2 + nI g = nI (T.2 + g) := by rw [nI_add]
      by_cases e : T.2 + g ≤ 1000
      · have l : nI (T.2 + g) ≤ nI 1000 := by rw [nI_leI (by omega) (by omega)]; exact e
        simp only [lit_nI, neg, if_true, bI_tt, n1, if_false, ri_0 r0, ck_T, eq_self, t1, ad, l, e, and_self]
      · have l : ¬ nI (T.2 + g) ≤ nI 1000 := by rw [nI_leI (by omega) (by omega)]; exact e
        simp only [lit_nI, neg, if_true, bI_tt, n1, if_false, ri_0 r0, ck_T, eq_self, t1, ad, l, e, and_false]
  intro k
  induction k with
  | zero =>
    intro F g al hF hg
    obtain ⟨F, rfl⟩ : ∃ m, F = m + 1 + 1 := ⟨F - 2, by omega⟩
    have o := one 0 (F + 1) g al (by omega) (by omega)
    have l := last F (g + if bt4 v 0 = 0 then 0 else 1) (al && (decide (bt4 v 0 = 0) || isC (bt4 v 0))) (by split <;> omega)
    show dm_X12_units_L13 P (P.base + 11) (F + 1 + 1) v (nI g) (bI al) (nI 0) σ = _
    rw [o, l]
    refine ite_if ?_ _ _
    have en : bt_f [] = [] := rfl
    simp only [bt_l]
    by_cases e : bt4 v 0 = 0
    · rw [bt_f0 e, en]
      simp [e]
    · rw [bt_f1 e, en]
      simp [e]
  | succ k ih =>
    intro F g al hF hg
    obtain ⟨F, rfl⟩ : ∃ m, F = m + 1 := ⟨F - 1, by omega⟩
    have o := one (8 * (k + 1)) F g al (by omega) (by omega)
    rw [sh8 k] at o
    have l := ih F (g + if bt4 v (8 * (k + 1)) = 0 then 0 else 1) (al && (decide (bt4 v (8 * (k + 1)) = 0) || isC (bt4 v (8 * (k + 1))))) (by omega) (by split <;> omega)
    rw [o, l]
    refine ite_if ?_ _ _
    simp only [bt_l]
    by_cases e : bt4 v (8 * (k + 1)) = 0
    · rw [bt_f0 e]
      simp [e]
    · rw [bt_f1 e]
      have ad : g + 1 + (bt_f (bt_l v k)).length = g + ((bt_f (bt_l v k)).length + 1) := by omega
      simp [e, and_assoc, ad]
theorem rw_units {P : xP} {T : xT} {ms : List xMod} {σ : xS} (h : RS P T ms σ) (v : Int32) : ∃ σ', dm_X12_units P (P.base + 11) v σ = some (.inl (bI (aq_units T v).1), σ') ∧ RS P (aq_units T v).2 ms σ' ∧ FE P σ σ' := by
  have hN := h.2.1
  have h0 : RS P T ms (σ.setI 1100 (P.base + 11) (nI 0)) := h.setI (by omega) (by omega)
  have f0 : FE P σ (σ.setI 1100 (P.base + 11) (nI 0)) := FE.setI
  have q := rw_u13 (v := v) h0 3 P.N 0 true (by omega) (by omega)
  have st : dm_X12_units P (P.base + 11) v σ = dm_X12_units_L13 P (P.base + 11) P.N v (nI 0) (bI true) (nI (8 * 3)) (σ.setI 1100 (P.base + 11) (nI 0)) := by
    unfold dm_X12_units
    simp (disch := first | assumption | omega) [ck_T, sm_s, bd_l, bd_r, lt_e, eq_self, and_self, if_true, true_and, and_true, lit_nI, nI_add, nI_mul, nI_sub, nI_clamp, nI_eq, nI_ltI, nI_leI, nN_e, nI_nN, nN_nI, bI_0, bI_1, bI_n, bool_0, bool_1, in_T, lg_cmp0, ofN_nI, ri_0 h.1, bI_tt]
  rw [st, q]
  unfold aq_units us_l
  by_cases e : (bt_f (bt_l v 3)).all isC = true ∧ T.2 + (bt_f (bt_l v 3)).length ≤ 1000
  · rw [if_pos e, if_pos ⟨⟨rfl, e.1⟩, by have := e.2; omega⟩]
    obtain ⟨σ', t1, t2, t3⟩ := rw_u92 (v := v) 3 P.N T _ (by omega) (by omega) h0 e.1 e.2
    exact ⟨σ', t1, t2, f0.trans t3⟩
  · rw [if_neg e, if_neg (fun z => e ⟨z.1.2, by have := z.2; omega⟩)]
    exact ⟨_, rfl, h0, f0⟩
