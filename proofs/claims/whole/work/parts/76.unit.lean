/-! ===== the class: unit, units ===== -/
def isC (c : Nat) : Bool := (decide (32 ≤ c) && decide (c ≤ 126)) || decide (c = 10)
theorem isC_iff {c : Nat} : isC c = true ↔ (32 ≤ c ∧ c ≤ 126) ∨ c = 10 := by simp [isC]
def un_T (T : xT) (c : Nat) : xT := (fun i => if i = T.2 then c else T.1 i, T.2 + 1)
theorem un_TV {T : xT} (h : TV T) {c : Nat} (hc : isC c = true) (hl : T.2 < 1000) : TV (un_T T c) := by
  refine ⟨by show T.2 + 1 ≤ 1000; omega, fun i hi => ?_⟩
  show (if i = T.2 then c else T.1 i) = 10 ∨ _
  have hi' : i < T.2 + 1 := hi
  have := isC_iff.mp hc
  by_cases e : i = T.2
  · simp only [un_T, e, if_true]
    omega
  · simp only [un_T, e, if_false]
    exact h.2 i (by omega)
theorem cw_isCN (P : xP) (σ : xS) {c : Nat} (h : c < 2 ^ 31) : dm_X10_isCharacter P (nI c) σ = some (.inl (bI (isC c)), σ) := by
  unfold dm_X10_isCharacter dm_X10_isCharacter_p12 dm_X10_isCharacter_p18 dm_X10_isCharacter_p23 isC
  by_cases e1 : c < 32
  · by_cases e2 : c = 10
    · simp (disch := first | assumption | omega) [ck_T, sm_s, bd_l, bd_r, lt_e, eq_self, and_self, if_true, true_and, and_true, lit_nI, nI_add, nI_mul, nI_sub, nI_clamp, nI_eq, nI_ltI, nI_leI, nN_e, nI_nN, nN_nI, bI_0, bI_1, bI_n, bool_0, bool_1, in_T, lg_cmp0, ofN_nI, e2, bI_tt]
    · have e3 : ¬ 32 ≤ c := by omega
      simp (disch := first | assumption | omega) [ck_T, sm_s, bd_l, bd_r, lt_e, eq_self, and_self, if_true, true_and, and_true, lit_nI, nI_add, nI_mul, nI_sub, nI_clamp, nI_eq, nI_ltI, nI_leI, nN_e, nI_nN, nN_nI, bI_0, bI_1, bI_n, bool_0, bool_1, in_T, lg_cmp0, ofN_nI, e1, e2, e3, bI_ff]
  · have e3 : 32 ≤ c := by omega
    by_cases e2 : c ≤ 126
    · simp (disch := first | assumption | omega) [ck_T, sm_s, bd_l, bd_r, lt_e, eq_self, and_self, if_true, true_and, and_true, lit_nI, nI_add, nI_mul, nI_sub, nI_clamp, nI_eq, nI_ltI, nI_leI, nN_e, nI_nN, nN_nI, bI_0, bI_1, bI_n, bool_0, bool_1, in_T, lg_cmp0, ofN_nI, e1, e2, e3, bI_tt]
    · have e4 : ¬ c = 10 := by omega
      simp (disch := first | assumption | omega) [ck_T, sm_s, bd_l, bd_r, lt_e, eq_self, and_self, if_true, true_and, and_true, lit_nI, nI_add, nI_mul, nI_sub, nI_clamp, nI_eq, nI_ltI, nI_leI, nN_e, nI_nN, nN_nI, bI_0, bI_1, bI_n, bool_0, bool_1, in_T, lg_cmp0, ofN_nI, e1, e2, e3, e4, bI_ff]
theorem cw_isCneg (P : xP) (σ : xS) {v : Int32} (h : v < nI 0) : dm_X10_isCharacter P v σ = some (.inl (bI false), σ) := by
  have h1 : v < nI 32 := by
    rw [Int32.lt_iff_toInt_lt] at h ⊢
    have a : (nI 0).toInt = 0 := by decide
    have b : (nI 32).toInt = 32 := by decide
    omega
  have h2 : ¬ v = nI 10 := by
    intro z
    subst z
    exact absurd h (by decide)
  unfold dm_X10_isCharacter dm_X10_isCharacter_p12 dm_X10_isCharacter_p18 dm_X10_isCharacter_p23
  simp (disch := first | assumption | omega) [ck_T, sm_s, bd_l, bd_r, lt_e, eq_self, and_self, if_true, true_and, and_true, lit_nI, nI_add, nI_mul, nI_sub, nI_clamp, nI_eq, nI_ltI, nI_leI, nN_e, nI_nN, nN_nI, bI_0, bI_1, bI_n, bool_0, bool_1, in_T, lg_cmp0, ofN_nI, h1, h2, bI_ff]
/-- one more character on the tape -/
def unS (P : xP) (T : xT) (σ : xS) (c : Nat) : xS := (σ.setAI (P.base + 2) T.2 (nI c)).setI 901 (P.base + 1) (nI (T.2 + 1))
theorem CL.un {P : xP} {T : xT} {ms : List xMod} {σ : xS} (h : CL P T ms σ) {c : Nat} (hc : isC c = true) (hl : T.2 < 1000) : CL P (un_T T c) ms (unS P T σ c) ∧ FC P 0 σ (unS P T σ c) ∧ dm_X10_append P (P.base + 1) (nI c) σ = some (.inl (), unS P T σ c) := by
  obtain ⟨c1, c2, c3, c4, D, A, H, G, top, g1, g2, g3, g4⟩ := h
  have f : ∀ a, a ≠ P.base + 1 → a ≠ P.base + 2 → Sm σ (unS P T σ c) a := by
    intro a h1 h2
    refine ⟨rfl, rfl, fun f => ?_, fun _ => rfl, fun _ => rfl, fun i => ?_, fun _ => rfl, fun _ => rfl⟩
    · unfold unS; simp [q_K_setI, q_I_setI, q_J_setI, q_R_setI, q_L_setI, q_AI_setI, q_AJ_setI, q_AR_setI, q_sz_setI, q_su_setI, q_K_setJ, q_I_setJ, q_J_setJ, q_R_setJ, q_L_setJ, q_AI_setJ, q_AJ_setJ, q_AR_setJ, q_sz_setJ, q_su_setJ, q_K_setR, q_I_setR, q_J_setR, q_R_setR, q_L_setR, q_AI_setR, q_AJ_setR, q_AR_setR, q_sz_setR, q_su_setR, q_K_setAI, q_I_setAI, q_J_setAI, q_R_setAI, q_L_setAI, q_AI_setAI, q_AJ_setAI, q_AR_setAI, q_sz_setAI, q_su_setAI, q_K_setAJ, q_I_setAJ, q_J_setAJ, q_R_setAJ, q_L_setAJ, q_AI_setAJ, q_AJ_setAJ, q_AR_setAJ, q_sz_setAJ, q_su_setAJ, q_K_setAR, q_I_setAR, q_J_setAR, q_R_setAR, q_L_setAR, q_AI_setAR, q_AJ_setAR, q_AR_setAR, q_sz_setAR, q_su_setAR, q_K_newO, q_I_newO, q_J_newO, q_R_newO, q_L_newO, q_AI_newO, q_AJ_newO, q_AR_newO, q_sz_newO, q_su_newO, q_K_newA, q_I_newA, q_J_newA, q_R_newA, q_L_newA, q_AI_newA, q_AJ_newA, q_AR_newA, q_sz_newA, q_su_newA, q_K_skip, q_I_skip, q_J_skip, q_R_skip, q_L_skip, q_AI_skip, q_AJ_skip, q_AR_skip, q_sz_skip, q_su_skip, q_up2, q_up, h1]
    · unfold unS; simp [q_K_setI, q_I_setI, q_J_setI, q_R_setI, q_L_setI, q_AI_setI, q_AJ_setI, q_AR_setI, q_sz_setI, q_su_setI, q_K_setJ, q_I_setJ, q_J_setJ, q_R_setJ, q_L_setJ, q_AI_setJ, q_AJ_setJ, q_AR_setJ, q_sz_setJ, q_su_setJ, q_K_setR, q_I_setR, q_J_setR, q_R_setR, q_L_setR, q_AI_setR, q_AJ_setR, q_AR_setR, q_sz_setR, q_su_setR, q_K_setAI, q_I_setAI, q_J_setAI, q_R_setAI, q_L_setAI, q_AI_setAI, q_AJ_setAI, q_AR_setAI, q_sz_setAI, q_su_setAI, q_K_setAJ, q_I_setAJ, q_J_setAJ, q_R_setAJ, q_L_setAJ, q_AI_setAJ, q_AJ_setAJ, q_AR_setAJ, q_sz_setAJ, q_su_setAJ, q_K_setAR, q_I_setAR, q_J_setAR, q_R_setAR, q_L_setAR, q_AI_setAR, q_AJ_setAR, q_AR_setAR, q_sz_setAR, q_su_setAR, q_K_newO, q_I_newO, q_J_newO, q_R_newO, q_L_newO, q_AI_newO, q_AJ_newO, q_AR_newO, q_sz_newO, q_su_newO, q_K_newA, q_I_newA, q_J_newA, q_R_newA, q_L_newA, q_AI_newA, q_AJ_newA, q_AR_newA, q_sz_newA, q_su_newA, q_K_skip, q_I_skip, q_J_skip, q_R_skip, q_L_skip, q_AI_skip, q_AJ_skip, q_AR_skip, q_sz_skip, q_su_skip, q_up2, q_up, h2]
  have C : CI P (unS P T σ c) := by
    refine ⟨@ci_0 P σ c1, @ci_1 P σ c1, @ci_2 P σ c1, @ci_3 P σ c1, @ci_4 P σ c1, @ci_5 P σ c1, @ci_6 P σ c1, @ci_7 P σ c1, @ci_8 P σ c1, @ci_9 P σ c1, @ci_10 P σ c1, @ci_11 P σ c1, @ci_12 P σ c1, @ci_13 P σ c1, @ci_14 P σ c1, @ci_15 P σ c1, @ci_16 P σ c1, @ci_17 P σ c1, @ci_18 P σ c1, @ci_19 P σ c1, @ci_20 P σ c1, @ci_21 P σ c1, @ci_22 P σ c1, (@ci_s P σ c1).sm fun a ha => f a (by omega) (by omega)⟩
  obtain ⟨lg, -, dr, -⟩ := g4.1
  have d1 := dr.1.1
  have cc := isC_iff.mp hc
  refine ⟨⟨C, un_TV c2 hc hl, ⟨?_, fun i hi => ?_⟩, c4, D, A, H, G, top, g1, g2, g3, g4.sm C (fun b h1 h2 => f b (by omega) (by omega))⟩, ⟨fun a ha => f a (by omega) (by omega), Us.refl _⟩, ?_⟩
  · unfold unS; simp [q_K_setI, q_I_setI, q_J_setI, q_R_setI, q_L_setI, q_AI_setI, q_AJ_setI, q_AR_setI, q_sz_setI, q_su_setI, q_K_setJ, q_I_setJ, q_J_setJ, q_R_setJ, q_L_setJ, q_AI_setJ, q_AJ_setJ, q_AR_setJ, q_sz_setJ, q_su_setJ, q_K_setR, q_I_setR, q_J_setR, q_R_setR, q_L_setR, q_AI_setR, q_AJ_setR, q_AR_setR, q_sz_setR, q_su_setR, q_K_setAI, q_I_setAI, q_J_setAI, q_R_setAI, q_L_setAI, q_AI_setAI, q_AJ_setAI, q_AR_setAI, q_sz_setAI, q_su_setAI, q_K_setAJ, q_I_setAJ, q_J_setAJ, q_R_setAJ, q_L_setAJ, q_AI_setAJ, q_AJ_setAJ, q_AR_setAJ, q_sz_setAJ, q_su_setAJ, q_K_setAR, q_I_setAR, q_J_setAR, q_R_setAR, q_L_setAR, q_AI_setAR, q_AJ_setAR, q_AR_setAR, q_sz_setAR, q_su_setAR, q_K_newO, q_I_newO, q_J_newO, q_R_newO, q_L_newO, q_AI_newO, q_AJ_newO, q_AR_newO, q_sz_newO, q_su_newO, q_K_newA, q_I_newA, q_J_newA, q_R_newA, q_L_newA, q_AI_newA, q_AJ_newA, q_AR_newA, q_sz_newA, q_su_newA, q_K_skip, q_I_skip, q_J_skip, q_R_skip, q_L_skip, q_AI_skip, q_AJ_skip, q_AR_skip, q_sz_skip, q_su_skip, q_up2, q_up, un_T]
  · have hi' : i < T.2 + 1 := hi
    show (unS P T σ c).AI (P.base + 2) i = nI (if i = T.2 then c else T.1 i)
    by_cases e : i = T.2
    · unfold unS; simp [q_K_setI, q_I_setI, q_J_setI, q_R_setI, q_L_setI, q_AI_setI, q_AJ_setI, q_AR_setI, q_sz_setI, q_su_setI, q_K_setJ, q_I_setJ, q_J_setJ, q_R_setJ, q_L_setJ, q_AI_setJ, q_AJ_setJ, q_AR_setJ, q_sz_setJ, q_su_setJ, q_K_setR, q_I_setR, q_J_setR, q_R_setR, q_L_setR, q_AI_setR, q_AJ_setR, q_AR_setR, q_sz_setR, q_su_setR, q_K_setAI, q_I_setAI, q_J_setAI, q_R_setAI, q_L_setAI, q_AI_setAI, q_AJ_setAI, q_AR_setAI, q_sz_setAI, q_su_setAI, q_K_setAJ, q_I_setAJ, q_J_setAJ, q_R_setAJ, q_L_setAJ, q_AI_setAJ, q_AJ_setAJ, q_AR_setAJ, q_sz_setAJ, q_su_setAJ, q_K_setAR, q_I_setAR, q_J_setAR, q_R_setAR, q_L_setAR, q_AI_setAR, q_AJ_setAR, q_AR_setAR, q_sz_setAR, q_su_setAR, q_K_newO, q_I_newO, q_J_newO, q_R_newO, q_L_newO, q_AI_newO, q_AJ_newO, q_AR_newO, q_sz_newO, q_su_newO, q_K_newA, q_I_newA, q_J_newA, q_R_newA, q_L_newA, q_AI_newA, q_AJ_newA, q_AR_newA, q_sz_newA, q_su_newA, q_K_skip, q_I_skip, q_J_skip, q_R_skip, q_L_skip, q_AI_skip, q_AJ_skip, q_AR_skip, q_sz_skip, q_su_skip, q_up2, q_up, e]
    · have := c3.2 i (by omega)
      unfold unS; simp [q_K_setI, q_I_setI, q_J_setI, q_R_setI, q_L_setI, q_AI_setI, q_AJ_setI, q_AR_setI, q_sz_setI, q_su_setI, q_K_setJ, q_I_setJ, q_J_setJ, q_R_setJ, q_L_setJ, q_AI_setJ, q_AJ_setJ, q_AR_setJ, q_sz_setJ, q_su_setJ, q_K_setR, q_I_setR, q_J_setR, q_R_setR, q_L_setR, q_AI_setR, q_AJ_setR, q_AR_setR, q_sz_setR, q_su_setR, q_K_setAI, q_I_setAI, q_J_setAI, q_R_setAI, q_L_setAI, q_AI_setAI, q_AJ_setAI, q_AR_setAI, q_sz_setAI, q_su_setAI, q_K_setAJ, q_I_setAJ, q_J_setAJ, q_R_setAJ, q_L_setAJ, q_AI_setAJ, q_AJ_setAJ, q_AR_setAJ, q_sz_setAJ, q_su_setAJ, q_K_setAR, q_I_setAR, q_J_setAR, q_R_setAR, q_L_setAR, q_AI_setAR, q_AJ_setAR, q_AR_setAR, q_sz_setAR, q_su_setAR, q_K_newO, q_I_newO, q_J_newO, q_R_newO, q_L_newO, q_AI_newO, q_AJ_newO, q_AR_newO, q_sz_newO, q_su_newO, q_K_newA, q_I_newA, q_J_newA, q_R_newA, q_L_newA, q_AI_newA, q_AJ_newA, q_AR_newA, q_sz_newA, q_su_newA, q_K_skip, q_I_skip, q_J_skip, q_R_skip, q_L_skip, q_AI_skip, q_AJ_skip, q_AR_skip, q_sz_skip, q_su_skip, q_up2, q_up, e, this]
  · have t1 := c3.1
    have n1 : ¬ 1000 ≤ T.2 := by omega
    have xc : x_char (nI c) = True := by
      apply eq_true
      exact (c16 (by omega)).symm
    unfold dm_X10_append dm_X10_append_p30 unS
    simp (disch := first | assumption | omega) [ck_T, sm_s, bd_l, bd_r, lt_e, eq_self, and_self, if_true, true_and, and_true, lit_nI, nI_add, nI_mul, nI_sub, nI_clamp, nI_eq, nI_ltI, nI_leI, nN_e, nI_nN, nN_nI, bI_0, bI_1, bI_n, bool_0, bool_1, in_T, lg_cmp0, ofN_nI, q_K_setI, q_I_setI, q_J_setI, q_R_setI, q_L_setI, q_AI_setI, q_AJ_setI, q_AR_setI, q_sz_setI, q_su_setI, q_K_setJ, q_I_setJ, q_J_setJ, q_R_setJ, q_L_setJ, q_AI_setJ, q_AJ_setJ, q_AR_setJ, q_sz_setJ, q_su_setJ, q_K_setR, q_I_setR, q_J_setR, q_R_setR, q_L_setR, q_AI_setR, q_AJ_setR, q_AR_setR, q_sz_setR, q_su_setR, q_K_setAI, q_I_setAI, q_J_setAI, q_R_setAI, q_L_setAI, q_AI_setAI, q_AJ_setAI, q_AR_setAI, q_sz_setAI, q_su_setAI, q_K_setAJ, q_I_setAJ, q_J_setAJ, q_R_setAJ, q_L_setAJ, q_AI_setAJ, q_AJ_setAJ, q_AR_setAJ, q_sz_setAJ, q_su_setAJ, q_K_setAR, q_I_setAR, q_J_setAR, q_R_setAR, q_L_setAR, q_AI_setAR, q_AJ_setAR, q_AR_setAR, q_sz_setAR, q_su_setAR, q_K_newO, q_I_newO, q_J_newO, q_R_newO, q_L_newO, q_AI_newO, q_AJ_newO, q_AR_newO, q_sz_newO, q_su_newO, q_K_newA, q_I_newA, q_J_newA, q_R_newA, q_L_newA, q_AI_newA, q_AJ_newA, q_AR_newA, q_sz_newA, q_su_newA, q_K_skip, q_I_skip, q_J_skip, q_R_skip, q_L_skip, q_AI_skip, q_AJ_skip, q_AR_skip, q_sz_skip, q_su_skip, ci_0 c1, ci_1 c1, ci_2 c1, ci_3 c1, ci_4 c1, ci_5 c1, ci_6 c1, ci_7 c1, ci_8 c1, ci_9 c1, ci_10 c1, ci_11 c1, ci_12 c1, ci_13 c1, ci_14 c1, ci_15 c1, ci_16 c1, ci_17 c1, ci_18 c1, ci_19 c1, ci_20 c1, ci_21 c1, ci_22 c1, t1, n1, x_in, dlt_T, dle_T, xc]
def aq_unit (T : xT) (v : Int32) : Bool × xT := match aI v with
  | none => (false, T)
  | some c => if isC c = true ∧ T.2 < 1000 then (true, un_T T c) else (false, T)
theorem cw_unit {P : xP} {T : xT} {ms : List xMod} {σ : xS} (h : CL P T ms σ) (v : Int32) : ∃ σ', dm_X11_unit P P.base v σ = some (.inl (bI (aq_unit T v).1), σ') ∧ CL P (aq_unit T v).2 ms σ' ∧ FC P 0 σ σ' := by
  have C := h.1
  have t1 := h.2.2.1.1
  have tl := h.2.1.1
  unfold dm_X11_unit dm_X11_unit_p18 aq_unit dm_X10_room
  rcases i32_cases v with ⟨h1, h2⟩ | ⟨c, h1, h2, h3⟩
  · have q := cw_isCneg P σ h1
    rw [h2]
    refine ⟨σ, ?_, h, FC.refl P σ⟩
    simp (disch := first | assumption | omega) [ck_T, sm_s, bd_l, bd_r, lt_e, eq_self, and_self, if_true, true_and, and_true, lit_nI, nI_add, nI_mul, nI_sub, nI_clamp, nI_eq, nI_ltI, nI_leI, nN_e, nI_nN, nN_nI, bI_0, bI_1, bI_n, bool_0, bool_1, in_T, lg_cmp0, ofN_nI, q, bI_ff]
  · subst h2
    have q := cw_isCN P σ h1
    rw [h3]
    simp only
    cases e : isC c with
    | false =>
      rw [e] at q
      refine ⟨σ, ?_, h, FC.refl P σ⟩
      simp (disch := first | assumption | omega) [ck_T, sm_s, bd_l, bd_r, lt_e, eq_self, and_self, if_true, true_and, and_true, lit_nI, nI_add, nI_mul, nI_sub, nI_clamp, nI_eq, nI_ltI, nI_leI, nN_e, nI_nN, nN_nI, bI_0, bI_1, bI_n, bool_0, bool_1, in_T, lg_cmp0, ofN_nI, q, bI_ff]
    | true =>
      rw [e] at q
      by_cases e2 : T.2 < 1000
      · obtain ⟨u1, u2, u3⟩ := h.un e e2
        have cc := isC_iff.mp e
        rw [if_pos ⟨rfl, e2⟩]
        refine ⟨unS P T σ c, ?_, u1, u2⟩
        have n1 : 1 ≤ 1000 - T.2 := by omega
        simp (disch := first | assumption | omega) [ck_T, sm_s, bd_l, bd_r, lt_e, eq_self, and_self, if_true, true_and, and_true, lit_nI, nI_add, nI_mul, nI_sub, nI_clamp, nI_eq, nI_ltI, nI_leI, nN_e, nI_nN, nN_nI, bI_0, bI_1, bI_n, bool_0, bool_1, in_T, lg_cmp0, ofN_nI, q, bI_tt, ci_0 C, ci_1 C, ci_2 C, ci_3 C, ci_4 C, ci_5 C, ci_6 C, ci_7 C, ci_8 C, ci_9 C, ci_10 C, ci_11 C, ci_12 C, ci_13 C, ci_14 C, ci_15 C, ci_16 C, ci_17 C, ci_18 C, ci_19 C, ci_20 C, ci_21 C, ci_22 C, t1, n1]
        rw [c16 (by omega), u3]
        rfl
      · have e3 : T.2 = 1000 := by omega
        rw [if_neg (by simp; omega)]
        refine ⟨σ, ?_, h, FC.refl P σ⟩
        simp (disch := first | assumption | omega) [ck_T, sm_s, bd_l, bd_r, lt_e, eq_self, and_self, if_true, true_and, and_true, lit_nI, nI_add, nI_mul, nI_sub, nI_clamp, nI_eq, nI_ltI, nI_leI, nN_e, nI_nN, nN_nI, bI_0, bI_1, bI_n, bool_0, bool_1, in_T, lg_cmp0, ofN_nI, q, bI_tt, bI_ff, ci_0 C, ci_1 C, ci_2 C, ci_3 C, ci_4 C, ci_5 C, ci_6 C, ci_7 C, ci_8 C, ci_9 C, ci_10 C, ci_11 C, ci_12 C, ci_13 C, ci_14 C, ci_15 C, ci_16 C, ci_17 C, ci_18 C, ci_19 C, ci_20 C, ci_21 C, ci_22 C, t1, e3]
/-- a byte of a number -/
def bt4 (v : Int32) (s : Nat) : Nat := (UInt32.toInt32 (Int32.toUInt32 v >>> (Int32.toUInt32 (nI s) &&& Int32.toUInt32 (nI 31)))).toBitVec.toNat % 256
theorem and255 (x : Int32) : x &&& nI 255 = nI (x.toBitVec.toNat % 256) := by
  apply Int32.toBitVec_inj.mp
  apply BitVec.eq_of_toNat_eq
  rw [Int32.toBitVec_and, BitVec.toNat_and]
  show x.toBitVec.toNat &&& 255 = _
  have e : (nI (x.toBitVec.toNat % 256)).toBitVec.toNat = x.toBitVec.toNat % 256 := by
    unfold nI
    simp
    omega
  rw [e]
  exact Nat.and_two_pow_sub_one_eq_mod _ 8
theorem bt4_eq (v : Int32) (s : Nat) : (UInt32.toInt32 (Int32.toUInt32 v >>> (Int32.toUInt32 (nI s) &&& Int32.toUInt32 (nI 31)))) &&& nI 255 = nI (bt4 v s) := and255 _
theorem bt4_lt (v : Int32) (s : Nat) : bt4 v s < 256 := Nat.mod_lt _ (by omega)
def bt_l (v : Int32) : Nat → List Nat
  | 0 => [bt4 v 0]
  | k + 1 => bt4 v (8 * (k + 1)) :: bt_l v k
def bt_f (l : List Nat) : List Nat := l.filter fun c => decide (c ≠ 0)
theorem bt_f0 {c : Nat} {l : List Nat} (h : c = 0) : bt_f (c :: l) = bt_f l := by simp [bt_f, h]
theorem bt_f1 {c : Nat} {l : List Nat} (h : ¬ c = 0) : bt_f (c :: l) = c :: bt_f l := by simp [bt_f, h]
theorem bt_f_le (v : Int32) : ∀ k, (bt_f (bt_l v k)).length ≤ k + 1
  | 0 => by
    have := List.length_filter_le (fun c => decide (c ≠ 0)) [bt4 v 0]
    simpa [bt_f, bt_l] using this
  | k + 1 => by
    have := bt_f_le v k
    by_cases h : bt4 v (8 * (k + 1)) = 0
    · simp only [bt_l]; rw [bt_f0 h]; omega
    · simp only [bt_l]; rw [bt_f1 h, List.length_cons]; omega
/-- the characters that units gives -/
def us_l (v : Int32) : List Nat := bt_f (bt_l v 3)
def aq_units (T : xT) (v : Int32) : Bool × xT := if (us_l v).all isC = true ∧ T.2 + (us_l v).length ≤ 1000 then (true, (us_l v).foldl un_T T) else (false, T)
theorem sh8 (k : Nat) : nI (8 * (k + 1)) + -nI 8 = nI (8 * k) := by
  rw [← Int32.sub_eq_add_neg, nI_sub (by omega)]
  congr 1
theorem cw_u68 {P : xP} {ms : List xMod} {v : Int32} : ∀ (k n : Nat) (T : xT) (σ : xS), k + 1 < n → k ≤ 3 → CL P T ms σ → (bt_f (bt_l v k)).all isC = true → T.2 + (bt_f (bt_l v k)).length ≤ 1000 → ∃ σ', dm_X11_units_L68 P P.base n v (nI (8 * k)) σ = some (.inl (nI 1), σ') ∧ CL P ((bt_f (bt_l v k)).foldl un_T T) ms σ' ∧ FC P 0 σ σ' := by
  intro k
  induction k with
  | zero =>
    intro n T σ hn hk h ha hl
    obtain ⟨n, rfl⟩ : ∃ m, n = m + 1 + 1 := ⟨n - 2, by omega⟩
    have C := h.1
    have b := bt4_eq v 0
    have bl := bt4_lt v 0
    have neg : nI 0 + -nI 8 < nI 0 := by decide
    have last : ∀ s : xS, dm_X11_units_L68 P P.base (n + 1) v (nI 0 + -nI 8) s = some (.inl (nI 1), s) := by
      intro s
      unfold dm_X11_units_L68
      exact if_pos neg
    unfold dm_X11_units_L68 dm_X11_units_p96
    by_cases e : bt4 v 0 = 0
    · simp only [bt_l] at ha hl ⊢
      rw [bt_f0 e] at ha hl ⊢
      refine ⟨σ, ?_, h, FC.refl P σ⟩
      rw [e] at b
      simp (disch := first | assumption | omega) [ck_T, sm_s, bd_l, bd_r, lt_e, eq_self, and_self, if_true, true_and, and_true, lit_nI, nI_add, nI_mul, nI_sub, nI_clamp, nI_eq, nI_ltI, nI_leI, nN_e, nI_nN, nN_nI, bI_0, bI_1, bI_n, bool_0, bool_1, in_T, lg_cmp0, ofN_nI]
      rw [b]
      simp (disch := first | assumption | omega) [ck_T, sm_s, bd_l, bd_r, lt_e, eq_self, and_self, if_true, true_and, and_true, lit_nI, nI_add, nI_mul, nI_sub, nI_clamp, nI_eq, nI_ltI, nI_leI, nN_e, nI_nN, nN_nI, bI_0, bI_1, bI_n, bool_0, bool_1, in_T, lg_cmp0, ofN_nI, last]
    · simp only [bt_l] at ha hl ⊢
      rw [bt_f1 e] at ha hl ⊢
      have hc : isC (bt4 v 0) = true := by
        simp only [List.all_cons, Bool.and_eq_true] at ha
        exact ha.1
      simp only [List.length_cons] at hl
      obtain ⟨u1, u2, u3⟩ := h.un hc (by omega)
      refine ⟨_, ?_, u1, u2⟩
      have e' : ¬ nI (bt4 v 0) = nI 0 := fun z => e ((nI_eq (by omega) (by omega)).mp z)
      have c6 := c16 (show bt4 v 0 < 65536 by omega)
      have n0 : ¬ nI 0 < nI 0 := by decide
      have z8 : nI (8 * 0) = nI 0 := rfl
      simp only [lit_nI, z8, n0, if_false, lt_e, b, e', ci_0 C, ci_1 C, ci_5 C, ck_T, sm_s]
      rw [c6, u3]
      simp only [bd_l, last]
  | succ k ih =>
    intro n T σ hn hk h ha hl
    obtain ⟨n, rfl⟩ : ∃ m, n = m + 1 := ⟨n - 1, by omega⟩
    have C := h.1
    have b := bt4_eq v (8 * (k + 1))
    have bl := bt4_lt v (8 * (k + 1))
    have n0 : ¬ nI (8 * (k + 1)) < nI 0 := by
      intro z
      have := (nI_ltI (show 8 * (k + 1) < 2 ^ 31 by omega) (show 0 < 2 ^ 31 by omega)).mp z
      omega
    have s8 := sh8 k
    unfold dm_X11_units_L68 dm_X11_units_p96
    by_cases e : bt4 v (8 * (k + 1)) = 0
    · simp only [bt_l] at ha hl ⊢
      rw [bt_f0 e] at ha hl ⊢
      obtain ⟨σ', t1, t2, t3⟩ := ih n T σ (by omega) (by omega) h ha hl
      refine ⟨σ', ?_, t2, t3⟩
      rw [e] at b
      rw [← t1]
      simp only [lit_nI, n0, if_false, lt_e, b, s8, if_true]
    · simp only [bt_l] at ha hl ⊢
      rw [bt_f1 e] at ha hl ⊢
      simp only [List.all_cons, Bool.and_eq_true] at ha
      simp only [List.length_cons] at hl
      obtain ⟨u1, u2, u3⟩ := h.un ha.1 (show T.2 < 1000 by omega)
      obtain ⟨σ', t1, t2, t3⟩ := ih n (un_T T (bt4 v (8 * (k + 1)))) _ (by omega) (by omega) u1 ha.2 (by show T.2 + 1 + _ ≤ 1000; omega)
      refine ⟨σ', ?_, t2, ⟨fun a ha => (u2.1 a ha).trans (t3.1 a ha), u2.2.trans t3.2⟩⟩
      rw [← t1]
      have e' : ¬ nI (bt4 v (8 * (k + 1))) = nI 0 := fun z => e ((nI_eq (by omega) (by omega)).mp z)
      have c6 := c16 (show bt4 v (8 * (k + 1)) < 65536 by omega)
      simp only [lit_nI, n0, if_false, lt_e, b, s8, e', ci_0 C, ci_1 C, ci_5 C, ck_T, sm_s]
      rw [c6, u3]
      simp only [bd_l]
theorem cw_u5 {P : xP} {T : xT} {ms : List xMod} {v : Int32} {σ : xS} (h : CL P T ms σ) : ∀ (k n g : Nat), k + 1 < n → k + g ≤ 3 → ((bt_f (bt_l v k)).all isC = true → T.2 + (g + (bt_f (bt_l v k)).length) ≤ 1000 → dm_X11_units_L5 P P.base n v (nI g) (nI (8 * k)) σ = dm_X11_units_L68 P P.base P.N v (nI 24) σ) ∧ (¬ ((bt_f (bt_l v k)).all isC = true ∧ T.2 + (g + (bt_f (bt_l v k)).length) ≤ 1000) → dm_X11_units_L5 P P.base n v (nI g) (nI (8 * k)) σ = some (.inl (nI 0), σ)) := by
  have C := h.1
  have t1 := h.2.2.1.1
  have tl := h.2.1.1
  have last : ∀ (n g : Nat), g ≤ 8 → (T.2 + g ≤ 1000 → dm_X11_units_L5 P P.base (n + 1) v (nI g) (nI 0 + -nI 8) σ = dm_X11_units_L68 P P.base P.N v (nI 24) σ) ∧ (¬ T.2 + g ≤ 1000 → dm_X11_units_L5 P P.base (n + 1) v (nI g) (nI 0 + -nI 8) σ = some (.inl (nI 0), σ)) := by
    intro n g hg
    have neg : nI 0 + -nI 8 < nI 0 := by decide
    unfold dm_X11_units_L5 dm_X10_room
    refine ⟨fun e => ?_, fun e => ?_⟩
    · have e1 : g ≤ 1000 - T.2 := by omega
      simp (disch := first | assumption | omega) [ck_T, sm_s, bd_l, bd_r, lt_e, eq_self, and_self, if_true, true_and, and_true, lit_nI, nI_add, nI_mul, nI_sub, nI_clamp, nI_eq, nI_ltI, nI_leI, nN_e, nI_nN, nN_nI, bI_0, bI_1, bI_n, bool_0, bool_1, in_T, lg_cmp0, ofN_nI, neg, ci_0 C, ci_1 C, ci_2 C, ci_3 C, ci_4 C, ci_5 C, ci_6 C, ci_7 C, ci_8 C, ci_9 C, ci_10 C, ci_11 C, ci_12 C, ci_13 C, ci_14 C, ci_15 C, ci_16 C, ci_17 C, ci_18 C, ci_19 C, ci_20 C, ci_21 C, ci_22 C, t1, e1]
    · have e1 : ¬ g ≤ 1000 - T.2 := by omega
      simp (disch := first | assumption | omega) [ck_T, sm_s, bd_l, bd_r, lt_e, eq_self, and_self, if_true, true_and, and_true, lit_nI, nI_add, nI_mul, nI_sub, nI_clamp, nI_eq, nI_ltI, nI_leI, nN_e, nI_nN, nN_nI, bI_0, bI_1, bI_n, bool_0, bool_1, in_T, lg_cmp0, ofN_nI, neg, ci_0 C, ci_1 C, ci_2 C, ci_3 C, ci_4 C, ci_5 C, ci_6 C, ci_7 C, ci_8 C, ci_9 C, ci_10 C, ci_11 C, ci_12 C, ci_13 C, ci_14 C, ci_15 C, ci_16 C, ci_17 C, ci_18 C, ci_19 C, ci_20 C, ci_21 C, ci_22 C, t1, e1]
  have n1 : ¬ nI 1 = nI 0 := by decide
  intro k
  induction k with
  | zero =>
    intro n g hn hk
    obtain ⟨n, rfl⟩ : ∃ m, n = m + 1 + 1 := ⟨n - 2, by omega⟩
    have b := bt4_eq v 0
    have bl := bt4_lt v 0
    have q := cw_isCN P σ (show bt4 v 0 < 2 ^ 31 by omega)
    have z8 : nI (8 * 0) = nI 0 := rfl
    have n0 : ¬ nI 0 < nI 0 := by decide
    have f0 : (bt_f []).length = 0 := rfl
    simp only [bt_l]
    by_cases e : bt4 v 0 = 0
    · rw [bt_f0 e]
      rw [e] at b
      have l := last n g (by omega)
      have red : dm_X11_units_L5 P P.base (n + 1 + 1) v (nI g) (nI (8 * 0)) σ = dm_X11_units_L5 P P.base (n + 1) v (nI g) (nI 0 + -nI 8) σ := by
        conv => lhs; unfold dm_X11_units_L5 dm_X11_units_p33 dm_X11_units_p44
        simp only [lit_nI, z8, n0, if_false, lt_e, b, if_true, nI_add, Nat.add_zero]
      rw [red]
      refine ⟨fun _ z => l.1 (by omega), fun z => l.2 (fun y => z ⟨rfl, by omega⟩)⟩
    · rw [bt_f1 e]
      have e' : ¬ nI (bt4 v 0) = nI 0 := fun z => e ((nI_eq (by omega) (by omega)).mp z)
      simp only [List.all_cons, List.length_cons, Bool.and_eq_true]
      cases hc : isC (bt4 v 0) with
      | false =>
        rw [hc] at q
        refine ⟨fun z => by simp at z, fun _ => ?_⟩
        unfold dm_X11_units_L5 dm_X11_units_p33 dm_X11_units_p44
        simp only [lit_nI, z8, n0, if_false, lt_e, b, e', q, bd_l, bI_ff, if_true]
      | true =>
        rw [hc] at q
        have l := last n (g + 1) (by omega)
        have red : dm_X11_units_L5 P P.base (n + 1 + 1) v (nI g) (nI (8 * 0)) σ = dm_X11_units_L5 P P.base (n + 1) v (nI (g + 1)) (nI 0 + -nI 8) σ := by
          conv => lhs; unfold dm_X11_units_L5 dm_X11_units_p33 dm_X11_units_p44
          simp only [lit_nI, z8, n0, if_false, lt_e, b, e', q, bd_l, bI_tt, n1, nI_add]
        rw [red]
        refine ⟨fun _ z => l.1 (by omega), fun z => l.2 (fun y => z ⟨⟨rfl, rfl⟩, by omega⟩)⟩
  | succ k ih =>
    intro n g hn hk
    obtain ⟨n, rfl⟩ : ∃ m, n = m + 1 := ⟨n - 1, by omega⟩
    have b := bt4_eq v (8 * (k + 1))
    have bl := bt4_lt v (8 * (k + 1))
    have q := cw_isCN P σ (show bt4 v (8 * (k + 1)) < 2 ^ 31 by omega)
    have n0 : ¬ nI (8 * (k + 1)) < nI 0 := by
      intro z
      have := (nI_ltI (show 8 * (k + 1) < 2 ^ 31 by omega) (show 0 < 2 ^ 31 by omega)).mp z
      omega
    have s8 := sh8 k
    simp only [bt_l]
    by_cases e : bt4 v (8 * (k + 1)) = 0
    · rw [bt_f0 e]
      rw [e] at b
      have l := ih n g (by omega) (by omega)
      have red : dm_X11_units_L5 P P.base (n + 1) v (nI g) (nI (8 * (k + 1))) σ = dm_X11_units_L5 P P.base n v (nI g) (nI (8 * k)) σ := by
        conv => lhs; unfold dm_X11_units_L5 dm_X11_units_p33 dm_X11_units_p44
        simp only [lit_nI, n0, if_false, lt_e, b, if_true, nI_add, Nat.add_zero, s8]
      rw [red]
      exact l
    · rw [bt_f1 e]
      have e' : ¬ nI (bt4 v (8 * (k + 1))) = nI 0 := fun z => e ((nI_eq (by omega) (by omega)).mp z)
      simp only [List.all_cons, List.length_cons, Bool.and_eq_true]
      cases hc : isC (bt4 v (8 * (k + 1))) with
      | false =>
        rw [hc] at q
        refine ⟨fun z => by simp at z, fun _ => ?_⟩
        unfold dm_X11_units_L5 dm_X11_units_p33 dm_X11_units_p44
        simp only [lit_nI, n0, if_false, lt_e, b, e', q, bd_l, bI_ff, if_true]
      | true =>
        rw [hc] at q
        have l := ih n (g + 1) (by omega) (by omega)
        have red : dm_X11_units_L5 P P.base (n + 1) v (nI g) (nI (8 * (k + 1))) σ = dm_X11_units_L5 P P.base n v (nI (g + 1)) (nI (8 * k)) σ := by
          conv => lhs; unfold dm_X11_units_L5 dm_X11_units_p33 dm_X11_units_p44
          simp only [lit_nI, n0, if_false, lt_e, b, e', q, bd_l, bI_tt, n1, nI_add, s8]
        rw [red]
        refine ⟨fun z y => l.1 z.2 (by omega), fun z => l.2 (fun y => z ⟨⟨rfl, y.1⟩, by omega⟩)⟩
theorem cw_units {P : xP} {T : xT} {ms : List xMod} {σ : xS} (h : CL P T ms σ) (v : Int32) : ∃ σ', dm_X11_units P P.base v σ = some (.inl (bI (aq_units T v).1), σ') ∧ CL P (aq_units T v).2 ms σ' ∧ FC P 0 σ σ' := by
  have hN := h.1.N
  have q := cw_u5 (v := v) h 3 P.N 0 (by omega) (by omega)
  unfold dm_X11_units aq_units us_l
  by_cases e : (bt_f (bt_l v 3)).all isC = true ∧ T.2 + (bt_f (bt_l v 3)).length ≤ 1000
  · rw [if_pos e]
    obtain ⟨σ', t1, t2, t3⟩ := cw_u68 (v := v) 3 P.N T σ (by omega) (by omega) h e.1 e.2
    refine ⟨σ', ?_, t2, t3⟩
    have := q.1 e.1 (by omega)
    simp only [lit_nI, bI_tt]
    exact this.trans t1
  · rw [if_neg e]
    refine ⟨σ, ?_, h, FC.refl P σ⟩
    have := q.2 (fun z => e ⟨z.1, by omega⟩)
    simp only [lit_nI, bI_ff]
    exact this
