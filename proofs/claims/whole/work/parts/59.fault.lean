/-! ===== the class: all pieces of a text ===== -/
theorem SX.cp {P : xP} {T : xT} {lng : Bool} {D : Nat} {c : xCur} {σ : xS} (h : SX P T lng D c σ) : CP P T σ c.2.2 := by
  obtain ⟨ms, cu, p⟩ := c
  obtain ⟨A, H, G, h⟩ := h
  cases cu with
  | none => exact h.1
  | some m => exact (SM.cp h).1
theorem SX.cur {P : xP} {T : xT} {lng : Bool} {D : Nat} {c : xCur} {σ : xS} (h : SX P T lng D c σ) : σ.R 302 (rdA P lng) = none ↔ c.2.1 = none := by
  obtain ⟨ms, cu, p⟩ := c
  obtain ⟨A, H, G, h⟩ := h
  cases cu with
  | none =>
    have h : SN P T lng D A H G ms σ p := h
    simp [h.2.2.1]
  | some m =>
    obtain ⟨g, M, h1, h2⟩ := (h : SM P T lng D A H G ms m σ p)
    simp [h1.2.1]
def FQ (P : xP) (T : xT) (lng : Bool) (D : Nat) (o : xO Int32) (σ' : xS) : Except Nat (List xMod) → Prop
  | .error f => o = some (.inl (nI f), σ') ∧ CP P T σ' f
  | .ok ms => o = dm_X8_faultOf_p46 P (rdA P lng) (some D) σ' ∧ ∃ A H G, SN P T lng D A H G ms σ' T.2
theorem cw_faultL {P : xP} {T : xT} {lng : Bool} {D : Nat} : ∀ (r k n : Nat) (c : xCur) (σ : xS), k + r = 1001 → r < n → k ≤ c.2.2 → SX P T lng D c σ → KX T lng c → Rm P σ (60 + 50 * (T.2 - c.2.2)) → ∃ σ', FD P lng D (60 + 50 * (T.2 - c.2.2)) σ σ' ∧ FQ P T lng D (dm_X8_faultOf_L12 P (rdA P lng) n (some D) (nI k) σ) σ' (sp_text T lng r c) := by
  intro r
  induction r with
  | zero =>
    intro k n c σ hk hn hp h hX hR
    have := hX.1
    have := h.cp.tv.1
    omega
  | succ r ih =>
    intro k n c σ hk hn hp h hX hR
    obtain ⟨n, rfl⟩ : ∃ m, n = m + 1 := ⟨n - 1, by omega⟩
    have C := h.cp
    have ci := C.ci
    have hT := C.tv
    have k1 : ¬ 1000 < k := by omega
    have rk := rd_K ci lng
    have rr := rd_R ci lng
    have ae := cw_isAtEnd C
    have hple := hX.1
    -- a piece, and what comes behind it
    have go : ¬ (c.2.1 = none ∧ T.2 ≤ c.2.2) → ∃ σ', FD P lng D (60 + 50 * (T.2 - c.2.2)) σ σ' ∧ FQ P T lng D (dm_X8_faultOf_p36 P (dm_X8_faultOf_L12 P (rdA P lng) n) (rdA P lng) (some D) (nI k) σ) σ' (sp_text T lng (r + 1) c) := by
      intro hne
      have q := cw_piece h hX (hR.mono)
      simp only [sp_text]
      rw [if_neg hne]
      unfold dm_X8_faultOf_p36
      simp only [rk, ck_T]
      cases e : sp_piece T lng c with
      | error f =>
        rw [e] at q
        obtain ⟨s, q1, q2⟩ := q
        have Cs := q2.2
        have cis := Cs.ci
        have pl := cw_place Cs
        refine ⟨s, (FD.refl P lng D σ).trans q2.1 (by omega), ?_, Cs⟩
        rw [q1, bd_r]
        simp (disch := first | assumption | omega) [ck_T, sm_s, bd_l, bd_r, lt_e, eq_self, and_self, if_true, true_and, and_true, lit_nI, nI_add, nI_mul, nI_sub, nI_clamp, nI_eq, nI_ltI, nI_leI, nN_e, nI_nN, nN_nI, bI_0, bI_1, bI_n, bool_0, bool_1, in_T, lg_cmp0, ofN_nI, ISE, rd_K cis lng, rd_R cis lng, ci_0 cis, ci_1 cis, ci_2 cis, ci_3 cis, ci_4 cis, ci_5 cis, ci_6 cis, ci_7 cis, ci_8 cis, ci_9 cis, ci_10 cis, ci_11 cis, ci_12 cis, ci_13 cis, ci_14 cis, ci_15 cis, ci_16 cis, ci_17 cis, ci_18 cis, ci_19 cis, ci_20 cis, ci_21 cis, ci_22 cis, pl]
      | ok c2 =>
        rw [e] at q
        obtain ⟨v, s, q1, q2, q3⟩ := q
        obtain ⟨k2, k3⟩ := KX.piece hT hX e
        have k4 := k2.1
        obtain ⟨σ', t1, t2⟩ := ih (k + 1) n c2 s (by omega) (by omega) (by omega) q2 k2 (hR.us q3.2.2.2 (by omega))
        refine ⟨σ', q3.trans t1 (by omega), ?_⟩
        rw [eb_ok, q1, bd_l]
        simp (disch := first | assumption | omega) [ck_T, sm_s, bd_l, bd_r, lt_e, eq_self, and_self, if_true, true_and, and_true, lit_nI, nI_add, nI_mul, nI_sub, nI_clamp, nI_eq, nI_ltI, nI_leI, nN_e, nI_nN, nN_nI, bI_0, bI_1, bI_n, bool_0, bool_1, in_T, lg_cmp0, ofN_nI]
        exact t2
    unfold dm_X8_faultOf_L12
    by_cases e1 : c.2.1 = none
    · have cu := h.cur.mpr e1
      by_cases e2 : T.2 ≤ c.2.2
      · rw [decide_eq_true e2] at ae
        refine ⟨σ, (FD.refl P lng D σ).trans (FD.refl P lng D σ) (by omega), ?_⟩
        simp only [sp_text]
        rw [if_pos (show c.2.1 = none ∧ T.2 ≤ c.2.2 from ⟨e1, e2⟩)]
        refine ⟨?_, ?_⟩
        · simp (disch := first | assumption | omega) [ck_T, sm_s, bd_l, bd_r, lt_e, eq_self, and_self, if_true, true_and, and_true, lit_nI, nI_add, nI_mul, nI_sub, nI_clamp, nI_eq, nI_ltI, nI_leI, nN_e, nI_nN, nN_nI, bI_0, bI_1, bI_n, bool_0, bool_1, in_T, lg_cmp0, ofN_nI, k1, rk, rr, cu, ci_0 ci, ci_1 ci, ci_2 ci, ci_3 ci, ci_4 ci, ci_5 ci, ci_6 ci, ci_7 ci, ci_8 ci, ci_9 ci, ci_10 ci, ci_11 ci, ci_12 ci, ci_13 ci, ci_14 ci, ci_15 ci, ci_16 ci, ci_17 ci, ci_18 ci, ci_19 ci, ci_20 ci, ci_21 ci, ci_22 ci, ae, bI_tt]
        · obtain ⟨ms, cu', p⟩ := c
          obtain ⟨A, H, G, h⟩ := h
          simp only at e1 e2
          subst e1
          have : p = T.2 := by simp only at hple; omega
          subst this
          exact ⟨A, H, G, h⟩
      · rw [decide_eq_false e2] at ae
        obtain ⟨σ', t1, t2⟩ := go (fun z => e2 z.2)
        refine ⟨σ', t1, ?_⟩
        simp (disch := first | assumption | omega) [ck_T, sm_s, bd_l, bd_r, lt_e, eq_self, and_self, if_true, true_and, and_true, lit_nI, nI_add, nI_mul, nI_sub, nI_clamp, nI_eq, nI_ltI, nI_leI, nN_e, nI_nN, nN_nI, bI_0, bI_1, bI_n, bool_0, bool_1, in_T, lg_cmp0, ofN_nI, k1, rk, rr, cu, ci_0 ci, ci_1 ci, ci_2 ci, ci_3 ci, ci_4 ci, ci_5 ci, ci_6 ci, ci_7 ci, ci_8 ci, ci_9 ci, ci_10 ci, ci_11 ci, ci_12 ci, ci_13 ci, ci_14 ci, ci_15 ci, ci_16 ci, ci_17 ci, ci_18 ci, ci_19 ci, ci_20 ci, ci_21 ci, ci_22 ci, ae, bI_ff]
        exact t2
    · have cu : ¬ σ.R 302 (rdA P lng) = none := fun z => e1 (h.cur.mp z)
      obtain ⟨σ', t1, t2⟩ := go (fun z => e1 z.1)
      refine ⟨σ', t1, ?_⟩
      simp (disch := first | assumption | omega) [ck_T, sm_s, bd_l, bd_r, lt_e, eq_self, and_self, if_true, true_and, and_true, lit_nI, nI_add, nI_mul, nI_sub, nI_clamp, nI_eq, nI_ltI, nI_leI, nN_e, nI_nN, nN_nI, bI_0, bI_1, bI_n, bool_0, bool_1, in_T, lg_cmp0, ofN_nI, k1, rk, rr, cu]
      exact t2
/-- an empty Design at D -/
def NewD (P : xP) (D : Nat) (σ : xS) : Prop := P.base + 44 ≤ D ∧ D + 2 ≤ σ.sz ∧ σ.K D = 1 ∧ σ.R 0 D = some (D + 1) ∧ σ.K (D + 1) = 27 ∧ σ.L (D + 1) = 8 ∧ σ.I 1 D = nI 0
theorem cw_faultOf {P : xP} {T : xT} {lng : Bool} {D : Nat} {σ : xS} (C : CP P T σ (lx_pos T 0)) (hD : NewD P D σ) (hR : Rm P σ (60 + 50 * T.2)) : ∃ σ', FD P lng D (60 + 50 * T.2) σ σ' ∧ FQ P T lng D (dm_X8_faultOf P (rdA P lng) (some D) σ) σ' (sp_text T lng 1001 ([], none, lx_pos T 0)) := by
  have ci := C.ci
  have rn := rd_ne P lng
  have rk := rd_K ci lng
  obtain ⟨d1, d2, d3, d4, d5, d6, d7⟩ := hD
  have C1 : CP P T (σ.setR 301 (rdA P lng) (some D)) (lx_pos T 0) := C.set3 (Or.inl rfl)
  have C2 : CP P T ((σ.setR 301 (rdA P lng) (some D)).setR 302 (rdA P lng) none) (lx_pos T 0) := C1.set3 (Or.inr rfl)
  have rk1 := rd_K C1.ci lng
  have sn : SN P T lng D (fun _ => 0) (fun _ => 0) (fun _ _ => 0) [] ((σ.setR 301 (rdA P lng) (some D)).setR 302 (rdA P lng) none) (lx_pos T 0) := by
    refine ⟨C2, by simp [q_K_setI, q_I_setI, q_J_setI, q_R_setI, q_L_setI, q_AI_setI, q_AJ_setI, q_AR_setI, q_sz_setI, q_su_setI, q_K_setJ, q_I_setJ, q_J_setJ, q_R_setJ, q_L_setJ, q_AI_setJ, q_AJ_setJ, q_AR_setJ, q_sz_setJ, q_su_setJ, q_K_setR, q_I_setR, q_J_setR, q_R_setR, q_L_setR, q_AI_setR, q_AJ_setR, q_AR_setR, q_sz_setR, q_su_setR, q_K_setAI, q_I_setAI, q_J_setAI, q_R_setAI, q_L_setAI, q_AI_setAI, q_AJ_setAI, q_AR_setAI, q_sz_setAI, q_su_setAI, q_K_setAJ, q_I_setAJ, q_J_setAJ, q_R_setAJ, q_L_setAJ, q_AI_setAJ, q_AJ_setAJ, q_AR_setAJ, q_sz_setAJ, q_su_setAJ, q_K_setAR, q_I_setAR, q_J_setAR, q_R_setAR, q_L_setAR, q_AI_setAR, q_AJ_setAR, q_AR_setAR, q_sz_setAR, q_su_setAR, q_K_newO, q_I_newO, q_J_newO, q_R_newO, q_L_newO, q_AI_newO, q_AJ_newO, q_AR_newO, q_sz_newO, q_su_newO, q_K_newA, q_I_newA, q_J_newA, q_R_newA, q_L_newA, q_AI_newA, q_AJ_newA, q_AR_newA, q_sz_newA, q_su_newA, q_K_skip, q_I_skip, q_J_skip, q_R_skip, q_L_skip, q_AI_skip, q_AJ_skip, q_AR_skip, q_sz_skip, q_su_skip, q_up2, q_up], by simp [q_K_setI, q_I_setI, q_J_setI, q_R_setI, q_L_setI, q_AI_setI, q_AJ_setI, q_AR_setI, q_sz_setI, q_su_setI, q_K_setJ, q_I_setJ, q_J_setJ, q_R_setJ, q_L_setJ, q_AI_setJ, q_AJ_setJ, q_AR_setJ, q_sz_setJ, q_su_setJ, q_K_setR, q_I_setR, q_J_setR, q_R_setR, q_L_setR, q_AI_setR, q_AJ_setR, q_AR_setR, q_sz_setR, q_su_setR, q_K_setAI, q_I_setAI, q_J_setAI, q_R_setAI, q_L_setAI, q_AI_setAI, q_AJ_setAI, q_AR_setAI, q_sz_setAI, q_su_setAI, q_K_setAJ, q_I_setAJ, q_J_setAJ, q_R_setAJ, q_L_setAJ, q_AI_setAJ, q_AJ_setAJ, q_AR_setAJ, q_sz_setAJ, q_su_setAJ, q_K_setAR, q_I_setAR, q_J_setAR, q_R_setAR, q_L_setAR, q_AI_setAR, q_AJ_setAR, q_AR_setAR, q_sz_setAR, q_su_setAR, q_K_newO, q_I_newO, q_J_newO, q_R_newO, q_L_newO, q_AI_newO, q_AJ_newO, q_AR_newO, q_sz_newO, q_su_newO, q_K_newA, q_I_newA, q_J_newA, q_R_newA, q_L_newA, q_AI_newA, q_AJ_newA, q_AR_newA, q_sz_newA, q_su_newA, q_K_skip, q_I_skip, q_J_skip, q_R_skip, q_L_skip, q_AI_skip, q_AJ_skip, q_AR_skip, q_sz_skip, q_su_skip, q_up2, q_up], d1, ⟨⟨by omega, d2, d3, ?_, d5, d6, by simp⟩, fun i m hm => by simp at hm⟩, d7, fun m hm => by simp at hm⟩
    simp [q_K_setI, q_I_setI, q_J_setI, q_R_setI, q_L_setI, q_AI_setI, q_AJ_setI, q_AR_setI, q_sz_setI, q_su_setI, q_K_setJ, q_I_setJ, q_J_setJ, q_R_setJ, q_L_setJ, q_AI_setJ, q_AJ_setJ, q_AR_setJ, q_sz_setJ, q_su_setJ, q_K_setR, q_I_setR, q_J_setR, q_R_setR, q_L_setR, q_AI_setR, q_AJ_setR, q_AR_setR, q_sz_setR, q_su_setR, q_K_setAI, q_I_setAI, q_J_setAI, q_R_setAI, q_L_setAI, q_AI_setAI, q_AJ_setAI, q_AR_setAI, q_sz_setAI, q_su_setAI, q_K_setAJ, q_I_setAJ, q_J_setAJ, q_R_setAJ, q_L_setAJ, q_AI_setAJ, q_AJ_setAJ, q_AR_setAJ, q_sz_setAJ, q_su_setAJ, q_K_setAR, q_I_setAR, q_J_setAR, q_R_setAR, q_L_setAR, q_AI_setAR, q_AJ_setAR, q_AR_setAR, q_sz_setAR, q_su_setAR, q_K_newO, q_I_newO, q_J_newO, q_R_newO, q_L_newO, q_AI_newO, q_AJ_newO, q_AR_newO, q_sz_newO, q_su_newO, q_K_newA, q_I_newA, q_J_newA, q_R_newA, q_L_newA, q_AI_newA, q_AJ_newA, q_AR_newA, q_sz_newA, q_su_newA, q_K_skip, q_I_skip, q_J_skip, q_R_skip, q_L_skip, q_AI_skip, q_AJ_skip, q_AR_skip, q_sz_skip, q_su_skip, q_up2, q_up, d4]
  have fd : FD P lng D 0 σ ((σ.setR 301 (rdA P lng) (some D)).setR 302 (rdA P lng) none) := by
    refine ⟨fun b _ _ hb => ⟨rfl, rfl, fun _ => rfl, fun _ => rfl, fun f => ?_, fun _ => rfl, fun _ => rfl, fun _ => rfl⟩, ⟨rfl, fun _ _ => rfl, fun f => ?_⟩, ⟨rfl, ?_⟩, Us.refl _⟩
    · simp [q_K_setI, q_I_setI, q_J_setI, q_R_setI, q_L_setI, q_AI_setI, q_AJ_setI, q_AR_setI, q_sz_setI, q_su_setI, q_K_setJ, q_I_setJ, q_J_setJ, q_R_setJ, q_L_setJ, q_AI_setJ, q_AJ_setJ, q_AR_setJ, q_sz_setJ, q_su_setJ, q_K_setR, q_I_setR, q_J_setR, q_R_setR, q_L_setR, q_AI_setR, q_AJ_setR, q_AR_setR, q_sz_setR, q_su_setR, q_K_setAI, q_I_setAI, q_J_setAI, q_R_setAI, q_L_setAI, q_AI_setAI, q_AJ_setAI, q_AR_setAI, q_sz_setAI, q_su_setAI, q_K_setAJ, q_I_setAJ, q_J_setAJ, q_R_setAJ, q_L_setAJ, q_AI_setAJ, q_AJ_setAJ, q_AR_setAJ, q_sz_setAJ, q_su_setAJ, q_K_setAR, q_I_setAR, q_J_setAR, q_R_setAR, q_L_setAR, q_AI_setAR, q_AJ_setAR, q_AR_setAR, q_sz_setAR, q_su_setAR, q_K_newO, q_I_newO, q_J_newO, q_R_newO, q_L_newO, q_AI_newO, q_AJ_newO, q_AR_newO, q_sz_newO, q_su_newO, q_K_newA, q_I_newA, q_J_newA, q_R_newA, q_L_newA, q_AI_newA, q_AJ_newA, q_AR_newA, q_sz_newA, q_su_newA, q_K_skip, q_I_skip, q_J_skip, q_R_skip, q_L_skip, q_AI_skip, q_AJ_skip, q_AR_skip, q_sz_skip, q_su_skip, q_up2, q_up, hb]
    · have : ¬ P.base + 1 = rdA P lng := by omega
      simp [q_K_setI, q_I_setI, q_J_setI, q_R_setI, q_L_setI, q_AI_setI, q_AJ_setI, q_AR_setI, q_sz_setI, q_su_setI, q_K_setJ, q_I_setJ, q_J_setJ, q_R_setJ, q_L_setJ, q_AI_setJ, q_AJ_setJ, q_AR_setJ, q_sz_setJ, q_su_setJ, q_K_setR, q_I_setR, q_J_setR, q_R_setR, q_L_setR, q_AI_setR, q_AJ_setR, q_AR_setR, q_sz_setR, q_su_setR, q_K_setAI, q_I_setAI, q_J_setAI, q_R_setAI, q_L_setAI, q_AI_setAI, q_AJ_setAI, q_AR_setAI, q_sz_setAI, q_su_setAI, q_K_setAJ, q_I_setAJ, q_J_setAJ, q_R_setAJ, q_L_setAJ, q_AI_setAJ, q_AJ_setAJ, q_AR_setAJ, q_sz_setAJ, q_su_setAJ, q_K_setAR, q_I_setAR, q_J_setAR, q_R_setAR, q_L_setAR, q_AI_setAR, q_AJ_setAR, q_AR_setAR, q_sz_setAR, q_su_setAR, q_K_newO, q_I_newO, q_J_newO, q_R_newO, q_L_newO, q_AI_newO, q_AJ_newO, q_AR_newO, q_sz_newO, q_su_newO, q_K_newA, q_I_newA, q_J_newA, q_R_newA, q_L_newA, q_AI_newA, q_AJ_newA, q_AR_newA, q_sz_newA, q_su_newA, q_K_skip, q_I_skip, q_J_skip, q_R_skip, q_L_skip, q_AI_skip, q_AJ_skip, q_AR_skip, q_sz_skip, q_su_skip, q_up2, q_up, this]
    · simp [q_K_setI, q_I_setI, q_J_setI, q_R_setI, q_L_setI, q_AI_setI, q_AJ_setI, q_AR_setI, q_sz_setI, q_su_setI, q_K_setJ, q_I_setJ, q_J_setJ, q_R_setJ, q_L_setJ, q_AI_setJ, q_AJ_setJ, q_AR_setJ, q_sz_setJ, q_su_setJ, q_K_setR, q_I_setR, q_J_setR, q_R_setR, q_L_setR, q_AI_setR, q_AJ_setR, q_AR_setR, q_sz_setR, q_su_setR, q_K_setAI, q_I_setAI, q_J_setAI, q_R_setAI, q_L_setAI, q_AI_setAI, q_AJ_setAI, q_AR_setAI, q_sz_setAI, q_su_setAI, q_K_setAJ, q_I_setAJ, q_J_setAJ, q_R_setAJ, q_L_setAJ, q_AI_setAJ, q_AJ_setAJ, q_AR_setAJ, q_sz_setAJ, q_su_setAJ, q_K_setAR, q_I_setAR, q_J_setAR, q_R_setAR, q_L_setAR, q_AI_setAR, q_AJ_setAR, q_AR_setAR, q_sz_setAR, q_su_setAR, q_K_newO, q_I_newO, q_J_newO, q_R_newO, q_L_newO, q_AI_newO, q_AJ_newO, q_AR_newO, q_sz_newO, q_su_newO, q_K_newA, q_I_newA, q_J_newA, q_R_newA, q_L_newA, q_AI_newA, q_AJ_newA, q_AR_newA, q_sz_newA, q_su_newA, q_K_skip, q_I_skip, q_J_skip, q_R_skip, q_L_skip, q_AI_skip, q_AJ_skip, q_AR_skip, q_sz_skip, q_su_skip, q_up2, q_up]
  obtain ⟨σ', t1, t2⟩ := cw_faultL (P := P) (T := T) (lng := lng) (D := D) 1001 0 P.N ([], none, lx_pos T 0) _ (by omega) (by have := ci.N; omega) (by omega) ⟨_, _, _, sn⟩ (KX.start T lng (pos_le T 0)) ((hR.us fd.2.2.2 (d := 60 + 50 * T.2)).mono (by simp only; omega))
  refine ⟨σ', fd.trans t1 (by simp only; omega), ?_⟩
  unfold dm_X8_faultOf
  have b1 : P.base ≤ rdA P lng := by omega
  simp (disch := first | assumption | omega) [ck_T, sm_s, bd_l, bd_r, lt_e, eq_self, and_self, if_true, true_and, and_true, lit_nI, nI_add, nI_mul, nI_sub, nI_clamp, nI_eq, nI_ltI, nI_leI, nN_e, nI_nN, nN_nI, bI_0, bI_1, bI_n, bool_0, bool_1, in_T, lg_cmp0, ofN_nI, rk, rk1, b1]
  exact t2
