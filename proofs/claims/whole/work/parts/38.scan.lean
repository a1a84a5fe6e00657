/-! ===== the class: scan ===== -/
/-- scan changes the words alone -/
def FS (P : xP) (σ σ' : xS) : Prop := σ'.K = σ.K ∧ σ'.L = σ.L ∧ σ'.J = σ.J ∧ σ'.R = σ.R ∧ σ'.AR = σ.AR ∧ σ'.sz = σ.sz ∧ σ'.su = σ.su ∧ (∀ f a, ¬ (a = P.base + 1 ∧ (f = 905 ∨ f = 906)) → σ'.I f a = σ.I f a) ∧ (∀ a i, a ≠ P.base + 3 → a ≠ P.base + 4 → σ'.AI a i = σ.AI a i) ∧ (∀ a i, a ≠ P.base + 5 → σ'.AJ a i = σ.AJ a i)
theorem FS.refl (P : xP) (σ : xS) : FS P σ σ := ⟨rfl, rfl, rfl, rfl, rfl, rfl, rfl, fun _ _ _ => rfl, fun _ _ _ _ => rfl, fun _ _ _ => rfl⟩
theorem FS.trans {P : xP} {σ σ' σ'' : xS} (f : FS P σ σ') (g : FS P σ' σ'') : FS P σ σ'' := by
  obtain ⟨a1, a2, a3, a4, a5, a6, a7, a8, a9, a10⟩ := f
  obtain ⟨b1, b2, b3, b4, b5, b6, b7, b8, b9, b10⟩ := g
  exact ⟨b1.trans a1, b2.trans a2, b3.trans a3, b4.trans a4, b5.trans a5, b6.trans a6, b7.trans a7, fun f a h => (b8 f a h).trans (a8 f a h), fun a i h h2 => (b9 a i h h2).trans (a9 a i h h2), fun a i h => (b10 a i h).trans (a10 a i h)⟩
theorem addw_FS (P : xP) (T : xT) (σ : xS) (k p : Nat) : FS P σ (addw P T σ k p) := by
  refine ⟨rfl, rfl, rfl, rfl, rfl, rfl, rfl, fun f a h => ?_, fun a i h h2 => ?_, fun a i h => ?_⟩
  · show x_up2 σ.I 905 (P.base + 1) _ f a = _
    unfold x_up2
    split
    · split
      · rename_i q1 q2; exact absurd ⟨q2, Or.inl q1⟩ h
      · rfl
    · rfl
  · show x_up2 (x_up2 σ.AI _ _ _) _ _ _ a i = _
    rw [x_up2_k h2, x_up2_k h]
  · show x_up2 σ.AJ _ _ _ a i = _
    rw [x_up2_k h]
theorem FS.ci {P : xP} {σ σ' : xS} (f : FS P σ σ') (C : CI P σ) : CI P σ' := by
  obtain ⟨a1, a2, a3, a4, a5, a6, a7, a8, a9, a10⟩ := f
  unfold CI CS at *
  rw [a1, a2, a4]
  refine ⟨@ci_0 P σ C, @ci_1 P σ C, @ci_2 P σ C, @ci_3 P σ C, @ci_4 P σ C, @ci_5 P σ C, @ci_6 P σ C, @ci_7 P σ C, @ci_8 P σ C, @ci_9 P σ C, @ci_10 P σ C, @ci_11 P σ C, @ci_12 P σ C, @ci_13 P σ C, @ci_14 P σ C, @ci_15 P σ C, @ci_16 P σ C, @ci_17 P σ C, @ci_18 P σ C, @ci_19 P σ C, @ci_20 P σ C, @ci_21 P σ C, @ci_22 P σ C, (@ci_s P σ C).1, fun q hq => ?_⟩
  obtain ⟨h1, h2, h3, h4⟩ := (@ci_s P σ C).2 q hq
  exact ⟨h1, h2, fun j hj => (a9 _ _ (by omega) (by omega)).trans (h3 j hj), h4⟩
theorem FS.tp {P : xP} {T : xT} {σ σ' : xS} (f : FS P σ σ') (h : TP P T σ) : TP P T σ' :=
  ⟨(f.2.2.2.2.2.2.2.1 _ _ (by omega)).trans h.1, fun i hi => (f.2.2.2.2.2.2.2.2.1 _ _ (by omega) (by omega)).trans (h.2 i hi)⟩
/-- k words are there -/
def WK (P : xP) (T : xT) (σ : xS) (k : Nat) : Prop := σ.I 905 (P.base + 1) = nI k ∧ ∀ j, j < k → lx_pos T j < T.2 ∧ σ.AI (P.base + 3) j = nI (lx_pos T j) ∧ σ.AI (P.base + 4) j = nI (lx_kind T (lx_pos T j)) ∧ σ.AJ (P.base + 5) j = lx_val T (lx_pos T j)
theorem WK.add {P : xP} {T : xT} {σ : xS} {k : Nat} (h : WK P T σ k) (hp : lx_pos T k < T.2) : WK P T (addw P T σ k (lx_pos T k)) (k + 1) := by
  refine ⟨?_, fun j hj => ?_⟩
  · unfold addw
    rw [I_setI, x_up2_self]
  · by_cases e : j = k
    · subst e
      refine ⟨hp, ?_, ?_, ?_⟩ <;> simp [addw, q_K_setI, q_I_setI, q_J_setI, q_R_setI, q_L_setI, q_AI_setI, q_AJ_setI, q_AR_setI, q_sz_setI, q_su_setI, q_K_setJ, q_I_setJ, q_J_setJ, q_R_setJ, q_L_setJ, q_AI_setJ, q_AJ_setJ, q_AR_setJ, q_sz_setJ, q_su_setJ, q_K_setR, q_I_setR, q_J_setR, q_R_setR, q_L_setR, q_AI_setR, q_AJ_setR, q_AR_setR, q_sz_setR, q_su_setR, q_K_setAI, q_I_setAI, q_J_setAI, q_R_setAI, q_L_setAI, q_AI_setAI, q_AJ_setAI, q_AR_setAI, q_sz_setAI, q_su_setAI, q_K_setAJ, q_I_setAJ, q_J_setAJ, q_R_setAJ, q_L_setAJ, q_AI_setAJ, q_AJ_setAJ, q_AR_setAJ, q_sz_setAJ, q_su_setAJ, q_K_setAR, q_I_setAR, q_J_setAR, q_R_setAR, q_L_setAR, q_AI_setAR, q_AJ_setAR, q_AR_setAR, q_sz_setAR, q_su_setAR, q_K_newO, q_I_newO, q_J_newO, q_R_newO, q_L_newO, q_AI_newO, q_AJ_newO, q_AR_newO, q_sz_newO, q_su_newO, q_K_newA, q_I_newA, q_J_newA, q_R_newA, q_L_newA, q_AI_newA, q_AJ_newA, q_AR_newA, q_sz_newA, q_su_newA, q_K_skip, q_I_skip, q_J_skip, q_R_skip, q_L_skip, q_AI_skip, q_AJ_skip, q_AR_skip, q_sz_skip, q_su_skip, q_up2, q_up]
    · obtain ⟨a1, a2, a3, a4⟩ := h.2 j (by omega)
      refine ⟨a1, ?_, ?_, ?_⟩ <;> simp [addw, q_K_setI, q_I_setI, q_J_setI, q_R_setI, q_L_setI, q_AI_setI, q_AJ_setI, q_AR_setI, q_sz_setI, q_su_setI, q_K_setJ, q_I_setJ, q_J_setJ, q_R_setJ, q_L_setJ, q_AI_setJ, q_AJ_setJ, q_AR_setJ, q_sz_setJ, q_su_setJ, q_K_setR, q_I_setR, q_J_setR, q_R_setR, q_L_setR, q_AI_setR, q_AJ_setR, q_AR_setR, q_sz_setR, q_su_setR, q_K_setAI, q_I_setAI, q_J_setAI, q_R_setAI, q_L_setAI, q_AI_setAI, q_AJ_setAI, q_AR_setAI, q_sz_setAI, q_su_setAI, q_K_setAJ, q_I_setAJ, q_J_setAJ, q_R_setAJ, q_L_setAJ, q_AI_setAJ, q_AJ_setAJ, q_AR_setAJ, q_sz_setAJ, q_su_setAJ, q_K_setAR, q_I_setAR, q_J_setAR, q_R_setAR, q_L_setAR, q_AI_setAR, q_AJ_setAR, q_AR_setAR, q_sz_setAR, q_su_setAR, q_K_newO, q_I_newO, q_J_newO, q_R_newO, q_L_newO, q_AI_newO, q_AJ_newO, q_AR_newO, q_sz_newO, q_su_newO, q_K_newA, q_I_newA, q_J_newA, q_R_newA, q_L_newA, q_AI_newA, q_AJ_newA, q_AR_newA, q_sz_newA, q_su_newA, q_K_skip, q_I_skip, q_J_skip, q_R_skip, q_L_skip, q_AI_skip, q_AJ_skip, q_AR_skip, q_sz_skip, q_su_skip, q_up2, q_up, e, a2, a3, a4]
theorem cw_scanE {P : xP} {T : xT} {σ : xS} (C : CI P σ) (hT : TV T) (h : TP P T σ) {k : Nat} (hk : k ≤ 1000) (w : WK P T σ k) (hp : lx_pos T k = T.2) : ∃ σ', dm_X10_scan_p57 P (P.base + 1) σ = some (.inl (), σ') ∧ WR P T σ' k ∧ FS P σ σ' ∧ σ'.I 906 (P.base + 1) = σ.I 906 (P.base + 1) := by
  have w1 := w.1
  have h1 := h.1
  have t1 := hT.1
  have k5 : lx_kind T T.2 = 5 := kind_5.mpr (Nat.le_refl _)
  have v5 : lx_val T T.2 = lN 0 := by unfold lx_val; rw [if_pos (Nat.le_refl _)]
  refine ⟨((σ.setAI (P.base + 3) k (nI T.2)).setAI (P.base + 4) k (nI 5)).setAJ (P.base + 5) k (lN 0), ?_, ?_, ?_, ?_⟩
  · unfold dm_X10_scan_p57
    simp (disch := first | assumption | omega) [x_chk, x_some, x_bind, x_let, lit_nI, nI_add, nI_mul, nI_sub, nI_clamp, nI_eq, nI_ltI, nI_leI, nN_e, nI_nN, nN_nI, bI_0, bI_1, bI_n, bool_0, bool_1, in_T, lg_cmp0, ofN_nI, ci_0, ci_1, ci_2, ci_3, ci_4, ci_5, ci_6, ci_7, ci_8, ci_9, ci_10, ci_11, ci_12, ci_13, ci_14, ci_15, ci_16, ci_17, ci_18, ci_19, ci_20, ci_21, ci_22, q_K_setI, q_I_setI, q_J_setI, q_R_setI, q_L_setI, q_AI_setI, q_AJ_setI, q_AR_setI, q_sz_setI, q_su_setI, q_K_setJ, q_I_setJ, q_J_setJ, q_R_setJ, q_L_setJ, q_AI_setJ, q_AJ_setJ, q_AR_setJ, q_sz_setJ, q_su_setJ, q_K_setR, q_I_setR, q_J_setR, q_R_setR, q_L_setR, q_AI_setR, q_AJ_setR, q_AR_setR, q_sz_setR, q_su_setR, q_K_setAI, q_I_setAI, q_J_setAI, q_R_setAI, q_L_setAI, q_AI_setAI, q_AJ_setAI, q_AR_setAI, q_sz_setAI, q_su_setAI, q_K_setAJ, q_I_setAJ, q_J_setAJ, q_R_setAJ, q_L_setAJ, q_AI_setAJ, q_AJ_setAJ, q_AR_setAJ, q_sz_setAJ, q_su_setAJ, q_K_setAR, q_I_setAR, q_J_setAR, q_R_setAR, q_L_setAR, q_AI_setAR, q_AJ_setAR, q_AR_setAR, q_sz_setAR, q_su_setAR, q_K_newO, q_I_newO, q_J_newO, q_R_newO, q_L_newO, q_AI_newO, q_AJ_newO, q_AR_newO, q_sz_newO, q_su_newO, q_K_newA, q_I_newA, q_J_newA, q_R_newA, q_L_newA, q_AI_newA, q_AJ_newA, q_AR_newA, q_sz_newA, q_su_newA, q_K_skip, q_I_skip, q_J_skip, q_R_skip, q_L_skip, q_AI_skip, q_AJ_skip, q_AR_skip, q_sz_skip, q_su_skip, w1, h1, dlt_T]
    rfl
  · refine ⟨hk, w1, fun j hj => ?_, hp, fun j hj => (w.2 j hj).1⟩
    by_cases e : j = k
    · subst e
      rw [hp, k5, v5]
      refine ⟨?_, ?_, ?_⟩ <;> simp [q_K_setI, q_I_setI, q_J_setI, q_R_setI, q_L_setI, q_AI_setI, q_AJ_setI, q_AR_setI, q_sz_setI, q_su_setI, q_K_setJ, q_I_setJ, q_J_setJ, q_R_setJ, q_L_setJ, q_AI_setJ, q_AJ_setJ, q_AR_setJ, q_sz_setJ, q_su_setJ, q_K_setR, q_I_setR, q_J_setR, q_R_setR, q_L_setR, q_AI_setR, q_AJ_setR, q_AR_setR, q_sz_setR, q_su_setR, q_K_setAI, q_I_setAI, q_J_setAI, q_R_setAI, q_L_setAI, q_AI_setAI, q_AJ_setAI, q_AR_setAI, q_sz_setAI, q_su_setAI, q_K_setAJ, q_I_setAJ, q_J_setAJ, q_R_setAJ, q_L_setAJ, q_AI_setAJ, q_AJ_setAJ, q_AR_setAJ, q_sz_setAJ, q_su_setAJ, q_K_setAR, q_I_setAR, q_J_setAR, q_R_setAR, q_L_setAR, q_AI_setAR, q_AJ_setAR, q_AR_setAR, q_sz_setAR, q_su_setAR, q_K_newO, q_I_newO, q_J_newO, q_R_newO, q_L_newO, q_AI_newO, q_AJ_newO, q_AR_newO, q_sz_newO, q_su_newO, q_K_newA, q_I_newA, q_J_newA, q_R_newA, q_L_newA, q_AI_newA, q_AJ_newA, q_AR_newA, q_sz_newA, q_su_newA, q_K_skip, q_I_skip, q_J_skip, q_R_skip, q_L_skip, q_AI_skip, q_AJ_skip, q_AR_skip, q_sz_skip, q_su_skip, q_up2, q_up]
    · obtain ⟨a1, a2, a3, a4⟩ := w.2 j (by omega)
      refine ⟨?_, ?_, ?_⟩ <;> simp [q_K_setI, q_I_setI, q_J_setI, q_R_setI, q_L_setI, q_AI_setI, q_AJ_setI, q_AR_setI, q_sz_setI, q_su_setI, q_K_setJ, q_I_setJ, q_J_setJ, q_R_setJ, q_L_setJ, q_AI_setJ, q_AJ_setJ, q_AR_setJ, q_sz_setJ, q_su_setJ, q_K_setR, q_I_setR, q_J_setR, q_R_setR, q_L_setR, q_AI_setR, q_AJ_setR, q_AR_setR, q_sz_setR, q_su_setR, q_K_setAI, q_I_setAI, q_J_setAI, q_R_setAI, q_L_setAI, q_AI_setAI, q_AJ_setAI, q_AR_setAI, q_sz_setAI, q_su_setAI, q_K_setAJ, q_I_setAJ, q_J_setAJ, q_R_setAJ, q_L_setAJ, q_AI_setAJ, q_AJ_setAJ, q_AR_setAJ, q_sz_setAJ, q_su_setAJ, q_K_setAR, q_I_setAR, q_J_setAR, q_R_setAR, q_L_setAR, q_AI_setAR, q_AJ_setAR, q_AR_setAR, q_sz_setAR, q_su_setAR, q_K_newO, q_I_newO, q_J_newO, q_R_newO, q_L_newO, q_AI_newO, q_AJ_newO, q_AR_newO, q_sz_newO, q_su_newO, q_K_newA, q_I_newA, q_J_newA, q_R_newA, q_L_newA, q_AI_newA, q_AJ_newA, q_AR_newA, q_sz_newA, q_su_newA, q_K_skip, q_I_skip, q_J_skip, q_R_skip, q_L_skip, q_AI_skip, q_AJ_skip, q_AR_skip, q_sz_skip, q_su_skip, q_up2, q_up, e, a2, a3, a4]
  · refine ⟨rfl, rfl, rfl, rfl, rfl, rfl, rfl, fun _ _ _ => rfl, fun a i h1 h2 => ?_, fun a i h1 => ?_⟩
    · show x_up2 (x_up2 σ.AI _ _ _) _ _ _ a i = _
      rw [x_up2_k h2, x_up2_k h1]
    · show x_up2 σ.AJ _ _ _ a i = _
      rw [x_up2_k h1]
  · rfl
theorem cw_scanL {P : xP} {T : xT} (hT : TV T) : ∀ (r k n : Nat) (σ : xS), CI P σ → TP P T σ → WK P T σ k → k + r = 1000 → r < n → ∃ wc σ', dm_X10_scan_L18 P (P.base + 1) n (nI (lx_pos T k)) (nI k) σ = some (.inl (), σ') ∧ WR P T σ' wc ∧ FS P σ σ' ∧ σ'.I 906 (P.base + 1) = σ.I 906 (P.base + 1) := by
  intro r
  induction r with
  | zero =>
    intro k n σ C h w hk hn
    obtain ⟨n, rfl⟩ : ∃ m, n = m + 1 := ⟨n - 1, by omega⟩
    have pl := pos_le T k
    have pg := pos_ge T k
    have t1 := hT.1
    have hp : lx_pos T k = T.2 := by omega
    obtain ⟨σ', e1, e2, e3, e4⟩ := cw_scanE C hT h (k := k) (by omega) w hp
    refine ⟨k, σ', ?_, e2, e3, e4⟩
    unfold dm_X10_scan_L18
    simp (disch := first | assumption | omega) [x_chk, x_some, x_bind, x_let, lit_nI, nI_add, nI_mul, nI_sub, nI_clamp, nI_eq, nI_ltI, nI_leI, nN_e, nI_nN, nN_nI, bI_0, bI_1, bI_n, bool_0, bool_1, in_T, lg_cmp0, ofN_nI, dle_T, e1]
  | succ r ih =>
    intro k n σ C h w hk hn
    obtain ⟨n, rfl⟩ : ∃ m, n = m + 1 := ⟨n - 1, by omega⟩
    have pl := pos_le T k
    have t1 := hT.1
    have h1 := h.1
    have k0 : ¬ 1000 ≤ k := by omega
    by_cases hp : lx_pos T k = T.2
    · obtain ⟨σ', e1, e2, e3, e4⟩ := cw_scanE C hT h (k := k) (by omega) w hp
      refine ⟨k, σ', ?_, e2, e3, e4⟩
      unfold dm_X10_scan_L18
      simp (disch := first | assumption | omega) [x_chk, x_some, x_bind, x_let, lit_nI, nI_add, nI_mul, nI_sub, nI_clamp, nI_eq, nI_ltI, nI_leI, nN_e, nI_nN, nN_nI, bI_0, bI_1, bI_n, bool_0, bool_1, in_T, lg_cmp0, ofN_nI, ci_0, ci_1, ci_2, ci_3, ci_4, ci_5, ci_6, ci_7, ci_8, ci_9, ci_10, ci_11, ci_12, ci_13, ci_14, ci_15, ci_16, ci_17, ci_18, ci_19, ci_20, ci_21, ci_22, h1, hp, k0, e1]
    · have hp2 : lx_pos T k < T.2 := by omega
      have el := end_le hp2
      have q1 := cw_rowEnd C hT h hp2
      have q2 := cw_addWord C hT h hp2 w.1 (by omega)
      have f := addw_FS P T σ k (lx_pos T k)
      have q3 := cw_blanks (f.ci C) hT (f.tp h) (p := lx_end T (lx_pos T k)) el.2
      have en : lx_skip T (T.2 - lx_end T (lx_pos T k)) false = lx_pos T (k + 1) := by
        show _ = lx_nx T (lx_pos T k)
        unfold lx_nx
        rw [if_pos hp2]
      rw [en] at q3
      obtain ⟨wc, σ', e1, e2, e3, e4⟩ := ih (k + 1) n _ (f.ci C) (f.tp h) (w.add hp2) (by omega) (by omega)
      refine ⟨wc, σ', ?_, e2, f.trans e3, e4.trans ?_⟩
      · have hn2 : ¬ T.2 ≤ lx_pos T k := by omega
        have kk : (addw P T σ k (lx_pos T k)).K (P.base + 1) = 10 := ci_5 (f.ci C)
        unfold dm_X10_scan_L18
        simp (disch := first | assumption | omega) [x_chk, x_some, x_bind, x_let, lit_nI, nI_add, nI_mul, nI_sub, nI_clamp, nI_eq, nI_ltI, nI_leI, nN_e, nI_nN, nN_nI, bI_0, bI_1, bI_n, bool_0, bool_1, in_T, lg_cmp0, ofN_nI, ci_0, ci_1, ci_2, ci_3, ci_4, ci_5, ci_6, ci_7, ci_8, ci_9, ci_10, ci_11, ci_12, ci_13, ci_14, ci_15, ci_16, ci_17, ci_18, ci_19, ci_20, ci_21, ci_22, h1, hn2, k0, q1, q2, q3, kk, e1]
      · unfold addw
        rw [I_setI, x_up2_k (by decide)]
        rfl
theorem cw_scan {P : xP} {T : xT} {σ : xS} (C : CI P σ) (hT : TV T) (h : TP P T σ) (hs : P.base + 44 ≤ σ.sz) : ∃ σ', dm_X10_scan P (P.base + 1) σ = some (.inl (), σ') ∧ CP P T σ' (lx_pos T 0) ∧ FS P σ σ' := by
  have f : FS P σ ((σ.setI 905 (P.base + 1) (nI 0)).setI 906 (P.base + 1) (nI 0)) := by
    refine ⟨rfl, rfl, rfl, rfl, rfl, rfl, rfl, fun f a h => ?_, fun _ _ _ _ => rfl, fun _ _ _ => rfl⟩
    show x_up2 (x_up2 σ.I _ _ _) _ _ _ f a = _
    by_cases q1 : a = P.base + 1
    · rw [x_up2_k (by omega), x_up2_k (by omega)]
    · rw [x_up2_a q1, x_up2_a q1]
  have q := cw_blanks (f.ci C) hT (f.tp h) (p := 0) (by omega)
  obtain ⟨wc, σ', e1, e2, e3, e4⟩ := cw_scanL (P := P) hT 1000 0 P.N _ (f.ci C) (f.tp h) ⟨by rw [I_setI, x_up2_k (by decide), I_setI, x_up2_self], fun j hj => by omega⟩ (by omega) (by have := C.N; omega)
  refine ⟨σ', ?_, ⟨(f.trans e3).ci C, hT, ?_, wc, 0, e2, by omega, ?_, rfl⟩, f.trans e3⟩
  · unfold dm_X10_scan
    have kk := ci_5 C
    simp only [Nat.sub_zero] at q
    simp only [lit_nI] at *
    simp only [x_chk, x_let, K_setI, kk, Nat.le_add_right, and_self, if_true, q, x_bind]
    exact e1
  · rw [(f.trans e3).2.2.2.2.2.1]; exact hs
  · rw [e4, I_setI, x_up2_self]
