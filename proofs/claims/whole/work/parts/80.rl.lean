/-! ===== the reference: words ===== -/
theorem RI.setI {P : xP} {σ : xS} (h : RI P σ) {f a : Nat} {v : Int32} : RI P (σ.setI f a v) := h
theorem RI.setAI {P : xP} {σ : xS} (h : RI P σ) {a i : Nat} {v : Int32} : RI P (σ.setAI a i v) := h
/-- only the word at the cursor has changed -/
def FL (P : xP) (σ σ' : xS) : Prop := σ'.K = σ.K ∧ σ'.L = σ.L ∧ σ'.J = σ.J ∧ σ'.R = σ.R ∧ σ'.AI = σ.AI ∧ σ'.AJ = σ.AJ ∧ σ'.AR = σ.AR ∧ σ'.sz = σ.sz ∧ σ'.su = σ.su ∧ ∀ f a, ¬ (a = P.base + 11 ∧ 1134 ≤ f ∧ f ≤ 1139) → σ'.I f a = σ.I f a
theorem FL.refl (P : xP) (σ : xS) : FL P σ σ := ⟨rfl, rfl, rfl, rfl, rfl, rfl, rfl, rfl, rfl, fun _ _ _ => rfl⟩
theorem FL.trans {P : xP} {σ σ' σ'' : xS} (h : FL P σ σ') (k : FL P σ' σ'') : FL P σ σ'' := by
  obtain ⟨a1, a2, a3, a4, a5, a6, a7, a8, a9, a10⟩ := h
  obtain ⟨b1, b2, b3, b4, b5, b6, b7, b8, b9, b10⟩ := k
  exact ⟨b1.trans a1, b2.trans a2, b3.trans a3, b4.trans a4, b5.trans a5, b6.trans a6, b7.trans a7, b8.trans a8, b9.trans a9, fun f a hf => (b10 f a hf).trans (a10 f a hf)⟩
theorem FL.set {P : xP} {σ : xS} {f : Nat} {v : Int32} (h1 : 1134 ≤ f) (h2 : f ≤ 1139) : FL P σ (σ.setI f (P.base + 11) v) := by
  refine ⟨rfl, rfl, rfl, rfl, rfl, rfl, rfl, rfl, rfl, fun g a hg => ?_⟩
  by_cases e : a = P.base + 11
  · have : ¬ g = f := by
      intro z
      subst z
      exact hg ⟨e, h1, h2⟩
    simp [q_K_setI, q_I_setI, q_J_setI, q_R_setI, q_L_setI, q_AI_setI, q_AJ_setI, q_AR_setI, q_sz_setI, q_su_setI, q_K_setJ, q_I_setJ, q_J_setJ, q_R_setJ, q_L_setJ, q_AI_setJ, q_AJ_setJ, q_AR_setJ, q_sz_setJ, q_su_setJ, q_K_setR, q_I_setR, q_J_setR, q_R_setR, q_L_setR, q_AI_setR, q_AJ_setR, q_AR_setR, q_sz_setR, q_su_setR, q_K_setAI, q_I_setAI, q_J_setAI, q_R_setAI, q_L_setAI, q_AI_setAI, q_AJ_setAI, q_AR_setAI, q_sz_setAI, q_su_setAI, q_K_setAJ, q_I_setAJ, q_J_setAJ, q_R_setAJ, q_L_setAJ, q_AI_setAJ, q_AJ_setAJ, q_AR_setAJ, q_sz_setAJ, q_su_setAJ, q_K_setAR, q_I_setAR, q_J_setAR, q_R_setAR, q_L_setAR, q_AI_setAR, q_AJ_setAR, q_AR_setAR, q_sz_setAR, q_su_setAR, q_K_newO, q_I_newO, q_J_newO, q_R_newO, q_L_newO, q_AI_newO, q_AJ_newO, q_AR_newO, q_sz_newO, q_su_newO, q_K_newA, q_I_newA, q_J_newA, q_R_newA, q_L_newA, q_AI_newA, q_AJ_newA, q_AR_newA, q_sz_newA, q_su_newA, q_K_skip, q_I_skip, q_J_skip, q_R_skip, q_L_skip, q_AI_skip, q_AJ_skip, q_AR_skip, q_sz_skip, q_su_skip, q_up2, q_up, this]
  · simp [q_K_setI, q_I_setI, q_J_setI, q_R_setI, q_L_setI, q_AI_setI, q_AJ_setI, q_AR_setI, q_sz_setI, q_su_setI, q_K_setJ, q_I_setJ, q_J_setJ, q_R_setJ, q_L_setJ, q_AI_setJ, q_AJ_setJ, q_AR_setJ, q_sz_setJ, q_su_setJ, q_K_setR, q_I_setR, q_J_setR, q_R_setR, q_L_setR, q_AI_setR, q_AJ_setR, q_AR_setR, q_sz_setR, q_su_setR, q_K_setAI, q_I_setAI, q_J_setAI, q_R_setAI, q_L_setAI, q_AI_setAI, q_AJ_setAI, q_AR_setAI, q_sz_setAI, q_su_setAI, q_K_setAJ, q_I_setAJ, q_J_setAJ, q_R_setAJ, q_L_setAJ, q_AI_setAJ, q_AJ_setAJ, q_AR_setAJ, q_sz_setAJ, q_su_setAJ, q_K_setAR, q_I_setAR, q_J_setAR, q_R_setAR, q_L_setAR, q_AI_setAR, q_AJ_setAR, q_AR_setAR, q_sz_setAR, q_su_setAR, q_K_newO, q_I_newO, q_J_newO, q_R_newO, q_L_newO, q_AI_newO, q_AJ_newO, q_AR_newO, q_sz_newO, q_su_newO, q_K_newA, q_I_newA, q_J_newA, q_R_newA, q_L_newA, q_AI_newA, q_AJ_newA, q_AR_newA, q_sz_newA, q_su_newA, q_K_skip, q_I_skip, q_J_skip, q_R_skip, q_L_skip, q_AI_skip, q_AJ_skip, q_AR_skip, q_sz_skip, q_su_skip, q_up2, q_up, e]
theorem FL.ri {P : xP} {σ σ' : xS} (f : FL P σ σ') (h : RI P σ) : RI P σ' := by
  unfold RI at h ⊢
  rw [f.1, f.2.1, f.2.2.2.1]
  exact h
/-- the text T lies in the half hv -/
def TX (P : xP) (T : xT) (hv : Nat) (σ : xS) : Prop := RI P σ ∧ TV T ∧ hv ≤ 1 ∧ σ.I 1140 (P.base + 11) = nI hv ∧ σ.AI (P.base + 14) hv = nI T.2 ∧ (∀ i, i < T.2 → σ.AI (P.base + 13) (1000 * hv + i) = nI (T.1 i)) ∧ 5000 ≤ P.N
theorem TX.fl {P : xP} {T : xT} {hv : Nat} {σ σ' : xS} (h : TX P T hv σ) (f : FL P σ σ') : TX P T hv σ' := by
  obtain ⟨h1, h2, h3, h4, h5, h6, h7⟩ := h
  refine ⟨f.ri h1, h2, h3, (f.2.2.2.2.2.2.2.2.2 1140 _ (by omega)).trans h4, by rw [f.2.2.2.2.1]; exact h5, fun i hi => by rw [f.2.2.2.2.1]; exact h6 i hi, h7⟩
def sgn (T : xT) (k : Nat) : Nat := if k < T.2 then T.1 k else 0
theorem sgn_lt {T : xT} (h : TV T) (k : Nat) : sgn T k < 128 := by
  unfold sgn
  split
  · rename_i q; exact (h.c q).2
  · omega
theorem rw_sign {P : xP} {T : xT} {hv : Nat} {σ : xS} (h : TX P T hv σ) {k : Nat} (hk : k < 2000) : dm_X12_sign P (P.base + 11) (nI k) σ = some (.inl (nI (sgn T k)), σ) := by
  obtain ⟨h1, h2, h3, h4, h5, h6, h7⟩ := h
  have t1 := h2.1
  have a0 := ri_0 h1
  have a4 := ri_4 h1
  have a5 := ri_5 h1
  have a6 := ri_6 h1
  have a7 := ri_7 h1
  have a8 := ri_8 h1
  have a9 := ri_9 h1
  unfold dm_X12_sign dm_X12_sign_p32 sgn
  by_cases e : k < T.2
  · rw [if_pos e]
    have e1 : ¬ T.2 ≤ k := by omega
    have h6' := h6 k e
    simp (disch := first | assumption | omega) [ck_T, sm_s, bd_l, bd_r, lt_e, eq_self, and_self, if_true, true_and, and_true, lit_nI, nI_add, nI_mul, nI_sub, nI_clamp, nI_eq, nI_ltI, nI_leI, nN_e, nI_nN, nN_nI, bI_0, bI_1, bI_n, bool_0, bool_1, in_T, lg_cmp0, ofN_nI, a0, a4, a5, a6, a7, a8, a9, h4, h5, h6', e1, x_in, dlt_T]
  · rw [if_neg e]
    have e1 : T.2 ≤ k := by omega
    simp (disch := first | assumption | omega) [ck_T, sm_s, bd_l, bd_r, lt_e, eq_self, and_self, if_true, true_and, and_true, lit_nI, nI_add, nI_mul, nI_sub, nI_clamp, nI_eq, nI_ltI, nI_leI, nN_e, nI_nN, nN_nI, bI_0, bI_1, bI_n, bool_0, bool_1, in_T, lg_cmp0, ofN_nI, a0, a4, a5, a6, a7, a8, a9, h4, h5, e1, x_in, dlt_T]
theorem rw_ok {P : xP} {σ : xS} (h : RI P σ) (ha : σ.I 1139 (P.base + 11) = nN) : dm_X12_ok P (P.base + 11) σ = some (.inl (nI 1), σ) := by
  have a0 := ri_0 h
  unfold dm_X12_ok dm_X12_ok_p13
  simp (disch := first | assumption | omega) [ck_T, sm_s, bd_l, bd_r, lt_e, eq_self, and_self, if_true, true_and, and_true, lit_nI, nI_add, nI_mul, nI_sub, nI_clamp, nI_eq, nI_ltI, nI_leI, nN_e, nI_nN, nN_nI, bI_0, bI_1, bI_n, bool_0, bool_1, in_T, lg_cmp0, ofN_nI, a0, ha]
theorem rd_ok {P : xP} {σ : xS} (h : RI P σ) {f : Nat} (hf : f < 2 ^ 31) (ha : σ.I 1139 (P.base + 11) = nI f) : dm_X12_ok P (P.base + 11) σ = some (.inl (nI 0), σ) := by
  have a0 := ri_0 h
  unfold dm_X12_ok dm_X12_ok_p13
  simp (disch := first | assumption | omega) [ck_T, sm_s, bd_l, bd_r, lt_e, eq_self, and_self, if_true, true_and, and_true, lit_nI, nI_add, nI_mul, nI_sub, nI_clamp, nI_eq, nI_ltI, nI_leI, nN_e, nI_nN, nN_nI, bI_0, bI_1, bI_n, bool_0, bool_1, in_T, lg_cmp0, ofN_nI, a0, ha]
theorem rw_isDigit (P : xP) (σ : xS) {c : Nat} (h : c < 2 ^ 31) : dm_X12_isDigit P (nI c) σ = some (.inl (bI (lx_D c)), σ) := by
  unfold dm_X12_isDigit dm_X12_isDigit_p16 dm_X12_isDigit_p17 lx_D
  by_cases e1 : c < 48
  · have e2 : ¬ 48 ≤ c := by omega
    simp (disch := first | assumption | omega) [ck_T, sm_s, bd_l, bd_r, lt_e, eq_self, and_self, if_true, true_and, and_true, lit_nI, nI_add, nI_mul, nI_sub, nI_clamp, nI_eq, nI_ltI, nI_leI, nN_e, nI_nN, nN_nI, bI_0, bI_1, bI_n, bool_0, bool_1, in_T, lg_cmp0, ofN_nI, e1, e2, bI_ff]
  · have e2 : 48 ≤ c := by omega
    by_cases e3 : c ≤ 57
    · simp (disch := first | assumption | omega) [ck_T, sm_s, bd_l, bd_r, lt_e, eq_self, and_self, if_true, true_and, and_true, lit_nI, nI_add, nI_mul, nI_sub, nI_clamp, nI_eq, nI_ltI, nI_leI, nN_e, nI_nN, nN_nI, bI_0, bI_1, bI_n, bool_0, bool_1, in_T, lg_cmp0, ofN_nI, e1, e2, e3, bI_tt]
    · simp (disch := first | assumption | omega) [ck_T, sm_s, bd_l, bd_r, lt_e, eq_self, and_self, if_true, true_and, and_true, lit_nI, nI_add, nI_mul, nI_sub, nI_clamp, nI_eq, nI_ltI, nI_leI, nN_e, nI_nN, nN_nI, bI_0, bI_1, bI_n, bool_0, bool_1, in_T, lg_cmp0, ofN_nI, e1, e2, e3, bI_ff]
theorem rw_isLetter (P : xP) (σ : xS) {c : Nat} (h : c < 2 ^ 31) : dm_X12_isLetter P (nI c) σ = some (.inl (bI (lx_L c)), σ) := by
  unfold dm_X12_isLetter dm_X12_isLetter_p12 dm_X12_isLetter_p24 dm_X12_isLetter_p30 dm_X12_isLetter_p35 lx_L
  by_cases e1 : c < 97 <;> by_cases e2 : c ≤ 122 <;> by_cases e3 : c < 65 <;> by_cases e4 : c ≤ 90 <;> by_cases e5 : c = 95 <;>
    first
    | (exfalso; omega)
    | (have f1 : (97 ≤ c) = ¬ c < 97 := by apply propext; omega
       have f2 : (65 ≤ c) = ¬ c < 65 := by apply propext; omega
       simp (disch := first | assumption | omega) [ck_T, sm_s, bd_l, bd_r, lt_e, eq_self, and_self, if_true, true_and, and_true, lit_nI, nI_add, nI_mul, nI_sub, nI_clamp, nI_eq, nI_ltI, nI_leI, nN_e, nI_nN, nN_nI, bI_0, bI_1, bI_n, bool_0, bool_1, in_T, lg_cmp0, ofN_nI, e1, e2, e3, e4, e5, f1, f2, bI_tt, bI_ff])
theorem rw_comL {P : xP} {T : xT} {hv : Nat} {k10 : Int32 → xS → xO Unit} {v1 : Int32} : ∀ (r n : Nat) (σ : xS), r ≤ T.2 → r < n → TX P T hv σ → σ.I 1134 (P.base + 11) = nI (T.2 - r) → ∃ σ' r', dm_X12_next_L58 P k10 (P.base + 11) n v1 σ = k10 v1 σ' ∧ FL P σ σ' ∧ σ'.I 1139 (P.base + 11) = σ.I 1139 (P.base + 11) ∧ r' ≤ r ∧ σ'.I 1134 (P.base + 11) = nI (T.2 - r') ∧ lx_skip T r true = lx_skip T r' false ∧ (0 < r → ¬ T.1 (T.2 - r) = 10 → r' < r) := by
  intro r
  induction r with
  | zero =>
    intro n σ hr hn h hat
    obtain ⟨n, rfl⟩ : ∃ m, n = m + 1 := ⟨n - 1, by omega⟩
    obtain ⟨h1, h2, h3, h4, h5, h6, h7⟩ := id h
    have t1 := h2.1
    refine ⟨σ, 0, ?_, FL.refl P σ, rfl, Nat.le_refl _, hat, rfl, fun z => by omega⟩
    have a0 := ri_0 h1
    have a7 := ri_7 h1
    have a8 := ri_8 h1
    have a9 := ri_9 h1
    unfold dm_X12_next_L58
    simp (disch := first | assumption | omega) [ck_T, sm_s, bd_l, bd_r, lt_e, eq_self, and_self, if_true, true_and, and_true, lit_nI, nI_add, nI_mul, nI_sub, nI_clamp, nI_eq, nI_ltI, nI_leI, nN_e, nI_nN, nN_nI, bI_0, bI_1, bI_n, bool_0, bool_1, in_T, lg_cmp0, ofN_nI, a0, a7, a8, a9, h4, h5, hat, x_in, dlt_T]
  | succ r ih =>
    intro n σ hr hn h hat
    obtain ⟨n, rfl⟩ : ∃ m, n = m + 1 := ⟨n - 1, by omega⟩
    obtain ⟨h1, h2, h3, h4, h5, h6, h7⟩ := id h
    have t1 := h2.1
    have a0 := ri_0 h1
    have a7 := ri_7 h1
    have a8 := ri_8 h1
    have a9 := ri_9 h1
    have sg := rw_sign h (k := T.2 - (r + 1)) (by omega)
    have sgv : sgn T (T.2 - (r + 1)) = T.1 (T.2 - (r + 1)) := if_pos (by omega)
    rw [sgv] at sg
    have cc := (h2.c (show T.2 - (r + 1) < T.2 by omega)).2
    have e1 : ¬ T.2 ≤ T.2 - (r + 1) := by omega
    by_cases e : T.1 (T.2 - (r + 1)) = 10
    · refine ⟨σ, r + 1, ?_, FL.refl P σ, rfl, Nat.le_refl _, hat, ?_, fun _ z => absurd e z⟩
      · unfold dm_X12_next_L58
        simp (disch := first | assumption | omega) [ck_T, sm_s, bd_l, bd_r, lt_e, eq_self, and_self, if_true, true_and, and_true, lit_nI, nI_add, nI_mul, nI_sub, nI_clamp, nI_eq, nI_ltI, nI_leI, nN_e, nI_nN, nN_nI, bI_0, bI_1, bI_n, bool_0, bool_1, in_T, lg_cmp0, ofN_nI, a0, a7, a8, a9, h4, h5, hat, x_in, dlt_T, e1, sg, e]
      · simp only [lx_skip, e, if_true]
    · have f1 : FL P σ (σ.setI 1134 (P.base + 11) (nI (T.2 - r))) := FL.set (by omega) (by omega)
      obtain ⟨σ', r', u1, u2, u3, u4, u5, u6, u7⟩ := ih n (σ.setI 1134 (P.base + 11) (nI (T.2 - r))) (by omega) (by omega) (h.fl f1) (by simp [q_K_setI, q_I_setI, q_J_setI, q_R_setI, q_L_setI, q_AI_setI, q_AJ_setI, q_AR_setI, q_sz_setI, q_su_setI, q_K_setJ, q_I_setJ, q_J_setJ, q_R_setJ, q_L_setJ, q_AI_setJ, q_AJ_setJ, q_AR_setJ, q_sz_setJ, q_su_setJ, q_K_setR, q_I_setR, q_J_setR, q_R_setR, q_L_setR, q_AI_setR, q_AJ_setR, q_AR_setR, q_sz_setR, q_su_setR, q_K_setAI, q_I_setAI, q_J_setAI, q_R_setAI, q_L_setAI, q_AI_setAI, q_AJ_setAI, q_AR_setAI, q_sz_setAI, q_su_setAI, q_K_setAJ, q_I_setAJ, q_J_setAJ, q_R_setAJ, q_L_setAJ, q_AI_setAJ, q_AJ_setAJ, q_AR_setAJ, q_sz_setAJ, q_su_setAJ, q_K_setAR, q_I_setAR, q_J_setAR, q_R_setAR, q_L_setAR, q_AI_setAR, q_AJ_setAR, q_AR_setAR, q_sz_setAR, q_su_setAR, q_K_newO, q_I_newO, q_J_newO, q_R_newO, q_L_newO, q_AI_newO, q_AJ_newO, q_AR_newO, q_sz_newO, q_su_newO, q_K_newA, q_I_newA, q_J_newA, q_R_newA, q_L_newA, q_AI_newA, q_AJ_newA, q_AR_newA, q_sz_newA, q_su_newA, q_K_skip, q_I_skip, q_J_skip, q_R_skip, q_L_skip, q_AI_skip, q_AJ_skip, q_AR_skip, q_sz_skip, q_su_skip, q_up2, q_up])
      refine ⟨σ', r', ?_, f1.trans u2, ?_, by omega, u5, ?_, fun _ _ => by omega⟩
      · unfold dm_X12_next_L58
        rw [← u1]
        have e2 : T.2 - (r + 1) + 1 = T.2 - r := by omega
        simp (disch := first | assumption | omega) [ck_T, sm_s, bd_l, bd_r, lt_e, eq_self, and_self, if_true, true_and, and_true, lit_nI, nI_add, nI_mul, nI_sub, nI_clamp, nI_eq, nI_ltI, nI_leI, nN_e, nI_nN, nN_nI, bI_0, bI_1, bI_n, bool_0, bool_1, in_T, lg_cmp0, ofN_nI, a0, a7, a8, a9, h4, h5, hat, x_in, dlt_T, dle_T, e1, sg, e, e2]
      · rw [u3]; simp [q_K_setI, q_I_setI, q_J_setI, q_R_setI, q_L_setI, q_AI_setI, q_AJ_setI, q_AR_setI, q_sz_setI, q_su_setI, q_K_setJ, q_I_setJ, q_J_setJ, q_R_setJ, q_L_setJ, q_AI_setJ, q_AJ_setJ, q_AR_setJ, q_sz_setJ, q_su_setJ, q_K_setR, q_I_setR, q_J_setR, q_R_setR, q_L_setR, q_AI_setR, q_AJ_setR, q_AR_setR, q_sz_setR, q_su_setR, q_K_setAI, q_I_setAI, q_J_setAI, q_R_setAI, q_L_setAI, q_AI_setAI, q_AJ_setAI, q_AR_setAI, q_sz_setAI, q_su_setAI, q_K_setAJ, q_I_setAJ, q_J_setAJ, q_R_setAJ, q_L_setAJ, q_AI_setAJ, q_AJ_setAJ, q_AR_setAJ, q_sz_setAJ, q_su_setAJ, q_K_setAR, q_I_setAR, q_J_setAR, q_R_setAR, q_L_setAR, q_AI_setAR, q_AJ_setAR, q_AR_setAR, q_sz_setAR, q_su_setAR, q_K_newO, q_I_newO, q_J_newO, q_R_newO, q_L_newO, q_AI_newO, q_AJ_newO, q_AR_newO, q_sz_newO, q_su_newO, q_K_newA, q_I_newA, q_J_newA, q_R_newA, q_L_newA, q_AI_newA, q_AJ_newA, q_AR_newA, q_sz_newA, q_su_newA, q_K_skip, q_I_skip, q_J_skip, q_R_skip, q_L_skip, q_AI_skip, q_AJ_skip, q_AR_skip, q_sz_skip, q_su_skip, q_up2, q_up]
      · rw [← u6]
        simp only [lx_skip, e, if_false]
        simp
