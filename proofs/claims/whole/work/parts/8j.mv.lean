/-! ===== the reference: a port is put before the wires ===== -/
def mvN (P : xP) (σ : xS) (a b : Nat) : xS := (((σ.setAI (P.base + 19) b (σ.AI (P.base + 19) a)).setAI (P.base + 20) b (σ.AI (P.base + 20) a)).setAI (P.base + 21) b (σ.AI (P.base + 21) a)).setAI (P.base + 23) b (σ.AI (P.base + 23) a)
theorem mvN_AI {P : xP} {σ : xS} {a b c i : Nat} (h : ¬ ((c = 19 ∨ c = 20 ∨ c = 21 ∨ c = 23) ∧ i = b)) : (mvN P σ a b).AI (P.base + c) i = σ.AI (P.base + c) i := by
  unfold mvN
  simp only [q_K_setI, q_I_setI, q_J_setI, q_R_setI, q_L_setI, q_AI_setI, q_AJ_setI, q_AR_setI, q_sz_setI, q_su_setI, q_K_setJ, q_I_setJ, q_J_setJ, q_R_setJ, q_L_setJ, q_AI_setJ, q_AJ_setJ, q_AR_setJ, q_sz_setJ, q_su_setJ, q_K_setR, q_I_setR, q_J_setR, q_R_setR, q_L_setR, q_AI_setR, q_AJ_setR, q_AR_setR, q_sz_setR, q_su_setR, q_K_setAI, q_I_setAI, q_J_setAI, q_R_setAI, q_L_setAI, q_AI_setAI, q_AJ_setAI, q_AR_setAI, q_sz_setAI, q_su_setAI, q_K_setAJ, q_I_setAJ, q_J_setAJ, q_R_setAJ, q_L_setAJ, q_AI_setAJ, q_AJ_setAJ, q_AR_setAJ, q_sz_setAJ, q_su_setAJ, q_K_setAR, q_I_setAR, q_J_setAR, q_R_setAR, q_L_setAR, q_AI_setAR, q_AJ_setAR, q_AR_setAR, q_sz_setAR, q_su_setAR, q_K_newO, q_I_newO, q_J_newO, q_R_newO, q_L_newO, q_AI_newO, q_AJ_newO, q_AR_newO, q_sz_newO, q_su_newO, q_K_newA, q_I_newA, q_J_newA, q_R_newA, q_L_newA, q_AI_newA, q_AJ_newA, q_AR_newA, q_sz_newA, q_su_newA, q_K_skip, q_I_skip, q_J_skip, q_R_skip, q_L_skip, q_AI_skip, q_AJ_skip, q_AR_skip, q_sz_skip, q_su_skip]
  rw [up2_ne (by omega), up2_ne (by omega), up2_ne (by omega), up2_ne (by omega)]
theorem mvN_b {P : xP} {σ : xS} {a b c : Nat} (h : c = 19 ∨ c = 20 ∨ c = 21 ∨ c = 23) : (mvN P σ a b).AI (P.base + c) b = σ.AI (P.base + c) a := by
  unfold mvN
  rcases h with rfl | rfl | rfl | rfl <;> simp [q_K_setI, q_I_setI, q_J_setI, q_R_setI, q_L_setI, q_AI_setI, q_AJ_setI, q_AR_setI, q_sz_setI, q_su_setI, q_K_setJ, q_I_setJ, q_J_setJ, q_R_setJ, q_L_setJ, q_AI_setJ, q_AJ_setJ, q_AR_setJ, q_sz_setJ, q_su_setJ, q_K_setR, q_I_setR, q_J_setR, q_R_setR, q_L_setR, q_AI_setR, q_AJ_setR, q_AR_setR, q_sz_setR, q_su_setR, q_K_setAI, q_I_setAI, q_J_setAI, q_R_setAI, q_L_setAI, q_AI_setAI, q_AJ_setAI, q_AR_setAI, q_sz_setAI, q_su_setAI, q_K_setAJ, q_I_setAJ, q_J_setAJ, q_R_setAJ, q_L_setAJ, q_AI_setAJ, q_AJ_setAJ, q_AR_setAJ, q_sz_setAJ, q_su_setAJ, q_K_setAR, q_I_setAR, q_J_setAR, q_R_setAR, q_L_setAR, q_AI_setAR, q_AJ_setAR, q_AR_setAR, q_sz_setAR, q_su_setAR, q_K_newO, q_I_newO, q_J_newO, q_R_newO, q_L_newO, q_AI_newO, q_AJ_newO, q_AR_newO, q_sz_newO, q_su_newO, q_K_newA, q_I_newA, q_J_newA, q_R_newA, q_L_newA, q_AI_newA, q_AJ_newA, q_AR_newA, q_sz_newA, q_su_newA, q_K_skip, q_I_skip, q_J_skip, q_R_skip, q_L_skip, q_AI_skip, q_AJ_skip, q_AR_skip, q_sz_skip, q_su_skip, q_up2, q_up]
theorem rw_move {P : xP} {σ : xS} {a b : Nat} (h : RI P σ) (ha : a < 256) (hb : b < 256) (ht : x_bool (σ.AI (P.base + 23) a)) (hab : a ≠ b) : dm_X12_move P (P.base + 11) (nI a) (nI b) σ = some (.inl (), mvN P σ a b) := by
  have ht' : σ.AI (P.base + 23) a = nI 0 ∨ σ.AI (P.base + 23) a = nI 1 := ht
  unfold dm_X12_move mvN
  rcases ht' with e | e
  · simp (config := { maxSteps := 2000000 }) (disch := first | assumption | omega) [ck_T, sm_s, bd_l, bd_r, lt_e, eq_self, and_self, if_true, true_and, and_true, lit_nI, nI_add, nI_mul, nI_sub, nI_clamp, nI_eq, nI_ltI, nI_leI, nN_e, nI_nN, nN_nI, bI_0, bI_1, bI_n, bool_0, bool_1, in_T, lg_cmp0, ofN_nI, q_K_setI, q_I_setI, q_J_setI, q_R_setI, q_L_setI, q_AI_setI, q_AJ_setI, q_AR_setI, q_sz_setI, q_su_setI, q_K_setJ, q_I_setJ, q_J_setJ, q_R_setJ, q_L_setJ, q_AI_setJ, q_AJ_setJ, q_AR_setJ, q_sz_setJ, q_su_setJ, q_K_setR, q_I_setR, q_J_setR, q_R_setR, q_L_setR, q_AI_setR, q_AJ_setR, q_AR_setR, q_sz_setR, q_su_setR, q_K_setAI, q_I_setAI, q_J_setAI, q_R_setAI, q_L_setAI, q_AI_setAI, q_AJ_setAI, q_AR_setAI, q_sz_setAI, q_su_setAI, q_K_setAJ, q_I_setAJ, q_J_setAJ, q_R_setAJ, q_L_setAJ, q_AI_setAJ, q_AJ_setAJ, q_AR_setAJ, q_sz_setAJ, q_su_setAJ, q_K_setAR, q_I_setAR, q_J_setAR, q_R_setAR, q_L_setAR, q_AI_setAR, q_AJ_setAR, q_AR_setAR, q_sz_setAR, q_su_setAR, q_K_newO, q_I_newO, q_J_newO, q_R_newO, q_L_newO, q_AI_newO, q_AJ_newO, q_AR_newO, q_sz_newO, q_su_newO, q_K_newA, q_I_newA, q_J_newA, q_R_newA, q_L_newA, q_AI_newA, q_AJ_newA, q_AR_newA, q_sz_newA, q_su_newA, q_K_skip, q_I_skip, q_J_skip, q_R_skip, q_L_skip, q_AI_skip, q_AJ_skip, q_AR_skip, q_sz_skip, q_su_skip, q_up2, q_up, ri_0 h, ri_22 h, ri_23 h, ri_24 h, ri_25 h, ri_26 h, ri_27 h, ri_28 h, ri_29 h, ri_30 h, ri_34 h, ri_35 h, ri_36 h, e, x_in, dlt_T, dle_T]
  · simp (config := { maxSteps := 2000000 }) (disch := first | assumption | omega) [ck_T, sm_s, bd_l, bd_r, lt_e, eq_self, and_self, if_true, true_and, and_true, lit_nI, nI_add, nI_mul, nI_sub, nI_clamp, nI_eq, nI_ltI, nI_leI, nN_e, nI_nN, nN_nI, bI_0, bI_1, bI_n, bool_0, bool_1, in_T, lg_cmp0, ofN_nI, q_K_setI, q_I_setI, q_J_setI, q_R_setI, q_L_setI, q_AI_setI, q_AJ_setI, q_AR_setI, q_sz_setI, q_su_setI, q_K_setJ, q_I_setJ, q_J_setJ, q_R_setJ, q_L_setJ, q_AI_setJ, q_AJ_setJ, q_AR_setJ, q_sz_setJ, q_su_setJ, q_K_setR, q_I_setR, q_J_setR, q_R_setR, q_L_setR, q_AI_setR, q_AJ_setR, q_AR_setR, q_sz_setR, q_su_setR, q_K_setAI, q_I_setAI, q_J_setAI, q_R_setAI, q_L_setAI, q_AI_setAI, q_AJ_setAI, q_AR_setAI, q_sz_setAI, q_su_setAI, q_K_setAJ, q_I_setAJ, q_J_setAJ, q_R_setAJ, q_L_setAJ, q_AI_setAJ, q_AJ_setAJ, q_AR_setAJ, q_sz_setAJ, q_su_setAJ, q_K_setAR, q_I_setAR, q_J_setAR, q_R_setAR, q_L_setAR, q_AI_setAR, q_AJ_setAR, q_AR_setAR, q_sz_setAR, q_su_setAR, q_K_newO, q_I_newO, q_J_newO, q_R_newO, q_L_newO, q_AI_newO, q_AJ_newO, q_AR_newO, q_sz_newO, q_su_newO, q_K_newA, q_I_newA, q_J_newA, q_R_newA, q_L_newA, q_AI_newA, q_AJ_newA, q_AR_newA, q_sz_newA, q_su_newA, q_K_skip, q_I_skip, q_J_skip, q_R_skip, q_L_skip, q_AI_skip, q_AJ_skip, q_AR_skip, q_sz_skip, q_su_skip, q_up2, q_up, ri_0 h, ri_22 h, ri_23 h, ri_24 h, ri_25 h, ri_26 h, ri_27 h, ri_28 h, ri_29 h, ri_30 h, ri_34 h, ri_35 h, ri_36 h, e, x_in, dlt_T, dle_T]
/-- the nets from j on, to N, lie one further on -/
def MV (P : xP) (hv M pl n N j : Nat) (σ0 σ : xS) : Prop := FM P hv M pl n σ0 σ ∧ σ.I = σ0.I ∧ (∀ c i, (c = 19 ∨ c = 20 ∨ c = 21 ∨ c = 23) → j < i → i ≤ N → σ.AI (P.base + c) (16 * M + i) = σ0.AI (P.base + c) (16 * M + i - 1)) ∧ ∀ c i, ¬ ((c = 19 ∨ c = 20 ∨ c = 21 ∨ c = 23) ∧ 16 * M + j < i ∧ i ≤ 16 * M + N) → σ.AI (P.base + c) i = σ0.AI (P.base + c) i
theorem rw_mvL {P : xP} {T : xT} {hv K pl n N k : Nat} {σ0 : xS} {v1 v2 v3 : Int32} (h : TX P T hv σ0) (hm : σ0.I 1141 (P.base + 11) = nI K) (hK : K < 8) (hN : N < 16) (hb : ∀ i, i < N → x_bool (σ0.AI (P.base + 23) (16 * (8 * hv + K) + i))) : ∀ (d j f : Nat) (σ : xS), j = k + d → j ≤ N → d < f → MV P hv (8 * hv + K) pl n N j σ0 σ → ∃ f' σ', 0 < f' ∧ dm_X12_shortNet_L127 P (P.base + 11) f v1 v2 v3 (nI k) (nI j) σ = dm_X12_shortNet_L127 P (P.base + 11) f' v1 v2 v3 (nI k) (nI k) σ' ∧ MV P hv (8 * hv + K) pl n N k σ0 σ' := by
  have hv1 := h.2.2.1
  intro d
  induction d with
  | zero =>
    intro j f σ hj hjN hf mv
    have : j = k := by omega
    subst this
    exact ⟨f, σ, by omega, rfl, mv⟩
  | succ d ih =>
    intro j f σ hj hjN hf mv
    obtain ⟨f, rfl⟩ : ∃ m, f = m + 1 := ⟨f - 1, by omega⟩
    obtain ⟨m1, m2, m3, m4⟩ := id mv
    have tx := m1.tx h
    have hh := tx.2.2.2.1
    have hm' : σ.I 1141 (P.base + 11) = nI K := by rw [m2]; exact hm
    have c1 := rw_netCellI tx.1 hh hm' (j - 1)
    have c2 := rw_netCellI tx.1 hh hm' j
    have bt : x_bool (σ.AI (P.base + 23) (16 * (8 * hv + K) + (j - 1))) := by
      rw [m4 23 _ (by omega)]
      exact hb _ (by omega)
    have mo := rw_move (a := 16 * (8 * hv + K) + (j - 1)) (b := 16 * (8 * hv + K) + j) tx.1 (by omega) (by omega) bt (by omega)
    have a0 := ri_0 tx.1
    have jk : ¬ j ≤ k := by omega
    have ad : nI j + -nI 1 = nI (j - 1) := by
      have : nI j + -nI 1 = nI j - nI 1 := by rw [Int32.sub_eq_add_neg]
      rw [this]
      simp (disch := first | assumption | omega) [lit_nI, nI_add, nI_mul, nI_sub, nI_clamp, nI_eq, nI_ltI, nI_leI, nN_e, nI_nN, nN_nI, bI_0, bI_1, bI_n, bool_0, bool_1, in_T, lg_cmp0, ofN_nI]
    have st : dm_X12_shortNet_L127 P (P.base + 11) (f + 1) v1 v2 v3 (nI k) (nI j) σ = dm_X12_shortNet_L127 P (P.base + 11) f v1 v2 v3 (nI k) (nI (j - 1)) (mvN P σ (16 * (8 * hv + K) + (j - 1)) (16 * (8 * hv + K) + j)) := by
      conv => lhs; unfold dm_X12_shortNet_L127
      simp only [nN_e] at ad ⊢
      simp (disch := first | assumption | omega) [ck_T, sm_s, bd_l, bd_r, lt_e, eq_self, and_self, if_true, true_and, and_true, lit_nI, nI_add, nI_mul, nI_sub, nI_clamp, nI_eq, nI_ltI, nI_leI, nN_e, nI_nN, nN_nI, bI_0, bI_1, bI_n, bool_0, bool_1, in_T, lg_cmp0, ofN_nI, a0, jk, c1, c2, mo, ad]
    rw [st]
    refine ih (j - 1) f _ (by omega) (by omega) (by omega) ⟨?_, m2, fun c i hc h1 h2 => ?_, fun c i hc => ?_⟩
    · refine m1.trans ?_ (Nat.le_refl _)
      unfold mvN
      refine FM.trans (FM.trans (FM.trans (FM.set (by unfold cl; omega)) (FM.set (by unfold cl; omega)) (Nat.le_refl _)) (FM.set (by unfold cl; omega)) (Nat.le_refl _)) (FM.set (by unfold cl; omega)) (Nat.le_refl _)
    · by_cases e : i = j
      · subst e
        rw [mvN_b hc, m4 c _ (by omega)]
        congr 1
        omega
      · rw [mvN_AI (by omega)]
        exact m3 c i hc (by omega) h2
    · rw [mvN_AI (by omega)]
      exact m4 c i (by omega)
/-- what a part's net becomes -/
def shV (P : xP) (M k : Nat) (σ : xS) (r : Nat) : Int32 := if σ.AI (P.base + 25) r ≤ σ.AI (P.base + 16) M then σ.AI (P.base + 27) r else if σ.AI (P.base + 26) r = nI 3 then σ.AI (P.base + 27) r else if σ.AI (P.base + 27) r < nI k then σ.AI (P.base + 27) r else σ.AI (P.base + 27) r + nI 1
def S27 (P : xP) (M k a e : Nat) (σ σ' : xS) : Prop := (σ'.K = σ.K ∧ σ'.L = σ.L ∧ σ'.J = σ.J ∧ σ'.R = σ.R ∧ σ'.AJ = σ.AJ ∧ σ'.AR = σ.AR ∧ σ'.sz = σ.sz ∧ σ'.su = σ.su) ∧ σ'.I = σ.I ∧ (∀ b i, ¬ (b = P.base + 27 ∧ a ≤ i ∧ i < e) → σ'.AI b i = σ.AI b i) ∧ ∀ i, a ≤ i → i < e → σ'.AI (P.base + 27) i = shV P M k σ i
theorem S27.tx {P : xP} {T : xT} {hv M k a e : Nat} {σ σ' : xS} (f : S27 P M k a e σ σ') (h : TX P T hv σ) : TX P T hv σ' := by
  obtain ⟨h1, h2, h3, h4, h5, h6, h7⟩ := h
  obtain ⟨⟨f1, f2, f3, f4, f5, f6, f7, f8⟩, f9, f10, f11⟩ := f
  refine ⟨?_, h2, h3, by rw [f9]; exact h4, by rw [f10 _ _ (by omega)]; exact h5, fun i hi => by rw [f10 _ _ (by omega)]; exact h6 i hi, h7⟩
  unfold RI at h1 ⊢
  rw [f1, f2, f4]
  exact h1
theorem rw_shL {P : xP} {T : xT} {hv K n k : Nat} (hK : K < 8) (hk : k < 16) (hn : n ≤ 512) : ∀ (d r f : Nat) (σ : xS), TX P T hv σ → σ.I 1141 (P.base + 11) = nI K → σ.AI (P.base + 24) hv = nI n → 512 * hv ≤ r → r + d = 512 * hv + n → d < f → ∃ σ', dm_X12_shift_L11 P (P.base + 11) f (nI k) (nI (512 * hv)) (nI r) σ = some (.inl (), σ') ∧ S27 P (8 * hv + K) k r (512 * hv + n) σ σ' := by
  intro d
  induction d with
  | zero =>
    intro r f σ h hm h24 hr1 hr hf
    obtain ⟨f, rfl⟩ : ∃ m, f = m + 1 := ⟨f - 1, by omega⟩
    have hv1 := h.2.2.1
    have hh := h.2.2.2.1
    refine ⟨σ, ?_, ⟨rfl, rfl, rfl, rfl, rfl, rfl, rfl, rfl⟩, rfl, fun _ _ _ => rfl, fun i h1 h2 => by omega⟩
    have e : 512 * hv + n ≤ r := by omega
    unfold dm_X12_shift_L11
    simp (disch := first | assumption | omega) [ck_T, sm_s, bd_l, bd_r, lt_e, eq_self, and_self, if_true, true_and, and_true, lit_nI, nI_add, nI_mul, nI_sub, nI_clamp, nI_eq, nI_ltI, nI_leI, nN_e, nI_nN, nN_nI, bI_0, bI_1, bI_n, bool_0, bool_1, in_T, lg_cmp0, ofN_nI, ri_0 (h.1), ri_37 (h.1), ri_38 (h.1), ri_39 (h.1), hh, h24, e, x_in, dlt_T, dle_T]
  | succ d ih =>
    intro r f σ h hm h24 hr1 hr hf
    obtain ⟨f, rfl⟩ : ∃ m, f = m + 1 := ⟨f - 1, by omega⟩
    have hv1 := h.2.2.1
    have hh := h.2.2.2.1
    have e : ¬ 512 * hv + n ≤ r := by omega
    have md := rw_mod h hm
    have go : ∀ σ1, S27 P (8 * hv + K) k r (r + 1) σ σ1 → ∃ σ', dm_X12_shift_L11 P (P.base + 11) f (nI k) (nI (512 * hv)) (nI (r + 1)) σ1 = some (.inl (), σ') ∧ S27 P (8 * hv + K) k r (512 * hv + n) σ σ' := by
      intro σ1 s1
      obtain ⟨⟨f1, f2, f3, f4, f5, f6, f7, f8⟩, f9, f10, f11⟩ := id s1
      obtain ⟨σ', g1, ⟨e1, e2, e3, e4, e5, e6, e7, e8⟩, e9, e10, e11⟩ := ih (r + 1) f σ1 (s1.tx h) (by rw [f9]; exact hm) (by rw [f10 _ _ (by omega)]; exact h24) (by omega) (by omega) (by omega)
      refine ⟨σ', g1, ⟨e1.trans f1, e2.trans f2, e3.trans f3, e4.trans f4, e5.trans f5, e6.trans f6, e7.trans f7, e8.trans f8⟩, e9.trans f9, fun b i hb => ?_, fun i h1 h2 => ?_⟩
      · rw [e10 b i (by omega), f10 b i (by omega)]
      · by_cases z : i = r
        · subst z
          rw [e10 _ _ (by omega)]
          exact f11 i (by omega) (by omega)
        · rw [e11 i (by omega) h2]
          unfold shV
          rw [f10 (P.base + 25) i (by omega), f10 (P.base + 26) i (by omega), f10 (P.base + 27) i (by omega), f10 (P.base + 16) _ (by omega)]
    have same : shV P (8 * hv + K) k σ r = σ.AI (P.base + 27) r → S27 P (8 * hv + K) k r (r + 1) σ σ := by
      intro z
      refine ⟨⟨rfl, rfl, rfl, rfl, rfl, rfl, rfl, rfl⟩, rfl, fun _ _ _ => rfl, fun i h1 h2 => ?_⟩
      have : i = r := by omega
      rw [this, z]
    by_cases c1 : σ.AI (P.base + 25) r ≤ σ.AI (P.base + 16) (8 * hv + K)
    · obtain ⟨σ', g1, g2⟩ := go σ (same (by unfold shV; rw [if_pos c1]))
      refine ⟨σ', ?_, g2⟩
      conv => lhs; unfold dm_X12_shift_L11 dm_X12_shift_p74
      simp (disch := first | assumption | omega) [ck_T, sm_s, bd_l, bd_r, lt_e, eq_self, and_self, if_true, true_and, and_true, lit_nI, nI_add, nI_mul, nI_sub, nI_clamp, nI_eq, nI_ltI, nI_leI, nN_e, nI_nN, nN_nI, bI_0, bI_1, bI_n, bool_0, bool_1, in_T, lg_cmp0, ofN_nI, ri_0 (h.1), ri_37 (h.1), ri_38 (h.1), ri_39 (h.1), ri_40 (h.1), ri_41 (h.1), ri_42 (h.1), ri_13 (h.1), ri_14 (h.1), ri_15 (h.1), hh, h24, e, md, c1, g1, x_in, dlt_T, dle_T]
    · by_cases c2 : σ.AI (P.base + 26) r = nI 3
      · obtain ⟨σ', g1, g2⟩ := go σ (same (by unfold shV; rw [if_neg c1, if_pos c2]))
        refine ⟨σ', ?_, g2⟩
        conv => lhs; unfold dm_X12_shift_L11 dm_X12_shift_p74
        simp (disch := first | assumption | omega) [ck_T, sm_s, bd_l, bd_r, lt_e, eq_self, and_self, if_true, true_and, and_true, lit_nI, nI_add, nI_mul, nI_sub, nI_clamp, nI_eq, nI_ltI, nI_leI, nN_e, nI_nN, nN_nI, bI_0, bI_1, bI_n, bool_0, bool_1, in_T, lg_cmp0, ofN_nI, ri_0 (h.1), ri_37 (h.1), ri_38 (h.1), ri_39 (h.1), ri_40 (h.1), ri_41 (h.1), ri_42 (h.1), ri_13 (h.1), ri_14 (h.1), ri_15 (h.1), ri_43 (h.1), ri_44 (h.1), ri_45 (h.1), hh, h24, e, md, c1, c2, g1, x_in, dlt_T, dle_T]
      · by_cases c3 : σ.AI (P.base + 27) r < nI k
        · obtain ⟨σ', g1, g2⟩ := go σ (same (by unfold shV; rw [if_neg c1, if_neg c2, if_pos c3]))
          refine ⟨σ', ?_, g2⟩
          conv => lhs; unfold dm_X12_shift_L11 dm_X12_shift_p74
          simp (disch := first | assumption | omega) [ck_T, sm_s, bd_l, bd_r, lt_e, eq_self, and_self, if_true, true_and, and_true, lit_nI, nI_add, nI_mul, nI_sub, nI_clamp, nI_eq, nI_ltI, nI_leI, nN_e, nI_nN, nN_nI, bI_0, bI_1, bI_n, bool_0, bool_1, in_T, lg_cmp0, ofN_nI, ri_0 (h.1), ri_37 (h.1), ri_38 (h.1), ri_39 (h.1), ri_40 (h.1), ri_41 (h.1), ri_42 (h.1), ri_13 (h.1), ri_14 (h.1), ri_15 (h.1), ri_43 (h.1), ri_44 (h.1), ri_45 (h.1), ri_46 (h.1), ri_47 (h.1), ri_48 (h.1), hh, h24, e, md, c1, c2, c3, g1, x_in, dlt_T, dle_T]
        · obtain ⟨σ', g1, g2⟩ := go (σ.setAI (P.base + 27) r (σ.AI (P.base + 27) r + nI 1)) ⟨⟨rfl, rfl, rfl, rfl, rfl, rfl, rfl, rfl⟩, rfl, fun b i hb => up2_ne (by omega), fun i h1 h2 => by
            have z : i = r := by omega
            subst z
            unfold shV
            rw [if_neg c1, if_neg c2, if_neg c3]
            simp [q_K_setI, q_I_setI, q_J_setI, q_R_setI, q_L_setI, q_AI_setI, q_AJ_setI, q_AR_setI, q_sz_setI, q_su_setI, q_K_setJ, q_I_setJ, q_J_setJ, q_R_setJ, q_L_setJ, q_AI_setJ, q_AJ_setJ, q_AR_setJ, q_sz_setJ, q_su_setJ, q_K_setR, q_I_setR, q_J_setR, q_R_setR, q_L_setR, q_AI_setR, q_AJ_setR, q_AR_setR, q_sz_setR, q_su_setR, q_K_setAI, q_I_setAI, q_J_setAI, q_R_setAI, q_L_setAI, q_AI_setAI, q_AJ_setAI, q_AR_setAI, q_sz_setAI, q_su_setAI, q_K_setAJ, q_I_setAJ, q_J_setAJ, q_R_setAJ, q_L_setAJ, q_AI_setAJ, q_AJ_setAJ, q_AR_setAJ, q_sz_setAJ, q_su_setAJ, q_K_setAR, q_I_setAR, q_J_setAR, q_R_setAR, q_L_setAR, q_AI_setAR, q_AJ_setAR, q_AR_setAR, q_sz_setAR, q_su_setAR, q_K_newO, q_I_newO, q_J_newO, q_R_newO, q_L_newO, q_AI_newO, q_AJ_newO, q_AR_newO, q_sz_newO, q_su_newO, q_K_newA, q_I_newA, q_J_newA, q_R_newA, q_L_newA, q_AI_newA, q_AJ_newA, q_AR_newA, q_sz_newA, q_su_newA, q_K_skip, q_I_skip, q_J_skip, q_R_skip, q_L_skip, q_AI_skip, q_AJ_skip, q_AR_skip, q_sz_skip, q_su_skip, q_up2, q_up]⟩
          refine ⟨σ', ?_, g2⟩
          conv => lhs; unfold dm_X12_shift_L11 dm_X12_shift_p74
          simp (disch := first | assumption | omega) [ck_T, sm_s, bd_l, bd_r, lt_e, eq_self, and_self, if_true, true_and, and_true, lit_nI, nI_add, nI_mul, nI_sub, nI_clamp, nI_eq, nI_ltI, nI_leI, nN_e, nI_nN, nN_nI, bI_0, bI_1, bI_n, bool_0, bool_1, in_T, lg_cmp0, ofN_nI, ri_0 (h.1), ri_37 (h.1), ri_38 (h.1), ri_39 (h.1), ri_40 (h.1), ri_41 (h.1), ri_42 (h.1), ri_13 (h.1), ri_14 (h.1), ri_15 (h.1), ri_43 (h.1), ri_44 (h.1), ri_45 (h.1), ri_46 (h.1), ri_47 (h.1), ri_48 (h.1), hh, h24, e, md, c1, c2, c3, g1, x_in, dlt_T, dle_T]
theorem rw_shift {P : xP} {T : xT} {hv K n k : Nat} {σ : xS} (h : TX P T hv σ) (hm : σ.I 1141 (P.base + 11) = nI K) (hK : K < 8) (hk : k < 16) (hn : n ≤ 512) (h24 : σ.AI (P.base + 24) hv = nI n) : ∃ σ', dm_X12_shift P (P.base + 11) (nI k) σ = some (.inl (), σ') ∧ S27 P (8 * hv + K) k (512 * hv) (512 * hv + n) σ σ' := by
  have hv1 := h.2.2.1
  have hh := h.2.2.2.1
  have hN := h.2.2.2.2.2.2
  obtain ⟨σ', g1, g2⟩ := rw_shL (P := P) hK hk hn n (512 * hv) P.N σ h hm h24 (by omega) (by omega) (by omega)
  refine ⟨σ', ?_, g2⟩
  have a0 := ri_0 h.1
  unfold dm_X12_shift
  simp (disch := first | assumption | omega) [ck_T, sm_s, bd_l, bd_r, lt_e, eq_self, and_self, if_true, true_and, and_true, lit_nI, nI_add, nI_mul, nI_sub, nI_clamp, nI_eq, nI_ltI, nI_leI, nN_e, nI_nN, nN_nI, bI_0, bI_1, bI_n, bool_0, bool_1, in_T, lg_cmp0, ofN_nI, a0, hh, g1]
