/-! ===== the reference: questions ===== -/
/-- a design in the half that is asked -/
def RU (P : xP) (T : xT) (hv : Nat) (lng : Bool) (ms : List xMod) (n : Nat) (σ : xS) : Prop := RG P T hv lng ms n σ ∧ σ.I 1103 (P.base + 11) = nI hv
theorem RU.setI {P : xP} {T : xT} {hv : Nat} {lng : Bool} {ms : List xMod} {n f : Nat} {σ : xS} {v : Int32} (h : RU P T hv lng ms n σ) (hf : f ≠ 1103) : RU P T hv lng ms n (σ.setI f (P.base + 11) v) := ⟨h.1.oh OH.setI, (up2_ne (by omega)).trans h.2⟩
theorem RS.setI {P : xP} {T : xT} {ms : List xMod} {f : Nat} {σ : xS} {v : Int32} (h : RS P T ms σ) (hf : f ≠ 1103) (hf2 : f ≠ 1102) : RS P T ms (σ.setI f (P.base + 11) v) := by
  obtain ⟨r0, hN, ⟨t1, t2, t3⟩, hv, T', lng, n, q1, q2⟩ := h
  exact ⟨FE.setI.ri r0, hN, ⟨t1, (up2_ne (by omega)).trans t2, t3⟩, hv, T', lng, n, (up2_ne (by omega)).trans q1, q2.oh OH.setI⟩
def tS (P : xP) (σ : xS) (b : Nat) : xS := σ.setI 1100 (P.base + 11) (nI b)
theorem tS_I {P : xP} {σ : xS} {b : Nat} : (tS P σ b).I 1100 (P.base + 11) = nI b := by unfold tS; simp [q_K_setI, q_I_setI, q_J_setI, q_R_setI, q_L_setI, q_AI_setI, q_AJ_setI, q_AR_setI, q_sz_setI, q_su_setI, q_K_setJ, q_I_setJ, q_J_setJ, q_R_setJ, q_L_setJ, q_AI_setJ, q_AJ_setJ, q_AR_setJ, q_sz_setJ, q_su_setJ, q_K_setR, q_I_setR, q_J_setR, q_R_setR, q_L_setR, q_AI_setR, q_AJ_setR, q_AR_setR, q_sz_setR, q_su_setR, q_K_setAI, q_I_setAI, q_J_setAI, q_R_setAI, q_L_setAI, q_AI_setAI, q_AJ_setAI, q_AR_setAI, q_sz_setAI, q_su_setAI, q_K_setAJ, q_I_setAJ, q_J_setAJ, q_R_setAJ, q_L_setAJ, q_AI_setAJ, q_AJ_setAJ, q_AR_setAJ, q_sz_setAJ, q_su_setAJ, q_K_setAR, q_I_setAR, q_J_setAR, q_R_setAR, q_L_setAR, q_AI_setAR, q_AJ_setAR, q_AR_setAR, q_sz_setAR, q_su_setAR, q_K_newO, q_I_newO, q_J_newO, q_R_newO, q_L_newO, q_AI_newO, q_AJ_newO, q_AR_newO, q_sz_newO, q_su_newO, q_K_newA, q_I_newA, q_J_newA, q_R_newA, q_L_newA, q_AI_newA, q_AJ_newA, q_AR_newA, q_sz_newA, q_su_newA, q_K_skip, q_I_skip, q_J_skip, q_R_skip, q_L_skip, q_AI_skip, q_AJ_skip, q_AR_skip, q_sz_skip, q_su_skip, q_up2, q_up]
/-- an answer of the reference: none if it throws -/
def RAns (P : xP) (σ : xS) (o : xO Int32) : Option Int32 → Prop
  | none => o = some (.inl (nI 0), tS P σ 1)
  | some v => o = some (.inl v, tS P σ 0)
theorem RU.ri {P : xP} {T : xT} {hv : Nat} {lng : Bool} {ms : List xMod} {n : Nat} {σ : xS} (h : RU P T hv lng ms n σ) : RI P σ := h.1.1.1.1
theorem RU.b {P : xP} {T : xT} {hv : Nat} {lng : Bool} {ms : List xMod} {n : Nat} {σ : xS} (h : RU P T hv lng ms n σ) : hv ≤ 1 ∧ ms.length ≤ 8 ∧ T.2 ≤ 1000 ∧ n ≤ 500 ∧ 5000 ≤ P.N := ⟨h.1.1.1.2.2.1, h.1.1.2.2.1.1, h.1.1.1.2.1.1, h.1.1.2.2.2.1, h.1.1.1.2.2.2.2.2⟩
theorem RU.wx {P : xP} {T : xT} {hv : Nat} {lng : Bool} {ms : List xMod} {n k : Nat} {σ : xS} {m : xMod} (h : RU P T hv lng ms n σ) (hm : ms[k]? = some m) : WX lng m T.2 := (h.1.1.2.2.1.2.2.1 m (List.mem_of_getElem? hm)).1
theorem RU.rm {P : xP} {T : xT} {hv : Nat} {lng : Bool} {ms : List xMod} {n k : Nat} {σ : xS} {m : xMod} (h : RU P T hv lng ms n σ) (hm : ms[k]? = some m) : RMd P σ T hv n (8 * hv + k) m := h.1.1.2.2.2.2 k m hm
theorem m_cases (ms : List xMod) (v : Int32) : (v < nI 0 ∧ aq_m ms v = none) ∨ (∃ k, k < 2 ^ 31 ∧ v = nI k ∧ ms.length ≤ k ∧ aq_m ms v = none) ∨ ∃ k m, v = nI k ∧ ms[k]? = some m ∧ aq_m ms v = some (k, m) := by
  rcases i32_cases v with ⟨h1, h2⟩ | ⟨k, h1, h2, h3⟩
  · exact Or.inl ⟨h1, by unfold aq_m; rw [h2]⟩
  · by_cases z : ms.length ≤ k
    · exact Or.inr (Or.inl ⟨k, h1, h2, z, by unfold aq_m; rw [h3]; simp only; rw [List.getElem?_eq_none z]; rfl⟩)
    · obtain ⟨m, hm⟩ : ∃ m, ms[k]? = some m := ⟨_, List.getElem?_eq_getElem (by omega)⟩
      exact Or.inr (Or.inr ⟨k, m, h2, hm, by unfold aq_m; rw [h3]; simp only; rw [hm]; rfl⟩)
theorem rw_isModule {P : xP} {T : xT} {hv : Nat} {lng : Bool} {ms : List xMod} {n : Nat} {σ : xS} (h : RU P T hv lng ms n σ) (v : Int32) : dm_X12_isModule P (P.base + 11) v σ = some (.inl (bI (aq_m ms v).isSome), σ) := by
  have r0 := h.ri
  obtain ⟨b1, b2, b3, b4, b5⟩ := h.b
  have q1 := h.2
  have h2 := h.1.1.2.1
  unfold dm_X12_isModule dm_X12_isModule_p21 dm_X12_isModule_p22
  rcases m_cases ms v with ⟨e1, e2⟩ | ⟨k, e1, rfl, e3, e4⟩ | ⟨k, m, rfl, e2, e3⟩
  · rw [e2]
    simp (disch := first | assumption | omega) [ck_T, sm_s, bd_l, bd_r, lt_e, eq_self, and_self, if_true, true_and, and_true, lit_nI, nI_add, nI_mul, nI_sub, nI_clamp, nI_eq, nI_ltI, nI_leI, nN_e, nI_nN, nN_nI, bI_0, bI_1, bI_n, bool_0, bool_1, in_T, lg_cmp0, ofN_nI, e1, bI_ff]
  · rw [e4]
    have n0 : ¬ nI k < nI 0 := by rw [nI_ltI (by omega) (by omega)]; omega
    simp (disch := first | assumption | omega) [ck_T, sm_s, bd_l, bd_r, lt_e, eq_self, and_self, if_true, true_and, and_true, lit_nI, nI_add, nI_mul, nI_sub, nI_clamp, nI_eq, nI_ltI, nI_leI, nN_e, nI_nN, nN_nI, bI_0, bI_1, bI_n, bool_0, bool_1, in_T, lg_cmp0, ofN_nI, ri_0 r0, ri_10 r0, ri_11 r0, ri_12 r0, n0, q1, h2, e3, x_in, dlt_T, dle_T, bI_ff]
  · rw [e3]
    have kl := get_lt e2
    have e4 : ¬ ms.length ≤ k := by omega
    simp (disch := first | assumption | omega) [ck_T, sm_s, bd_l, bd_r, lt_e, eq_self, and_self, if_true, true_and, and_true, lit_nI, nI_add, nI_mul, nI_sub, nI_clamp, nI_eq, nI_ltI, nI_leI, nN_e, nI_nN, nN_nI, bI_0, bI_1, bI_n, bool_0, bool_1, in_T, lg_cmp0, ofN_nI, ri_0 r0, ri_10 r0, ri_11 r0, ri_12 r0, q1, h2, e4, x_in, dlt_T, dle_T, bI_tt]
theorem at_cases {α : Type} (ms : List xMod) (f : xMod → List α) (a k : Int32) : (aq_m ms a = none ∧ aq_at ms f a k = none) ∨ ∃ i m, a = nI i ∧ ms[i]? = some m ∧ aq_m ms a = some (i, m) ∧ ((k < nI 0 ∧ aq_at ms f a k = none) ∨ (∃ j, j < 2 ^ 31 ∧ k = nI j ∧ (f m).length ≤ j ∧ aq_at ms f a k = none) ∨ ∃ j x, k = nI j ∧ (f m)[j]? = some x ∧ aq_at ms f a k = some (i, m, j, x)) := by
  rcases m_cases ms a with ⟨e1, e2⟩ | ⟨i, e1, e2, e3, e4⟩ | ⟨i, m, e1, e2, e3⟩
  · exact Or.inl ⟨e2, by unfold aq_at; rw [e2]⟩
  · exact Or.inl ⟨e4, by unfold aq_at; rw [e4]⟩
  · right
    refine ⟨i, m, e1, e2, e3, ?_⟩
    rcases i32_cases k with ⟨h1, h2⟩ | ⟨j, h1, h2, h3⟩
    · exact Or.inl ⟨h1, by unfold aq_at; rw [e3]; simp only; rw [h2]⟩
    · by_cases z : (f m).length ≤ j
      · exact Or.inr (Or.inl ⟨j, h1, h2, z, by unfold aq_at; rw [e3]; simp only; rw [h3]; simp only; rw [List.getElem?_eq_none z]; rfl⟩)
      · obtain ⟨x, hx⟩ : ∃ x, (f m)[j]? = some x := ⟨_, List.getElem?_eq_getElem (by omega)⟩
        exact Or.inr (Or.inr ⟨j, x, h2, hx, by unfold aq_at; rw [e3]; simp only; rw [h3]; simp only; rw [hx]; rfl⟩)
theorem rw_isInstance {P : xP} {T : xT} {hv : Nat} {lng : Bool} {ms : List xMod} {n : Nat} {σ : xS} (h : RU P T hv lng ms n σ) (a k : Int32) : dm_X12_isInstance P (P.base + 11) a k σ = some (.inl (bI (aq_at ms xMod.ins a k).isSome), σ) := by
  have r0 := h.ri
  obtain ⟨b1, b2, b3, b4, b5⟩ := h.b
  have q1 := h.2
  have im := rw_isModule h a
  unfold dm_X12_isInstance dm_X12_isInstance_p30 dm_X12_isInstance_p31 dm_X12_of
  rcases at_cases ms xMod.ins a k with ⟨e1, e2⟩ | ⟨i, m, rfl, e2, e3, z⟩
  · rw [e1] at im
    rw [e2]
    simp (disch := first | assumption | omega) [ck_T, sm_s, bd_l, bd_r, lt_e, eq_self, and_self, if_true, true_and, and_true, lit_nI, nI_add, nI_mul, nI_sub, nI_clamp, nI_eq, nI_ltI, nI_leI, nN_e, nI_nN, nN_nI, bI_0, bI_1, bI_n, bool_0, bool_1, in_T, lg_cmp0, ofN_nI, ri_0 r0, im, bI_ff]
  · rw [e3] at im
    have il := get_lt e2
    have a6 := (h.rm e2).1.2.2.2.2.2
    have w3 := (h.wx e2).2.2.2.1.2.2
    rcases z with ⟨z1, z2⟩ | ⟨j, z1, rfl, z3, z4⟩ | ⟨j, x, rfl, z2, z3⟩
    · rw [z2]
      simp (disch := first | assumption | omega) [ck_T, sm_s, bd_l, bd_r, lt_e, eq_self, and_self, if_true, true_and, and_true, lit_nI, nI_add, nI_mul, nI_sub, nI_clamp, nI_eq, nI_ltI, nI_leI, nN_e, nI_nN, nN_nI, bI_0, bI_1, bI_n, bool_0, bool_1, in_T, lg_cmp0, ofN_nI, ri_0 r0, im, z1, bI_ff, bI_tt]
    · rw [z4]
      have n0 : ¬ nI j < nI 0 := by rw [nI_ltI (by omega) (by omega)]; omega
      simp (disch := first | assumption | omega) [ck_T, sm_s, bd_l, bd_r, lt_e, eq_self, and_self, if_true, true_and, and_true, lit_nI, nI_add, nI_mul, nI_sub, nI_clamp, nI_eq, nI_ltI, nI_leI, nN_e, nI_nN, nN_nI, bI_0, bI_1, bI_n, bool_0, bool_1, in_T, lg_cmp0, ofN_nI, ri_0 r0, ri_64 r0, ri_65 r0, ri_66 r0, im, n0, q1, a6, z3, x_in, dlt_T, dle_T, bI_ff, bI_tt]
    · rw [z3]
      have jl := get_lt z2
      have e4 : ¬ m.ins.length ≤ j := by omega
      simp (disch := first | assumption | omega) [ck_T, sm_s, bd_l, bd_r, lt_e, eq_self, and_self, if_true, true_and, and_true, lit_nI, nI_add, nI_mul, nI_sub, nI_clamp, nI_eq, nI_ltI, nI_leI, nN_e, nI_nN, nN_nI, bI_0, bI_1, bI_n, bool_0, bool_1, in_T, lg_cmp0, ofN_nI, ri_0 r0, ri_64 r0, ri_65 r0, ri_66 r0, im, q1, a6, e4, x_in, dlt_T, dle_T, bI_ff, bI_tt]
theorem rw_bitsL {P : xP} {T : xT} {hv : Nat} {lng : Bool} {ms : List xMod} {n k : Nat} {σ : xS} {m : xMod} (h : RU P T hv lng ms n σ) (hm : ms[k]? = some m) : ∀ (r j F : Nat), j + r = m.nets.length → r < F → dm_X12_bitsOf_L4 P (P.base + 11) F (nI (8 * hv + k)) (nI (sp_fb m.nets j)) (nI j) σ = some (.inl (nI (sp_fb m.nets m.nets.length)), σ) := by
  have r0 := h.ri
  obtain ⟨b1, b2, b3, b4, b5⟩ := h.b
  have kl := get_lt hm
  have w1 := (h.wx hm).2.2.2.1.1
  have nw := (h.wx hm).2.1.1
  have a4 := (h.rm hm).1.2.2.2.1
  intro r
  induction r with
  | zero =>
    intro j F hj hF
    obtain ⟨F, rfl⟩ : ∃ m, F = m + 1 := ⟨F - 1, by omega⟩
    have e : j = m.nets.length := by omega
    subst e
    unfold dm_X12_bitsOf_L4
    simp (disch := first | assumption | omega) [ck_T, sm_s, bd_l, bd_r, lt_e, eq_self, and_self, if_true, true_and, and_true, lit_nI, nI_add, nI_mul, nI_sub, nI_clamp, nI_eq, nI_ltI, nI_leI, nN_e, nI_nN, nN_nI, bI_0, bI_1, bI_n, bool_0, bool_1, in_T, lg_cmp0, ofN_nI, ri_0 r0, ri_19 r0, ri_20 r0, ri_21 r0, a4, x_in, dlt_T, dle_T]
  | succ r ih =>
    intro j F hj hF
    obtain ⟨F, rfl⟩ : ∃ m, F = m + 1 := ⟨F - 1, by omega⟩
    have e1 : ¬ m.nets.length ≤ j := by omega
    obtain ⟨x, hx⟩ : ∃ x, m.nets[j]? = some x := ⟨_, List.getElem?_eq_getElem (by omega)⟩
    have wd := ((h.rm hm).2.1 j x hx).2.2.1
    have xw := (nw x (List.mem_of_getElem? hx)).2.2.1
    have fb := fb_le nw j (by omega)
    rw [← ih (j + 1) F (by omega) (by omega), fb_succ hx]
    conv => lhs; unfold dm_X12_bitsOf_L4
    simp (disch := first | assumption | omega) [ck_T, sm_s, bd_l, bd_r, lt_e, eq_self, and_self, if_true, true_and, and_true, lit_nI, nI_add, nI_mul, nI_sub, nI_clamp, nI_eq, nI_ltI, nI_leI, nN_e, nI_nN, nN_nI, bI_0, bI_1, bI_n, bool_0, bool_1, in_T, lg_cmp0, ofN_nI, ri_0 r0, ri_19 r0, ri_20 r0, ri_21 r0, ri_28 r0, ri_29 r0, ri_30 r0, a4, e1, wd, x_in, dlt_T, dle_T]
theorem rw_bitsOf {P : xP} {T : xT} {hv : Nat} {lng : Bool} {ms : List xMod} {n k : Nat} {σ : xS} {m : xMod} (h : RU P T hv lng ms n σ) (hm : ms[k]? = some m) : dm_X12_bitsOf P (P.base + 11) (nI (8 * hv + k)) σ = some (.inl (nI (sp_fb m.nets m.nets.length)), σ) := by
  obtain ⟨b1, b2, b3, b4, b5⟩ := h.b
  have w1 := (h.wx hm).2.2.2.1.1
  have := rw_bitsL h hm m.nets.length 0 P.N (by omega) (by omega)
  have fz : sp_fb m.nets 0 = 0 := by unfold sp_fb; simp
  rw [fz] at this
  exact this
theorem rw_module {P : xP} {T : xT} {hv : Nat} {lng : Bool} {ms : List xMod} {n : Nat} {σ : xS} (h : RU P T hv lng ms n σ) (a what : Int32) : RAns P σ (dm_X12_module P (P.base + 11) a what σ) (aq_module ms a what) := by
  have r0 := h.ri
  obtain ⟨b1, b2, b3, b4, b5⟩ := h.b
  have q1 := h.2
  have im := rw_isModule h a
  have no : ∀ (v1 v2 : Int32), dm_X12_module_p22 P (P.base + 11) v1 v2 (some (P.base + 11)) σ = some (.inl (nI 0), tS P σ 1) := by
    intro v1 v2
    unfold dm_X12_module_p22 dm_X12_module_p23 tS
    simp (disch := first | assumption | omega) [ck_T, sm_s, bd_l, bd_r, lt_e, eq_self, and_self, if_true, true_and, and_true, lit_nI, nI_add, nI_mul, nI_sub, nI_clamp, nI_eq, nI_ltI, nI_leI, nN_e, nI_nN, nN_nI, bI_0, bI_1, bI_n, bool_0, bool_1, in_T, lg_cmp0, ofN_nI, q_K_setI, q_I_setI, q_J_setI, q_R_setI, q_L_setI, q_AI_setI, q_AJ_setI, q_AR_setI, q_sz_setI, q_su_setI, q_K_setJ, q_I_setJ, q_J_setJ, q_R_setJ, q_L_setJ, q_AI_setJ, q_AJ_setJ, q_AR_setJ, q_sz_setJ, q_su_setJ, q_K_setR, q_I_setR, q_J_setR, q_R_setR, q_L_setR, q_AI_setR, q_AJ_setR, q_AR_setR, q_sz_setR, q_su_setR, q_K_setAI, q_I_setAI, q_J_setAI, q_R_setAI, q_L_setAI, q_AI_setAI, q_AJ_setAI, q_AR_setAI, q_sz_setAI, q_su_setAI, q_K_setAJ, q_I_setAJ, q_J_setAJ, q_R_setAJ, q_L_setAJ, q_AI_setAJ, q_AJ_setAJ, q_AR_setAJ, q_sz_setAJ, q_su_setAJ, q_K_setAR, q_I_setAR, q_J_setAR, q_R_setAR, q_L_setAR, q_AI_setAR, q_AJ_setAR, q_AR_setAR, q_sz_setAR, q_su_setAR, q_K_newO, q_I_newO, q_J_newO, q_R_newO, q_L_newO, q_AI_newO, q_AJ_newO, q_AR_newO, q_sz_newO, q_su_newO, q_K_newA, q_I_newA, q_J_newA, q_R_newA, q_L_newA, q_AI_newA, q_AJ_newA, q_AR_newA, q_sz_newA, q_su_newA, q_K_skip, q_I_skip, q_J_skip, q_R_skip, q_L_skip, q_AI_skip, q_AJ_skip, q_AR_skip, q_sz_skip, q_su_skip, q_up2, q_up, ri_0 r0]
  unfold dm_X12_module aq_module
  rcases m_cases ms a with ⟨e1, e2⟩ | ⟨k, e1, rfl, e3, e2⟩ | ⟨k, m, rfl, e2, e3⟩
  · rw [e2] at im ⊢
    show _ = _
    simp (disch := first | assumption | omega) [ck_T, sm_s, bd_l, bd_r, lt_e, eq_self, and_self, if_true, true_and, and_true, lit_nI, nI_add, nI_mul, nI_sub, nI_clamp, nI_eq, nI_ltI, nI_leI, nN_e, nI_nN, nN_nI, bI_0, bI_1, bI_n, bool_0, bool_1, in_T, lg_cmp0, ofN_nI, ri_0 r0, im, bI_ff, no]
  · rw [e2] at im ⊢
    show _ = _
    simp (disch := first | assumption | omega) [ck_T, sm_s, bd_l, bd_r, lt_e, eq_self, and_self, if_true, true_and, and_true, lit_nI, nI_add, nI_mul, nI_sub, nI_clamp, nI_eq, nI_ltI, nI_leI, nN_e, nI_nN, nN_nI, bI_0, bI_1, bI_n, bool_0, bool_1, in_T, lg_cmp0, ofN_nI, ri_0 r0, im, bI_ff, no]
  · rw [e3] at im ⊢
    simp only
    have kl := get_lt e2
    obtain ⟨⟨-, -, c3, c4, c5, c6⟩, -⟩ := h.rm e2
    have c7 := (h.1.2.2.2 k m e2).2.2
    have bo := rw_bitsOf (h.setI (f := 1100) (v := nI 0) (by omega)) e2
    rcases i32_cases what with ⟨z1, z2⟩ | ⟨w, z1, rfl, z3⟩
    · have nw : ∀ i, i < 2 ^ 31 → ¬ what = nI i := by
        intro i hi e
        rw [e, nI_ltI hi (by omega)] at z1
        omega
      rw [if_neg (nw 0 (by omega)), if_neg (nw 1 (by omega)), if_neg (nw 2 (by omega)), if_neg (nw 3 (by omega)), if_neg (nw 4 (by omega)), if_neg (nw 5 (by omega))]
      show _ = _
      simp (disch := first | assumption | omega) [ck_T, sm_s, bd_l, bd_r, lt_e, eq_self, and_self, if_true, true_and, and_true, lit_nI, nI_add, nI_mul, nI_sub, nI_clamp, nI_eq, nI_ltI, nI_leI, nN_e, nI_nN, nN_nI, bI_0, bI_1, bI_n, bool_0, bool_1, in_T, lg_cmp0, ofN_nI, ri_0 r0, im, bI_tt, z1, no]
    · by_cases g : 5 < w
      · have nw : ∀ i, i ≤ 5 → ¬ nI w = nI i := by
          intro i hi
          rw [nI_eq (by omega) (by omega)]
          omega
        rw [if_neg (nw 0 (by omega)), if_neg (nw 1 (by omega)), if_neg (nw 2 (by omega)), if_neg (nw 3 (by omega)), if_neg (nw 4 (by omega)), if_neg (nw 5 (by omega))]
        show _ = _
        simp (disch := first | assumption | omega) [ck_T, sm_s, bd_l, bd_r, lt_e, eq_self, and_self, if_true, true_and, and_true, lit_nI, nI_add, nI_mul, nI_sub, nI_clamp, nI_eq, nI_ltI, nI_leI, nN_e, nI_nN, nN_nI, bI_0, bI_1, bI_n, bool_0, bool_1, in_T, lg_cmp0, ofN_nI, ri_0 r0, im, bI_tt, g, no]
      · obtain rfl | rfl | rfl | rfl | rfl | rfl : w = 0 ∨ w = 1 ∨ w = 2 ∨ w = 3 ∨ w = 4 ∨ w = 5 := by omega
        · show _ = _
          unfold dm_X12_module_p23 dm_X12_of tS
          simp (disch := first | assumption | omega) [ck_T, sm_s, bd_l, bd_r, lt_e, eq_self, and_self, if_true, true_and, and_true, lit_nI, nI_add, nI_mul, nI_sub, nI_clamp, nI_eq, nI_ltI, nI_leI, nN_e, nI_nN, nN_nI, bI_0, bI_1, bI_n, bool_0, bool_1, in_T, lg_cmp0, ofN_nI, q_K_setI, q_I_setI, q_J_setI, q_R_setI, q_L_setI, q_AI_setI, q_AJ_setI, q_AR_setI, q_sz_setI, q_su_setI, q_K_setJ, q_I_setJ, q_J_setJ, q_R_setJ, q_L_setJ, q_AI_setJ, q_AJ_setJ, q_AR_setJ, q_sz_setJ, q_su_setJ, q_K_setR, q_I_setR, q_J_setR, q_R_setR, q_L_setR, q_AI_setR, q_AJ_setR, q_AR_setR, q_sz_setR, q_su_setR, q_K_setAI, q_I_setAI, q_J_setAI, q_R_setAI, q_L_setAI, q_AI_setAI, q_AJ_setAI, q_AR_setAI, q_sz_setAI, q_su_setAI, q_K_setAJ, q_I_setAJ, q_J_setAJ, q_R_setAJ, q_L_setAJ, q_AI_setAJ, q_AJ_setAJ, q_AR_setAJ, q_sz_setAJ, q_su_setAJ, q_K_setAR, q_I_setAR, q_J_setAR, q_R_setAR, q_L_setAR, q_AI_setAR, q_AJ_setAR, q_AR_setAR, q_sz_setAR, q_su_setAR, q_K_newO, q_I_newO, q_J_newO, q_R_newO, q_L_newO, q_AI_newO, q_AJ_newO, q_AR_newO, q_sz_newO, q_su_newO, q_K_newA, q_I_newA, q_J_newA, q_R_newA, q_L_newA, q_AI_newA, q_AJ_newA, q_AR_newA, q_sz_newA, q_su_newA, q_K_skip, q_I_skip, q_J_skip, q_R_skip, q_L_skip, q_AI_skip, q_AJ_skip, q_AR_skip, q_sz_skip, q_su_skip, q_up2, q_up, ri_0 r0, ri_16 r0, ri_17 r0, ri_18 r0, im, bI_tt, q1, c3, x_in, dlt_T, dle_T]
        · show _ = _
          unfold dm_X12_module_p23 dm_X12_of tS
          simp (disch := first | assumption | omega) [ck_T, sm_s, bd_l, bd_r, lt_e, eq_self, and_self, if_true, true_and, and_true, lit_nI, nI_add, nI_mul, nI_sub, nI_clamp, nI_eq, nI_ltI, nI_leI, nN_e, nI_nN, nN_nI, bI_0, bI_1, bI_n, bool_0, bool_1, in_T, lg_cmp0, ofN_nI, q_K_setI, q_I_setI, q_J_setI, q_R_setI, q_L_setI, q_AI_setI, q_AJ_setI, q_AR_setI, q_sz_setI, q_su_setI, q_K_setJ, q_I_setJ, q_J_setJ, q_R_setJ, q_L_setJ, q_AI_setJ, q_AJ_setJ, q_AR_setJ, q_sz_setJ, q_su_setJ, q_K_setR, q_I_setR, q_J_setR, q_R_setR, q_L_setR, q_AI_setR, q_AJ_setR, q_AR_setR, q_sz_setR, q_su_setR, q_K_setAI, q_I_setAI, q_J_setAI, q_R_setAI, q_L_setAI, q_AI_setAI, q_AJ_setAI, q_AR_setAI, q_sz_setAI, q_su_setAI, q_K_setAJ, q_I_setAJ, q_J_setAJ, q_R_setAJ, q_L_setAJ, q_AI_setAJ, q_AJ_setAJ, q_AR_setAJ, q_sz_setAJ, q_su_setAJ, q_K_setAR, q_I_setAR, q_J_setAR, q_R_setAR, q_L_setAR, q_AI_setAR, q_AJ_setAR, q_AR_setAR, q_sz_setAR, q_su_setAR, q_K_newO, q_I_newO, q_J_newO, q_R_newO, q_L_newO, q_AI_newO, q_AJ_newO, q_AR_newO, q_sz_newO, q_su_newO, q_K_newA, q_I_newA, q_J_newA, q_R_newA, q_L_newA, q_AI_newA, q_AJ_newA, q_AR_newA, q_sz_newA, q_su_newA, q_K_skip, q_I_skip, q_J_skip, q_R_skip, q_L_skip, q_AI_skip, q_AJ_skip, q_AR_skip, q_sz_skip, q_su_skip, q_up2, q_up, ri_0 r0, ri_19 r0, ri_20 r0, ri_21 r0, im, bI_tt, q1, c4, x_in, dlt_T, dle_T]
        · show _ = _
          unfold dm_X12_module_p23 dm_X12_of tS
          simp (disch := first | assumption | omega) [ck_T, sm_s, bd_l, bd_r, lt_e, eq_self, and_self, if_true, true_and, and_true, lit_nI, nI_add, nI_mul, nI_sub, nI_clamp, nI_eq, nI_ltI, nI_leI, nN_e, nI_nN, nN_nI, bI_0, bI_1, bI_n, bool_0, bool_1, in_T, lg_cmp0, ofN_nI, q_K_setI, q_I_setI, q_J_setI, q_R_setI, q_L_setI, q_AI_setI, q_AJ_setI, q_AR_setI, q_sz_setI, q_su_setI, q_K_setJ, q_I_setJ, q_J_setJ, q_R_setJ, q_L_setJ, q_AI_setJ, q_AJ_setJ, q_AR_setJ, q_sz_setJ, q_su_setJ, q_K_setR, q_I_setR, q_J_setR, q_R_setR, q_L_setR, q_AI_setR, q_AJ_setR, q_AR_setR, q_sz_setR, q_su_setR, q_K_setAI, q_I_setAI, q_J_setAI, q_R_setAI, q_L_setAI, q_AI_setAI, q_AJ_setAI, q_AR_setAI, q_sz_setAI, q_su_setAI, q_K_setAJ, q_I_setAJ, q_J_setAJ, q_R_setAJ, q_L_setAJ, q_AI_setAJ, q_AJ_setAJ, q_AR_setAJ, q_sz_setAJ, q_su_setAJ, q_K_setAR, q_I_setAR, q_J_setAR, q_R_setAR, q_L_setAR, q_AI_setAR, q_AJ_setAR, q_AR_setAR, q_sz_setAR, q_su_setAR, q_K_newO, q_I_newO, q_J_newO, q_R_newO, q_L_newO, q_AI_newO, q_AJ_newO, q_AR_newO, q_sz_newO, q_su_newO, q_K_newA, q_I_newA, q_J_newA, q_R_newA, q_L_newA, q_AI_newA, q_AJ_newA, q_AR_newA, q_sz_newA, q_su_newA, q_K_skip, q_I_skip, q_J_skip, q_R_skip, q_L_skip, q_AI_skip, q_AJ_skip, q_AR_skip, q_sz_skip, q_su_skip, q_up2, q_up, ri_0 r0, ri_19 r0, ri_20 r0, ri_21 r0, im, bI_tt, q1, bo, x_in, dlt_T, dle_T]
        · show _ = _
          unfold dm_X12_module_p23 dm_X12_of tS
          simp (disch := first | assumption | omega) [ck_T, sm_s, bd_l, bd_r, lt_e, eq_self, and_self, if_true, true_and, and_true, lit_nI, nI_add, nI_mul, nI_sub, nI_clamp, nI_eq, nI_ltI, nI_leI, nN_e, nI_nN, nN_nI, bI_0, bI_1, bI_n, bool_0, bool_1, in_T, lg_cmp0, ofN_nI, q_K_setI, q_I_setI, q_J_setI, q_R_setI, q_L_setI, q_AI_setI, q_AJ_setI, q_AR_setI, q_sz_setI, q_su_setI, q_K_setJ, q_I_setJ, q_J_setJ, q_R_setJ, q_L_setJ, q_AI_setJ, q_AJ_setJ, q_AR_setJ, q_sz_setJ, q_su_setJ, q_K_setR, q_I_setR, q_J_setR, q_R_setR, q_L_setR, q_AI_setR, q_AJ_setR, q_AR_setR, q_sz_setR, q_su_setR, q_K_setAI, q_I_setAI, q_J_setAI, q_R_setAI, q_L_setAI, q_AI_setAI, q_AJ_setAI, q_AR_setAI, q_sz_setAI, q_su_setAI, q_K_setAJ, q_I_setAJ, q_J_setAJ, q_R_setAJ, q_L_setAJ, q_AI_setAJ, q_AJ_setAJ, q_AR_setAJ, q_sz_setAJ, q_su_setAJ, q_K_setAR, q_I_setAR, q_J_setAR, q_R_setAR, q_L_setAR, q_AI_setAR, q_AJ_setAR, q_AR_setAR, q_sz_setAR, q_su_setAR, q_K_newO, q_I_newO, q_J_newO, q_R_newO, q_L_newO, q_AI_newO, q_AJ_newO, q_AR_newO, q_sz_newO, q_su_newO, q_K_newA, q_I_newA, q_J_newA, q_R_newA, q_L_newA, q_AI_newA, q_AJ_newA, q_AR_newA, q_sz_newA, q_su_newA, q_K_skip, q_I_skip, q_J_skip, q_R_skip, q_L_skip, q_AI_skip, q_AJ_skip, q_AR_skip, q_sz_skip, q_su_skip, q_up2, q_up, ri_0 r0, ri_55 r0, ri_56 r0, ri_57 r0, im, bI_tt, q1, c5, x_in, dlt_T, dle_T]
        · show _ = _
          unfold dm_X12_module_p23 dm_X12_of tS
          simp (disch := first | assumption | omega) [ck_T, sm_s, bd_l, bd_r, lt_e, eq_self, and_self, if_true, true_and, and_true, lit_nI, nI_add, nI_mul, nI_sub, nI_clamp, nI_eq, nI_ltI, nI_leI, nN_e, nI_nN, nN_nI, bI_0, bI_1, bI_n, bool_0, bool_1, in_T, lg_cmp0, ofN_nI, q_K_setI, q_I_setI, q_J_setI, q_R_setI, q_L_setI, q_AI_setI, q_AJ_setI, q_AR_setI, q_sz_setI, q_su_setI, q_K_setJ, q_I_setJ, q_J_setJ, q_R_setJ, q_L_setJ, q_AI_setJ, q_AJ_setJ, q_AR_setJ, q_sz_setJ, q_su_setJ, q_K_setR, q_I_setR, q_J_setR, q_R_setR, q_L_setR, q_AI_setR, q_AJ_setR, q_AR_setR, q_sz_setR, q_su_setR, q_K_setAI, q_I_setAI, q_J_setAI, q_R_setAI, q_L_setAI, q_AI_setAI, q_AJ_setAI, q_AR_setAI, q_sz_setAI, q_su_setAI, q_K_setAJ, q_I_setAJ, q_J_setAJ, q_R_setAJ, q_L_setAJ, q_AI_setAJ, q_AJ_setAJ, q_AR_setAJ, q_sz_setAJ, q_su_setAJ, q_K_setAR, q_I_setAR, q_J_setAR, q_R_setAR, q_L_setAR, q_AI_setAR, q_AJ_setAR, q_AR_setAR, q_sz_setAR, q_su_setAR, q_K_newO, q_I_newO, q_J_newO, q_R_newO, q_L_newO, q_AI_newO, q_AJ_newO, q_AR_newO, q_sz_newO, q_su_newO, q_K_newA, q_I_newA, q_J_newA, q_R_newA, q_L_newA, q_AI_newA, q_AJ_newA, q_AR_newA, q_sz_newA, q_su_newA, q_K_skip, q_I_skip, q_J_skip, q_R_skip, q_L_skip, q_AI_skip, q_AJ_skip, q_AR_skip, q_sz_skip, q_su_skip, q_up2, q_up, ri_0 r0, ri_64 r0, ri_65 r0, ri_66 r0, im, bI_tt, q1, c6, x_in, dlt_T, dle_T]
        · show _ = _
          unfold dm_X12_module_p23 dm_X12_of tS
          simp (disch := first | assumption | omega) [ck_T, sm_s, bd_l, bd_r, lt_e, eq_self, and_self, if_true, true_and, and_true, lit_nI, nI_add, nI_mul, nI_sub, nI_clamp, nI_eq, nI_ltI, nI_leI, nN_e, nI_nN, nN_nI, bI_0, bI_1, bI_n, bool_0, bool_1, in_T, lg_cmp0, ofN_nI, q_K_setI, q_I_setI, q_J_setI, q_R_setI, q_L_setI, q_AI_setI, q_AJ_setI, q_AR_setI, q_sz_setI, q_su_setI, q_K_setJ, q_I_setJ, q_J_setJ, q_R_setJ, q_L_setJ, q_AI_setJ, q_AJ_setJ, q_AR_setJ, q_sz_setJ, q_su_setJ, q_K_setR, q_I_setR, q_J_setR, q_R_setR, q_L_setR, q_AI_setR, q_AJ_setR, q_AR_setR, q_sz_setR, q_su_setR, q_K_setAI, q_I_setAI, q_J_setAI, q_R_setAI, q_L_setAI, q_AI_setAI, q_AJ_setAI, q_AR_setAI, q_sz_setAI, q_su_setAI, q_K_setAJ, q_I_setAJ, q_J_setAJ, q_R_setAJ, q_L_setAJ, q_AI_setAJ, q_AJ_setAJ, q_AR_setAJ, q_sz_setAJ, q_su_setAJ, q_K_setAR, q_I_setAR, q_J_setAR, q_R_setAR, q_L_setAR, q_AI_setAR, q_AJ_setAR, q_AR_setAR, q_sz_setAR, q_su_setAR, q_K_newO, q_I_newO, q_J_newO, q_R_newO, q_L_newO, q_AI_newO, q_AJ_newO, q_AR_newO, q_sz_newO, q_su_newO, q_K_newA, q_I_newA, q_J_newA, q_R_newA, q_L_newA, q_AI_newA, q_AJ_newA, q_AR_newA, q_sz_newA, q_su_newA, q_K_skip, q_I_skip, q_J_skip, q_R_skip, q_L_skip, q_AI_skip, q_AJ_skip, q_AR_skip, q_sz_skip, q_su_skip, q_up2, q_up, ri_0 r0, ri_91 r0, ri_92 r0, ri_93 r0, im, bI_tt, q1, c7, x_in, dlt_T, dle_T]
theorem rw_net {P : xP} {T : xT} {hv : Nat} {lng : Bool} {ms : List xMod} {n : Nat} {σ : xS} (h : RU P T hv lng ms n σ) (a k what : Int32) : RAns P σ (dm_X12_net P (P.base + 11) a k what σ) (aq_net ms a k what) := by
  have r0 := h.ri
  obtain ⟨b1, b2, b3, b4, b5⟩ := h.b
  have q1 := h.2
  have im := rw_isModule h a
  have no0 : ∀ (v1 v2 v3 : Int32), dm_X12_net_p64 P (P.base + 11) v1 v2 v3 (some (P.base + 11)) σ = some (.inl (nI 0), tS P σ 1) := by
    intro v1 v2 v3
    unfold dm_X12_net_p64 dm_X12_net_p65 tS
    simp (disch := first | assumption | omega) [ck_T, sm_s, bd_l, bd_r, lt_e, eq_self, and_self, if_true, true_and, and_true, lit_nI, nI_add, nI_mul, nI_sub, nI_clamp, nI_eq, nI_ltI, nI_leI, nN_e, nI_nN, nN_nI, bI_0, bI_1, bI_n, bool_0, bool_1, in_T, lg_cmp0, ofN_nI, q_K_setI, q_I_setI, q_J_setI, q_R_setI, q_L_setI, q_AI_setI, q_AJ_setI, q_AR_setI, q_sz_setI, q_su_setI, q_K_setJ, q_I_setJ, q_J_setJ, q_R_setJ, q_L_setJ, q_AI_setJ, q_AJ_setJ, q_AR_setJ, q_sz_setJ, q_su_setJ, q_K_setR, q_I_setR, q_J_setR, q_R_setR, q_L_setR, q_AI_setR, q_AJ_setR, q_AR_setR, q_sz_setR, q_su_setR, q_K_setAI, q_I_setAI, q_J_setAI, q_R_setAI, q_L_setAI, q_AI_setAI, q_AJ_setAI, q_AR_setAI, q_sz_setAI, q_su_setAI, q_K_setAJ, q_I_setAJ, q_J_setAJ, q_R_setAJ, q_L_setAJ, q_AI_setAJ, q_AJ_setAJ, q_AR_setAJ, q_sz_setAJ, q_su_setAJ, q_K_setAR, q_I_setAR, q_J_setAR, q_R_setAR, q_L_setAR, q_AI_setAR, q_AJ_setAR, q_AR_setAR, q_sz_setAR, q_su_setAR, q_K_newO, q_I_newO, q_J_newO, q_R_newO, q_L_newO, q_AI_newO, q_AJ_newO, q_AR_newO, q_sz_newO, q_su_newO, q_K_newA, q_I_newA, q_J_newA, q_R_newA, q_L_newA, q_AI_newA, q_AJ_newA, q_AR_newA, q_sz_newA, q_su_newA, q_K_skip, q_I_skip, q_J_skip, q_R_skip, q_L_skip, q_AI_skip, q_AJ_skip, q_AR_skip, q_sz_skip, q_su_skip, q_up2, q_up, ri_0 r0]
  have no : ∀ (v1 v2 v3 : Int32), dm_X12_net_p42 P (P.base + 11) v1 v2 v3 σ = some (.inl (nI 0), tS P σ 1) := by
    intro v1 v2 v3
    unfold dm_X12_net_p42 dm_X12_net_p43
    rw [if_pos rfl, no0]
  unfold dm_X12_net dm_X12_net_p31 aq_net dm_X12_of
  rcases at_cases ms xMod.nets a k with ⟨e1, e2⟩ | ⟨i, m, rfl, e2, e3, z⟩
  · rw [e1] at im
    rw [e2]
    show _ = _
    simp (disch := first | assumption | omega) [ck_T, sm_s, bd_l, bd_r, lt_e, eq_self, and_self, if_true, true_and, and_true, lit_nI, nI_add, nI_mul, nI_sub, nI_clamp, nI_eq, nI_ltI, nI_leI, nN_e, nI_nN, nN_nI, bI_0, bI_1, bI_n, bool_0, bool_1, in_T, lg_cmp0, ofN_nI, ri_0 r0, im, bI_ff, no]
  · rw [e3] at im
    have il := get_lt e2
    have a4 := (h.rm e2).1.2.2.2.1
    have w1 := (h.wx e2).2.2.2.1.1
    rcases z with ⟨z1, z2⟩ | ⟨j, z1, rfl, z3, z4⟩ | ⟨j, x, rfl, z2, z3⟩
    · rw [z2]
      show _ = _
      simp (disch := first | assumption | omega) [ck_T, sm_s, bd_l, bd_r, lt_e, eq_self, and_self, if_true, true_and, and_true, lit_nI, nI_add, nI_mul, nI_sub, nI_clamp, nI_eq, nI_ltI, nI_leI, nN_e, nI_nN, nN_nI, bI_0, bI_1, bI_n, bool_0, bool_1, in_T, lg_cmp0, ofN_nI, ri_0 r0, im, z1, bI_tt, no]
    · rw [z4]
      have n0 : ¬ nI j < nI 0 := by rw [nI_ltI (by omega) (by omega)]; omega
      show _ = _
      simp (disch := first | assumption | omega) [ck_T, sm_s, bd_l, bd_r, lt_e, eq_self, and_self, if_true, true_and, and_true, lit_nI, nI_add, nI_mul, nI_sub, nI_clamp, nI_eq, nI_ltI, nI_leI, nN_e, nI_nN, nN_nI, bI_0, bI_1, bI_n, bool_0, bool_1, in_T, lg_cmp0, ofN_nI, ri_0 r0, ri_19 r0, ri_20 r0, ri_21 r0, im, n0, q1, a4, z3, x_in, dlt_T, dle_T, bI_tt, no]
    · rw [z3]
      simp only
      have jl := get_lt z2
      have e4 : ¬ m.nets.length ≤ j := by omega
      obtain ⟨-, d2, d3, -⟩ := (h.rm e2).2.1 j x z2
      have d4 := (h.1.2.2.2 i m e2).2.1 j (by omega)
      have xm := List.mem_of_getElem? z2
      have n3 := (h.1.1.2.2.1.2.2.1 m (List.mem_of_getElem? e2)).2 x xm
      rw [if_neg n3] at d2
      unfold dm_X12_net_p43
      rcases i32_cases what with ⟨z1, z4⟩ | ⟨w, z1, rfl, z4⟩
      · have nw : ∀ i, i < 2 ^ 31 → ¬ what = nI i := by
          intro i hi e
          rw [e, nI_ltI hi (by omega)] at z1
          omega
        rw [if_neg (nw 0 (by omega)), if_neg (nw 1 (by omega)), if_neg (nw 2 (by omega))]
        show _ = _
        simp (disch := first | assumption | omega) [ck_T, sm_s, bd_l, bd_r, lt_e, eq_self, and_self, if_true, true_and, and_true, lit_nI, nI_add, nI_mul, nI_sub, nI_clamp, nI_eq, nI_ltI, nI_leI, nN_e, nI_nN, nN_nI, bI_0, bI_1, bI_n, bool_0, bool_1, in_T, lg_cmp0, ofN_nI, ri_0 r0, ri_19 r0, ri_20 r0, ri_21 r0, im, q1, a4, e4, z1, x_in, dlt_T, dle_T, bI_tt, no0]
      · by_cases g : 2 < w
        · have nw : ∀ i, i ≤ 2 → ¬ nI w = nI i := by
            intro i hi
            rw [nI_eq (by omega) (by omega)]
            omega
          rw [if_neg (nw 0 (by omega)), if_neg (nw 1 (by omega)), if_neg (nw 2 (by omega))]
          show _ = _
          simp (disch := first | assumption | omega) [ck_T, sm_s, bd_l, bd_r, lt_e, eq_self, and_self, if_true, true_and, and_true, lit_nI, nI_add, nI_mul, nI_sub, nI_clamp, nI_eq, nI_ltI, nI_leI, nN_e, nI_nN, nN_nI, bI_0, bI_1, bI_n, bool_0, bool_1, in_T, lg_cmp0, ofN_nI, ri_0 r0, ri_19 r0, ri_20 r0, ri_21 r0, im, q1, a4, e4, g, x_in, dlt_T, dle_T, bI_tt, no0]
        · obtain rfl | rfl | rfl : w = 0 ∨ w = 1 ∨ w = 2 := by omega
          · show _ = _
            unfold dm_X12_net_p65 dm_X12_net_p125 dm_X12_of tS
            simp (disch := first | assumption | omega) [ck_T, sm_s, bd_l, bd_r, lt_e, eq_self, and_self, if_true, true_and, and_true, lit_nI, nI_add, nI_mul, nI_sub, nI_clamp, nI_eq, nI_ltI, nI_leI, nN_e, nI_nN, nN_nI, bI_0, bI_1, bI_n, bool_0, bool_1, in_T, lg_cmp0, ofN_nI, q_K_setI, q_I_setI, q_J_setI, q_R_setI, q_L_setI, q_AI_setI, q_AJ_setI, q_AR_setI, q_sz_setI, q_su_setI, q_K_setJ, q_I_setJ, q_J_setJ, q_R_setJ, q_L_setJ, q_AI_setJ, q_AJ_setJ, q_AR_setJ, q_sz_setJ, q_su_setJ, q_K_setR, q_I_setR, q_J_setR, q_R_setR, q_L_setR, q_AI_setR, q_AJ_setR, q_AR_setR, q_sz_setR, q_su_setR, q_K_setAI, q_I_setAI, q_J_setAI, q_R_setAI, q_L_setAI, q_AI_setAI, q_AJ_setAI, q_AR_setAI, q_sz_setAI, q_su_setAI, q_K_setAJ, q_I_setAJ, q_J_setAJ, q_R_setAJ, q_L_setAJ, q_AI_setAJ, q_AJ_setAJ, q_AR_setAJ, q_sz_setAJ, q_su_setAJ, q_K_setAR, q_I_setAR, q_J_setAR, q_R_setAR, q_L_setAR, q_AI_setAR, q_AJ_setAR, q_AR_setAR, q_sz_setAR, q_su_setAR, q_K_newO, q_I_newO, q_J_newO, q_R_newO, q_L_newO, q_AI_newO, q_AJ_newO, q_AR_newO, q_sz_newO, q_su_newO, q_K_newA, q_I_newA, q_J_newA, q_R_newA, q_L_newA, q_AI_newA, q_AJ_newA, q_AR_newA, q_sz_newA, q_su_newA, q_K_skip, q_I_skip, q_J_skip, q_R_skip, q_L_skip, q_AI_skip, q_AJ_skip, q_AR_skip, q_sz_skip, q_su_skip, q_up2, q_up, ri_0 r0, ri_19 r0, ri_20 r0, ri_21 r0, ri_25 r0, ri_26 r0, ri_27 r0, im, q1, a4, e4, d2, x_in, dlt_T, dle_T, bI_tt]
          · show _ = _
            unfold dm_X12_net_p65 dm_X12_net_p125 dm_X12_of tS
            simp (disch := first | assumption | omega) [ck_T, sm_s, bd_l, bd_r, lt_e, eq_self, and_self, if_true, true_and, and_true, lit_nI, nI_add, nI_mul, nI_sub, nI_clamp, nI_eq, nI_ltI, nI_leI, nN_e, nI_nN, nN_nI, bI_0, bI_1, bI_n, bool_0, bool_1, in_T, lg_cmp0, ofN_nI, q_K_setI, q_I_setI, q_J_setI, q_R_setI, q_L_setI, q_AI_setI, q_AJ_setI, q_AR_setI, q_sz_setI, q_su_setI, q_K_setJ, q_I_setJ, q_J_setJ, q_R_setJ, q_L_setJ, q_AI_setJ, q_AJ_setJ, q_AR_setJ, q_sz_setJ, q_su_setJ, q_K_setR, q_I_setR, q_J_setR, q_R_setR, q_L_setR, q_AI_setR, q_AJ_setR, q_AR_setR, q_sz_setR, q_su_setR, q_K_setAI, q_I_setAI, q_J_setAI, q_R_setAI, q_L_setAI, q_AI_setAI, q_AJ_setAI, q_AR_setAI, q_sz_setAI, q_su_setAI, q_K_setAJ, q_I_setAJ, q_J_setAJ, q_R_setAJ, q_L_setAJ, q_AI_setAJ, q_AJ_setAJ, q_AR_setAJ, q_sz_setAJ, q_su_setAJ, q_K_setAR, q_I_setAR, q_J_setAR, q_R_setAR, q_L_setAR, q_AI_setAR, q_AJ_setAR, q_AR_setAR, q_sz_setAR, q_su_setAR, q_K_newO, q_I_newO, q_J_newO, q_R_newO, q_L_newO, q_AI_newO, q_AJ_newO, q_AR_newO, q_sz_newO, q_su_newO, q_K_newA, q_I_newA, q_J_newA, q_R_newA, q_L_newA, q_AI_newA, q_AJ_newA, q_AR_newA, q_sz_newA, q_su_newA, q_K_skip, q_I_skip, q_J_skip, q_R_skip, q_L_skip, q_AI_skip, q_AJ_skip, q_AR_skip, q_sz_skip, q_su_skip, q_up2, q_up, ri_0 r0, ri_19 r0, ri_20 r0, ri_21 r0, ri_28 r0, ri_29 r0, ri_30 r0, im, q1, a4, e4, d3, x_in, dlt_T, dle_T, bI_tt]
          · show _ = _
            unfold dm_X12_net_p65 dm_X12_net_p125 dm_X12_of tS
            simp (disch := first | assumption | omega) [ck_T, sm_s, bd_l, bd_r, lt_e, eq_self, and_self, if_true, true_and, and_true, lit_nI, nI_add, nI_mul, nI_sub, nI_clamp, nI_eq, nI_ltI, nI_leI, nN_e, nI_nN, nN_nI, bI_0, bI_1, bI_n, bool_0, bool_1, in_T, lg_cmp0, ofN_nI, q_K_setI, q_I_setI, q_J_setI, q_R_setI, q_L_setI, q_AI_setI, q_AJ_setI, q_AR_setI, q_sz_setI, q_su_setI, q_K_setJ, q_I_setJ, q_J_setJ, q_R_setJ, q_L_setJ, q_AI_setJ, q_AJ_setJ, q_AR_setJ, q_sz_setJ, q_su_setJ, q_K_setR, q_I_setR, q_J_setR, q_R_setR, q_L_setR, q_AI_setR, q_AJ_setR, q_AR_setR, q_sz_setR, q_su_setR, q_K_setAI, q_I_setAI, q_J_setAI, q_R_setAI, q_L_setAI, q_AI_setAI, q_AJ_setAI, q_AR_setAI, q_sz_setAI, q_su_setAI, q_K_setAJ, q_I_setAJ, q_J_setAJ, q_R_setAJ, q_L_setAJ, q_AI_setAJ, q_AJ_setAJ, q_AR_setAJ, q_sz_setAJ, q_su_setAJ, q_K_setAR, q_I_setAR, q_J_setAR, q_R_setAR, q_L_setAR, q_AI_setAR, q_AJ_setAR, q_AR_setAR, q_sz_setAR, q_su_setAR, q_K_newO, q_I_newO, q_J_newO, q_R_newO, q_L_newO, q_AI_newO, q_AJ_newO, q_AR_newO, q_sz_newO, q_su_newO, q_K_newA, q_I_newA, q_J_newA, q_R_newA, q_L_newA, q_AI_newA, q_AJ_newA, q_AR_newA, q_sz_newA, q_su_newA, q_K_skip, q_I_skip, q_J_skip, q_R_skip, q_L_skip, q_AI_skip, q_AJ_skip, q_AR_skip, q_sz_skip, q_su_skip, q_up2, q_up, ri_0 r0, ri_19 r0, ri_20 r0, ri_21 r0, ri_31 r0, ri_32 r0, ri_33 r0, im, q1, a4, e4, d4, x_in, dlt_T, dle_T, bI_tt]
theorem pn_ix {ms : List xMod} {i : xIns} : (pn_mod ms i = none ∧ mIx ms i.1 = nN) ∨ ∃ j k, pn_mod ms i = some (j, k) ∧ ms[j]? = some k ∧ mIx ms i.1 = nI j := by
  rcases pn_get (ms := ms) (i := i) with ⟨h1, h2⟩ | ⟨j, k, h1, h2, h3⟩
  · exact Or.inl ⟨h2, mIx_N h1⟩
  · exact Or.inr ⟨j, k, h3, h2, mIx_S h1⟩
theorem rw_pins {P : xP} {T : xT} {hv : Nat} {lng : Bool} {ms : List xMod} {n k j : Nat} {σ : xS} {m : xMod} {i : xIns} (h : RU P T hv lng ms n σ) (hm : ms[k]? = some m) (hi : m.ins[j]? = some i) : dm_X12_pins P (P.base + 11) (nI (12 * (8 * hv + k) + j)) σ = some (.inl (nI (pn_cnt ms i)), σ) ∧ pn_cnt ms i ≤ 16 := by
  have r0 := h.ri
  obtain ⟨b1, b2, b3, b4, b5⟩ := h.b
  have q1 := h.2
  have kl := get_lt hm
  have jl := get_lt hi
  have w3 := (h.wx hm).2.2.2.1.2.2
  have i16 := ((h.wx hm).2.2.2.2.1.2.2 i (List.mem_of_getElem? hi)).2.2.1
  have o1 := (h.1.2.2.2 k m hm).1 j i hi
  have q5 := ((h.rm hm).2.2.2 j i hi).2.2.2.2.1
  unfold dm_X12_pins dm_X12_pins_p34 dm_X12_of pn_cnt
  rcases pn_ix (ms := ms) (i := i) with ⟨e1, e2⟩ | ⟨jj, o, e1, e2, e3⟩
  · rw [e2] at o1
    rw [e1]
    refine ⟨?_, i16⟩
    simp (disch := first | assumption | omega) [ck_T, sm_s, bd_l, bd_r, lt_e, eq_self, and_self, if_true, true_and, and_true, lit_nI, nI_add, nI_mul, nI_sub, nI_clamp, nI_eq, nI_ltI, nI_leI, nN_e, nI_nN, nN_nI, bI_0, bI_1, bI_n, bool_0, bool_1, in_T, lg_cmp0, ofN_nI, ri_0 r0, ri_76 r0, ri_77 r0, ri_78 r0, ri_79 r0, ri_80 r0, ri_81 r0, o1, q5, x_in, dlt_T, dle_T]
  · rw [e3] at o1
    rw [e1]
    have jjl := get_lt e2
    have nk : ¬ nI jj = nN := by rw [nI_nN (by omega)]; simp
    have po := (h.rm e2).1.2.2.1
    have o16 := (h.wx e2).2.2.2.1.1
    have pn : o.ports.length ≤ o.nets.length := by unfold xMod.nets; simp
    refine ⟨?_, by simp only; omega⟩
    simp (disch := first | assumption | omega) [ck_T, sm_s, bd_l, bd_r, lt_e, eq_self, and_self, if_true, true_and, and_true, lit_nI, nI_add, nI_mul, nI_sub, nI_clamp, nI_eq, nI_ltI, nI_leI, nN_e, nI_nN, nN_nI, bI_0, bI_1, bI_n, bool_0, bool_1, in_T, lg_cmp0, ofN_nI, ri_0 r0, ri_76 r0, ri_77 r0, ri_78 r0, ri_16 r0, ri_17 r0, ri_18 r0, o1, nk, q1, po, x_in, dlt_T, dle_T]
theorem rw_instance {P : xP} {T : xT} {hv : Nat} {lng : Bool} {ms : List xMod} {n : Nat} {σ : xS} (h : RU P T hv lng ms n σ) (a k what : Int32) : RAns P σ (dm_X12_instance P (P.base + 11) a k what σ) (aq_ins ms a k what) := by
  have r0 := h.ri
  obtain ⟨b1, b2, b3, b4, b5⟩ := h.b
  have q1 := h.2
  have im := rw_isInstance h a k
  have no : ∀ (v1 v2 v3 : Int32), dm_X12_instance_p23 P (P.base + 11) v1 v2 v3 (some (P.base + 11)) σ = some (.inl (nI 0), tS P σ 1) := by
    intro v1 v2 v3
    unfold dm_X12_instance_p23 dm_X12_instance_p24 tS
    simp (disch := first | assumption | omega) [ck_T, sm_s, bd_l, bd_r, lt_e, eq_self, and_self, if_true, true_and, and_true, lit_nI, nI_add, nI_mul, nI_sub, nI_clamp, nI_eq, nI_ltI, nI_leI, nN_e, nI_nN, nN_nI, bI_0, bI_1, bI_n, bool_0, bool_1, in_T, lg_cmp0, ofN_nI, q_K_setI, q_I_setI, q_J_setI, q_R_setI, q_L_setI, q_AI_setI, q_AJ_setI, q_AR_setI, q_sz_setI, q_su_setI, q_K_setJ, q_I_setJ, q_J_setJ, q_R_setJ, q_L_setJ, q_AI_setJ, q_AJ_setJ, q_AR_setJ, q_sz_setJ, q_su_setJ, q_K_setR, q_I_setR, q_J_setR, q_R_setR, q_L_setR, q_AI_setR, q_AJ_setR, q_AR_setR, q_sz_setR, q_su_setR, q_K_setAI, q_I_setAI, q_J_setAI, q_R_setAI, q_L_setAI, q_AI_setAI, q_AJ_setAI, q_AR_setAI, q_sz_setAI, q_su_setAI, q_K_setAJ, q_I_setAJ, q_J_setAJ, q_R_setAJ, q_L_setAJ, q_AI_setAJ, q_AJ_setAJ, q_AR_setAJ, q_sz_setAJ, q_su_setAJ, q_K_setAR, q_I_setAR, q_J_setAR, q_R_setAR, q_L_setAR, q_AI_setAR, q_AJ_setAR, q_AR_setAR, q_sz_setAR, q_su_setAR, q_K_newO, q_I_newO, q_J_newO, q_R_newO, q_L_newO, q_AI_newO, q_AJ_newO, q_AR_newO, q_sz_newO, q_su_newO, q_K_newA, q_I_newA, q_J_newA, q_R_newA, q_L_newA, q_AI_newA, q_AJ_newA, q_AR_newA, q_sz_newA, q_su_newA, q_K_skip, q_I_skip, q_J_skip, q_R_skip, q_L_skip, q_AI_skip, q_AJ_skip, q_AR_skip, q_sz_skip, q_su_skip, q_up2, q_up, ri_0 r0]
  unfold dm_X12_instance aq_ins
  cases e : aq_at ms xMod.ins a k with
  | none =>
    rw [e] at im
    show _ = _
    simp (disch := first | assumption | omega) [ck_T, sm_s, bd_l, bd_r, lt_e, eq_self, and_self, if_true, true_and, and_true, lit_nI, nI_add, nI_mul, nI_sub, nI_clamp, nI_eq, nI_ltI, nI_leI, nN_e, nI_nN, nN_nI, bI_0, bI_1, bI_n, bool_0, bool_1, in_T, lg_cmp0, ofN_nI, ri_0 r0, im, bI_ff, no]
  | some q =>
    rcases at_cases ms xMod.ins a k with ⟨e1, e2⟩ | ⟨i, m, rfl, e2, e3, z⟩
    · rw [e] at e2; cases e2
    · rcases z with ⟨z1, z2⟩ | ⟨j, z1, rfl, z3, z4⟩ | ⟨j, x, rfl, z2, z3⟩
      · rw [e] at z2; cases z2
      · rw [e] at z4; cases z4
      · rw [e] at im z3
        cases z3
        simp only
        have il := get_lt e2
        have jl := get_lt z2
        have w3 := (h.wx e2).2.2.2.1.2.2
        have o1 := (h.1.2.2.2 i m e2).1 j x z2
        obtain ⟨-, d2, d3, d4, d5, -⟩ := (h.rm e2).2.2.2 j x z2
        have ps := (rw_pins (h.setI (f := 1100) (v := nI 0) (by omega)) e2 z2).1
        rcases i32_cases what with ⟨z1, z4⟩ | ⟨w, z1, rfl, z4⟩
        · have nw : ∀ i, i < 2 ^ 31 → ¬ what = nI i := by
            intro i hi e
            rw [e, nI_ltI hi (by omega)] at z1
            omega
          rw [if_neg (nw 0 (by omega)), if_neg (nw 1 (by omega)), if_neg (nw 2 (by omega)), if_neg (nw 3 (by omega))]
          show _ = _
          simp (disch := first | assumption | omega) [ck_T, sm_s, bd_l, bd_r, lt_e, eq_self, and_self, if_true, true_and, and_true, lit_nI, nI_add, nI_mul, nI_sub, nI_clamp, nI_eq, nI_ltI, nI_leI, nN_e, nI_nN, nN_nI, bI_0, bI_1, bI_n, bool_0, bool_1, in_T, lg_cmp0, ofN_nI, ri_0 r0, im, z1, bI_tt, no]
        · by_cases g : 3 < w
          · have nw : ∀ i, i ≤ 3 → ¬ nI w = nI i := by
              intro i hi
              rw [nI_eq (by omega) (by omega)]
              omega
            rw [if_neg (nw 0 (by omega)), if_neg (nw 1 (by omega)), if_neg (nw 2 (by omega)), if_neg (nw 3 (by omega))]
            show _ = _
            simp (disch := first | assumption | omega) [ck_T, sm_s, bd_l, bd_r, lt_e, eq_self, and_self, if_true, true_and, and_true, lit_nI, nI_add, nI_mul, nI_sub, nI_clamp, nI_eq, nI_ltI, nI_leI, nN_e, nI_nN, nN_nI, bI_0, bI_1, bI_n, bool_0, bool_1, in_T, lg_cmp0, ofN_nI, ri_0 r0, im, g, bI_tt, no]
          · obtain rfl | rfl | rfl | rfl : w = 0 ∨ w = 1 ∨ w = 2 ∨ w = 3 := by omega
            · rw [if_pos rfl]
              rcases pn_ix (ms := ms) (i := x) with ⟨y1, y2⟩ | ⟨jj, o, y1, y2, y3⟩
              · rw [y1]
                rw [y2] at o1
                show _ = _
                unfold dm_X12_instance_p24 dm_X12_instance_p106 dm_X12_of tS
                simp (disch := first | assumption | omega) [ck_T, sm_s, bd_l, bd_r, lt_e, eq_self, and_self, if_true, true_and, and_true, lit_nI, nI_add, nI_mul, nI_sub, nI_clamp, nI_eq, nI_ltI, nI_leI, nN_e, nI_nN, nN_nI, bI_0, bI_1, bI_n, bool_0, bool_1, in_T, lg_cmp0, ofN_nI, q_K_setI, q_I_setI, q_J_setI, q_R_setI, q_L_setI, q_AI_setI, q_AJ_setI, q_AR_setI, q_sz_setI, q_su_setI, q_K_setJ, q_I_setJ, q_J_setJ, q_R_setJ, q_L_setJ, q_AI_setJ, q_AJ_setJ, q_AR_setJ, q_sz_setJ, q_su_setJ, q_K_setR, q_I_setR, q_J_setR, q_R_setR, q_L_setR, q_AI_setR, q_AJ_setR, q_AR_setR, q_sz_setR, q_su_setR, q_K_setAI, q_I_setAI, q_J_setAI, q_R_setAI, q_L_setAI, q_AI_setAI, q_AJ_setAI, q_AR_setAI, q_sz_setAI, q_su_setAI, q_K_setAJ, q_I_setAJ, q_J_setAJ, q_R_setAJ, q_L_setAJ, q_AI_setAJ, q_AJ_setAJ, q_AR_setAJ, q_sz_setAJ, q_su_setAJ, q_K_setAR, q_I_setAR, q_J_setAR, q_R_setAR, q_L_setAR, q_AI_setAR, q_AJ_setAR, q_AR_setAR, q_sz_setAR, q_su_setAR, q_K_newO, q_I_newO, q_J_newO, q_R_newO, q_L_newO, q_AI_newO, q_AJ_newO, q_AR_newO, q_sz_newO, q_su_newO, q_K_newA, q_I_newA, q_J_newA, q_R_newA, q_L_newA, q_AI_newA, q_AJ_newA, q_AR_newA, q_sz_newA, q_su_newA, q_K_skip, q_I_skip, q_J_skip, q_R_skip, q_L_skip, q_AI_skip, q_AJ_skip, q_AR_skip, q_sz_skip, q_su_skip, q_up2, q_up, ri_0 r0, ri_76 r0, ri_77 r0, ri_78 r0, im, q1, o1, x_in, dlt_T, dle_T, bI_tt]
              · rw [y1]
                rw [y3] at o1
                show _ = _
                unfold dm_X12_instance_p24 dm_X12_instance_p106 dm_X12_of tS
                simp (disch := first | assumption | omega) [ck_T, sm_s, bd_l, bd_r, lt_e, eq_self, and_self, if_true, true_and, and_true, lit_nI, nI_add, nI_mul, nI_sub, nI_clamp, nI_eq, nI_ltI, nI_leI, nN_e, nI_nN, nN_nI, bI_0, bI_1, bI_n, bool_0, bool_1, in_T, lg_cmp0, ofN_nI, q_K_setI, q_I_setI, q_J_setI, q_R_setI, q_L_setI, q_AI_setI, q_AJ_setI, q_AR_setI, q_sz_setI, q_su_setI, q_K_setJ, q_I_setJ, q_J_setJ, q_R_setJ, q_L_setJ, q_AI_setJ, q_AJ_setJ, q_AR_setJ, q_sz_setJ, q_su_setJ, q_K_setR, q_I_setR, q_J_setR, q_R_setR, q_L_setR, q_AI_setR, q_AJ_setR, q_AR_setR, q_sz_setR, q_su_setR, q_K_setAI, q_I_setAI, q_J_setAI, q_R_setAI, q_L_setAI, q_AI_setAI, q_AJ_setAI, q_AR_setAI, q_sz_setAI, q_su_setAI, q_K_setAJ, q_I_setAJ, q_J_setAJ, q_R_setAJ, q_L_setAJ, q_AI_setAJ, q_AJ_setAJ, q_AR_setAJ, q_sz_setAJ, q_su_setAJ, q_K_setAR, q_I_setAR, q_J_setAR, q_R_setAR, q_L_setAR, q_AI_setAR, q_AJ_setAR, q_AR_setAR, q_sz_setAR, q_su_setAR, q_K_newO, q_I_newO, q_J_newO, q_R_newO, q_L_newO, q_AI_newO, q_AJ_newO, q_AR_newO, q_sz_newO, q_su_newO, q_K_newA, q_I_newA, q_J_newA, q_R_newA, q_L_newA, q_AI_newA, q_AJ_newA, q_AR_newA, q_sz_newA, q_su_newA, q_K_skip, q_I_skip, q_J_skip, q_R_skip, q_L_skip, q_AI_skip, q_AJ_skip, q_AR_skip, q_sz_skip, q_su_skip, q_up2, q_up, ri_0 r0, ri_76 r0, ri_77 r0, ri_78 r0, im, q1, o1, x_in, dlt_T, dle_T, bI_tt]
            · show _ = _
              unfold dm_X12_instance_p24 dm_X12_instance_p106 dm_X12_of tS
              simp (disch := first | assumption | omega) [ck_T, sm_s, bd_l, bd_r, lt_e, eq_self, and_self, if_true, true_and, and_true, lit_nI, nI_add, nI_mul, nI_sub, nI_clamp, nI_eq, nI_ltI, nI_leI, nN_e, nI_nN, nN_nI, bI_0, bI_1, bI_n, bool_0, bool_1, in_T, lg_cmp0, ofN_nI, q_K_setI, q_I_setI, q_J_setI, q_R_setI, q_L_setI, q_AI_setI, q_AJ_setI, q_AR_setI, q_sz_setI, q_su_setI, q_K_setJ, q_I_setJ, q_J_setJ, q_R_setJ, q_L_setJ, q_AI_setJ, q_AJ_setJ, q_AR_setJ, q_sz_setJ, q_su_setJ, q_K_setR, q_I_setR, q_J_setR, q_R_setR, q_L_setR, q_AI_setR, q_AJ_setR, q_AR_setR, q_sz_setR, q_su_setR, q_K_setAI, q_I_setAI, q_J_setAI, q_R_setAI, q_L_setAI, q_AI_setAI, q_AJ_setAI, q_AR_setAI, q_sz_setAI, q_su_setAI, q_K_setAJ, q_I_setAJ, q_J_setAJ, q_R_setAJ, q_L_setAJ, q_AI_setAJ, q_AJ_setAJ, q_AR_setAJ, q_sz_setAJ, q_su_setAJ, q_K_setAR, q_I_setAR, q_J_setAR, q_R_setAR, q_L_setAR, q_AI_setAR, q_AJ_setAR, q_AR_setAR, q_sz_setAR, q_su_setAR, q_K_newO, q_I_newO, q_J_newO, q_R_newO, q_L_newO, q_AI_newO, q_AJ_newO, q_AR_newO, q_sz_newO, q_su_newO, q_K_newA, q_I_newA, q_J_newA, q_R_newA, q_L_newA, q_AI_newA, q_AJ_newA, q_AR_newA, q_sz_newA, q_su_newA, q_K_skip, q_I_skip, q_J_skip, q_R_skip, q_L_skip, q_AI_skip, q_AJ_skip, q_AR_skip, q_sz_skip, q_su_skip, q_up2, q_up, ri_0 r0, ri_76 r0, ri_77 r0, ri_78 r0, im, q1, ps, x_in, dlt_T, dle_T, bI_tt]
            · show _ = _
              unfold dm_X12_instance_p24 dm_X12_instance_p106 dm_X12_of tS
              simp (disch := first | assumption | omega) [ck_T, sm_s, bd_l, bd_r, lt_e, eq_self, and_self, if_true, true_and, and_true, lit_nI, nI_add, nI_mul, nI_sub, nI_clamp, nI_eq, nI_ltI, nI_leI, nN_e, nI_nN, nN_nI, bI_0, bI_1, bI_n, bool_0, bool_1, in_T, lg_cmp0, ofN_nI, q_K_setI, q_I_setI, q_J_setI, q_R_setI, q_L_setI, q_AI_setI, q_AJ_setI, q_AR_setI, q_sz_setI, q_su_setI, q_K_setJ, q_I_setJ, q_J_setJ, q_R_setJ, q_L_setJ, q_AI_setJ, q_AJ_setJ, q_AR_setJ, q_sz_setJ, q_su_setJ, q_K_setR, q_I_setR, q_J_setR, q_R_setR, q_L_setR, q_AI_setR, q_AJ_setR, q_AR_setR, q_sz_setR, q_su_setR, q_K_setAI, q_I_setAI, q_J_setAI, q_R_setAI, q_L_setAI, q_AI_setAI, q_AJ_setAI, q_AR_setAI, q_sz_setAI, q_su_setAI, q_K_setAJ, q_I_setAJ, q_J_setAJ, q_R_setAJ, q_L_setAJ, q_AI_setAJ, q_AJ_setAJ, q_AR_setAJ, q_sz_setAJ, q_su_setAJ, q_K_setAR, q_I_setAR, q_J_setAR, q_R_setAR, q_L_setAR, q_AI_setAR, q_AJ_setAR, q_AR_setAR, q_sz_setAR, q_su_setAR, q_K_newO, q_I_newO, q_J_newO, q_R_newO, q_L_newO, q_AI_newO, q_AJ_newO, q_AR_newO, q_sz_newO, q_su_newO, q_K_newA, q_I_newA, q_J_newA, q_R_newA, q_L_newA, q_AI_newA, q_AJ_newA, q_AR_newA, q_sz_newA, q_su_newA, q_K_skip, q_I_skip, q_J_skip, q_R_skip, q_L_skip, q_AI_skip, q_AJ_skip, q_AR_skip, q_sz_skip, q_su_skip, q_up2, q_up, ri_0 r0, ri_70 r0, ri_71 r0, ri_72 r0, im, q1, d2, x_in, dlt_T, dle_T, bI_tt]
            · cases eb : x.2.2.2.1 with
              | true =>
                rw [eb] at d4
                show _ = _
                unfold dm_X12_instance_p24 dm_X12_instance_p106 dm_X12_of tS
                simp (disch := first | assumption | omega) [ck_T, sm_s, bd_l, bd_r, lt_e, eq_self, and_self, if_true, true_and, and_true, lit_nI, nI_add, nI_mul, nI_sub, nI_clamp, nI_eq, nI_ltI, nI_leI, nN_e, nI_nN, nN_nI, bI_0, bI_1, bI_n, bool_0, bool_1, in_T, lg_cmp0, ofN_nI, q_K_setI, q_I_setI, q_J_setI, q_R_setI, q_L_setI, q_AI_setI, q_AJ_setI, q_AR_setI, q_sz_setI, q_su_setI, q_K_setJ, q_I_setJ, q_J_setJ, q_R_setJ, q_L_setJ, q_AI_setJ, q_AJ_setJ, q_AR_setJ, q_sz_setJ, q_su_setJ, q_K_setR, q_I_setR, q_J_setR, q_R_setR, q_L_setR, q_AI_setR, q_AJ_setR, q_AR_setR, q_sz_setR, q_su_setR, q_K_setAI, q_I_setAI, q_J_setAI, q_R_setAI, q_L_setAI, q_AI_setAI, q_AJ_setAI, q_AR_setAI, q_sz_setAI, q_su_setAI, q_K_setAJ, q_I_setAJ, q_J_setAJ, q_R_setAJ, q_L_setAJ, q_AI_setAJ, q_AJ_setAJ, q_AR_setAJ, q_sz_setAJ, q_su_setAJ, q_K_setAR, q_I_setAR, q_J_setAR, q_R_setAR, q_L_setAR, q_AI_setAR, q_AJ_setAR, q_AR_setAR, q_sz_setAR, q_su_setAR, q_K_newO, q_I_newO, q_J_newO, q_R_newO, q_L_newO, q_AI_newO, q_AJ_newO, q_AR_newO, q_sz_newO, q_su_newO, q_K_newA, q_I_newA, q_J_newA, q_R_newA, q_L_newA, q_AI_newA, q_AJ_newA, q_AR_newA, q_sz_newA, q_su_newA, q_K_skip, q_I_skip, q_J_skip, q_R_skip, q_L_skip, q_AI_skip, q_AJ_skip, q_AR_skip, q_sz_skip, q_su_skip, q_up2, q_up, ri_0 r0, ri_73 r0, ri_74 r0, ri_75 r0, im, q1, d4, eb, x_in, dlt_T, dle_T, bI_tt]
              | false =>
                rw [eb] at d4
                show _ = _
                unfold dm_X12_instance_p24 dm_X12_instance_p106 dm_X12_of tS
                simp (disch := first | assumption | omega) [ck_T, sm_s, bd_l, bd_r, lt_e, eq_self, and_self, if_true, true_and, and_true, lit_nI, nI_add, nI_mul, nI_sub, nI_clamp, nI_eq, nI_ltI, nI_leI, nN_e, nI_nN, nN_nI, bI_0, bI_1, bI_n, bool_0, bool_1, in_T, lg_cmp0, ofN_nI, q_K_setI, q_I_setI, q_J_setI, q_R_setI, q_L_setI, q_AI_setI, q_AJ_setI, q_AR_setI, q_sz_setI, q_su_setI, q_K_setJ, q_I_setJ, q_J_setJ, q_R_setJ, q_L_setJ, q_AI_setJ, q_AJ_setJ, q_AR_setJ, q_sz_setJ, q_su_setJ, q_K_setR, q_I_setR, q_J_setR, q_R_setR, q_L_setR, q_AI_setR, q_AJ_setR, q_AR_setR, q_sz_setR, q_su_setR, q_K_setAI, q_I_setAI, q_J_setAI, q_R_setAI, q_L_setAI, q_AI_setAI, q_AJ_setAI, q_AR_setAI, q_sz_setAI, q_su_setAI, q_K_setAJ, q_I_setAJ, q_J_setAJ, q_R_setAJ, q_L_setAJ, q_AI_setAJ, q_AJ_setAJ, q_AR_setAJ, q_sz_setAJ, q_su_setAJ, q_K_setAR, q_I_setAR, q_J_setAR, q_R_setAR, q_L_setAR, q_AI_setAR, q_AJ_setAR, q_AR_setAR, q_sz_setAR, q_su_setAR, q_K_newO, q_I_newO, q_J_newO, q_R_newO, q_L_newO, q_AI_newO, q_AJ_newO, q_AR_newO, q_sz_newO, q_su_newO, q_K_newA, q_I_newA, q_J_newA, q_R_newA, q_L_newA, q_AI_newA, q_AJ_newA, q_AR_newA, q_sz_newA, q_su_newA, q_K_skip, q_I_skip, q_J_skip, q_R_skip, q_L_skip, q_AI_skip, q_AJ_skip, q_AR_skip, q_sz_skip, q_su_skip, q_up2, q_up, ri_0 r0, ri_73 r0, ri_74 r0, ri_75 r0, im, q1, d4, eb, x_in, dlt_T, dle_T, bI_tt, bI_ff]
theorem rw_count {P : xP} {T T' : xT} {hv : Nat} {lng : Bool} {ms : List xMod} {n : Nat} {σ : xS} (h : RU P T' hv lng ms n σ) (ht : TQ P T σ) (v : Int32) : RAns P σ (dm_X12_count P (P.base + 11) v σ) (aq_count T ms v) := by
  have r0 := h.ri
  obtain ⟨b1, b2, b3, b4, b5⟩ := h.b
  have q1 := h.2
  have h2 := h.1.1.2.1
  have t1 := ht.2.1
  unfold dm_X12_count dm_X12_count_p10 dm_X12_count_p15 dm_X12_count_p49 aq_count
  by_cases e0 : v = nI 0
  · subst e0
    show _ = _
    unfold tS
    simp (disch := first | assumption | omega) [ck_T, sm_s, bd_l, bd_r, lt_e, eq_self, and_self, if_true, true_and, and_true, lit_nI, nI_add, nI_mul, nI_sub, nI_clamp, nI_eq, nI_ltI, nI_leI, nN_e, nI_nN, nN_nI, bI_0, bI_1, bI_n, bool_0, bool_1, in_T, lg_cmp0, ofN_nI, q_K_setI, q_I_setI, q_J_setI, q_R_setI, q_L_setI, q_AI_setI, q_AJ_setI, q_AR_setI, q_sz_setI, q_su_setI, q_K_setJ, q_I_setJ, q_J_setJ, q_R_setJ, q_L_setJ, q_AI_setJ, q_AJ_setJ, q_AR_setJ, q_sz_setJ, q_su_setJ, q_K_setR, q_I_setR, q_J_setR, q_R_setR, q_L_setR, q_AI_setR, q_AJ_setR, q_AR_setR, q_sz_setR, q_su_setR, q_K_setAI, q_I_setAI, q_J_setAI, q_R_setAI, q_L_setAI, q_AI_setAI, q_AJ_setAI, q_AR_setAI, q_sz_setAI, q_su_setAI, q_K_setAJ, q_I_setAJ, q_J_setAJ, q_R_setAJ, q_L_setAJ, q_AI_setAJ, q_AJ_setAJ, q_AR_setAJ, q_sz_setAJ, q_su_setAJ, q_K_setAR, q_I_setAR, q_J_setAR, q_R_setAR, q_L_setAR, q_AI_setAR, q_AJ_setAR, q_AR_setAR, q_sz_setAR, q_su_setAR, q_K_newO, q_I_newO, q_J_newO, q_R_newO, q_L_newO, q_AI_newO, q_AJ_newO, q_AR_newO, q_sz_newO, q_su_newO, q_K_newA, q_I_newA, q_J_newA, q_R_newA, q_L_newA, q_AI_newA, q_AJ_newA, q_AR_newA, q_sz_newA, q_su_newA, q_K_skip, q_I_skip, q_J_skip, q_R_skip, q_L_skip, q_AI_skip, q_AJ_skip, q_AR_skip, q_sz_skip, q_su_skip, q_up2, q_up, ri_0 r0, ri_10 r0, ri_11 r0, ri_12 r0, q1, h2, x_in, dlt_T, dle_T]
  · by_cases e1 : v = nI 1
    · subst e1
      show _ = _
      unfold tS
      simp (disch := first | assumption | omega) [ck_T, sm_s, bd_l, bd_r, lt_e, eq_self, and_self, if_true, true_and, and_true, lit_nI, nI_add, nI_mul, nI_sub, nI_clamp, nI_eq, nI_ltI, nI_leI, nN_e, nI_nN, nN_nI, bI_0, bI_1, bI_n, bool_0, bool_1, in_T, lg_cmp0, ofN_nI, q_K_setI, q_I_setI, q_J_setI, q_R_setI, q_L_setI, q_AI_setI, q_AJ_setI, q_AR_setI, q_sz_setI, q_su_setI, q_K_setJ, q_I_setJ, q_J_setJ, q_R_setJ, q_L_setJ, q_AI_setJ, q_AJ_setJ, q_AR_setJ, q_sz_setJ, q_su_setJ, q_K_setR, q_I_setR, q_J_setR, q_R_setR, q_L_setR, q_AI_setR, q_AJ_setR, q_AR_setR, q_sz_setR, q_su_setR, q_K_setAI, q_I_setAI, q_J_setAI, q_R_setAI, q_L_setAI, q_AI_setAI, q_AJ_setAI, q_AR_setAI, q_sz_setAI, q_su_setAI, q_K_setAJ, q_I_setAJ, q_J_setAJ, q_R_setAJ, q_L_setAJ, q_AI_setAJ, q_AJ_setAJ, q_AR_setAJ, q_sz_setAJ, q_su_setAJ, q_K_setAR, q_I_setAR, q_J_setAR, q_R_setAR, q_L_setAR, q_AI_setAR, q_AJ_setAR, q_AR_setAR, q_sz_setAR, q_su_setAR, q_K_newO, q_I_newO, q_J_newO, q_R_newO, q_L_newO, q_AI_newO, q_AJ_newO, q_AR_newO, q_sz_newO, q_su_newO, q_K_newA, q_I_newA, q_J_newA, q_R_newA, q_L_newA, q_AI_newA, q_AJ_newA, q_AR_newA, q_sz_newA, q_su_newA, q_K_skip, q_I_skip, q_J_skip, q_R_skip, q_L_skip, q_AI_skip, q_AJ_skip, q_AR_skip, q_sz_skip, q_su_skip, q_up2, q_up, ri_0 r0, ri_10 r0, ri_11 r0, ri_12 r0, t1, x_in, dlt_T, dle_T]
    · rw [if_neg e0, if_neg e1]
      show _ = _
      unfold tS
      simp (disch := first | assumption | omega) [ck_T, sm_s, bd_l, bd_r, lt_e, eq_self, and_self, if_true, true_and, and_true, lit_nI, nI_add, nI_mul, nI_sub, nI_clamp, nI_eq, nI_ltI, nI_leI, nN_e, nI_nN, nN_nI, bI_0, bI_1, bI_n, bool_0, bool_1, in_T, lg_cmp0, ofN_nI, q_K_setI, q_I_setI, q_J_setI, q_R_setI, q_L_setI, q_AI_setI, q_AJ_setI, q_AR_setI, q_sz_setI, q_su_setI, q_K_setJ, q_I_setJ, q_J_setJ, q_R_setJ, q_L_setJ, q_AI_setJ, q_AJ_setJ, q_AR_setJ, q_sz_setJ, q_su_setJ, q_K_setR, q_I_setR, q_J_setR, q_R_setR, q_L_setR, q_AI_setR, q_AJ_setR, q_AR_setR, q_sz_setR, q_su_setR, q_K_setAI, q_I_setAI, q_J_setAI, q_R_setAI, q_L_setAI, q_AI_setAI, q_AJ_setAI, q_AR_setAI, q_sz_setAI, q_su_setAI, q_K_setAJ, q_I_setAJ, q_J_setAJ, q_R_setAJ, q_L_setAJ, q_AI_setAJ, q_AJ_setAJ, q_AR_setAJ, q_sz_setAJ, q_su_setAJ, q_K_setAR, q_I_setAR, q_J_setAR, q_R_setAR, q_L_setAR, q_AI_setAR, q_AJ_setAR, q_AR_setAR, q_sz_setAR, q_su_setAR, q_K_newO, q_I_newO, q_J_newO, q_R_newO, q_L_newO, q_AI_newO, q_AJ_newO, q_AR_newO, q_sz_newO, q_su_newO, q_K_newA, q_I_newA, q_J_newA, q_R_newA, q_L_newA, q_AI_newA, q_AJ_newA, q_AR_newA, q_sz_newA, q_su_newA, q_K_skip, q_I_skip, q_J_skip, q_R_skip, q_L_skip, q_AI_skip, q_AJ_skip, q_AR_skip, q_sz_skip, q_su_skip, q_up2, q_up, ri_0 r0, e0, e1]
