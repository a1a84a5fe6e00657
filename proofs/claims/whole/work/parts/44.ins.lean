/-! ===== the class: instances ===== -/
def xMod.wIns (m : xMod) (i : xIns) : xMod := (m.nm, m.pl, m.ports, m.wires, m.asg, m.ins ++ [i])
/-- while the instance i at a is read; the module had m before it -/
def IB (P : xP) (T : xT) (lng : Bool) (g : List Nat → Nat) (ix M : Nat) (m : xMod) (a : Nat) (i : xIns) (σ : xS) (p : Nat) : Prop :=
  CP P T σ p ∧ σ.R 302 (rdA P lng) = some M ∧ P.base + 44 ≤ M ∧ MW (m.wIns i) ∧ MRc σ g (fun _ => none) ix M a m (m.ins.length + 1) ∧ m.ins.length < 12 ∧ σ.AR (M + 4) m.ins.length = some a ∧ InsR σ g (fun _ => none) (M + 5) σ.sz a i
theorem MRc.hi {σ : xS} {g : List Nat → Nat} {kd : List Nat → Option Nat} {ix M hi hi' ni : Nat} {m : xMod} (h : MRc σ g kd ix M hi m ni) (hh : hi ≤ hi') : MRc σ g kd ix M hi' m ni := h.sm (Sms.refl σ _ _) hh
theorem IB.px {P : xP} {T : xT} {lng : Bool} {g : List Nat → Nat} {ix M a : Nat} {m : xMod} {i : xIns} {σ : xS} {p : Nat} (h : IB P T lng g ix M m a i σ p) : PX P T lng g ix M (m.wIns i) σ p := by
  obtain ⟨h1, h2, h3, h4, h5, h6, h7, h8⟩ := h
  have ha := h8.2.1
  obtain ⟨q1, q2, q3, ⟨d1, d2, d3, d4, d5⟩, q5, q6, q7⟩ := h5.hi (hi' := σ.sz) (by omega)
  refine ⟨h1, h2, h3, ⟨q1, q2, q3, ⟨d1, d2, d3, ?_, ?_⟩, q5, q6, fun k x hx => ?_⟩, h4⟩
  · rw [d4]; simp [xMod.wIns, xMod.ins]
  · simp [xMod.wIns, xMod.ins] at h6 ⊢; omega
  · have hx' : (m.ins ++ [i])[k]? = some x := hx
    rcases app_get hx' with ⟨z, hz⟩ | ⟨z, hz⟩
    · exact q7 k x hz
    · subst z hz
      exact ⟨a, h7, h8⟩
theorem IB.fr {P : xP} {T : xT} {lng : Bool} {g : List Nat → Nat} {ix M a : Nat} {m : xMod} {i : xIns} {σ σ' : xS} {p p' c : Nat} (h : IB P T lng g ix M m a i σ p) (f : Fr P σ.sz c σ σ') (C : CP P T σ' p') : IB P T lng g ix M m a i σ' p' := by
  obtain ⟨h1, h2, h3, h4, h5, h6, h7, h8⟩ := h
  have sz := h1.sz
  have rn := rd_ne P lng
  have ha := h8.2.1
  have hMa := h5.1.1
  exact ⟨C, ((f.1 _ (by omega) (by omega)).2.2.2.2.1 302).trans h2, h3, h4, h5.sm (f.sms h3 (by omega)) (Nat.le_refl _), h6, ((f.1 _ (by omega) (by omega)).2.2.2.2.2.2.2 _).trans h7, h8.sm (f.sms (by omega) (Nat.le_refl _)) f.2.2.1⟩
theorem cw_hasInstanceL {P : xP} {σ : xS} {g : List Nat → Nat} {kd : List Nat → Option Nat} {ix M hi : Nat} {m : xMod} (h : MR σ g kd ix M hi m) (hn : ∀ x ∈ m.ins, nm_ok x.2.1) {nm : List Nat} (ho : nm_ok nm) : ∀ (r j n : Nat), j + r = m.ins.length → r < n → dm_X5_hasInstance_L2 P M n (pk nm) (nI j) σ = some (.inl (bI (decide (nm ∈ (m.ins.drop j).map fun i => i.2.1))), σ) := by
  obtain ⟨⟨a1, a2, a3, a4, a5⟩, -, -, ⟨d1, d2, d3, d4, d5⟩, -, -, e3⟩ := h
  intro r
  induction r with
  | zero =>
    intro j n hj hn
    obtain ⟨n, rfl⟩ : ∃ m, n = m + 1 := ⟨n - 1, by omega⟩
    have e : m.ins.drop j = [] := List.drop_eq_nil_of_le (by omega)
    rw [e]
    unfold dm_X5_hasInstance_L2
    simp (disch := first | assumption | omega) [x_chk, x_some, x_bind, x_let, lit_nI, nI_add, nI_mul, nI_sub, nI_clamp, nI_eq, nI_ltI, nI_leI, nN_e, nI_nN, nN_nI, bI_0, bI_1, bI_n, bool_0, bool_1, in_T, lg_cmp0, ofN_nI, a2, d4, dle_T, bI_ff]
  | succ r ih =>
    intro j n hj hn'
    obtain ⟨n, rfl⟩ : ∃ m, n = m + 1 := ⟨n - 1, by omega⟩
    obtain ⟨x, hx⟩ : ∃ x, m.ins[j]? = some x := ⟨_, List.getElem?_eq_getElem (by omega)⟩
    have ed : m.ins.drop j = x :: m.ins.drop (j + 1) := by
      obtain ⟨hlt, hx3⟩ := List.getElem?_eq_some_iff.mp hx
      rw [List.drop_eq_getElem_cons hlt, hx3]
    obtain ⟨a, q1, q2, q3, q4, q5, q6, -⟩ := e3 j x hx
    have no := hn x (List.mem_of_getElem? hx)
    have ihh := ih (j + 1) n (by omega) (by omega)
    rw [ed]
    unfold dm_X5_hasInstance_L2
    have i2 : ¬ m.ins.length ≤ j := by omega
    by_cases e : x.2.1 = nm
    · subst e
      simp (disch := first | assumption | omega) [x_chk, x_some, x_bind, x_let, lit_nI, nI_add, nI_mul, nI_sub, nI_clamp, nI_eq, nI_ltI, nI_leI, nN_e, nI_nN, nN_nI, bI_0, bI_1, bI_n, bool_0, bool_1, in_T, lg_cmp0, ofN_nI, i2, a2, d1, d2, d3, d4, q1, q4, q6, dlt_T, bI_tt]
    · have e' : ¬ nm = x.2.1 := fun z => e z.symm
      simp (disch := first | assumption | omega) [x_chk, x_some, x_bind, x_let, lit_nI, nI_add, nI_mul, nI_sub, nI_clamp, nI_eq, nI_ltI, nI_leI, nN_e, nI_nN, nN_nI, bI_0, bI_1, bI_n, bool_0, bool_1, in_T, lg_cmp0, ofN_nI, i2, a2, d1, d2, d3, d4, q1, q4, q6, pk_iff', e, e', dlt_T, ihh]
theorem cw_hasInstance {P : xP} {σ : xS} {g : List Nat → Nat} {kd : List Nat → Option Nat} {ix M hi : Nat} {m : xMod} (C : CI P σ) (h : MR σ g kd ix M hi m) (hn : ∀ x ∈ m.ins, nm_ok x.2.1) {nm : List Nat} (ho : nm_ok nm) : dm_X5_hasInstance P M (pk nm) σ = some (.inl (bI (decide (nm ∈ m.ins.map fun i => i.2.1))), σ) := by
  have q := cw_hasInstanceL (P := P) h hn ho m.ins.length 0 P.N (by omega) (by have := C.N; have := h.2.2.2.1.2.2.2.2; omega)
  exact q
theorem pk_nil : pk [] = 0 := by decide
theorem cw_initI {P : xP} {σ : xS} (hs : P.base + 44 ≤ σ.sz) (hR : Rm P σ 2) (g : List Nat → Nat) {f nm : List Nat} {pl lo : Nat} (hlo : lo ≤ σ.sz) : ∃ σ', dm_X1_init P σ.sz (pk f) (pk nm) (nI pl) (σ.newO 2 7) = some (.inl (), σ') ∧ Fr P σ.sz 2 σ σ' ∧ σ'.I 906 (P.base + 1) = σ.I 906 (P.base + 1) ∧ σ'.sz = σ.sz + 2 ∧ InsR σ' g (fun _ => none) lo (σ.sz + 2) σ.sz (f, nm, pl, false, []) := by
  obtain ⟨r1, r2⟩ := hR
  refine ⟨((((((((σ.newO 2 7).setI 103 σ.sz (nI 0)).newA 25 16).setR 104 σ.sz (some (σ.sz + 1))).setI 105 σ.sz (nI 0)).setR 106 σ.sz none).setJ 100 σ.sz (pk f)).setJ 101 σ.sz (pk nm)).setI 102 σ.sz (nI pl), ?_, ?_, ?_, rfl, ?_⟩
  · unfold dm_X1_init
    have n1 : ¬ nI 16 < nI 0 := by decide
    simp (disch := first | assumption | omega) [x_chk, x_some, x_bind, x_let, lit_nI, nI_add, nI_mul, nI_sub, nI_clamp, nI_eq, nI_ltI, nI_leI, nN_e, nI_nN, nN_nI, bI_0, bI_1, bI_n, bool_0, bool_1, in_T, lg_cmp0, ofN_nI, q_K_setI, q_I_setI, q_J_setI, q_R_setI, q_L_setI, q_AI_setI, q_AJ_setI, q_AR_setI, q_sz_setI, q_su_setI, q_K_setJ, q_I_setJ, q_J_setJ, q_R_setJ, q_L_setJ, q_AI_setJ, q_AJ_setJ, q_AR_setJ, q_sz_setJ, q_su_setJ, q_K_setR, q_I_setR, q_J_setR, q_R_setR, q_L_setR, q_AI_setR, q_AJ_setR, q_AR_setR, q_sz_setR, q_su_setR, q_K_setAI, q_I_setAI, q_J_setAI, q_R_setAI, q_L_setAI, q_AI_setAI, q_AJ_setAI, q_AR_setAI, q_sz_setAI, q_su_setAI, q_K_setAJ, q_I_setAJ, q_J_setAJ, q_R_setAJ, q_L_setAJ, q_AI_setAJ, q_AJ_setAJ, q_AR_setAJ, q_sz_setAJ, q_su_setAJ, q_K_setAR, q_I_setAR, q_J_setAR, q_R_setAR, q_L_setAR, q_AI_setAR, q_AJ_setAR, q_AR_setAR, q_sz_setAR, q_su_setAR, q_K_newO, q_I_newO, q_J_newO, q_R_newO, q_L_newO, q_AI_newO, q_AJ_newO, q_AR_newO, q_sz_newO, q_su_newO, q_K_newA, q_I_newA, q_J_newA, q_R_newA, q_L_newA, q_AI_newA, q_AJ_newA, q_AR_newA, q_sz_newA, q_su_newA, q_K_skip, q_I_skip, q_J_skip, q_R_skip, q_L_skip, q_AI_skip, q_AJ_skip, q_AR_skip, q_sz_skip, q_su_skip, q_up2, q_up, dle_T, n1]
  · have f0 : Fr P σ.sz 2 σ (((σ.newO 2 7).setI 103 σ.sz (nI 0)).newA 25 16) := ((Fr.newO P (Nat.le_refl _) (by omega) (by omega)).thenI (Nat.le_refl _) (by omega)).trans (Fr.newA P (h := σ.sz) (by show σ.sz ≤ σ.sz + 1; omega) (by show P.base + 1 < σ.sz + 1; omega) (by omega))
    exact (((((f0.thenR (Nat.le_refl _) (by omega)).thenI (Nat.le_refl _) (by omega)).thenR (Nat.le_refl _) (by omega)).thenJ (Nat.le_refl _) (by omega)).thenJ (Nat.le_refl _) (by omega)).thenI (Nat.le_refl _) (by omega)
  · have : ¬ P.base + 1 = σ.sz := by omega
    simp [q_K_setI, q_I_setI, q_J_setI, q_R_setI, q_L_setI, q_AI_setI, q_AJ_setI, q_AR_setI, q_sz_setI, q_su_setI, q_K_setJ, q_I_setJ, q_J_setJ, q_R_setJ, q_L_setJ, q_AI_setJ, q_AJ_setJ, q_AR_setJ, q_sz_setJ, q_su_setJ, q_K_setR, q_I_setR, q_J_setR, q_R_setR, q_L_setR, q_AI_setR, q_AJ_setR, q_AR_setR, q_sz_setR, q_su_setR, q_K_setAI, q_I_setAI, q_J_setAI, q_R_setAI, q_L_setAI, q_AI_setAI, q_AJ_setAI, q_AR_setAI, q_sz_setAI, q_su_setAI, q_K_setAJ, q_I_setAJ, q_J_setAJ, q_R_setAJ, q_L_setAJ, q_AI_setAJ, q_AJ_setAJ, q_AR_setAJ, q_sz_setAJ, q_su_setAJ, q_K_setAR, q_I_setAR, q_J_setAR, q_R_setAR, q_L_setAR, q_AI_setAR, q_AJ_setAR, q_AR_setAR, q_sz_setAR, q_su_setAR, q_K_newO, q_I_newO, q_J_newO, q_R_newO, q_L_newO, q_AI_newO, q_AJ_newO, q_AR_newO, q_sz_newO, q_su_newO, q_K_newA, q_I_newA, q_J_newA, q_R_newA, q_L_newA, q_AI_newA, q_AJ_newA, q_AR_newA, q_sz_newA, q_su_newA, q_K_skip, q_I_skip, q_J_skip, q_R_skip, q_L_skip, q_AI_skip, q_AJ_skip, q_AR_skip, q_sz_skip, q_su_skip, q_up2, q_up, this]
  · refine ⟨hlo, by omega, ?_, ?_, ?_, ?_, ?_, ?_, ?_, ?_, ?_, ?_, by simp, fun k l hl => by simp at hl⟩ <;> simp [q_K_setI, q_I_setI, q_J_setI, q_R_setI, q_L_setI, q_AI_setI, q_AJ_setI, q_AR_setI, q_sz_setI, q_su_setI, q_K_setJ, q_I_setJ, q_J_setJ, q_R_setJ, q_L_setJ, q_AI_setJ, q_AJ_setJ, q_AR_setJ, q_sz_setJ, q_su_setJ, q_K_setR, q_I_setR, q_J_setR, q_R_setR, q_L_setR, q_AI_setR, q_AJ_setR, q_AR_setR, q_sz_setR, q_su_setR, q_K_setAI, q_I_setAI, q_J_setAI, q_R_setAI, q_L_setAI, q_AI_setAI, q_AJ_setAI, q_AR_setAI, q_sz_setAI, q_su_setAI, q_K_setAJ, q_I_setAJ, q_J_setAJ, q_R_setAJ, q_L_setAJ, q_AI_setAJ, q_AJ_setAJ, q_AR_setAJ, q_sz_setAJ, q_su_setAJ, q_K_setAR, q_I_setAR, q_J_setAR, q_R_setAR, q_L_setAR, q_AI_setAR, q_AJ_setAR, q_AR_setAR, q_sz_setAR, q_su_setAR, q_K_newO, q_I_newO, q_J_newO, q_R_newO, q_L_newO, q_AI_newO, q_AJ_newO, q_AR_newO, q_sz_newO, q_su_newO, q_K_newA, q_I_newA, q_J_newA, q_R_newA, q_L_newA, q_AI_newA, q_AJ_newA, q_AR_newA, q_sz_newA, q_su_newA, q_K_skip, q_I_skip, q_J_skip, q_R_skip, q_L_skip, q_AI_skip, q_AJ_skip, q_AR_skip, q_sz_skip, q_su_skip, q_up2, q_up, bI_ff]
/-- a new instance in the module -/
theorem cw_addInstance {P : xP} {σ : xS} {g : List Nat → Nat} {ix M hi a : Nat} {m : xMod} (h : MR σ g (fun _ => none) ix M hi m) (hM : P.base + 44 ≤ M) (hk : σ.K a = 2) (hn : m.ins.length < 12) : ∃ σ', dm_X5_addInstance P M (some a) σ = some (.inl (), σ') ∧ Fr P M 0 σ σ' ∧ σ'.I 906 (P.base + 1) = σ.I 906 (P.base + 1) ∧ σ'.sz = σ.sz ∧ MRc σ' g (fun _ => none) ix M hi m (m.ins.length + 1) ∧ σ'.AR (M + 4) m.ins.length = some a ∧ ∀ lo hi, M + 5 ≤ lo → Sms σ σ' lo hi := by
  obtain ⟨⟨a1, a2, a3, a4, a5⟩, ⟨b1, b2, b3, b4, b5, b6⟩, ⟨c1, c2, c3, c4, c5, c6, c7, c8⟩, ⟨d1, d2, d3, d4, d5⟩, e1, e2, e3⟩ := h
  have s : ∀ lo hi, M + 5 ≤ lo → Sms σ ((σ.setAR (M + 4) m.ins.length (some a)).setI 511 M (nI (m.ins.length + 1))) lo hi := fun lo hi h => ((Sms.refl σ _ _).tAR (by omega)).tI (by omega)
  refine ⟨(σ.setAR (M + 4) m.ins.length (some a)).setI 511 M (nI (m.ins.length + 1)), ?_, ?_, ?_, rfl, ?_, ?_, s⟩
  · unfold dm_X5_addInstance dm_X5_addInstance_p29
    have n8 : ¬ 12 ≤ m.ins.length := by omega
    simp (disch := first | assumption | omega) [x_chk, x_some, x_bind, x_let, lit_nI, nI_add, nI_mul, nI_sub, nI_clamp, nI_eq, nI_ltI, nI_leI, nN_e, nI_nN, nN_nI, bI_0, bI_1, bI_n, bool_0, bool_1, in_T, lg_cmp0, ofN_nI, q_K_setI, q_I_setI, q_J_setI, q_R_setI, q_L_setI, q_AI_setI, q_AJ_setI, q_AR_setI, q_sz_setI, q_su_setI, q_K_setJ, q_I_setJ, q_J_setJ, q_R_setJ, q_L_setJ, q_AI_setJ, q_AJ_setJ, q_AR_setJ, q_sz_setJ, q_su_setJ, q_K_setR, q_I_setR, q_J_setR, q_R_setR, q_L_setR, q_AI_setR, q_AJ_setR, q_AR_setR, q_sz_setR, q_su_setR, q_K_setAI, q_I_setAI, q_J_setAI, q_R_setAI, q_L_setAI, q_AI_setAI, q_AJ_setAI, q_AR_setAI, q_sz_setAI, q_su_setAI, q_K_setAJ, q_I_setAJ, q_J_setAJ, q_R_setAJ, q_L_setAJ, q_AI_setAJ, q_AJ_setAJ, q_AR_setAJ, q_sz_setAJ, q_su_setAJ, q_K_setAR, q_I_setAR, q_J_setAR, q_R_setAR, q_L_setAR, q_AI_setAR, q_AJ_setAR, q_AR_setAR, q_sz_setAR, q_su_setAR, q_K_newO, q_I_newO, q_J_newO, q_R_newO, q_L_newO, q_AI_newO, q_AJ_newO, q_AR_newO, q_sz_newO, q_su_newO, q_K_newA, q_I_newA, q_J_newA, q_R_newA, q_L_newA, q_AI_newA, q_AJ_newA, q_AR_newA, q_sz_newA, q_su_newA, q_K_skip, q_I_skip, q_J_skip, q_R_skip, q_L_skip, q_AI_skip, q_AJ_skip, q_AR_skip, q_sz_skip, q_su_skip, a2, d1, d2, d3, d4, n8, x_kind, x_kb, hk, dlt_T, dle_T]
  · exact ((Fr.refl P M σ).thenAR (by omega) (by omega)).thenI (by omega) (by omega)
  · simp [q_K_setI, q_I_setI, q_J_setI, q_R_setI, q_L_setI, q_AI_setI, q_AJ_setI, q_AR_setI, q_sz_setI, q_su_setI, q_K_setJ, q_I_setJ, q_J_setJ, q_R_setJ, q_L_setJ, q_AI_setJ, q_AJ_setJ, q_AR_setJ, q_sz_setJ, q_su_setJ, q_K_setR, q_I_setR, q_J_setR, q_R_setR, q_L_setR, q_AI_setR, q_AJ_setR, q_AR_setR, q_sz_setR, q_su_setR, q_K_setAI, q_I_setAI, q_J_setAI, q_R_setAI, q_L_setAI, q_AI_setAI, q_AJ_setAI, q_AR_setAI, q_sz_setAI, q_su_setAI, q_K_setAJ, q_I_setAJ, q_J_setAJ, q_R_setAJ, q_L_setAJ, q_AI_setAJ, q_AJ_setAJ, q_AR_setAJ, q_sz_setAJ, q_su_setAJ, q_K_setAR, q_I_setAR, q_J_setAR, q_R_setAR, q_L_setAR, q_AI_setAR, q_AJ_setAR, q_AR_setAR, q_sz_setAR, q_su_setAR, q_K_newO, q_I_newO, q_J_newO, q_R_newO, q_L_newO, q_AI_newO, q_AJ_newO, q_AR_newO, q_sz_newO, q_su_newO, q_K_newA, q_I_newA, q_J_newA, q_R_newA, q_L_newA, q_AI_newA, q_AJ_newA, q_AR_newA, q_sz_newA, q_su_newA, q_K_skip, q_I_skip, q_J_skip, q_R_skip, q_L_skip, q_AI_skip, q_AJ_skip, q_AR_skip, q_sz_skip, q_su_skip, q_up2, q_up]
  · have s' := s (M + 5) hi (Nat.le_refl _)
    refine ⟨⟨a1, a2, ?_, a4, ?_⟩, ⟨b1, b2, b3, ?_, ?_, b6⟩, ⟨c1, c2, c3, c4, c5, c6, ?_, c8⟩, ⟨d1, d2, d3, ?_, d5⟩, fun k z hz => ?_, fun k z hz => ?_, fun k z hz => ?_⟩
    · simp [q_K_setI, q_I_setI, q_J_setI, q_R_setI, q_L_setI, q_AI_setI, q_AJ_setI, q_AR_setI, q_sz_setI, q_su_setI, q_K_setJ, q_I_setJ, q_J_setJ, q_R_setJ, q_L_setJ, q_AI_setJ, q_AJ_setJ, q_AR_setJ, q_sz_setJ, q_su_setJ, q_K_setR, q_I_setR, q_J_setR, q_R_setR, q_L_setR, q_AI_setR, q_AJ_setR, q_AR_setR, q_sz_setR, q_su_setR, q_K_setAI, q_I_setAI, q_J_setAI, q_R_setAI, q_L_setAI, q_AI_setAI, q_AJ_setAI, q_AR_setAI, q_sz_setAI, q_su_setAI, q_K_setAJ, q_I_setAJ, q_J_setAJ, q_R_setAJ, q_L_setAJ, q_AI_setAJ, q_AJ_setAJ, q_AR_setAJ, q_sz_setAJ, q_su_setAJ, q_K_setAR, q_I_setAR, q_J_setAR, q_R_setAR, q_L_setAR, q_AI_setAR, q_AJ_setAR, q_AR_setAR, q_sz_setAR, q_su_setAR, q_K_newO, q_I_newO, q_J_newO, q_R_newO, q_L_newO, q_AI_newO, q_AJ_newO, q_AR_newO, q_sz_newO, q_su_newO, q_K_newA, q_I_newA, q_J_newA, q_R_newA, q_L_newA, q_AI_newA, q_AJ_newA, q_AR_newA, q_sz_newA, q_su_newA, q_K_skip, q_I_skip, q_J_skip, q_R_skip, q_L_skip, q_AI_skip, q_AJ_skip, q_AR_skip, q_sz_skip, q_su_skip, q_up2, q_up, a3]
    · simp [q_K_setI, q_I_setI, q_J_setI, q_R_setI, q_L_setI, q_AI_setI, q_AJ_setI, q_AR_setI, q_sz_setI, q_su_setI, q_K_setJ, q_I_setJ, q_J_setJ, q_R_setJ, q_L_setJ, q_AI_setJ, q_AJ_setJ, q_AR_setJ, q_sz_setJ, q_su_setJ, q_K_setR, q_I_setR, q_J_setR, q_R_setR, q_L_setR, q_AI_setR, q_AJ_setR, q_AR_setR, q_sz_setR, q_su_setR, q_K_setAI, q_I_setAI, q_J_setAI, q_R_setAI, q_L_setAI, q_AI_setAI, q_AJ_setAI, q_AR_setAI, q_sz_setAI, q_su_setAI, q_K_setAJ, q_I_setAJ, q_J_setAJ, q_R_setAJ, q_L_setAJ, q_AI_setAJ, q_AJ_setAJ, q_AR_setAJ, q_sz_setAJ, q_su_setAJ, q_K_setAR, q_I_setAR, q_J_setAR, q_R_setAR, q_L_setAR, q_AI_setAR, q_AJ_setAR, q_AR_setAR, q_sz_setAR, q_su_setAR, q_K_newO, q_I_newO, q_J_newO, q_R_newO, q_L_newO, q_AI_newO, q_AJ_newO, q_AR_newO, q_sz_newO, q_su_newO, q_K_newA, q_I_newA, q_J_newA, q_R_newA, q_L_newA, q_AI_newA, q_AJ_newA, q_AR_newA, q_sz_newA, q_su_newA, q_K_skip, q_I_skip, q_J_skip, q_R_skip, q_L_skip, q_AI_skip, q_AJ_skip, q_AR_skip, q_sz_skip, q_su_skip, q_up2, q_up]; exact a5
    · simp [q_K_setI, q_I_setI, q_J_setI, q_R_setI, q_L_setI, q_AI_setI, q_AJ_setI, q_AR_setI, q_sz_setI, q_su_setI, q_K_setJ, q_I_setJ, q_J_setJ, q_R_setJ, q_L_setJ, q_AI_setJ, q_AJ_setJ, q_AR_setJ, q_sz_setJ, q_su_setJ, q_K_setR, q_I_setR, q_J_setR, q_R_setR, q_L_setR, q_AI_setR, q_AJ_setR, q_AR_setR, q_sz_setR, q_su_setR, q_K_setAI, q_I_setAI, q_J_setAI, q_R_setAI, q_L_setAI, q_AI_setAI, q_AJ_setAI, q_AR_setAI, q_sz_setAI, q_su_setAI, q_K_setAJ, q_I_setAJ, q_J_setAJ, q_R_setAJ, q_L_setAJ, q_AI_setAJ, q_AJ_setAJ, q_AR_setAJ, q_sz_setAJ, q_su_setAJ, q_K_setAR, q_I_setAR, q_J_setAR, q_R_setAR, q_L_setAR, q_AI_setAR, q_AJ_setAR, q_AR_setAR, q_sz_setAR, q_su_setAR, q_K_newO, q_I_newO, q_J_newO, q_R_newO, q_L_newO, q_AI_newO, q_AJ_newO, q_AR_newO, q_sz_newO, q_su_newO, q_K_newA, q_I_newA, q_J_newA, q_R_newA, q_L_newA, q_AI_newA, q_AJ_newA, q_AR_newA, q_sz_newA, q_su_newA, q_K_skip, q_I_skip, q_J_skip, q_R_skip, q_L_skip, q_AI_skip, q_AJ_skip, q_AR_skip, q_sz_skip, q_su_skip, q_up2, q_up]; exact b4
    · simp [q_K_setI, q_I_setI, q_J_setI, q_R_setI, q_L_setI, q_AI_setI, q_AJ_setI, q_AR_setI, q_sz_setI, q_su_setI, q_K_setJ, q_I_setJ, q_J_setJ, q_R_setJ, q_L_setJ, q_AI_setJ, q_AJ_setJ, q_AR_setJ, q_sz_setJ, q_su_setJ, q_K_setR, q_I_setR, q_J_setR, q_R_setR, q_L_setR, q_AI_setR, q_AJ_setR, q_AR_setR, q_sz_setR, q_su_setR, q_K_setAI, q_I_setAI, q_J_setAI, q_R_setAI, q_L_setAI, q_AI_setAI, q_AJ_setAI, q_AR_setAI, q_sz_setAI, q_su_setAI, q_K_setAJ, q_I_setAJ, q_J_setAJ, q_R_setAJ, q_L_setAJ, q_AI_setAJ, q_AJ_setAJ, q_AR_setAJ, q_sz_setAJ, q_su_setAJ, q_K_setAR, q_I_setAR, q_J_setAR, q_R_setAR, q_L_setAR, q_AI_setAR, q_AJ_setAR, q_AR_setAR, q_sz_setAR, q_su_setAR, q_K_newO, q_I_newO, q_J_newO, q_R_newO, q_L_newO, q_AI_newO, q_AJ_newO, q_AR_newO, q_sz_newO, q_su_newO, q_K_newA, q_I_newA, q_J_newA, q_R_newA, q_L_newA, q_AI_newA, q_AJ_newA, q_AR_newA, q_sz_newA, q_su_newA, q_K_skip, q_I_skip, q_J_skip, q_R_skip, q_L_skip, q_AI_skip, q_AJ_skip, q_AR_skip, q_sz_skip, q_su_skip, q_up2, q_up]; exact b5
    · simp [q_K_setI, q_I_setI, q_J_setI, q_R_setI, q_L_setI, q_AI_setI, q_AJ_setI, q_AR_setI, q_sz_setI, q_su_setI, q_K_setJ, q_I_setJ, q_J_setJ, q_R_setJ, q_L_setJ, q_AI_setJ, q_AJ_setJ, q_AR_setJ, q_sz_setJ, q_su_setJ, q_K_setR, q_I_setR, q_J_setR, q_R_setR, q_L_setR, q_AI_setR, q_AJ_setR, q_AR_setR, q_sz_setR, q_su_setR, q_K_setAI, q_I_setAI, q_J_setAI, q_R_setAI, q_L_setAI, q_AI_setAI, q_AJ_setAI, q_AR_setAI, q_sz_setAI, q_su_setAI, q_K_setAJ, q_I_setAJ, q_J_setAJ, q_R_setAJ, q_L_setAJ, q_AI_setAJ, q_AJ_setAJ, q_AR_setAJ, q_sz_setAJ, q_su_setAJ, q_K_setAR, q_I_setAR, q_J_setAR, q_R_setAR, q_L_setAR, q_AI_setAR, q_AJ_setAR, q_AR_setAR, q_sz_setAR, q_su_setAR, q_K_newO, q_I_newO, q_J_newO, q_R_newO, q_L_newO, q_AI_newO, q_AJ_newO, q_AR_newO, q_sz_newO, q_su_newO, q_K_newA, q_I_newA, q_J_newA, q_R_newA, q_L_newA, q_AI_newA, q_AJ_newA, q_AR_newA, q_sz_newA, q_su_newA, q_K_skip, q_I_skip, q_J_skip, q_R_skip, q_L_skip, q_AI_skip, q_AJ_skip, q_AR_skip, q_sz_skip, q_su_skip, q_up2, q_up]; exact c7
    · simp [q_K_setI, q_I_setI, q_J_setI, q_R_setI, q_L_setI, q_AI_setI, q_AJ_setI, q_AR_setI, q_sz_setI, q_su_setI, q_K_setJ, q_I_setJ, q_J_setJ, q_R_setJ, q_L_setJ, q_AI_setJ, q_AJ_setJ, q_AR_setJ, q_sz_setJ, q_su_setJ, q_K_setR, q_I_setR, q_J_setR, q_R_setR, q_L_setR, q_AI_setR, q_AJ_setR, q_AR_setR, q_sz_setR, q_su_setR, q_K_setAI, q_I_setAI, q_J_setAI, q_R_setAI, q_L_setAI, q_AI_setAI, q_AJ_setAI, q_AR_setAI, q_sz_setAI, q_su_setAI, q_K_setAJ, q_I_setAJ, q_J_setAJ, q_R_setAJ, q_L_setAJ, q_AI_setAJ, q_AJ_setAJ, q_AR_setAJ, q_sz_setAJ, q_su_setAJ, q_K_setAR, q_I_setAR, q_J_setAR, q_R_setAR, q_L_setAR, q_AI_setAR, q_AJ_setAR, q_AR_setAR, q_sz_setAR, q_su_setAR, q_K_newO, q_I_newO, q_J_newO, q_R_newO, q_L_newO, q_AI_newO, q_AJ_newO, q_AR_newO, q_sz_newO, q_su_newO, q_K_newA, q_I_newA, q_J_newA, q_R_newA, q_L_newA, q_AI_newA, q_AJ_newA, q_AR_newA, q_sz_newA, q_su_newA, q_K_skip, q_I_skip, q_J_skip, q_R_skip, q_L_skip, q_AI_skip, q_AJ_skip, q_AR_skip, q_sz_skip, q_su_skip, q_up2, q_up]
    · obtain ⟨q1, q2⟩ := e1 k z hz
      refine ⟨?_, q2.sm s' (Nat.le_refl _)⟩
      simp [q_K_setI, q_I_setI, q_J_setI, q_R_setI, q_L_setI, q_AI_setI, q_AJ_setI, q_AR_setI, q_sz_setI, q_su_setI, q_K_setJ, q_I_setJ, q_J_setJ, q_R_setJ, q_L_setJ, q_AI_setJ, q_AJ_setJ, q_AR_setJ, q_sz_setJ, q_su_setJ, q_K_setR, q_I_setR, q_J_setR, q_R_setR, q_L_setR, q_AI_setR, q_AJ_setR, q_AR_setR, q_sz_setR, q_su_setR, q_K_setAI, q_I_setAI, q_J_setAI, q_R_setAI, q_L_setAI, q_AI_setAI, q_AJ_setAI, q_AR_setAI, q_sz_setAI, q_su_setAI, q_K_setAJ, q_I_setAJ, q_J_setAJ, q_R_setAJ, q_L_setAJ, q_AI_setAJ, q_AJ_setAJ, q_AR_setAJ, q_sz_setAJ, q_su_setAJ, q_K_setAR, q_I_setAR, q_J_setAR, q_R_setAR, q_L_setAR, q_AI_setAR, q_AJ_setAR, q_AR_setAR, q_sz_setAR, q_su_setAR, q_K_newO, q_I_newO, q_J_newO, q_R_newO, q_L_newO, q_AI_newO, q_AJ_newO, q_AR_newO, q_sz_newO, q_su_newO, q_K_newA, q_I_newA, q_J_newA, q_R_newA, q_L_newA, q_AI_newA, q_AJ_newA, q_AR_newA, q_sz_newA, q_su_newA, q_K_skip, q_I_skip, q_J_skip, q_R_skip, q_L_skip, q_AI_skip, q_AJ_skip, q_AR_skip, q_sz_skip, q_su_skip, q_up2, q_up, q1]
    · obtain ⟨u, v, q1, q2, q3, q4⟩ := e2 k z hz
      refine ⟨u, v, ?_, ?_, q3.sm s' (Nat.le_refl _), q4.sm s' (Nat.le_refl _)⟩
      · simp [q_K_setI, q_I_setI, q_J_setI, q_R_setI, q_L_setI, q_AI_setI, q_AJ_setI, q_AR_setI, q_sz_setI, q_su_setI, q_K_setJ, q_I_setJ, q_J_setJ, q_R_setJ, q_L_setJ, q_AI_setJ, q_AJ_setJ, q_AR_setJ, q_sz_setJ, q_su_setJ, q_K_setR, q_I_setR, q_J_setR, q_R_setR, q_L_setR, q_AI_setR, q_AJ_setR, q_AR_setR, q_sz_setR, q_su_setR, q_K_setAI, q_I_setAI, q_J_setAI, q_R_setAI, q_L_setAI, q_AI_setAI, q_AJ_setAI, q_AR_setAI, q_sz_setAI, q_su_setAI, q_K_setAJ, q_I_setAJ, q_J_setAJ, q_R_setAJ, q_L_setAJ, q_AI_setAJ, q_AJ_setAJ, q_AR_setAJ, q_sz_setAJ, q_su_setAJ, q_K_setAR, q_I_setAR, q_J_setAR, q_R_setAR, q_L_setAR, q_AI_setAR, q_AJ_setAR, q_AR_setAR, q_sz_setAR, q_su_setAR, q_K_newO, q_I_newO, q_J_newO, q_R_newO, q_L_newO, q_AI_newO, q_AJ_newO, q_AR_newO, q_sz_newO, q_su_newO, q_K_newA, q_I_newA, q_J_newA, q_R_newA, q_L_newA, q_AI_newA, q_AJ_newA, q_AR_newA, q_sz_newA, q_su_newA, q_K_skip, q_I_skip, q_J_skip, q_R_skip, q_L_skip, q_AI_skip, q_AJ_skip, q_AR_skip, q_sz_skip, q_su_skip, q_up2, q_up, q1]
      · simp [q_K_setI, q_I_setI, q_J_setI, q_R_setI, q_L_setI, q_AI_setI, q_AJ_setI, q_AR_setI, q_sz_setI, q_su_setI, q_K_setJ, q_I_setJ, q_J_setJ, q_R_setJ, q_L_setJ, q_AI_setJ, q_AJ_setJ, q_AR_setJ, q_sz_setJ, q_su_setJ, q_K_setR, q_I_setR, q_J_setR, q_R_setR, q_L_setR, q_AI_setR, q_AJ_setR, q_AR_setR, q_sz_setR, q_su_setR, q_K_setAI, q_I_setAI, q_J_setAI, q_R_setAI, q_L_setAI, q_AI_setAI, q_AJ_setAI, q_AR_setAI, q_sz_setAI, q_su_setAI, q_K_setAJ, q_I_setAJ, q_J_setAJ, q_R_setAJ, q_L_setAJ, q_AI_setAJ, q_AJ_setAJ, q_AR_setAJ, q_sz_setAJ, q_su_setAJ, q_K_setAR, q_I_setAR, q_J_setAR, q_R_setAR, q_L_setAR, q_AI_setAR, q_AJ_setAR, q_AR_setAR, q_sz_setAR, q_su_setAR, q_K_newO, q_I_newO, q_J_newO, q_R_newO, q_L_newO, q_AI_newO, q_AJ_newO, q_AR_newO, q_sz_newO, q_su_newO, q_K_newA, q_I_newA, q_J_newA, q_R_newA, q_L_newA, q_AI_newA, q_AJ_newA, q_AR_newA, q_sz_newA, q_su_newA, q_K_skip, q_I_skip, q_J_skip, q_R_skip, q_L_skip, q_AI_skip, q_AJ_skip, q_AR_skip, q_sz_skip, q_su_skip, q_up2, q_up, q2]
    · obtain ⟨u, q1, q2⟩ := e3 k z hz
      have := get_lt hz
      have n1 : ¬ k = m.ins.length := by omega
      refine ⟨u, ?_, q2.sm s' (Nat.le_refl _)⟩
      simp [q_K_setI, q_I_setI, q_J_setI, q_R_setI, q_L_setI, q_AI_setI, q_AJ_setI, q_AR_setI, q_sz_setI, q_su_setI, q_K_setJ, q_I_setJ, q_J_setJ, q_R_setJ, q_L_setJ, q_AI_setJ, q_AJ_setJ, q_AR_setJ, q_sz_setJ, q_su_setJ, q_K_setR, q_I_setR, q_J_setR, q_R_setR, q_L_setR, q_AI_setR, q_AJ_setR, q_AR_setR, q_sz_setR, q_su_setR, q_K_setAI, q_I_setAI, q_J_setAI, q_R_setAI, q_L_setAI, q_AI_setAI, q_AJ_setAI, q_AR_setAI, q_sz_setAI, q_su_setAI, q_K_setAJ, q_I_setAJ, q_J_setAJ, q_R_setAJ, q_L_setAJ, q_AI_setAJ, q_AJ_setAJ, q_AR_setAJ, q_sz_setAJ, q_su_setAJ, q_K_setAR, q_I_setAR, q_J_setAR, q_R_setAR, q_L_setAR, q_AI_setAR, q_AJ_setAR, q_AR_setAR, q_sz_setAR, q_su_setAR, q_K_newO, q_I_newO, q_J_newO, q_R_newO, q_L_newO, q_AI_newO, q_AJ_newO, q_AR_newO, q_sz_newO, q_su_newO, q_K_newA, q_I_newA, q_J_newA, q_R_newA, q_L_newA, q_AI_newA, q_AJ_newA, q_AR_newA, q_sz_newA, q_su_newA, q_K_skip, q_I_skip, q_J_skip, q_R_skip, q_L_skip, q_AI_skip, q_AJ_skip, q_AR_skip, q_sz_skip, q_su_skip, q_up2, q_up, q1, n1]
  · simp [q_K_setI, q_I_setI, q_J_setI, q_R_setI, q_L_setI, q_AI_setI, q_AJ_setI, q_AR_setI, q_sz_setI, q_su_setI, q_K_setJ, q_I_setJ, q_J_setJ, q_R_setJ, q_L_setJ, q_AI_setJ, q_AJ_setJ, q_AR_setJ, q_sz_setJ, q_su_setJ, q_K_setR, q_I_setR, q_J_setR, q_R_setR, q_L_setR, q_AI_setR, q_AJ_setR, q_AR_setR, q_sz_setR, q_su_setR, q_K_setAI, q_I_setAI, q_J_setAI, q_R_setAI, q_L_setAI, q_AI_setAI, q_AJ_setAI, q_AR_setAI, q_sz_setAI, q_su_setAI, q_K_setAJ, q_I_setAJ, q_J_setAJ, q_R_setAJ, q_L_setAJ, q_AI_setAJ, q_AJ_setAJ, q_AR_setAJ, q_sz_setAJ, q_su_setAJ, q_K_setAR, q_I_setAR, q_J_setAR, q_R_setAR, q_L_setAR, q_AI_setAR, q_AJ_setAR, q_AR_setAR, q_sz_setAR, q_su_setAR, q_K_newO, q_I_newO, q_J_newO, q_R_newO, q_L_newO, q_AI_newO, q_AJ_newO, q_AR_newO, q_sz_newO, q_su_newO, q_K_newA, q_I_newA, q_J_newA, q_R_newA, q_L_newA, q_AI_newA, q_AJ_newA, q_AR_newA, q_sz_newA, q_su_newA, q_K_skip, q_I_skip, q_J_skip, q_R_skip, q_L_skip, q_AI_skip, q_AJ_skip, q_AR_skip, q_sz_skip, q_su_skip, q_up2, q_up]
theorem MW.ins {m : xMod} (h : MW m) {i : xIns} (h1 : nm_ok i.1) (h2 : nm_ok i.2.1) (h3 : ∀ l ∈ i.2.2.2.2, nm_ok l.1) : MW (m.wIns i) := by
  refine ⟨h.1, fun x hx => ?_⟩
  have hx' : x ∈ m.ins ++ [i] := hx
  rcases List.mem_append.mp hx' with z | z
  · exact h.2 x z
  · rw [List.mem_singleton.mp z]
    exact ⟨h1, h2, h3⟩
theorem cw_startInstance {P : xP} {T : xT} {lng : Bool} {g : List Nat → Nat} {ix M : Nat} {m : xMod} {σ : xS} {p : Nat} (h : PX P T lng g ix M m σ p) (hR : Rm P σ 3) : Rf (dm_X8_startInstance P (rdA P lng) σ) (sp_start T m p) (fun v s q => ∃ a, v = some a ∧ IB P T lng g ix M m a (q.1.1, q.1.2.1, q.1.2.2, false, []) s q.2 ∧ Fr P M 2 σ s) (PE P T M σ 1) := by
  obtain ⟨C, hcur, hM, hm, hw⟩ := id h
  have ci := C.ci
  have hMs : M + 5 ≤ σ.sz := hm.1.1
  unfold dm_X8_startInstance sp_start
  simp (disch := first | assumption | omega) [ck_T, sm_s, bd_l, bd_r, lt_e, eq_self, and_self, if_true, true_and, and_true, ci_0 ci, ci_1 ci, ci_2 ci, ci_3 ci, ci_4 ci, ci_5 ci, ci_6 ci, ci_7 ci, ci_8 ci, ci_9 ci, ci_10 ci, ci_11 ci, ci_12 ci, ci_13 ci, ci_14 ci, ci_15 ci, ci_16 ci, ci_17 ci, ci_18 ci, ci_19 ci, ci_20 ci, ci_21 ci, ci_22 ci, rd_K ci, rd_R ci]
  refine Rf.bind (rf_name C hR.mono) ?_ ?_
  · rintro v s f ⟨rfl, rfl, hf, hp⟩
    have st := cw_step C hp
    have C1 := C.step hp
    have ci1 := C1.ci
    have f1 := cst_fr P s.sz s
    have h1 := h.fr f1 C1
    have hR1 : Rm P (cst P s) 3 := hR.us f1.2.2
    simp (disch := first | assumption | omega) [ck_T, sm_s, bd_l, bd_r, lt_e, eq_self, and_self, if_true, true_and, and_true, ci_0 ci, ci_1 ci, ci_2 ci, ci_3 ci, ci_4 ci, ci_5 ci, ci_6 ci, ci_7 ci, ci_8 ci, ci_9 ci, ci_10 ci, ci_11 ci, ci_12 ci, ci_13 ci, ci_14 ci, ci_15 ci, ci_16 ci, ci_17 ci, ci_18 ci, ci_19 ci, ci_20 ci, ci_21 ci, ci_22 ci, ci_0 ci1, ci_1 ci1, ci_2 ci1, ci_3 ci1, ci_4 ci1, ci_5 ci1, ci_6 ci1, ci_7 ci1, ci_8 ci1, ci_9 ci1, ci_10 ci1, ci_11 ci1, ci_12 ci1, ci_13 ci1, ci_14 ci1, ci_15 ci1, ci_16 ci1, ci_17 ci1, ci_18 ci1, ci_19 ci1, ci_20 ci1, ci_21 ci1, ci_22 ci1, rd_K ci, rd_R ci, rd_K ci1, rd_R ci1, st]
    refine Rf.bind (rf_name C1 hR1.mono) ?_ ?_
    · rintro v s2 nm ⟨rfl, rfl, hnm, hp1⟩
      have cu1 := h1.2.1
      have hm1 := h1.2.2.2.1
      have kM := hm1.1.2.1
      have d4 := hm1.2.2.2.1.2.2.2.1
      have d5 := hm1.2.2.2.1.2.2.2.2
      have hi := cw_hasInstance ci1 hm1 (fun x hx => (hw.2 x hx).2.1) hnm
      have rt := cw_refuseIf (P := P) (a := P.base + 1) (b := true) (σ := cst P s) hR1.mono
      have rf := cw_refuseIf (P := P) (a := P.base + 1) (b := false) (σ := cst P s) hR1.mono
      simp only [bI_tt, bI_ff, if_true] at rt rf
      have es : (cst P s).sz = s.sz := rfl
      by_cases e : 12 ≤ m.ins.length
      · rw [if_pos (Or.inl e)]
        refine Rf.er (σ' := (cst P s).skip 6) ?_ ((PE.aft f1 (PE.skip C1) (Nat.le_refl _) (e := 1)).mono)
        unfold dm_X8_startInstance_p50 dm_X8_startInstance_p55
        simp (disch := first | assumption | omega) [x_chk, x_some, x_bind, x_let, lit_nI, nI_add, nI_mul, nI_sub, nI_clamp, nI_eq, nI_ltI, nI_leI, nN_e, nI_nN, nN_nI, bI_0, bI_1, bI_n, bool_0, bool_1, in_T, lg_cmp0, ofN_nI, ci_0 ci1, ci_1 ci1, ci_2 ci1, ci_3 ci1, ci_4 ci1, ci_5 ci1, ci_6 ci1, ci_7 ci1, ci_8 ci1, ci_9 ci1, ci_10 ci1, ci_11 ci1, ci_12 ci1, ci_13 ci1, ci_14 ci1, ci_15 ci1, ci_16 ci1, ci_17 ci1, ci_18 ci1, ci_19 ci1, ci_20 ci1, ci_21 ci1, ci_22 ci1, rd_K ci1, rd_R ci1, cu1, kM, d4, e, rt]
      · by_cases e2 : nm ∈ m.ins.map fun i => i.2.1
        · rw [if_pos (Or.inr e2)]
          rw [decide_eq_true e2] at hi
          refine Rf.er (σ' := (cst P s).skip 6) ?_ ((PE.aft f1 (PE.skip C1) (Nat.le_refl _) (e := 1)).mono)
          unfold dm_X8_startInstance_p50 dm_X8_startInstance_p55
          simp (disch := first | assumption | omega) [x_chk, x_some, x_bind, x_let, lit_nI, nI_add, nI_mul, nI_sub, nI_clamp, nI_eq, nI_ltI, nI_leI, nN_e, nI_nN, nN_nI, bI_0, bI_1, bI_n, bool_0, bool_1, in_T, lg_cmp0, ofN_nI, ci_0 ci1, ci_1 ci1, ci_2 ci1, ci_3 ci1, ci_4 ci1, ci_5 ci1, ci_6 ci1, ci_7 ci1, ci_8 ci1, ci_9 ci1, ci_10 ci1, ci_11 ci1, ci_12 ci1, ci_13 ci1, ci_14 ci1, ci_15 ci1, ci_16 ci1, ci_17 ci1, ci_18 ci1, ci_19 ci1, ci_20 ci1, ci_21 ci1, ci_22 ci1, rd_K ci1, rd_R ci1, cu1, kM, d4, e, rt, hi]
        · rw [if_neg (by simp only [e, e2, or_self, not_false_eq_true])]
          rw [decide_eq_false e2] at hi
          obtain ⟨s2, q1, q2, q3, q4, q5⟩ := cw_initI (P := P) (σ := cst P s) C1.sz (hR1.mono) g (f := f) (nm := nm) (pl := lx_nx T p) (lo := M + 5) (by omega)
          have C2 : CP P T s2 (lx_nx T p) := C1.fr q2 q3 (by have := C1.sz; omega)
          have ci2 := C2.ci
          have h2 := h1.fr q2 C2
          have cu2 := h2.2.1
          have km2 := h2.2.2.2.1.1.2.1
          have hk2 : s2.K s.sz = 2 := q5.2.2.1
          obtain ⟨s3, t1, t2, t3, t4, t5, t6, t7⟩ := cw_addInstance (P := P) (a := s.sz) (h2.2.2.2.1.sm (Sms.refl _ _ _) (Nat.le_refl _)) hM hk2 (by omega)
          have C3 : CP P T s3 (lx_nx T p) := C2.fr t2 t3 (by omega)
          have ci3 := C3.ci
          have st3 := cw_step C3 hp1
          have C4 := C3.step hp1
          have f4 := cst_fr P s3.sz s3
          have rn := rd_ne P lng
          have Cn : CP P T ((cst P s).newO 2 7) (lx_nx T p) := C1.fr (Fr.newO P (h := P.base + 44) C1.sz (by have := C1.sz; omega) (by omega)) (by
            have : ¬ P.base + 1 = s.sz := by have := C1.sz; omega
            simp [q_I_newO, es, this]) (by omega)
          have cin := Cn.ci
          have qpn := cw_place Cn
          have rc := Rm.chk hR1 1 7 (by omega) (by omega)
          have rc1 := (of_eq_true rc).1
          have rc2 := (of_eq_true rc).2
          have ib : IB P T lng g ix M m s.sz (f, nm, lx_nx T p, false, []) s3 (lx_nx T p) := by
            refine ⟨C3, ((t2.1 _ (by omega) (by omega)).2.2.2.2.1 302).trans cu2, hM, hw.ins hf hnm (by simp), ?_, by omega, t6, ?_⟩
            · -- everything of the module lies below the instance
              have m0 : MR (cst P s) g (fun _ => none) ix M s.sz m := hm1
              obtain ⟨s3', t1', t2', t3', t4', t5', t6', t7'⟩ := cw_addInstance (P := P) (a := s.sz) (m0.sm (q2.sms (by omega) (Nat.le_refl _)) (Nat.le_refl _)) hM hk2 (by omega)
              have e9 : s3' = s3 := by
                have := t1'.symm.trans t1
                simpa using this
              rw [← e9]; exact t5'
            · rw [t4, q4]
              exact q5.sm (t7 _ _ (Nat.le_refl _)) (Nat.le_refl _)
          refine Rf.ok (v := some s.sz) (σ' := cst P s3) ?_ ⟨s.sz, rfl, ib.fr f4 C4, ?_⟩
          · unfold dm_X8_startInstance_p55
            rw [es] at q1 rc1
            simp (disch := first | assumption | omega) [ck_T, sm_s, bd_l, bd_r, lt_e, eq_self, and_self, if_true, true_and, and_true, lit_nI, nI_add, nI_mul, nI_sub, nI_clamp, nI_eq, nI_ltI, nI_leI, nN_e, nI_nN, nN_nI, bI_0, bI_1, bI_n, bool_0, bool_1, in_T, lg_cmp0, ofN_nI, ci_0 ci1, ci_1 ci1, ci_2 ci1, ci_3 ci1, ci_4 ci1, ci_5 ci1, ci_6 ci1, ci_7 ci1, ci_8 ci1, ci_9 ci1, ci_10 ci1, ci_11 ci1, ci_12 ci1, ci_13 ci1, ci_14 ci1, ci_15 ci1, ci_16 ci1, ci_17 ci1, ci_18 ci1, ci_19 ci1, ci_20 ci1, ci_21 ci1, ci_22 ci1, ci_0 ci2, ci_1 ci2, ci_2 ci2, ci_3 ci2, ci_4 ci2, ci_5 ci2, ci_6 ci2, ci_7 ci2, ci_8 ci2, ci_9 ci2, ci_10 ci2, ci_11 ci2, ci_12 ci2, ci_13 ci2, ci_14 ci2, ci_15 ci2, ci_16 ci2, ci_17 ci2, ci_18 ci2, ci_19 ci2, ci_20 ci2, ci_21 ci2, ci_22 ci2, ci_0 ci3, ci_1 ci3, ci_2 ci3, ci_3 ci3, ci_4 ci3, ci_5 ci3, ci_6 ci3, ci_7 ci3, ci_8 ci3, ci_9 ci3, ci_10 ci3, ci_11 ci3, ci_12 ci3, ci_13 ci3, ci_14 ci3, ci_15 ci3, ci_16 ci3, ci_17 ci3, ci_18 ci3, ci_19 ci3, ci_20 ci3, ci_21 ci3, ci_22 ci3, ci_0 cin, ci_1 cin, ci_2 cin, ci_3 cin, ci_4 cin, ci_5 cin, ci_6 cin, ci_7 cin, ci_8 cin, ci_9 cin, ci_10 cin, ci_11 cin, ci_12 cin, ci_13 cin, ci_14 cin, ci_15 cin, ci_16 cin, ci_17 cin, ci_18 cin, ci_19 cin, ci_20 cin, ci_21 cin, ci_22 cin, rd_K ci1, rd_R ci1, rd_K ci2, rd_R ci2, rd_K ci3, rd_R ci3, rd_K cin, rd_R cin, cu1, kM, d4, e, rf, hi, qpn, rc1, rc2, q1, cu2, km2, t1, st3, es]
          · have fa : Fr P M 2 s s2 := (f1.t0 q2 (Nat.le_refl _)).mono
            exact (fa.trans t2 (Nat.le_refl _) (e := 2)).trans f4 (by have := t2.2.2.1; omega)
    · intro f5 s5 hq
      exact ⟨rfl, (PE.aft f1 hq (Nat.le_refl _) (e := 1)).mono⟩
  · intro f5 s5 hq
    exact ⟨rfl, hq.mono⟩
