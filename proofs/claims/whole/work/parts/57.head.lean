/-! ===== the class: heads of modules ===== -/
theorem CI.set3 {P : xP} {σ : xS} (C : CI P σ) {f a : Nat} {v : Option Nat} (hf : f = 301 ∨ f = 302) : CI P (σ.setR f a v) := by
  rcases hf with rfl | rfl
  · refine ⟨ci_0 C, ci_1 C, ci_2 C, ci_3 C, ci_4 C, ci_5 C, ci_6 C, ci_7 C, ci_8 C, ci_9 C, ci_10 C, ci_11 C, ci_12 C, ci_13 C, ci_14 C, ci_15 C, ci_16 C, ci_17 C, ci_18 C, ci_19 C, ci_20 C, ci_21 C, ci_22 C, ci_s C⟩
  · refine ⟨ci_0 C, ci_1 C, ci_2 C, ci_3 C, ci_4 C, ci_5 C, ci_6 C, ci_7 C, ci_8 C, ci_9 C, ci_10 C, ci_11 C, ci_12 C, ci_13 C, ci_14 C, ci_15 C, ci_16 C, ci_17 C, ci_18 C, ci_19 C, ci_20 C, ci_21 C, ci_22 C, ci_s C⟩
theorem CP.set3 {P : xP} {T : xT} {σ : xS} {p : Nat} (C : CP P T σ p) {f a : Nat} {v : Option Nat} (hf : f = 301 ∨ f = 302) : CP P T (σ.setR f a v) p := by
  obtain ⟨h1, h2, h3, wc, k, h4, h5, h6, h7⟩ := C
  exact ⟨h1.set3 hf, h2, h3, wc, k, h4, h5, h6, h7⟩
/-- what a fault leaves -/
def PF (P : xP) (T : xT) (lng : Bool) (D : Nat) (σ : xS) (c : Nat) (f : Nat) (σ' : xS) : Prop := FD P lng D c σ σ' ∧ CP P T σ' f
theorem PE.pf {P : xP} {T : xT} {lng : Bool} {D h c e f : Nat} {σ σ' : xS} (q : PE P T h σ c f σ') (hD : D ≤ h := by omega) (hh : P.base + 9 ≤ h := by omega) (he : c ≤ e := by omega) : PF P T lng D σ e f σ' := ⟨q.1.fd lng hD hh he, q.2⟩
theorem PF.aft {P : xP} {T : xT} {lng : Bool} {D c d e f : Nat} {σ σ1 σ' : xS} (g : FD P lng D d σ σ1) (q : PF P T lng D σ1 c f σ') (hc : d + c ≤ e := by omega) : PF P T lng D σ e f σ' := ⟨g.trans q.1 hc, q.2⟩
theorem PF.mono {P : xP} {T : xT} {lng : Bool} {D c e f : Nat} {σ σ' : xS} (q : PF P T lng D σ c f σ') (hc : c ≤ e := by omega) : PF P T lng D σ e f σ' := PF.aft (FD.refl P lng D σ) q
theorem cw_addModule {P : xP} {σ : xS} {D : Nat} {A H : Nat → Nat} {G : Nat → List Nat → Nat} {ms : List xMod} (g : List Nat → Nat) {nm : List Nat} {pl : Nat} (hs : P.base + 44 ≤ σ.sz) (hD : P.base + 44 ≤ D) (h : DR P σ (fun _ _ => none) D A H G ms σ.sz) (hn : σ.I 1 D = nI ms.length) (hl : ms.length < 8) (hR : Rm P σ 5) : ∃ σ', dm_X0_addModule P D (pk nm) (nI pl) σ = some (.inl (some σ.sz), σ') ∧ Fr P D 5 σ σ' ∧ σ'.I 906 (P.base + 1) = σ.I 906 (P.base + 1) ∧ σ'.sz = σ.sz + 5 ∧ MR σ' g (fun _ => none) ms.length σ.sz (σ.sz + 5) (nm, pl, [], [], [], []) ∧ DR P σ' (fun _ _ => none) D A H G ms σ.sz ∧ σ'.I 1 D = nI (ms.length + 1) ∧ σ'.AR (D + 1) ms.length = some σ.sz := by
  obtain ⟨s2, q1, q2, q3, q4, q5⟩ := cw_initM (P := P) hs hR g (nm := nm) (ix := ms.length) (pl := pl)
  have d2 := h.sm (q2.sms2 (lo := D) (hi := σ.sz) (by omega) (Nat.le_refl _)) (Nat.le_refl _)
  have d1 := h.1
  have d3 := d2.1
  have i2 : s2.I 1 D = nI ms.length := ((q2.1 D (by omega) (by omega)).2.2.1 1).trans hn
  have kn : (σ.newO 6 13).K D = 1 := by
    have : ¬ D = σ.sz := by omega
    simp [q_K_setI, q_I_setI, q_J_setI, q_R_setI, q_L_setI, q_AI_setI, q_AJ_setI, q_AR_setI, q_sz_setI, q_su_setI, q_K_setJ, q_I_setJ, q_J_setJ, q_R_setJ, q_L_setJ, q_AI_setJ, q_AJ_setJ, q_AR_setJ, q_sz_setJ, q_su_setJ, q_K_setR, q_I_setR, q_J_setR, q_R_setR, q_L_setR, q_AI_setR, q_AJ_setR, q_AR_setR, q_sz_setR, q_su_setR, q_K_setAI, q_I_setAI, q_J_setAI, q_R_setAI, q_L_setAI, q_AI_setAI, q_AJ_setAI, q_AR_setAI, q_sz_setAI, q_su_setAI, q_K_setAJ, q_I_setAJ, q_J_setAJ, q_R_setAJ, q_L_setAJ, q_AI_setAJ, q_AJ_setAJ, q_AR_setAJ, q_sz_setAJ, q_su_setAJ, q_K_setAR, q_I_setAR, q_J_setAR, q_R_setAR, q_L_setAR, q_AI_setAR, q_AJ_setAR, q_AR_setAR, q_sz_setAR, q_su_setAR, q_K_newO, q_I_newO, q_J_newO, q_R_newO, q_L_newO, q_AI_newO, q_AJ_newO, q_AR_newO, q_sz_newO, q_su_newO, q_K_newA, q_I_newA, q_J_newA, q_R_newA, q_L_newA, q_AI_newA, q_AJ_newA, q_AR_newA, q_sz_newA, q_su_newA, q_K_skip, q_I_skip, q_J_skip, q_R_skip, q_L_skip, q_AI_skip, q_AJ_skip, q_AR_skip, q_sz_skip, q_su_skip, q_up2, q_up, this, d1.2.2.1]
  have in1 : (σ.newO 6 13).I 1 D = nI ms.length := by
    have : ¬ D = σ.sz := by omega
    simp [q_K_setI, q_I_setI, q_J_setI, q_R_setI, q_L_setI, q_AI_setI, q_AJ_setI, q_AR_setI, q_sz_setI, q_su_setI, q_K_setJ, q_I_setJ, q_J_setJ, q_R_setJ, q_L_setJ, q_AI_setJ, q_AJ_setJ, q_AR_setJ, q_sz_setJ, q_su_setJ, q_K_setR, q_I_setR, q_J_setR, q_R_setR, q_L_setR, q_AI_setR, q_AJ_setR, q_AR_setR, q_sz_setR, q_su_setR, q_K_setAI, q_I_setAI, q_J_setAI, q_R_setAI, q_L_setAI, q_AI_setAI, q_AJ_setAI, q_AR_setAI, q_sz_setAI, q_su_setAI, q_K_setAJ, q_I_setAJ, q_J_setAJ, q_R_setAJ, q_L_setAJ, q_AI_setAJ, q_AJ_setAJ, q_AR_setAJ, q_sz_setAJ, q_su_setAJ, q_K_setAR, q_I_setAR, q_J_setAR, q_R_setAR, q_L_setAR, q_AI_setAR, q_AJ_setAR, q_AR_setAR, q_sz_setAR, q_su_setAR, q_K_newO, q_I_newO, q_J_newO, q_R_newO, q_L_newO, q_AI_newO, q_AJ_newO, q_AR_newO, q_sz_newO, q_su_newO, q_K_newA, q_I_newA, q_J_newA, q_R_newA, q_L_newA, q_AI_newA, q_AJ_newA, q_AR_newA, q_sz_newA, q_su_newA, q_K_skip, q_I_skip, q_J_skip, q_R_skip, q_L_skip, q_AI_skip, q_AJ_skip, q_AR_skip, q_sz_skip, q_su_skip, q_up2, q_up, this, hn]
  have km : s2.K σ.sz = 6 := q5.1.2.1
  have rc := of_eq_true (Rm.chk hR 1 13 (by omega) (by omega))
  refine ⟨(s2.setAR (D + 1) ms.length (some σ.sz)).setI 1 D (nI (ms.length + 1)), ?_, ?_, ?_, q4, ?_, ?_, ?_, ?_⟩
  · unfold dm_X0_addModule dm_X0_addModule_p45
    have n8 : ¬ 8 ≤ ms.length := by omega
    have c3 := d3.2.2.1
    have c4 := d3.2.2.2.1
    have c5 := d3.2.2.2.2.1
    have c6 := d3.2.2.2.2.2.1
    simp (disch := first | assumption | omega) [ck_T, sm_s, bd_l, bd_r, lt_e, eq_self, and_self, if_true, true_and, and_true, lit_nI, nI_add, nI_mul, nI_sub, nI_clamp, nI_eq, nI_ltI, nI_leI, nN_e, nI_nN, nN_nI, bI_0, bI_1, bI_n, bool_0, bool_1, in_T, lg_cmp0, ofN_nI, rc, kn, in1, q1]
    simp (disch := first | assumption | omega) [x_chk, x_some, x_bind, x_let, lit_nI, nI_add, nI_mul, nI_sub, nI_clamp, nI_eq, nI_ltI, nI_leI, nN_e, nI_nN, nN_nI, bI_0, bI_1, bI_n, bool_0, bool_1, in_T, lg_cmp0, ofN_nI, q_K_setI, q_I_setI, q_J_setI, q_R_setI, q_L_setI, q_AI_setI, q_AJ_setI, q_AR_setI, q_sz_setI, q_su_setI, q_K_setJ, q_I_setJ, q_J_setJ, q_R_setJ, q_L_setJ, q_AI_setJ, q_AJ_setJ, q_AR_setJ, q_sz_setJ, q_su_setJ, q_K_setR, q_I_setR, q_J_setR, q_R_setR, q_L_setR, q_AI_setR, q_AJ_setR, q_AR_setR, q_sz_setR, q_su_setR, q_K_setAI, q_I_setAI, q_J_setAI, q_R_setAI, q_L_setAI, q_AI_setAI, q_AJ_setAI, q_AR_setAI, q_sz_setAI, q_su_setAI, q_K_setAJ, q_I_setAJ, q_J_setAJ, q_R_setAJ, q_L_setAJ, q_AI_setAJ, q_AJ_setAJ, q_AR_setAJ, q_sz_setAJ, q_su_setAJ, q_K_setAR, q_I_setAR, q_J_setAR, q_R_setAR, q_L_setAR, q_AI_setAR, q_AJ_setAR, q_AR_setAR, q_sz_setAR, q_su_setAR, q_K_newO, q_I_newO, q_J_newO, q_R_newO, q_L_newO, q_AI_newO, q_AJ_newO, q_AR_newO, q_sz_newO, q_su_newO, q_K_newA, q_I_newA, q_J_newA, q_R_newA, q_L_newA, q_AI_newA, q_AJ_newA, q_AR_newA, q_sz_newA, q_su_newA, q_K_skip, q_I_skip, q_J_skip, q_R_skip, q_L_skip, q_AI_skip, q_AJ_skip, q_AR_skip, q_sz_skip, q_su_skip, i2, c3, c4, c5, c6, km, n8, x_kind, x_kb, dlt_T, dle_T]
  · exact ((q2.mono (h' := D) (by omega)).thenAR (by omega) (by omega)).thenI (by omega) (by omega)
  · have : ¬ P.base + 1 = D := by omega
    simp [q_K_setI, q_I_setI, q_J_setI, q_R_setI, q_L_setI, q_AI_setI, q_AJ_setI, q_AR_setI, q_sz_setI, q_su_setI, q_K_setJ, q_I_setJ, q_J_setJ, q_R_setJ, q_L_setJ, q_AI_setJ, q_AJ_setJ, q_AR_setJ, q_sz_setJ, q_su_setJ, q_K_setR, q_I_setR, q_J_setR, q_R_setR, q_L_setR, q_AI_setR, q_AJ_setR, q_AR_setR, q_sz_setR, q_su_setR, q_K_setAI, q_I_setAI, q_J_setAI, q_R_setAI, q_L_setAI, q_AI_setAI, q_AJ_setAI, q_AR_setAI, q_sz_setAI, q_su_setAI, q_K_setAJ, q_I_setAJ, q_J_setAJ, q_R_setAJ, q_L_setAJ, q_AI_setAJ, q_AJ_setAJ, q_AR_setAJ, q_sz_setAJ, q_su_setAJ, q_K_setAR, q_I_setAR, q_J_setAR, q_R_setAR, q_L_setAR, q_AI_setAR, q_AJ_setAR, q_AR_setAR, q_sz_setAR, q_su_setAR, q_K_newO, q_I_newO, q_J_newO, q_R_newO, q_L_newO, q_AI_newO, q_AJ_newO, q_AR_newO, q_sz_newO, q_su_newO, q_K_newA, q_I_newA, q_J_newA, q_R_newA, q_L_newA, q_AI_newA, q_AJ_newA, q_AR_newA, q_sz_newA, q_su_newA, q_K_skip, q_I_skip, q_J_skip, q_R_skip, q_L_skip, q_AI_skip, q_AJ_skip, q_AR_skip, q_sz_skip, q_su_skip, q_up2, q_up, this, q3]
  · exact q5.sm (((Sms.refl s2 _ _).tAR (by omega)).tI (by omega)) (Nat.le_refl _)
  · refine ⟨d2.1, fun i m hm => ?_⟩
    have hi := get_lt hm
    have : ¬ i = ms.length := by omega
    exact (d2.2 i m hm).sm (((Sms.refl s2 _ _).tAR (by omega)).tI (by omega)) (by simp [q_K_setI, q_I_setI, q_J_setI, q_R_setI, q_L_setI, q_AI_setI, q_AJ_setI, q_AR_setI, q_sz_setI, q_su_setI, q_K_setJ, q_I_setJ, q_J_setJ, q_R_setJ, q_L_setJ, q_AI_setJ, q_AJ_setJ, q_AR_setJ, q_sz_setJ, q_su_setJ, q_K_setR, q_I_setR, q_J_setR, q_R_setR, q_L_setR, q_AI_setR, q_AJ_setR, q_AR_setR, q_sz_setR, q_su_setR, q_K_setAI, q_I_setAI, q_J_setAI, q_R_setAI, q_L_setAI, q_AI_setAI, q_AJ_setAI, q_AR_setAI, q_sz_setAI, q_su_setAI, q_K_setAJ, q_I_setAJ, q_J_setAJ, q_R_setAJ, q_L_setAJ, q_AI_setAJ, q_AJ_setAJ, q_AR_setAJ, q_sz_setAJ, q_su_setAJ, q_K_setAR, q_I_setAR, q_J_setAR, q_R_setAR, q_L_setAR, q_AI_setAR, q_AJ_setAR, q_AR_setAR, q_sz_setAR, q_su_setAR, q_K_newO, q_I_newO, q_J_newO, q_R_newO, q_L_newO, q_AI_newO, q_AJ_newO, q_AR_newO, q_sz_newO, q_su_newO, q_K_newA, q_I_newA, q_J_newA, q_R_newA, q_L_newA, q_AI_newA, q_AJ_newA, q_AR_newA, q_sz_newA, q_su_newA, q_K_skip, q_I_skip, q_J_skip, q_R_skip, q_L_skip, q_AI_skip, q_AJ_skip, q_AR_skip, q_sz_skip, q_su_skip, q_up2, q_up, this]) (Nat.le_refl _)
  · simp [q_K_setI, q_I_setI, q_J_setI, q_R_setI, q_L_setI, q_AI_setI, q_AJ_setI, q_AR_setI, q_sz_setI, q_su_setI, q_K_setJ, q_I_setJ, q_J_setJ, q_R_setJ, q_L_setJ, q_AI_setJ, q_AJ_setJ, q_AR_setJ, q_sz_setJ, q_su_setJ, q_K_setR, q_I_setR, q_J_setR, q_R_setR, q_L_setR, q_AI_setR, q_AJ_setR, q_AR_setR, q_sz_setR, q_su_setR, q_K_setAI, q_I_setAI, q_J_setAI, q_R_setAI, q_L_setAI, q_AI_setAI, q_AJ_setAI, q_AR_setAI, q_sz_setAI, q_su_setAI, q_K_setAJ, q_I_setAJ, q_J_setAJ, q_R_setAJ, q_L_setAJ, q_AI_setAJ, q_AJ_setAJ, q_AR_setAJ, q_sz_setAJ, q_su_setAJ, q_K_setAR, q_I_setAR, q_J_setAR, q_R_setAR, q_L_setAR, q_AI_setAR, q_AJ_setAR, q_AR_setAR, q_sz_setAR, q_su_setAR, q_K_newO, q_I_newO, q_J_newO, q_R_newO, q_L_newO, q_AI_newO, q_AJ_newO, q_AR_newO, q_sz_newO, q_su_newO, q_K_newA, q_I_newA, q_J_newA, q_R_newA, q_L_newA, q_AI_newA, q_AJ_newA, q_AR_newA, q_sz_newA, q_su_newA, q_K_skip, q_I_skip, q_J_skip, q_R_skip, q_L_skip, q_AI_skip, q_AJ_skip, q_AR_skip, q_sz_skip, q_su_skip, q_up2, q_up]
  · simp [q_K_setI, q_I_setI, q_J_setI, q_R_setI, q_L_setI, q_AI_setI, q_AJ_setI, q_AR_setI, q_sz_setI, q_su_setI, q_K_setJ, q_I_setJ, q_J_setJ, q_R_setJ, q_L_setJ, q_AI_setJ, q_AJ_setJ, q_AR_setJ, q_sz_setJ, q_su_setJ, q_K_setR, q_I_setR, q_J_setR, q_R_setR, q_L_setR, q_AI_setR, q_AJ_setR, q_AR_setR, q_sz_setR, q_su_setR, q_K_setAI, q_I_setAI, q_J_setAI, q_R_setAI, q_L_setAI, q_AI_setAI, q_AJ_setAI, q_AR_setAI, q_sz_setAI, q_su_setAI, q_K_setAJ, q_I_setAJ, q_J_setAJ, q_R_setAJ, q_L_setAJ, q_AI_setAJ, q_AJ_setAJ, q_AR_setAJ, q_sz_setAJ, q_su_setAJ, q_K_setAR, q_I_setAR, q_J_setAR, q_R_setAR, q_L_setAR, q_AI_setAR, q_AJ_setAR, q_AR_setAR, q_sz_setAR, q_su_setAR, q_K_newO, q_I_newO, q_J_newO, q_R_newO, q_L_newO, q_AI_newO, q_AJ_newO, q_AR_newO, q_sz_newO, q_su_newO, q_K_newA, q_I_newA, q_J_newA, q_R_newA, q_L_newA, q_AI_newA, q_AJ_newA, q_AR_newA, q_sz_newA, q_su_newA, q_K_skip, q_I_skip, q_J_skip, q_R_skip, q_L_skip, q_AI_skip, q_AJ_skip, q_AR_skip, q_sz_skip, q_su_skip, q_up2, q_up]
theorem MW_nil (nm : List Nat) (pl : Nat) : MW (nm, pl, [], [], [], []) := ⟨fun x hx => by simp [xMod.nets, xMod.ports, xMod.wires] at hx, fun x hx => by simp [xMod.ins] at hx⟩
theorem cw_startModule {P : xP} {T : xT} {lng : Bool} {D : Nat} {A H : Nat → Nat} {G : Nat → List Nat → Nat} {ms : List xMod} {σ : xS} {p : Nat} (h : SN P T lng D A H G ms σ p) (hR : Rm P σ 6) : Rf (dm_X8_startModule P (rdA P lng) σ) (sp_mod T ms p) (fun _ s q => SM P T lng D A H G ms q.1 s q.2 ∧ FD P lng D 5 σ s) (PF P T lng D σ 1) := by
  obtain ⟨C, hD, hc, hD44, hd, hn, hok⟩ := id h
  have ci := C.ci
  have sz := C.sz
  have rn := rd_ne P lng
  have hDs := hd.1.2.1
  have kD := hd.1.2.2.1
  unfold dm_X8_startModule sp_mod
  simp (disch := first | assumption | omega) [ck_T, sm_s, bd_l, bd_r, lt_e, eq_self, and_self, if_true, true_and, and_true, ci_0 ci, ci_1 ci, ci_2 ci, ci_3 ci, ci_4 ci, ci_5 ci, ci_6 ci, ci_7 ci, ci_8 ci, ci_9 ci, ci_10 ci, ci_11 ci, ci_12 ci, ci_13 ci, ci_14 ci, ci_15 ci, ci_16 ci, ci_17 ci, ci_18 ci, ci_19 ci, ci_20 ci, ci_21 ci, ci_22 ci, rd_K ci, rd_R ci]
  refine Rf.bind (rf_name C hR.mono) ?_ ?_
  · rintro v s nm ⟨rfl, rfl, ho, hp⟩
    have ct := cw_canTakeModule ci hd hn hok ho
    have rt := cw_refuseIf (P := P) (a := P.base + 1) (b := true) (σ := s) hR.mono
    have rf := cw_refuseIf (P := P) (a := P.base + 1) (b := false) (σ := s) hR.mono
    simp only [bI_tt, bI_ff, if_true] at rt rf
    by_cases e : 8 ≤ ms.length ∨ nm ∈ ms.map fun m => m.nm
    · rw [if_pos e]
      rw [decide_eq_false (fun z => z e)] at ct
      refine Rf.er (σ' := s.skip 6) ?_ (PE.skip C).pf
      unfold dm_X8_startModule_p28
      simp (disch := first | assumption | omega) [ck_T, sm_s, bd_l, bd_r, lt_e, eq_self, and_self, if_true, true_and, and_true, lit_nI, nI_add, nI_mul, nI_sub, nI_clamp, nI_eq, nI_ltI, nI_leI, nN_e, nI_nN, nN_nI, bI_0, bI_1, bI_n, bool_0, bool_1, in_T, lg_cmp0, ofN_nI, ci_0 ci, ci_1 ci, ci_2 ci, ci_3 ci, ci_4 ci, ci_5 ci, ci_6 ci, ci_7 ci, ci_8 ci, ci_9 ci, ci_10 ci, ci_11 ci, ci_12 ci, ci_13 ci, ci_14 ci, ci_15 ci, ci_16 ci, ci_17 ci, ci_18 ci, ci_19 ci, ci_20 ci, ci_21 ci, ci_22 ci, rd_K ci, rd_R ci, hD, kD, ct, rt]
    · rw [if_neg e]
      rw [decide_eq_true e] at ct
      have e8 : ms.length < 8 := by
        by_cases z : 8 ≤ ms.length
        · exact absurd (Or.inl z) e
        · omega
      have qp := cw_place C
      obtain ⟨s2, q1, q2, q3, q4, q5, q6, q7, q8⟩ := cw_addModule (fun _ => 0) (nm := nm) (pl := p) sz hD44 hd hn e8 hR.mono
      have C2 : CP P T s2 p := C.fr q2 q3 (by omega)
      have ci2 := C2.ci
      have C3 : CP P T (s2.setR 302 (rdA P lng) (some s.sz)) p := C2.set3 (Or.inr rfl)
      have ci3 := C3.ci
      have st := cw_step C3 hp
      have C4 := C3.step hp
      have f4 := cst_fr P (s2.setR 302 (rdA P lng) (some s.sz)).sz (s2.setR 302 (rdA P lng) (some s.sz))
      have px : PX P T lng (fun _ => 0) ms.length s.sz (nm, p, [], [], [], []) (s2.setR 302 (rdA P lng) (some s.sz)) p := by
        refine ⟨C3, by simp [q_K_setI, q_I_setI, q_J_setI, q_R_setI, q_L_setI, q_AI_setI, q_AJ_setI, q_AR_setI, q_sz_setI, q_su_setI, q_K_setJ, q_I_setJ, q_J_setJ, q_R_setJ, q_L_setJ, q_AI_setJ, q_AJ_setJ, q_AR_setJ, q_sz_setJ, q_su_setJ, q_K_setR, q_I_setR, q_J_setR, q_R_setR, q_L_setR, q_AI_setR, q_AJ_setR, q_AR_setR, q_sz_setR, q_su_setR, q_K_setAI, q_I_setAI, q_J_setAI, q_R_setAI, q_L_setAI, q_AI_setAI, q_AJ_setAI, q_AR_setAI, q_sz_setAI, q_su_setAI, q_K_setAJ, q_I_setAJ, q_J_setAJ, q_R_setAJ, q_L_setAJ, q_AI_setAJ, q_AJ_setAJ, q_AR_setAJ, q_sz_setAJ, q_su_setAJ, q_K_setAR, q_I_setAR, q_J_setAR, q_R_setAR, q_L_setAR, q_AI_setAR, q_AJ_setAR, q_AR_setAR, q_sz_setAR, q_su_setAR, q_K_newO, q_I_newO, q_J_newO, q_R_newO, q_L_newO, q_AI_newO, q_AJ_newO, q_AR_newO, q_sz_newO, q_su_newO, q_K_newA, q_I_newA, q_J_newA, q_R_newA, q_L_newA, q_AI_newA, q_AJ_newA, q_AR_newA, q_sz_newA, q_su_newA, q_K_skip, q_I_skip, q_J_skip, q_R_skip, q_L_skip, q_AI_skip, q_AJ_skip, q_AR_skip, q_sz_skip, q_su_skip, q_up2, q_up], sz, ?_, MW_nil nm p⟩
        have e9 : (s2.setR 302 (rdA P lng) (some s.sz)).sz = s.sz + 5 := q4
        rw [e9]
        exact q5.sm ((Sms.refl s2 _ _).tR (by omega)) (Nat.le_refl _)
      have r1 : s2.R 301 (rdA P lng) = some D := ((q2.1 _ (by omega) (by omega)).2.2.2.2.1 301).trans hD
      have d3 : DR P (s2.setR 302 (rdA P lng) (some s.sz)) (fun _ _ => none) D A H G ms s.sz := q6.sm ((Sms.refl s2 _ _).tR (by omega)) (Nat.le_refl _)
      have f3 : FD P lng D 5 s (s2.setR 302 (rdA P lng) (some s.sz)) := by
        have a := q2.fd lng (Nat.le_refl D) (by omega) (e := 5)
        refine a.trans (d := 0) ?_
        refine ⟨fun b _ _ hb => ⟨rfl, rfl, fun _ => rfl, fun _ => rfl, fun f => ?_, fun _ => rfl, fun _ => rfl, fun _ => rfl⟩, ⟨rfl, fun _ _ => rfl, fun f => ?_⟩, ⟨rfl, ?_⟩, Us.refl _⟩
        · exact x_up2_a hb
        · exact x_up2_a (by omega)
        · simp [q_K_setI, q_I_setI, q_J_setI, q_R_setI, q_L_setI, q_AI_setI, q_AJ_setI, q_AR_setI, q_sz_setI, q_su_setI, q_K_setJ, q_I_setJ, q_J_setJ, q_R_setJ, q_L_setJ, q_AI_setJ, q_AJ_setJ, q_AR_setJ, q_sz_setJ, q_su_setJ, q_K_setR, q_I_setR, q_J_setR, q_R_setR, q_L_setR, q_AI_setR, q_AJ_setR, q_AR_setR, q_sz_setR, q_su_setR, q_K_setAI, q_I_setAI, q_J_setAI, q_R_setAI, q_L_setAI, q_AI_setAI, q_AJ_setAI, q_AR_setAI, q_sz_setAI, q_su_setAI, q_K_setAJ, q_I_setAJ, q_J_setAJ, q_R_setAJ, q_L_setAJ, q_AI_setAJ, q_AJ_setAJ, q_AR_setAJ, q_sz_setAJ, q_su_setAJ, q_K_setAR, q_I_setAR, q_J_setAR, q_R_setAR, q_L_setAR, q_AI_setAR, q_AJ_setAR, q_AR_setAR, q_sz_setAR, q_su_setAR, q_K_newO, q_I_newO, q_J_newO, q_R_newO, q_L_newO, q_AI_newO, q_AJ_newO, q_AR_newO, q_sz_newO, q_su_newO, q_K_newA, q_I_newA, q_J_newA, q_R_newA, q_L_newA, q_AI_newA, q_AJ_newA, q_AR_newA, q_sz_newA, q_su_newA, q_K_skip, q_I_skip, q_J_skip, q_R_skip, q_L_skip, q_AI_skip, q_AJ_skip, q_AR_skip, q_sz_skip, q_su_skip, q_up2, q_up]
      have ih : PX P T lng (fun _ => 0) ms.length s.sz (nm, p, [], [], [], []) (s2.setR 302 (rdA P lng) (some s.sz)) p ∧ (s2.setR 302 (rdA P lng) (some s.sz)).R 301 (rdA P lng) = some D ∧ P.base + 44 ≤ D ∧ DR P (s2.setR 302 (rdA P lng) (some s.sz)) (fun _ _ => none) D A H G ms s.sz ∧ (s2.setR 302 (rdA P lng) (some s.sz)).I 1 D = nI (ms.length + 1) ∧ (s2.setR 302 (rdA P lng) (some s.sz)).AR (D + 1) ms.length = some s.sz ∧ ms.length < 8 ∧ ∀ m ∈ ms, nm_ok m.nm :=
        ⟨px, by simp [q_K_setI, q_I_setI, q_J_setI, q_R_setI, q_L_setI, q_AI_setI, q_AJ_setI, q_AR_setI, q_sz_setI, q_su_setI, q_K_setJ, q_I_setJ, q_J_setJ, q_R_setJ, q_L_setJ, q_AI_setJ, q_AJ_setJ, q_AR_setJ, q_sz_setJ, q_su_setJ, q_K_setR, q_I_setR, q_J_setR, q_R_setR, q_L_setR, q_AI_setR, q_AJ_setR, q_AR_setR, q_sz_setR, q_su_setR, q_K_setAI, q_I_setAI, q_J_setAI, q_R_setAI, q_L_setAI, q_AI_setAI, q_AJ_setAI, q_AR_setAI, q_sz_setAI, q_su_setAI, q_K_setAJ, q_I_setAJ, q_J_setAJ, q_R_setAJ, q_L_setAJ, q_AI_setAJ, q_AJ_setAJ, q_AR_setAJ, q_sz_setAJ, q_su_setAJ, q_K_setAR, q_I_setAR, q_J_setAR, q_R_setAR, q_L_setAR, q_AI_setAR, q_AJ_setAR, q_AR_setAR, q_sz_setAR, q_su_setAR, q_K_newO, q_I_newO, q_J_newO, q_R_newO, q_L_newO, q_AI_newO, q_AJ_newO, q_AR_newO, q_sz_newO, q_su_newO, q_K_newA, q_I_newA, q_J_newA, q_R_newA, q_L_newA, q_AI_newA, q_AJ_newA, q_AR_newA, q_sz_newA, q_su_newA, q_K_skip, q_I_skip, q_J_skip, q_R_skip, q_L_skip, q_AI_skip, q_AJ_skip, q_AR_skip, q_sz_skip, q_su_skip, q_up2, q_up, r1], hD44, d3, q7, q8, e8, hok⟩
      have fin := SM.item (m' := (nm, p, [], [], [], [])) (p' := lx_nx T p) (c := 0) (σ' := cst P (s2.setR 302 (rdA P lng) (some s.sz))) ih ⟨_, px.fr f4 C4, f4.mono (by show s.sz ≤ s2.sz; omega)⟩
      refine Rf.ok (v := ()) (σ' := cst P (s2.setR 302 (rdA P lng) (some s.sz))) ?_ ⟨fin.1, f3.trans fin.2⟩
      unfold dm_X8_startModule_p28
      simp (disch := first | assumption | omega) [ck_T, sm_s, bd_l, bd_r, lt_e, eq_self, and_self, if_true, true_and, and_true, lit_nI, nI_add, nI_mul, nI_sub, nI_clamp, nI_eq, nI_ltI, nI_leI, nN_e, nI_nN, nN_nI, bI_0, bI_1, bI_n, bool_0, bool_1, in_T, lg_cmp0, ofN_nI, ci_0 ci, ci_1 ci, ci_2 ci, ci_3 ci, ci_4 ci, ci_5 ci, ci_6 ci, ci_7 ci, ci_8 ci, ci_9 ci, ci_10 ci, ci_11 ci, ci_12 ci, ci_13 ci, ci_14 ci, ci_15 ci, ci_16 ci, ci_17 ci, ci_18 ci, ci_19 ci, ci_20 ci, ci_21 ci, ci_22 ci, ci_0 ci2, ci_1 ci2, ci_2 ci2, ci_3 ci2, ci_4 ci2, ci_5 ci2, ci_6 ci2, ci_7 ci2, ci_8 ci2, ci_9 ci2, ci_10 ci2, ci_11 ci2, ci_12 ci2, ci_13 ci2, ci_14 ci2, ci_15 ci2, ci_16 ci2, ci_17 ci2, ci_18 ci2, ci_19 ci2, ci_20 ci2, ci_21 ci2, ci_22 ci2, ci_0 ci3, ci_1 ci3, ci_2 ci3, ci_3 ci3, ci_4 ci3, ci_5 ci3, ci_6 ci3, ci_7 ci3, ci_8 ci3, ci_9 ci3, ci_10 ci3, ci_11 ci3, ci_12 ci3, ci_13 ci3, ci_14 ci3, ci_15 ci3, ci_16 ci3, ci_17 ci3, ci_18 ci3, ci_19 ci3, ci_20 ci3, ci_21 ci3, ci_22 ci3, rd_K ci, rd_R ci, rd_K ci2, rd_R ci2, rd_K ci3, rd_R ci3, hD, kD, ct, rf, qp, q1, st, dle_T]
  · intro f5 s5 hq
    exact ⟨rfl, hq.pf⟩
theorem SM.fr {P : xP} {T : xT} {lng : Bool} {D : Nat} {A H : Nat → Nat} {G : Nat → List Nat → Nat} {ms : List xMod} {m : xMod} {σ σ' : xS} {p p' c : Nat} (h : SM P T lng D A H G ms m σ p) (f : Fr P σ.sz c σ σ') (C : CP P T σ' p') : SM P T lng D A H G ms m σ' p' := by
  obtain ⟨g, M, h⟩ := h
  have hM := h.1.2.2.2.1.1.1
  exact (SM.item (m' := m) (p' := p') (c := c) (σ' := σ') h ⟨g, h.1.fr f C, f.mono⟩).1
theorem SM.cp {P : xP} {T : xT} {lng : Bool} {D : Nat} {A H : Nat → Nat} {G : Nat → List Nat → Nat} {ms : List xMod} {m : xMod} {σ : xS} {p : Nat} (h : SM P T lng D A H G ms m σ p) : CP P T σ p ∧ D + 7 ≤ σ.sz ∧ P.base + 44 ≤ D := by
  obtain ⟨g, M, h1, h2, h3, h4, h5⟩ := h
  have := h4.1.2.1
  have := h1.2.2.2.1.1.1
  exact ⟨h1.1, by omega, h3⟩
theorem SN.fr {P : xP} {T : xT} {lng : Bool} {D : Nat} {A H : Nat → Nat} {G : Nat → List Nat → Nat} {ms : List xMod} {σ σ' : xS} {p p' c : Nat} (h : SN P T lng D A H G ms σ p) (f : Fr P σ.sz c σ σ') (C : CP P T σ' p') : SN P T lng D A H G ms σ' p' := by
  obtain ⟨h1, h2, h3, h4, h5, h6, h7⟩ := h
  have rn := rd_ne P lng
  have hD := h5.1.2.1
  have s := f.sms2 (lo := D) (hi := σ.sz) (by omega) (Nat.le_refl _)
  exact ⟨C, ((f.1 _ (by omega) (by omega)).2.2.2.2.1 301).trans h2, ((f.1 _ (by omega) (by omega)).2.2.2.2.1 302).trans h3, h4, h5.sm s f.2.2.1, ((s D (by omega) (by omega)).2.2.1 1).trans h6, h7⟩
theorem cw_longHead {P : xP} {T : xT} {D : Nat} {A H : Nat → Nat} {G : Nat → List Nat → Nat} {ms : List xMod} {σ : xS} {p : Nat} (h : SN P T true D A H G ms σ p) (hR : Rm P σ 60) : Rf (dm_X3_readHead P (P.base + 6) σ) (sp_longHead T ms p) (fun _ s q => SM P T true D A H G ms q.1 s q.2 ∧ FD P true D 50 σ s) (PF P T true D σ 50) := by
  have C := h.1
  have ci := C.ci
  have hD := h.2.2.2.2.1.1.2.1
  have hD44 := h.2.2.2.1
  have tt := cw_takeText C hR.mono (q := (19, kw_module)) (by decide)
  simp only at tt
  unfold dm_X3_readHead sp_longHead
  by_cases e : sp_txt T kw_module p = true
  · rw [if_pos e]
    rw [if_pos e] at tt
    have C1 := C.step (txt_lt e)
    have ci1 := C1.ci
    have f1 := cst_fr P σ.sz σ
    have h1 := h.fr f1 C1
    have hR1 : Rm P (cst P σ) 60 := hR.us f1.2.2
    have fd1 : FD P true D 0 σ (cst P σ) := f1.fd true (by omega) (by omega)
    simp (disch := first | assumption | omega) [ck_T, sm_s, bd_l, bd_r, lt_e, eq_self, and_self, if_true, true_and, and_true, lit_nI, nI_add, nI_mul, nI_sub, nI_clamp, nI_eq, nI_ltI, nI_leI, nN_e, nI_nN, nN_nI, bI_0, bI_1, bI_n, bool_0, bool_1, in_T, lg_cmp0, ofN_nI, ci_0 ci, ci_1 ci, ci_2 ci, ci_3 ci, ci_4 ci, ci_5 ci, ci_6 ci, ci_7 ci, ci_8 ci, ci_9 ci, ci_10 ci, ci_11 ci, ci_12 ci, ci_13 ci, ci_14 ci, ci_15 ci, ci_16 ci, ci_17 ci, ci_18 ci, ci_19 ci, ci_20 ci, ci_21 ci, ci_22 ci, ci_0 ci1, ci_1 ci1, ci_2 ci1, ci_3 ci1, ci_4 ci1, ci_5 ci1, ci_6 ci1, ci_7 ci1, ci_8 ci1, ci_9 ci1, ci_10 ci1, ci_11 ci1, ci_12 ci1, ci_13 ci1, ci_14 ci1, ci_15 ci1, ci_16 ci1, ci_17 ci1, ci_18 ci1, ci_19 ci1, ci_20 ci1, ci_21 ci1, ci_22 ci1, tt]
    refine Rf.bind ((cw_startModule h1 hR1.mono).res) ?_ ?_
    · rintro _ s ⟨m, p2⟩ ⟨⟨hm, fd2⟩, he⟩
      have fd02 : FD P true D 5 σ s := fd1.trans fd2
      obtain ⟨C2, hs2, -⟩ := hm.cp
      have ci2 := C2.ci
      have wx := WX.start C.tv (lng := true) he
      simp (disch := first | assumption | omega) [ck_T, sm_s, bd_l, bd_r, lt_e, eq_self, and_self, if_true, true_and, and_true, lit_nI, nI_add, nI_mul, nI_sub, nI_clamp, nI_eq, nI_ltI, nI_leI, nN_e, nI_nN, nN_nI, bI_0, bI_1, bI_n, bool_0, bool_1, in_T, lg_cmp0, ofN_nI, ci_0 ci2, ci_1 ci2, ci_2 ci2, ci_3 ci2, ci_4 ci2, ci_5 ci2, ci_6 ci2, ci_7 ci2, ci_8 ci2, ci_9 ci2, ci_10 ci2, ci_11 ci2, ci_12 ci2, ci_13 ci2, ci_14 ci2, ci_15 ci2, ci_16 ci2, ci_17 ci2, ci_18 ci2, ci_19 ci2, ci_20 ci2, ci_21 ci2, ci_22 ci2]
      refine Rf.bind (rf_sign C2 (c := 40) (by omega) (hR.us fd02.2.2.2)) ?_ ?_
      · rintro _ s3 p3 ⟨rfl, C3⟩
        have ci3 := C3.ci
        have f3 := cst_fr P s.sz s
        have hm3 := hm.fr f3 C3
        have fd03 : FD P true D 5 σ (cst P s) := fd02.trans (f3.fd true (by omega) (by omega) (e := 0))
        have is := cw_isSign C3 (c := 41) (by omega)
        obtain ⟨g, M, hx⟩ := hm3
        have hMs := hx.1.2.2.2.1.1.1
        have hDM := hx.2.2.2.1.1.2.1
        obtain ⟨n, hn⟩ : ∃ n, P.N = n + 1 := ⟨P.N - 1, by have := ci.N; omega⟩
        by_cases e2 : sp_is T 41 p3 = true
        · rw [e2] at is
          simp only [e2, if_true, eb_ok]
          have q := cw_headT hx.1 (hR.us fd03.2.2.2 (d := 1))
          simp (disch := first | assumption | omega) [ck_T, sm_s, bd_l, bd_r, lt_e, eq_self, and_self, if_true, true_and, and_true, lit_nI, nI_add, nI_mul, nI_sub, nI_clamp, nI_eq, nI_ltI, nI_leI, nN_e, nI_nN, nN_nI, bI_0, bI_1, bI_n, bool_0, bool_1, in_T, lg_cmp0, ofN_nI, ci_0 ci3, ci_1 ci3, ci_2 ci3, ci_3 ci3, ci_4 ci3, ci_5 ci3, ci_6 ci3, ci_7 ci3, ci_8 ci3, ci_9 ci3, ci_10 ci3, ci_11 ci3, ci_12 ci3, ci_13 ci3, ci_14 ci3, ci_15 ci3, ci_16 ci3, ci_17 ci3, ci_18 ci3, ci_19 ci3, ci_20 ci3, ci_21 ci3, ci_22 ci3, is, bI_tt]
          unfold dm_X3_readHead_p39
          rw [hn]
          unfold dm_X3_readHead_L42
          simp (disch := first | assumption | omega) [lit_nI, nI_add, nI_mul, nI_sub, nI_clamp, nI_eq, nI_ltI, nI_leI, nN_e, nI_nN, nN_nI, bI_0, bI_1, bI_n, bool_0, bool_1, in_T, lg_cmp0, ofN_nI]
          refine q.mono (fun _ s4 q4 z => ?_) (fun f s4 z => ?_)
          · have := SM.item hx (show IQ P T true ms.length M (cst P s) 0 () s4 (q4.1, q4.2) from z)
            exact ⟨this.1, fd03.trans this.2⟩
          · exact PF.aft fd03 (z.pf (e := 1))
        · have e3 : sp_is T 41 p3 = false := by simpa using e2
          rw [e3] at is
          simp only [e3, Bool.false_eq_true, if_false]
          have q := cw_headL (P := P) (T := T) (ix := ms.length) (M := M) 17 0 P.N g m (cst P s) p3 (by omega) (by have := ci.N; omega) hx.1 wx.1.1 (hR.us fd03.2.2.2)
          simp (disch := first | assumption | omega) [ck_T, sm_s, bd_l, bd_r, lt_e, eq_self, and_self, if_true, true_and, and_true, lit_nI, nI_add, nI_mul, nI_sub, nI_clamp, nI_eq, nI_ltI, nI_leI, nN_e, nI_nN, nN_nI, bI_0, bI_1, bI_n, bool_0, bool_1, in_T, lg_cmp0, ofN_nI, ci_0 ci3, ci_1 ci3, ci_2 ci3, ci_3 ci3, ci_4 ci3, ci_5 ci3, ci_6 ci3, ci_7 ci3, ci_8 ci3, ci_9 ci3, ci_10 ci3, ci_11 ci3, ci_12 ci3, ci_13 ci3, ci_14 ci3, ci_15 ci3, ci_16 ci3, ci_17 ci3, ci_18 ci3, ci_19 ci3, ci_20 ci3, ci_21 ci3, ci_22 ci3, is, bI_ff]
          unfold dm_X3_readHead_p39
          simp (disch := first | assumption | omega) [lit_nI, nI_add, nI_mul, nI_sub, nI_clamp, nI_eq, nI_ltI, nI_leI, nN_e, nI_nN, nN_nI, bI_0, bI_1, bI_n, bool_0, bool_1, in_T, lg_cmp0, ofN_nI]
          refine q.mono (fun _ s4 q4 z => ?_) (fun f s4 z => ?_)
          · have := SM.item hx (show IQ P T true ms.length M (cst P s) 17 () s4 (q4.1, q4.2) from z)
            exact ⟨this.1, fd03.trans this.2⟩
          · exact PF.aft fd03 (z.pf (e := 19))
      · intro g5 s5 hq
        exact ⟨rfl, PF.aft fd02 (hq.pf (e := 1))⟩
    · intro g5 s5 hq
      exact ⟨rfl, PF.aft fd1 hq⟩
  · rw [if_neg e]
    rw [if_neg e] at tt
    refine Rf.er (σ' := σ.skip 6) ?_ (PE.skip C).pf
    simp (disch := first | assumption | omega) [ck_T, sm_s, bd_l, bd_r, lt_e, eq_self, and_self, if_true, true_and, and_true, lit_nI, nI_add, nI_mul, nI_sub, nI_clamp, nI_eq, nI_ltI, nI_leI, nN_e, nI_nN, nN_nI, bI_0, bI_1, bI_n, bool_0, bool_1, in_T, lg_cmp0, ofN_nI, ci_0 ci, ci_1 ci, ci_2 ci, ci_3 ci, ci_4 ci, ci_5 ci, ci_6 ci, ci_7 ci, ci_8 ci, ci_9 ci, ci_10 ci, ci_11 ci, ci_12 ci, ci_13 ci, ci_14 ci, ci_15 ci, ci_16 ci, ci_17 ci, ci_18 ci, ci_19 ci, ci_20 ci, ci_21 ci, ci_22 ci, tt]
