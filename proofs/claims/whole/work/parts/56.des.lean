/-! ===== the class: the modules of a text ===== -/
def DRi (P : xP) (σ : xS) (kd : List Nat → Option Nat) (D : Nat) (A H : Nat → Nat) (G : Nat → List Nat → Nat) (top i : Nat) (m : xMod) : Prop := σ.AR (D + 1) i = some (A i) ∧ D + 2 ≤ A i ∧ P.base + 44 ≤ A i ∧ H i ≤ top ∧ (∀ j, j < i → H j ≤ A i) ∧ MR σ (G i) kd i (A i) (H i) m ∧ FBR σ (G i) (A i) m
def DR (P : xP) (σ : xS) (kd : Nat → List Nat → Option Nat) (D : Nat) (A H : Nat → Nat) (G : Nat → List Nat → Nat) (ms : List xMod) (top : Nat) : Prop := (P.base + 9 ≤ D ∧ D + 2 ≤ top ∧ σ.K D = 1 ∧ σ.R 0 D = some (D + 1) ∧ σ.K (D + 1) = 27 ∧ σ.L (D + 1) = 8 ∧ ms.length ≤ 8) ∧ ∀ i m, ms[i]? = some m → DRi P σ (kd i) D A H G top i m
theorem FBR.sm {σ σ' : xS} {g : List Nat → Nat} {kd : List Nat → Option Nat} {ix M hi : Nat} {m : xMod} (h : FBR σ g M m) (hm : MR σ g kd ix M hi m) (s : Sms σ σ' M hi) : FBR σ' g M m := by
  have hM := hm.1.1
  refine ⟨((s M (by omega) (by omega)).2.2.1 506).trans h.1, fun k x hx => ?_⟩
  obtain ⟨q1, q2, q3, -⟩ := hm.2.2.2.2.1 k x hx
  exact ((s (g x.1) (by omega) (by omega)).2.2.1 403).trans (h.2 k x hx)
theorem DRi.sm {P : xP} {σ σ' : xS} {kd : List Nat → Option Nat} {D : Nat} {A H : Nat → Nat} {G : Nat → List Nat → Nat} {top top' i : Nat} {m : xMod} (h : DRi P σ kd D A H G top i m) (s : Sms σ σ' (D + 2) top) (ha : σ'.AR (D + 1) i = σ.AR (D + 1) i) (ht : top ≤ top') : DRi P σ' kd D A H G top' i m := by
  obtain ⟨h1, h2, h3, h4, h5, h6, h7⟩ := h
  have s' : Sms σ σ' (A i) (H i) := s.mono (by omega) (by omega)
  exact ⟨ha.trans h1, h2, h3, by omega, h5, h6.sm s' (Nat.le_refl _), h7.sm h6 s'⟩
theorem DR.sm {P : xP} {σ σ' : xS} {kd : Nat → List Nat → Option Nat} {D : Nat} {A H : Nat → Nat} {G : Nat → List Nat → Nat} {ms : List xMod} {top top' : Nat} (h : DR P σ kd D A H G ms top) (s : Sms σ σ' D top) (ht : top ≤ top') : DR P σ' kd D A H G ms top' := by
  obtain ⟨⟨a1, a2, a3, a4, a5, a6, a7⟩, h2⟩ := h
  obtain ⟨s1, s2, s3, s4, s5, s6, s7, s8⟩ := s D (by omega) (by omega)
  obtain ⟨t1, t2, t3, t4, t5, t6, t7, t8⟩ := s (D + 1) (by omega) (by omega)
  exact ⟨⟨a1, by omega, s1.trans a3, (s5 _).trans a4, t1.trans a5, t2.trans a6, a7⟩, fun i m hm => (h2 i m hm).sm (s.mono (by omega) (by omega)) (t8 i) ht⟩
theorem Fr.sms2 {P : xP} {h c : Nat} {σ σ' : xS} (f : Fr P h c σ σ') {lo hi : Nat} (h1 : P.base + 2 ≤ lo) (h2 : hi ≤ h) : Sms σ σ' lo hi := fun b hb hb2 => f.1 b (by omega) (by omega)
theorem cw_modNamedL {P : xP} {σ : xS} {kd : Nat → List Nat → Option Nat} {D : Nat} {A H : Nat → Nat} {G : Nat → List Nat → Nat} {ms : List xMod} {top : Nat} (h : DR P σ kd D A H G ms top) (hc : σ.I 1 D = nI ms.length) (hn : ∀ m ∈ ms, nm_ok m.nm) {nm : List Nat} (ho : nm_ok nm) : ∀ (r j n : Nat), j + r = ms.length → r < n → dm_X0_moduleNamed_L2 P D n (pk nm) (nI j) σ = some (.inl (((ms.drop j).findIdx? fun m => decide (m.nm = nm)).map fun i => A (i + j)), σ) := by
  obtain ⟨⟨a1, a2, a3, a4, a5, a6, a7⟩, h2⟩ := h
  intro r
  induction r with
  | zero =>
    intro j n hj hn
    obtain ⟨n, rfl⟩ : ∃ m, n = m + 1 := ⟨n - 1, by omega⟩
    have e : ms.drop j = [] := List.drop_eq_nil_of_le (by omega)
    rw [e]
    unfold dm_X0_moduleNamed_L2
    simp (disch := first | assumption | omega) [x_chk, x_some, x_bind, x_let, lit_nI, nI_add, nI_mul, nI_sub, nI_clamp, nI_eq, nI_ltI, nI_leI, nN_e, nI_nN, nN_nI, bI_0, bI_1, bI_n, bool_0, bool_1, in_T, lg_cmp0, ofN_nI, a3, hc, dle_T]
  | succ r ih =>
    intro j n hj hn'
    obtain ⟨n, rfl⟩ : ∃ m, n = m + 1 := ⟨n - 1, by omega⟩
    obtain ⟨x, hx⟩ : ∃ x, ms[j]? = some x := ⟨_, List.getElem?_eq_getElem (by omega)⟩
    have ed : ms.drop j = x :: ms.drop (j + 1) := by
      obtain ⟨hlt, hx3⟩ := List.getElem?_eq_some_iff.mp hx
      rw [List.drop_eq_getElem_cons hlt, hx3]
    obtain ⟨q1, q2, q3, q4, q5, ⟨⟨b1, b2, b3, b4, b5⟩, -⟩, q7⟩ := h2 j x hx
    have no := hn x (List.mem_of_getElem? hx)
    have ihh := ih (j + 1) n (by omega) (by omega)
    rw [ed]
    unfold dm_X0_moduleNamed_L2
    have i2 : ¬ ms.length ≤ j := by omega
    by_cases e : x.nm = nm
    · subst e
      simp (disch := first | assumption | omega) [x_chk, x_some, x_bind, x_let, lit_nI, nI_add, nI_mul, nI_sub, nI_clamp, nI_eq, nI_ltI, nI_leI, nN_e, nI_nN, nN_nI, bI_0, bI_1, bI_n, bool_0, bool_1, in_T, lg_cmp0, ofN_nI, i2, a3, a4, a5, a6, hc, q1, b2, b4, dlt_T, List.findIdx?_cons]
    · have em : (((ms.drop (j + 1)).findIdx? fun m => decide (m.nm = nm)).map fun i => A (i + (j + 1))) = (((x :: ms.drop (j + 1)).findIdx? fun m => decide (m.nm = nm)).map fun i => A (i + j)) := by
        rw [List.findIdx?_cons]
        simp only [e, decide_false, Bool.false_eq_true, if_false, Option.map_map]
        congr 1
        funext i
        simp only [Function.comp]
        congr 1
        omega
      rw [← em]
      simp (disch := first | assumption | omega) [x_chk, x_some, x_bind, x_let, lit_nI, nI_add, nI_mul, nI_sub, nI_clamp, nI_eq, nI_ltI, nI_leI, nN_e, nI_nN, nN_nI, bI_0, bI_1, bI_n, bool_0, bool_1, in_T, lg_cmp0, ofN_nI, i2, a3, a4, a5, a6, hc, q1, b2, b4, pk_iff', e, dlt_T, ihh]
theorem cw_modNamed {P : xP} {σ : xS} {kd : Nat → List Nat → Option Nat} {D : Nat} {A H : Nat → Nat} {G : Nat → List Nat → Nat} {ms : List xMod} {top : Nat} (C : CI P σ) (h : DR P σ kd D A H G ms top) (hc : σ.I 1 D = nI ms.length) (hn : ∀ m ∈ ms, nm_ok m.nm) {nm : List Nat} (ho : nm_ok nm) : dm_X0_moduleNamed P D (pk nm) σ = some (.inl ((sp_kind ms nm).map A), σ) := by
  have q := cw_modNamedL (P := P) h hc hn ho ms.length 0 P.N (by omega) (by have := C.N; have := h.1.2.2.2.2.2.2; omega)
  exact q
theorem kind_none {ms : List xMod} {nm : List Nat} : sp_kind ms nm = none ↔ nm ∉ ms.map fun m => m.nm := by
  unfold sp_kind
  rw [List.findIdx?_eq_none_iff]
  simp only [List.mem_map, not_exists, not_and, decide_eq_false_iff_not]
theorem cw_canTakeModule {P : xP} {σ : xS} {kd : Nat → List Nat → Option Nat} {D : Nat} {A H : Nat → Nat} {G : Nat → List Nat → Nat} {ms : List xMod} {top : Nat} (C : CI P σ) (h : DR P σ kd D A H G ms top) (hc : σ.I 1 D = nI ms.length) (hn : ∀ m ∈ ms, nm_ok m.nm) {nm : List Nat} (ho : nm_ok nm) : dm_X0_canTakeModule P D (pk nm) σ = some (.inl (bI (decide (¬ (8 ≤ ms.length ∨ nm ∈ ms.map fun m => m.nm)))), σ) := by
  have q := cw_modNamed C h hc hn ho
  have a3 := h.1.2.2.1
  have a7 := h.1.2.2.2.2.2.2
  unfold dm_X0_canTakeModule dm_X0_canTakeModule_p21 dm_X0_canTakeModule_p22
  by_cases e : 8 ≤ ms.length
  · simp (disch := first | assumption | omega) [x_chk, x_some, x_bind, x_let, lit_nI, nI_add, nI_mul, nI_sub, nI_clamp, nI_eq, nI_ltI, nI_leI, nN_e, nI_nN, nN_nI, bI_0, bI_1, bI_n, bool_0, bool_1, in_T, lg_cmp0, ofN_nI, a3, hc, e, bI_ff]
  · by_cases e2 : nm ∈ ms.map fun m => m.nm
    · have e3 : ¬ sp_kind ms nm = none := fun z => kind_none.mp z e2
      obtain ⟨i, hi⟩ := Option.ne_none_iff_exists'.mp e3
      rw [hi] at q
      rw [decide_eq_false (show ¬ ¬ (8 ≤ ms.length ∨ nm ∈ ms.map fun m => m.nm) from fun z => z (Or.inr e2))]
      simp (disch := first | assumption | omega) [x_chk, x_some, x_bind, x_let, lit_nI, nI_add, nI_mul, nI_sub, nI_clamp, nI_eq, nI_ltI, nI_leI, nN_e, nI_nN, nN_nI, bI_0, bI_1, bI_n, bool_0, bool_1, in_T, lg_cmp0, ofN_nI, a3, hc, e, q, bI_ff]
    · have e3 := kind_none.mpr e2
      rw [e3] at q
      rw [decide_eq_true (show ¬ (8 ≤ ms.length ∨ nm ∈ ms.map fun m => m.nm) from fun z => z.elim e e2)]
      simp (disch := first | assumption | omega) [x_chk, x_some, x_bind, x_let, lit_nI, nI_add, nI_mul, nI_sub, nI_clamp, nI_eq, nI_ltI, nI_leI, nN_e, nI_nN, nN_nI, bI_0, bI_1, bI_n, bool_0, bool_1, in_T, lg_cmp0, ofN_nI, a3, hc, e, q, bI_tt]
theorem cw_initM {P : xP} {σ : xS} (hs : P.base + 44 ≤ σ.sz) (hR : Rm P σ 5) (g : List Nat → Nat) {nm : List Nat} {ix pl : Nat} : ∃ σ', dm_X5_init P σ.sz (nI ix) (pk nm) (nI pl) (σ.newO 6 13) = some (.inl (), σ') ∧ Fr P σ.sz 5 σ σ' ∧ σ'.I 906 (P.base + 1) = σ.I 906 (P.base + 1) ∧ σ'.sz = σ.sz + 5 ∧ MR σ' g (fun _ => none) ix σ.sz (σ.sz + 5) (nm, pl, [], [], [], []) := by
  obtain ⟨r1, r2⟩ := hR
  refine ⟨((((((((((((((((σ.newO 6 13).newA 26 16).setR 503 σ.sz (some (σ.sz + 1))).setI 504 σ.sz (nI 0)).setI 505 σ.sz (nI 0)).setI 506 σ.sz (nI 0)).newA 28 8).setR 507 σ.sz (some (σ.sz + 2))).newA 28 8).setR 508 σ.sz (some (σ.sz + 3))).setI 509 σ.sz (nI 0)).newA 24 12).setR 510 σ.sz (some (σ.sz + 4))).setI 511 σ.sz (nI 0)).setI 512 σ.sz (nI 0)).setI 500 σ.sz (nI ix)).setJ 501 σ.sz (pk nm) |>.setI 502 σ.sz (nI pl), ?_, ?_, ?_, rfl, ?_⟩
  · unfold dm_X5_init
    have n1 : ¬ nI 16 < nI 0 := by decide
    have n2 : ¬ nI 8 < nI 0 := by decide
    have n3 : ¬ nI 12 < nI 0 := by decide
    simp (config := { maxSteps := 2000000 }) (disch := first | assumption | omega) [x_chk, x_some, x_bind, x_let, lit_nI, nI_add, nI_mul, nI_sub, nI_clamp, nI_eq, nI_ltI, nI_leI, nN_e, nI_nN, nN_nI, bI_0, bI_1, bI_n, bool_0, bool_1, in_T, lg_cmp0, ofN_nI, q_K_setI, q_I_setI, q_J_setI, q_R_setI, q_L_setI, q_AI_setI, q_AJ_setI, q_AR_setI, q_sz_setI, q_su_setI, q_K_setJ, q_I_setJ, q_J_setJ, q_R_setJ, q_L_setJ, q_AI_setJ, q_AJ_setJ, q_AR_setJ, q_sz_setJ, q_su_setJ, q_K_setR, q_I_setR, q_J_setR, q_R_setR, q_L_setR, q_AI_setR, q_AJ_setR, q_AR_setR, q_sz_setR, q_su_setR, q_K_setAI, q_I_setAI, q_J_setAI, q_R_setAI, q_L_setAI, q_AI_setAI, q_AJ_setAI, q_AR_setAI, q_sz_setAI, q_su_setAI, q_K_setAJ, q_I_setAJ, q_J_setAJ, q_R_setAJ, q_L_setAJ, q_AI_setAJ, q_AJ_setAJ, q_AR_setAJ, q_sz_setAJ, q_su_setAJ, q_K_setAR, q_I_setAR, q_J_setAR, q_R_setAR, q_L_setAR, q_AI_setAR, q_AJ_setAR, q_AR_setAR, q_sz_setAR, q_su_setAR, q_K_newO, q_I_newO, q_J_newO, q_R_newO, q_L_newO, q_AI_newO, q_AJ_newO, q_AR_newO, q_sz_newO, q_su_newO, q_K_newA, q_I_newA, q_J_newA, q_R_newA, q_L_newA, q_AI_newA, q_AJ_newA, q_AR_newA, q_sz_newA, q_su_newA, q_K_skip, q_I_skip, q_J_skip, q_R_skip, q_L_skip, q_AI_skip, q_AJ_skip, q_AR_skip, q_sz_skip, q_su_skip, q_up2, q_up, dle_T, n1, n2, n3, Nat.add_assoc]
  · have f0 : Fr P σ.sz 2 σ ((σ.newO 6 13).newA 26 16) := (Fr.newO P (Nat.le_refl _) (by omega) (by omega)).trans (Fr.newA P (h := σ.sz) (by show σ.sz ≤ σ.sz + 1; omega) (by show P.base + 1 < σ.sz + 1; omega) (by omega))
    have f1 := (((f0.thenR (a := σ.sz) (k := 503) (v := some (σ.sz + 1)) (Nat.le_refl _) (by omega)).thenI (a := σ.sz) (k := 504) (v := nI 0) (Nat.le_refl _) (by omega)).thenI (a := σ.sz) (k := 505) (v := nI 0) (Nat.le_refl _) (by omega)).thenI (a := σ.sz) (k := 506) (v := nI 0) (Nat.le_refl _) (by omega)
    have f2 := (f1.trans (Fr.newA P (h := σ.sz) (k := 28) (n := 8) (by show σ.sz ≤ σ.sz + 2; omega) (by show P.base + 1 < σ.sz + 2; omega) (by omega)) (e := 3)).thenR (a := σ.sz) (k := 507) (v := some (σ.sz + 2)) (Nat.le_refl _) (by omega)
    have f3 := ((f2.trans (Fr.newA P (h := σ.sz) (k := 28) (n := 8) (by show σ.sz ≤ σ.sz + 3; omega) (by show P.base + 1 < σ.sz + 3; omega) (by omega)) (e := 4)).thenR (a := σ.sz) (k := 508) (v := some (σ.sz + 3)) (Nat.le_refl _) (by omega)).thenI (a := σ.sz) (k := 509) (v := nI 0) (Nat.le_refl _) (by omega)
    have f4 := (f3.trans (Fr.newA P (h := σ.sz) (k := 24) (n := 12) (by show σ.sz ≤ σ.sz + 4; omega) (by show P.base + 1 < σ.sz + 4; omega) (by omega)) (e := 5)).thenR (a := σ.sz) (k := 510) (v := some (σ.sz + 4)) (Nat.le_refl _) (by omega)
    exact ((((f4.thenI (Nat.le_refl _) (by omega)).thenI (Nat.le_refl _) (by omega)).thenI (Nat.le_refl _) (by omega)).thenJ (Nat.le_refl _) (by omega)).thenI (Nat.le_refl _) (by omega)
  · have : ¬ P.base + 1 = σ.sz := by omega
    simp [q_K_setI, q_I_setI, q_J_setI, q_R_setI, q_L_setI, q_AI_setI, q_AJ_setI, q_AR_setI, q_sz_setI, q_su_setI, q_K_setJ, q_I_setJ, q_J_setJ, q_R_setJ, q_L_setJ, q_AI_setJ, q_AJ_setJ, q_AR_setJ, q_sz_setJ, q_su_setJ, q_K_setR, q_I_setR, q_J_setR, q_R_setR, q_L_setR, q_AI_setR, q_AJ_setR, q_AR_setR, q_sz_setR, q_su_setR, q_K_setAI, q_I_setAI, q_J_setAI, q_R_setAI, q_L_setAI, q_AI_setAI, q_AJ_setAI, q_AR_setAI, q_sz_setAI, q_su_setAI, q_K_setAJ, q_I_setAJ, q_J_setAJ, q_R_setAJ, q_L_setAJ, q_AI_setAJ, q_AJ_setAJ, q_AR_setAJ, q_sz_setAJ, q_su_setAJ, q_K_setAR, q_I_setAR, q_J_setAR, q_R_setAR, q_L_setAR, q_AI_setAR, q_AJ_setAR, q_AR_setAR, q_sz_setAR, q_su_setAR, q_K_newO, q_I_newO, q_J_newO, q_R_newO, q_L_newO, q_AI_newO, q_AJ_newO, q_AR_newO, q_sz_newO, q_su_newO, q_K_newA, q_I_newA, q_J_newA, q_R_newA, q_L_newA, q_AI_newA, q_AJ_newA, q_AR_newA, q_sz_newA, q_su_newA, q_K_skip, q_I_skip, q_J_skip, q_R_skip, q_L_skip, q_AI_skip, q_AJ_skip, q_AR_skip, q_sz_skip, q_su_skip, q_up2, q_up, this]
  · refine ⟨⟨by omega, ?_, ?_, ?_, ?_⟩, ⟨?_, ?_, ?_, ?_, ?_, by simp [xMod.nets, xMod.ports, xMod.wires]⟩, ⟨?_, ?_, ?_, ?_, ?_, ?_, ?_, by simp [xMod.asg]⟩, ⟨?_, ?_, ?_, ?_, by simp [xMod.ins]⟩, fun k x hx => ?_, fun k x hx => ?_, fun k x hx => ?_⟩
    all_goals first | (simp [xMod.nets, xMod.ports, xMod.wires, xMod.asg, xMod.ins] at hx; done) | skip
    all_goals simp [q_K_setI, q_I_setI, q_J_setI, q_R_setI, q_L_setI, q_AI_setI, q_AJ_setI, q_AR_setI, q_sz_setI, q_su_setI, q_K_setJ, q_I_setJ, q_J_setJ, q_R_setJ, q_L_setJ, q_AI_setJ, q_AJ_setJ, q_AR_setJ, q_sz_setJ, q_su_setJ, q_K_setR, q_I_setR, q_J_setR, q_R_setR, q_L_setR, q_AI_setR, q_AJ_setR, q_AR_setR, q_sz_setR, q_su_setR, q_K_setAI, q_I_setAI, q_J_setAI, q_R_setAI, q_L_setAI, q_AI_setAI, q_AJ_setAI, q_AR_setAI, q_sz_setAI, q_su_setAI, q_K_setAJ, q_I_setAJ, q_J_setAJ, q_R_setAJ, q_L_setAJ, q_AI_setAJ, q_AJ_setAJ, q_AR_setAJ, q_sz_setAJ, q_su_setAJ, q_K_setAR, q_I_setAR, q_J_setAR, q_R_setAR, q_L_setAR, q_AI_setAR, q_AJ_setAR, q_AR_setAR, q_sz_setAR, q_su_setAR, q_K_newO, q_I_newO, q_J_newO, q_R_newO, q_L_newO, q_AI_newO, q_AJ_newO, q_AR_newO, q_sz_newO, q_su_newO, q_K_newA, q_I_newA, q_J_newA, q_R_newA, q_L_newA, q_AI_newA, q_AJ_newA, q_AR_newA, q_sz_newA, q_su_newA, q_K_skip, q_I_skip, q_J_skip, q_R_skip, q_L_skip, q_AI_skip, q_AJ_skip, q_AR_skip, q_sz_skip, q_su_skip, q_up2, q_up, Nat.add_assoc, xMod.nm, xMod.pl, xMod.nets, xMod.ports, xMod.wires, xMod.asg, xMod.ins]
/-- the state between two modules -/
def SN (P : xP) (T : xT) (lng : Bool) (D : Nat) (A H : Nat → Nat) (G : Nat → List Nat → Nat) (ms : List xMod) (σ : xS) (p : Nat) : Prop := CP P T σ p ∧ σ.R 301 (rdA P lng) = some D ∧ σ.R 302 (rdA P lng) = none ∧ P.base + 44 ≤ D ∧ DR P σ (fun _ _ => none) D A H G ms σ.sz ∧ σ.I 1 D = nI ms.length ∧ ∀ m ∈ ms, nm_ok m.nm
/-- the state within a module -/
def SM (P : xP) (T : xT) (lng : Bool) (D : Nat) (A H : Nat → Nat) (G : Nat → List Nat → Nat) (ms : List xMod) (m : xMod) (σ : xS) (p : Nat) : Prop := ∃ g M, PX P T lng g ms.length M m σ p ∧ σ.R 301 (rdA P lng) = some D ∧ P.base + 44 ≤ D ∧ DR P σ (fun _ _ => none) D A H G ms M ∧ σ.I 1 D = nI (ms.length + 1) ∧ σ.AR (D + 1) ms.length = some M ∧ ms.length < 8 ∧ ∀ m ∈ ms, nm_ok m.nm
/-- below D only the cursor and the module that is read have changed -/
def FD (P : xP) (lng : Bool) (D c : Nat) (σ σ' : xS) : Prop := (∀ a, a < D → a ≠ P.base + 1 → a ≠ rdA P lng → Sm σ σ' a) ∧
  (σ'.K (P.base + 1) = σ.K (P.base + 1) ∧ (∀ f, f ≠ 906 → σ'.I f (P.base + 1) = σ.I f (P.base + 1)) ∧ (∀ f, σ'.R f (P.base + 1) = σ.R f (P.base + 1))) ∧
  (σ'.K (rdA P lng) = σ.K (rdA P lng) ∧ σ'.R 300 (rdA P lng) = σ.R 300 (rdA P lng)) ∧ Us σ σ' c
theorem FD.refl (P : xP) (lng : Bool) (D : Nat) (σ : xS) : FD P lng D 0 σ σ := ⟨fun a _ _ _ => Sm.refl σ a, ⟨rfl, fun _ _ => rfl, fun _ => rfl⟩, ⟨rfl, rfl⟩, Us.refl σ⟩
theorem FD.trans {P : xP} {lng : Bool} {D c d e : Nat} {σ σ' σ'' : xS} (f : FD P lng D c σ σ') (g : FD P lng D d σ' σ'') (he : c + d ≤ e := by omega) : FD P lng D e σ σ'' :=
  ⟨fun a h1 h2 h3 => (f.1 a h1 h2 h3).trans (g.1 a h1 h2 h3), ⟨g.2.1.1.trans f.2.1.1, fun k hk => (g.2.1.2.1 k hk).trans (f.2.1.2.1 k hk), fun k => (g.2.1.2.2 k).trans (f.2.1.2.2 k)⟩, ⟨g.2.2.1.1.trans f.2.2.1.1, g.2.2.1.2.trans f.2.2.1.2⟩, f.2.2.2.trans g.2.2.2 he⟩
theorem Fr.fd {P : xP} {h D c e : Nat} {σ σ' : xS} (f : Fr P h c σ σ') (lng : Bool) (hD : D ≤ h) (hh : P.base + 9 ≤ h) (he : c ≤ e := by omega) : FD P lng D e σ σ' := by
  have rn := rd_ne P lng
  have r := f.1 (rdA P lng) (by omega) (by omega)
  obtain ⟨a1, a2, a3⟩ := f.2.2
  exact ⟨fun a h1 h2 _ => f.1 a (by omega) h2, f.2.1, ⟨r.1, r.2.2.2.2.1 300⟩, by omega, by omega, by omega⟩
theorem SM.item {P : xP} {T : xT} {lng : Bool} {D : Nat} {A H : Nat → Nat} {G : Nat → List Nat → Nat} {ms : List xMod} {m m' : xMod} {σ σ' : xS} {p p' M c : Nat} {g : List Nat → Nat} (h : PX P T lng g ms.length M m σ p ∧ σ.R 301 (rdA P lng) = some D ∧ P.base + 44 ≤ D ∧ DR P σ (fun _ _ => none) D A H G ms M ∧ σ.I 1 D = nI (ms.length + 1) ∧ σ.AR (D + 1) ms.length = some M ∧ ms.length < 8 ∧ ∀ m ∈ ms, nm_ok m.nm) (hq : IQ P T lng ms.length M σ c () σ' (m', p')) : SM P T lng D A H G ms m' σ' p' ∧ FD P lng D c σ σ' := by
  obtain ⟨h1, h2, h3, h4, h5, h6, h7, h8⟩ := h
  obtain ⟨g', q1, q2⟩ := hq
  have rn := rd_ne P lng
  have hDM := h4.1.2.1
  have s := q2.sms2 (lo := D) (hi := M) (by omega) (Nat.le_refl _)
  refine ⟨⟨g', M, q1, ((q2.1 _ (by omega) (by omega)).2.2.2.2.1 301).trans h2, h3, h4.sm s (Nat.le_refl _), ((s D (by omega) (by omega)).2.2.1 1).trans h5, ((s (D + 1) (by omega) (by omega)).2.2.2.2.2.2.2 _).trans h6, h7, h8⟩, q2.fd lng (by omega) (by omega)⟩
