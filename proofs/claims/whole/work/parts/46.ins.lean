/-! ===== the class: readInstance ===== -/
theorem eb_as {α β γ : Type} (e : Except Nat α) (f : α → Except Nat β) (g : β → Except Nat γ) : eb (eb e f) g = eb e fun a => eb (f a) g := by cases e <;> rfl
theorem cw_setBn {P : xP} {T : xT} {lng : Bool} {g : List Nat → Nat} {ix M a : Nat} {m : xMod} {f nm : List Nat} {pl : Nat} {b b' : Bool} {ls : List xLnk} {σ : xS} {p : Nat} (h : IB P T lng g ix M m a (f, nm, pl, b, ls) σ p) : Fr P a 0 σ (σ.setI 103 a (bI b')) ∧ IB P T lng g ix M m a (f, nm, pl, b', ls) (σ.setI 103 a (bI b')) p := by
  obtain ⟨C, hcur, hM, hw, hm, h6, h7, hi⟩ := h
  obtain ⟨i1, i2, i3, i4, i5, i6, i7, i8, i9, i10, i11, i12, i13, i14⟩ := hi
  have hMa := hm.1.1
  have fr : Fr P a 0 σ (σ.setI 103 a (bI b')) := (Fr.refl P a σ).thenI (by omega) (by omega)
  have s : Sms σ (σ.setI 103 a (bI b')) (a + 2) σ.sz := (Sms.refl σ _ _).tI (by omega)
  refine ⟨fr, C.fr fr (by simp [q_K_setI, q_I_setI, q_J_setI, q_R_setI, q_L_setI, q_AI_setI, q_AJ_setI, q_AR_setI, q_sz_setI, q_su_setI, q_K_setJ, q_I_setJ, q_J_setJ, q_R_setJ, q_L_setJ, q_AI_setJ, q_AJ_setJ, q_AR_setJ, q_sz_setJ, q_su_setJ, q_K_setR, q_I_setR, q_J_setR, q_R_setR, q_L_setR, q_AI_setR, q_AJ_setR, q_AR_setR, q_sz_setR, q_su_setR, q_K_setAI, q_I_setAI, q_J_setAI, q_R_setAI, q_L_setAI, q_AI_setAI, q_AJ_setAI, q_AR_setAI, q_sz_setAI, q_su_setAI, q_K_setAJ, q_I_setAJ, q_J_setAJ, q_R_setAJ, q_L_setAJ, q_AI_setAJ, q_AJ_setAJ, q_AR_setAJ, q_sz_setAJ, q_su_setAJ, q_K_setAR, q_I_setAR, q_J_setAR, q_R_setAR, q_L_setAR, q_AI_setAR, q_AJ_setAR, q_AR_setAR, q_sz_setAR, q_su_setAR, q_K_newO, q_I_newO, q_J_newO, q_R_newO, q_L_newO, q_AI_newO, q_AJ_newO, q_AR_newO, q_sz_newO, q_su_newO, q_K_newA, q_I_newA, q_J_newA, q_R_newA, q_L_newA, q_AI_newA, q_AJ_newA, q_AR_newA, q_sz_newA, q_su_newA, q_K_skip, q_I_skip, q_J_skip, q_R_skip, q_L_skip, q_AI_skip, q_AJ_skip, q_AR_skip, q_sz_skip, q_su_skip, q_up2, q_up]) (by omega), hcur, hM, ?_, hm.sm (fr.sms hM (Nat.le_refl _)) (Nat.le_refl _), h6, h7, ?_⟩
  · refine ⟨hw.1, fun x hx => ?_⟩
    have hx' : x ∈ m.ins ++ [(f, nm, pl, b', ls)] := hx
    rcases List.mem_append.mp hx' with z | z
    · exact hw.2 x (List.mem_append_left _ z)
    · rw [List.mem_singleton.mp z]
      exact hw.2 (f, nm, pl, b, ls) (List.mem_append_right _ (List.mem_singleton.mpr rfl))
  · refine ⟨i1, i2, i3, i4, i5, ?_, ?_, i8, i9, i10, ?_, i12, i13, fun k y hy => ?_⟩
    · simp [q_K_setI, q_I_setI, q_J_setI, q_R_setI, q_L_setI, q_AI_setI, q_AJ_setI, q_AR_setI, q_sz_setI, q_su_setI, q_K_setJ, q_I_setJ, q_J_setJ, q_R_setJ, q_L_setJ, q_AI_setJ, q_AJ_setJ, q_AR_setJ, q_sz_setJ, q_su_setJ, q_K_setR, q_I_setR, q_J_setR, q_R_setR, q_L_setR, q_AI_setR, q_AJ_setR, q_AR_setR, q_sz_setR, q_su_setR, q_K_setAI, q_I_setAI, q_J_setAI, q_R_setAI, q_L_setAI, q_AI_setAI, q_AJ_setAI, q_AR_setAI, q_sz_setAI, q_su_setAI, q_K_setAJ, q_I_setAJ, q_J_setAJ, q_R_setAJ, q_L_setAJ, q_AI_setAJ, q_AJ_setAJ, q_AR_setAJ, q_sz_setAJ, q_su_setAJ, q_K_setAR, q_I_setAR, q_J_setAR, q_R_setAR, q_L_setAR, q_AI_setAR, q_AJ_setAR, q_AR_setAR, q_sz_setAR, q_su_setAR, q_K_newO, q_I_newO, q_J_newO, q_R_newO, q_L_newO, q_AI_newO, q_AJ_newO, q_AR_newO, q_sz_newO, q_su_newO, q_K_newA, q_I_newA, q_J_newA, q_R_newA, q_L_newA, q_AI_newA, q_AJ_newA, q_AR_newA, q_sz_newA, q_su_newA, q_K_skip, q_I_skip, q_J_skip, q_R_skip, q_L_skip, q_AI_skip, q_AJ_skip, q_AR_skip, q_sz_skip, q_su_skip, q_up2, q_up, i6]
    · simp [q_K_setI, q_I_setI, q_J_setI, q_R_setI, q_L_setI, q_AI_setI, q_AJ_setI, q_AR_setI, q_sz_setI, q_su_setI, q_K_setJ, q_I_setJ, q_J_setJ, q_R_setJ, q_L_setJ, q_AI_setJ, q_AJ_setJ, q_AR_setJ, q_sz_setJ, q_su_setJ, q_K_setR, q_I_setR, q_J_setR, q_R_setR, q_L_setR, q_AI_setR, q_AJ_setR, q_AR_setR, q_sz_setR, q_su_setR, q_K_setAI, q_I_setAI, q_J_setAI, q_R_setAI, q_L_setAI, q_AI_setAI, q_AJ_setAI, q_AR_setAI, q_sz_setAI, q_su_setAI, q_K_setAJ, q_I_setAJ, q_J_setAJ, q_R_setAJ, q_L_setAJ, q_AI_setAJ, q_AJ_setAJ, q_AR_setAJ, q_sz_setAJ, q_su_setAJ, q_K_setAR, q_I_setAR, q_J_setAR, q_R_setAR, q_L_setAR, q_AI_setAR, q_AJ_setAR, q_AR_setAR, q_sz_setAR, q_su_setAR, q_K_newO, q_I_newO, q_J_newO, q_R_newO, q_L_newO, q_AI_newO, q_AJ_newO, q_AR_newO, q_sz_newO, q_su_newO, q_K_newA, q_I_newA, q_J_newA, q_R_newA, q_L_newA, q_AI_newA, q_AJ_newA, q_AR_newA, q_sz_newA, q_su_newA, q_K_skip, q_I_skip, q_J_skip, q_R_skip, q_L_skip, q_AI_skip, q_AJ_skip, q_AR_skip, q_sz_skip, q_su_skip, q_up2, q_up]
    · simp [q_K_setI, q_I_setI, q_J_setI, q_R_setI, q_L_setI, q_AI_setI, q_AJ_setI, q_AR_setI, q_sz_setI, q_su_setI, q_K_setJ, q_I_setJ, q_J_setJ, q_R_setJ, q_L_setJ, q_AI_setJ, q_AJ_setJ, q_AR_setJ, q_sz_setJ, q_su_setJ, q_K_setR, q_I_setR, q_J_setR, q_R_setR, q_L_setR, q_AI_setR, q_AJ_setR, q_AR_setR, q_sz_setR, q_su_setR, q_K_setAI, q_I_setAI, q_J_setAI, q_R_setAI, q_L_setAI, q_AI_setAI, q_AJ_setAI, q_AR_setAI, q_sz_setAI, q_su_setAI, q_K_setAJ, q_I_setAJ, q_J_setAJ, q_R_setAJ, q_L_setAJ, q_AI_setAJ, q_AJ_setAJ, q_AR_setAJ, q_sz_setAJ, q_su_setAJ, q_K_setAR, q_I_setAR, q_J_setAR, q_R_setAR, q_L_setAR, q_AI_setAR, q_AJ_setAR, q_AR_setAR, q_sz_setAR, q_su_setAR, q_K_newO, q_I_newO, q_J_newO, q_R_newO, q_L_newO, q_AI_newO, q_AJ_newO, q_AR_newO, q_sz_newO, q_su_newO, q_K_newA, q_I_newA, q_J_newA, q_R_newA, q_L_newA, q_AI_newA, q_AJ_newA, q_AR_newA, q_sz_newA, q_su_newA, q_K_skip, q_I_skip, q_J_skip, q_R_skip, q_L_skip, q_AI_skip, q_AJ_skip, q_AR_skip, q_sz_skip, q_su_skip, q_up2, q_up]; exact i11
    · obtain ⟨b', q1, q2⟩ := i14 k y hy
      exact ⟨b', q1, q2.sm s (Nat.le_refl _)⟩
/-- what an instance leaves, told from the instance's start -/
def NQ (P : xP) (T : xT) (lng : Bool) (g : List Nat → Nat) (ix M a : Nat) (σ : xS) (c : Nat) (_ : Unit) (σ' : xS) (q : xMod × Nat) : Prop := PX P T lng g ix M q.1 σ' q.2 ∧ Fr P a c σ σ'
theorem cw_insT {P : xP} {T : xT} {g : List Nat → Nat} {ix M a : Nat} {m : xMod} {i : xIns} {σ : xS} {p : Nat} (h : IB P T true g ix M m a i σ p) (hR : Rm P σ 1) : Rf (dm_X3_readInstance_p93 P (P.base + 6) σ) (eb (sp_sign T 41 p) fun p3 => eb (sp_sign T 59 p3) fun p4 => .ok (m.wIns i, p4)) (NQ P T true g ix M a σ 0) (PE P T a σ 1) := by
  have ci := h.1.ci
  have ha2 := h.2.2.2.2.2.2.2.2.1
  unfold dm_X3_readInstance_p93
  simp (disch := first | assumption | omega) [ck_T, sm_s, bd_l, bd_r, lt_e, eq_self, and_self, if_true, true_and, and_true, lit_nI, nI_add, nI_mul, nI_sub, nI_clamp, nI_eq, nI_ltI, nI_leI, nN_e, nI_nN, nN_nI, bI_0, bI_1, bI_n, bool_0, bool_1, in_T, lg_cmp0, ofN_nI, ci_0 ci, ci_1 ci, ci_2 ci, ci_3 ci, ci_4 ci, ci_5 ci, ci_6 ci, ci_7 ci, ci_8 ci, ci_9 ci, ci_10 ci, ci_11 ci, ci_12 ci, ci_13 ci, ci_14 ci, ci_15 ci, ci_16 ci, ci_17 ci, ci_18 ci, ci_19 ci, ci_20 ci, ci_21 ci, ci_22 ci]
  refine Rf.bind (rf_sign h.1 (c := 41) (by omega) hR) ?_ ?_
  · rintro _ s p3 ⟨rfl, C1⟩
    have ci1 := C1.ci
    have f1 := cst_fr P σ.sz σ
    simp (disch := first | assumption | omega) [ck_T, sm_s, bd_l, bd_r, lt_e, eq_self, and_self, if_true, true_and, and_true, lit_nI, nI_add, nI_mul, nI_sub, nI_clamp, nI_eq, nI_ltI, nI_leI, nN_e, nI_nN, nN_nI, bI_0, bI_1, bI_n, bool_0, bool_1, in_T, lg_cmp0, ofN_nI, ci_0 ci1, ci_1 ci1, ci_2 ci1, ci_3 ci1, ci_4 ci1, ci_5 ci1, ci_6 ci1, ci_7 ci1, ci_8 ci1, ci_9 ci1, ci_10 ci1, ci_11 ci1, ci_12 ci1, ci_13 ci1, ci_14 ci1, ci_15 ci1, ci_16 ci1, ci_17 ci1, ci_18 ci1, ci_19 ci1, ci_20 ci1, ci_21 ci1, ci_22 ci1]
    refine Rf.bind (rf_sign C1 (c := 59) (by omega) (hR.us f1.2.2)) ?_ ?_
    · rintro _ s p4 ⟨rfl, C2⟩
      have f2 : Fr P σ.sz 0 σ (cst P (cst P σ)) := f1.t0 (cst_fr P σ.sz _) (Nat.le_refl _)
      exact Rf.ok rfl ⟨(h.fr f2 C2).px, f2.mono⟩
    · intro g5 s5 hq
      exact ⟨rfl, (PE.aft f1 hq (Nat.le_refl _) (e := 1)).mono⟩
  · intro g5 s5 hq
    exact ⟨rfl, hq.mono⟩
theorem cw_insL {P : xP} {T : xT} {g : List Nat → Nat} {ix M a : Nat} {m : xMod} {f nm : List Nat} {pl : Nat} {bn : Bool} : ∀ (r k n : Nat) (ls : List xLnk) (σ : xS) (p : Nat), k + r = 17 → r + 1 < n → IB P T true g ix M m a (f, nm, pl, bn, ls) σ p → Rm P σ (2 * r + 5) →
    Rf (dm_X3_readInstance_L47 P (P.base + 6) n (some a) (nI 1) (nI k) σ) (eb (sp_loop T (fun ls p => if bn = true then sp_nlink T m.nets ls p else sp_olink T true m.nets ls p) r ls p) fun q => eb (sp_sign T 41 q.2) fun p3 => eb (sp_sign T 59 p3) fun p4 => .ok (m.wIns (f, nm, pl, bn, q.1), p4)) (NQ P T true g ix M a σ (2 * r)) (PE P T a σ (2 * r + 3)) := by
  intro r
  induction r with
  | zero =>
    intro k n ls σ p hk hn h hR
    obtain ⟨n, rfl⟩ : ∃ m, n = m + 1 := ⟨n - 1, by omega⟩
    simp only [sp_loop, eb_ok]
    unfold dm_X3_readInstance_L47
    have e1 : 16 < k := by omega
    simp (disch := first | assumption | omega) [lit_nI, nI_add, nI_mul, nI_sub, nI_clamp, nI_eq, nI_ltI, nI_leI, nN_e, nI_nN, nN_nI, bI_0, bI_1, bI_n, bool_0, bool_1, in_T, lg_cmp0, ofN_nI, e1]
    exact (cw_insT h hR.mono).mono (fun _ _ _ q => q) (fun _ _ q => q.mono)
  | succ r ih =>
    intro k n ls σ p hk hn h hR
    obtain ⟨n, rfl⟩ : ∃ m, n = m + 1 := ⟨n - 1, by omega⟩
    have ci := h.1.ci
    have hi := h.2.2.2.2.2.2.2
    have ka := hi.2.2.1
    have kb := hi.2.2.2.2.2.2.1
    have ha2 := hi.2.1
    simp only [] at kb
    have e1 : ¬ 16 < k := by omega
    simp only [sp_loop, eb_as]
    -- behind a link
    have nxt : ∀ (s : xS) (q : List xLnk × Nat), IB P T true g ix M m a (f, nm, pl, bn, q.1) s q.2 → Fr P a 2 σ s → Rf (dm_X3_readInstance_p77 P (dm_X3_readInstance_L47 P (P.base + 6) n) (P.base + 6) (some a) (nI k) s) (eb (if sp_is T 44 q.2 = true then sp_loop T (fun ls p => if bn = true then sp_nlink T m.nets ls p else sp_olink T true m.nets ls p) r q.1 (lx_nx T q.2) else .ok q) fun q => eb (sp_sign T 41 q.2) fun p3 => eb (sp_sign T 59 p3) fun p4 => .ok (m.wIns (f, nm, pl, bn, q.1), p4)) (NQ P T true g ix M a σ (2 * (r + 1))) (PE P T a σ (2 * (r + 1) + 3)) := by
      intro s q hs fs
      have cis := hs.1.ci
      have sk := cw_skips hs.1 (c := 44) (by omega)
      unfold dm_X3_readInstance_p77
      by_cases e : sp_is T 44 q.2 = true
      · simp only [e, if_true] at sk ⊢
        have C1 := hs.1.step (is_lt e)
        have f1 := cst_fr P s.sz s
        have h1 := hs.fr f1 C1
        have as := hs.2.2.2.2.2.2.2.2.1
        have fs1 : Fr P a 2 σ (cst P s) := fs.trans f1
        have q2 := ih (k + 1) n q.1 (cst P s) (lx_nx T q.2) (by omega) (by omega) h1 (hR.us fs1.2.2)
        simp (disch := first | assumption | omega) [ck_T, sm_s, bd_l, bd_r, lt_e, eq_self, and_self, if_true, true_and, and_true, lit_nI, nI_add, nI_mul, nI_sub, nI_clamp, nI_eq, nI_ltI, nI_leI, nN_e, nI_nN, nN_nI, bI_0, bI_1, bI_n, bool_0, bool_1, in_T, lg_cmp0, ofN_nI, ci_0 cis, ci_1 cis, ci_2 cis, ci_3 cis, ci_4 cis, ci_5 cis, ci_6 cis, ci_7 cis, ci_8 cis, ci_9 cis, ci_10 cis, ci_11 cis, ci_12 cis, ci_13 cis, ci_14 cis, ci_15 cis, ci_16 cis, ci_17 cis, ci_18 cis, ci_19 cis, ci_20 cis, ci_21 cis, ci_22 cis, sk, bI_tt]
        exact q2.mono (fun _ _ _ z => ⟨z.1, fs1.trans z.2⟩) (fun _ _ z => PE.aft fs1 z)
      · simp only [e, if_false, eb_ok] at sk ⊢
        simp (disch := first | assumption | omega) [ck_T, sm_s, bd_l, bd_r, lt_e, eq_self, and_self, if_true, true_and, and_true, lit_nI, nI_add, nI_mul, nI_sub, nI_clamp, nI_eq, nI_ltI, nI_leI, nN_e, nI_nN, nN_nI, bI_0, bI_1, bI_n, bool_0, bool_1, in_T, lg_cmp0, ofN_nI, ci_0 cis, ci_1 cis, ci_2 cis, ci_3 cis, ci_4 cis, ci_5 cis, ci_6 cis, ci_7 cis, ci_8 cis, ci_9 cis, ci_10 cis, ci_11 cis, ci_12 cis, ci_13 cis, ci_14 cis, ci_15 cis, ci_16 cis, ci_17 cis, ci_18 cis, ci_19 cis, ci_20 cis, ci_21 cis, ci_22 cis, sk, bI_ff]
        have q2 := cw_insT hs (hR.us fs.2.2 (d := 1))
        obtain ⟨n', rfl⟩ : ∃ m, n = m + 1 := ⟨n - 1, by omega⟩
        unfold dm_X3_readInstance_L47
        simp (disch := first | assumption | omega) [lit_nI, nI_add, nI_mul, nI_sub, nI_clamp, nI_eq, nI_ltI, nI_leI, nN_e, nI_nN, nN_nI, bI_0, bI_1, bI_n, bool_0, bool_1, in_T, lg_cmp0, ofN_nI]
        exact q2.mono (fun _ _ _ z => ⟨z.1, fs.trans z.2⟩) (fun _ _ z => PE.aft fs z)
    unfold dm_X3_readInstance_L47
    cases bn with
    | true =>
      simp (disch := first | assumption | omega) [ck_T, sm_s, bd_l, bd_r, lt_e, eq_self, and_self, if_true, true_and, and_true, lit_nI, nI_add, nI_mul, nI_sub, nI_clamp, nI_eq, nI_ltI, nI_leI, nN_e, nI_nN, nN_nI, bI_0, bI_1, bI_n, bool_0, bool_1, in_T, lg_cmp0, ofN_nI, e1, ka, kb, ci_0 ci, ci_1 ci, ci_2 ci, ci_3 ci, ci_4 ci, ci_5 ci, ci_6 ci, ci_7 ci, ci_8 ci, ci_9 ci, ci_10 ci, ci_11 ci, ci_12 ci, ci_13 ci, ci_14 ci, ci_15 ci, ci_16 ci, ci_17 ci, ci_18 ci, ci_19 ci, ci_20 ci, ci_21 ci, ci_22 ci]
      refine Rf.bind (cw_nlink h hR.mono) ?_ ?_
      · intro v s q hq
        exact nxt s q hq.1 hq.2
      · intro g5 s5 hq
        exact ⟨rfl, hq.mono⟩
    | false =>
      simp (disch := first | assumption | omega) [ck_T, sm_s, bd_l, bd_r, lt_e, eq_self, and_self, if_true, true_and, and_true, lit_nI, nI_add, nI_mul, nI_sub, nI_clamp, nI_eq, nI_ltI, nI_leI, nN_e, nI_nN, nN_nI, bI_0, bI_1, bI_n, bool_0, bool_1, in_T, lg_cmp0, ofN_nI, e1, ka, kb, ci_0 ci, ci_1 ci, ci_2 ci, ci_3 ci, ci_4 ci, ci_5 ci, ci_6 ci, ci_7 ci, ci_8 ci, ci_9 ci, ci_10 ci, ci_11 ci, ci_12 ci, ci_13 ci, ci_14 ci, ci_15 ci, ci_16 ci, ci_17 ci, ci_18 ci, ci_19 ci, ci_20 ci, ci_21 ci, ci_22 ci]
      refine Rf.bind (cw_olink h hR.mono) ?_ ?_
      · intro v s q hq
        exact nxt s q hq.1 hq.2
      · intro g5 s5 hq
        exact ⟨rfl, hq.mono⟩
theorem cw_longIns {P : xP} {T : xT} {g : List Nat → Nat} {ix M : Nat} {m : xMod} {σ : xS} {p : Nat} (h : PX P T true g ix M m σ p) (hR : Rm P σ 60) : Rf (dm_X3_readInstance P (P.base + 6) σ) (sp_longIns T m p) (IQ P T true ix M σ 50) (PE P T M σ 50) := by
  have ci := h.1.ci
  have hMs := h.2.2.2.1.1.1
  unfold dm_X3_readInstance sp_longIns
  simp (disch := first | assumption | omega) [ck_T, sm_s, bd_l, bd_r, lt_e, eq_self, and_self, if_true, true_and, and_true, lit_nI, nI_add, nI_mul, nI_sub, nI_clamp, nI_eq, nI_ltI, nI_leI, nN_e, nI_nN, nN_nI, bI_0, bI_1, bI_n, bool_0, bool_1, in_T, lg_cmp0, ofN_nI, ci_0 ci, ci_1 ci, ci_2 ci, ci_3 ci, ci_4 ci, ci_5 ci, ci_6 ci, ci_7 ci, ci_8 ci, ci_9 ci, ci_10 ci, ci_11 ci, ci_12 ci, ci_13 ci, ci_14 ci, ci_15 ci, ci_16 ci, ci_17 ci, ci_18 ci, ci_19 ci, ci_20 ci, ci_21 ci, ci_22 ci]
  refine Rf.bind (cw_startInstance h hR.mono) ?_ ?_
  · rintro v s ⟨⟨f, nm, pl⟩, p1⟩ ⟨a, rfl, h1, f1⟩
    have C1 := h1.1
    have ci1 := C1.ci
    have ha2 := h1.2.2.2.2.2.2.2.2.1
    have hMa := h1.2.2.2.2.1.1.1
    simp only [] at h1 C1 ⊢
    simp (disch := first | assumption | omega) [ck_T, sm_s, bd_l, bd_r, lt_e, eq_self, and_self, if_true, true_and, and_true, lit_nI, nI_add, nI_mul, nI_sub, nI_clamp, nI_eq, nI_ltI, nI_leI, nN_e, nI_nN, nN_nI, bI_0, bI_1, bI_n, bool_0, bool_1, in_T, lg_cmp0, ofN_nI, ci_0 ci1, ci_1 ci1, ci_2 ci1, ci_3 ci1, ci_4 ci1, ci_5 ci1, ci_6 ci1, ci_7 ci1, ci_8 ci1, ci_9 ci1, ci_10 ci1, ci_11 ci1, ci_12 ci1, ci_13 ci1, ci_14 ci1, ci_15 ci1, ci_16 ci1, ci_17 ci1, ci_18 ci1, ci_19 ci1, ci_20 ci1, ci_21 ci1, ci_22 ci1]
    refine Rf.bind (rf_sign C1 (c := 40) (by omega) (hR.us f1.2.2)) ?_ ?_
    · rintro _ s' p2 ⟨rfl, C2⟩
      have ci2 := C2.ci
      have f2 := cst_fr P s.sz s
      have h2 := h1.fr f2 C2
      have f02 : Fr P M 2 σ (cst P s) := f1.trans f2
      have is2 := cw_isSign C2 (c := 46) (by omega)
      have ka := h2.2.2.2.2.2.2.2.2.2.1
      have hM := h.2.2.1
      obtain ⟨f3, h3⟩ := cw_setBn (b' := sp_is T 46 p2) h2
      have ci3 := h3.1.ci
      have is3 := cw_isSign h3.1 (c := 41) (by omega)
      have ba : P.base ≤ a := by omega
      have f03 : Fr P M 2 σ ((cst P s).setI 103 a (bI (sp_is T 46 p2))) := f02.trans f3
      simp (disch := first | assumption | omega) [ck_T, sm_s, bd_l, bd_r, lt_e, eq_self, and_self, if_true, true_and, and_true, lit_nI, nI_add, nI_mul, nI_sub, nI_clamp, nI_eq, nI_ltI, nI_leI, nN_e, nI_nN, nN_nI, bI_0, bI_1, bI_n, bool_0, bool_1, in_T, lg_cmp0, ofN_nI, ci_0 ci2, ci_1 ci2, ci_2 ci2, ci_3 ci2, ci_4 ci2, ci_5 ci2, ci_6 ci2, ci_7 ci2, ci_8 ci2, ci_9 ci2, ci_10 ci2, ci_11 ci2, ci_12 ci2, ci_13 ci2, ci_14 ci2, ci_15 ci2, ci_16 ci2, ci_17 ci2, ci_18 ci2, ci_19 ci2, ci_20 ci2, ci_21 ci2, ci_22 ci2, ci_0 ci3, ci_1 ci3, ci_2 ci3, ci_3 ci3, ci_4 ci3, ci_5 ci3, ci_6 ci3, ci_7 ci3, ci_8 ci3, ci_9 ci3, ci_10 ci3, ci_11 ci3, ci_12 ci3, ci_13 ci3, ci_14 ci3, ci_15 ci3, ci_16 ci3, ci_17 ci3, ci_18 ci3, ci_19 ci3, ci_20 ci3, ci_21 ci3, ci_22 ci3, is2, ka, ba, is3]
      unfold sp_links
      by_cases e : sp_is T 41 p2 = true
      · simp only [e, if_true, eb_ok, Bool.true_eq_false, if_false]
        have q2 := cw_insT h3 (hR.us f03.2.2 (d := 1))
        obtain ⟨n, hn⟩ : ∃ n, P.N = n + 1 := ⟨P.N - 1, by have := ci.N; omega⟩
        unfold dm_X3_readInstance_p44
        rw [hn]
        unfold dm_X3_readInstance_L47
        simp (disch := first | assumption | omega) [lit_nI, nI_add, nI_mul, nI_sub, nI_clamp, nI_eq, nI_ltI, nI_leI, nN_e, nI_nN, nN_nI, bI_0, bI_1, bI_n, bool_0, bool_1, in_T, lg_cmp0, ofN_nI]
        exact q2.mono (fun _ _ _ z => ⟨g, z.1, f03.trans z.2⟩) (fun _ _ z => PE.aft f03 z)
      · simp only [e, if_false, Bool.false_eq_true, if_true]
        unfold dm_X3_readInstance_p44
        have q2 := cw_insL (P := P) (T := T) (f := f) (nm := nm) (pl := pl) (bn := sp_is T 46 p2) (M := M) (m := m) 17 0 P.N [] _ p2 (by omega) (by have := ci.N; omega) h3 (hR.us f03.2.2)
        exact q2.mono (fun _ _ _ z => ⟨g, z.1, f03.trans z.2⟩) (fun _ _ z => PE.aft f03 z)
    · intro g5 s5 hq
      exact ⟨rfl, PE.aft f1 hq⟩
  · intro g5 s5 hq
    exact ⟨rfl, hq.mono⟩
theorem cw_sinsT {P : xP} {T : xT} {g : List Nat → Nat} {ix M a : Nat} {m : xMod} {i : xIns} {σ : xS} {p : Nat} (h : IB P T false g ix M m a i σ p) (hR : Rm P σ 1) : Rf (dm_X9_readInstance_p43 P (P.base + 7) σ) (eb (sp_sign T 59 p) fun p4 => .ok (m.wIns i, p4)) (NQ P T false g ix M a σ 0) (PE P T a σ 1) := by
  have ci := h.1.ci
  have ha2 := h.2.2.2.2.2.2.2.2.1
  unfold dm_X9_readInstance_p43
  simp (disch := first | assumption | omega) [ck_T, sm_s, bd_l, bd_r, lt_e, eq_self, and_self, if_true, true_and, and_true, lit_nI, nI_add, nI_mul, nI_sub, nI_clamp, nI_eq, nI_ltI, nI_leI, nN_e, nI_nN, nN_nI, bI_0, bI_1, bI_n, bool_0, bool_1, in_T, lg_cmp0, ofN_nI, ci_0 ci, ci_1 ci, ci_2 ci, ci_3 ci, ci_4 ci, ci_5 ci, ci_6 ci, ci_7 ci, ci_8 ci, ci_9 ci, ci_10 ci, ci_11 ci, ci_12 ci, ci_13 ci, ci_14 ci, ci_15 ci, ci_16 ci, ci_17 ci, ci_18 ci, ci_19 ci, ci_20 ci, ci_21 ci, ci_22 ci]
  refine Rf.bind (rf_sign h.1 (c := 59) (by omega) hR) ?_ ?_
  · rintro _ s p3 ⟨rfl, C1⟩
    have f1 := cst_fr P σ.sz σ
    exact Rf.ok rfl ⟨(h.fr f1 C1).px, f1.mono⟩
  · intro g5 s5 hq
    exact ⟨rfl, hq.mono⟩
theorem cw_sinsL {P : xP} {T : xT} {g : List Nat → Nat} {ix M a : Nat} {m : xMod} {f nm : List Nat} {pl : Nat} : ∀ (r k n : Nat) (ls : List xLnk) (σ : xS) (p : Nat), k + r = 17 → r < n → IB P T false g ix M m a (f, nm, pl, false, ls) σ p → Rm P σ (2 * r + 5) →
    Rf (dm_X9_readInstance_L14 P (P.base + 7) n (some a) (nI k) σ) (eb (sp_shortLinks T m.nets r ls p) fun q => eb (sp_sign T 59 q.2) fun p4 => .ok (m.wIns (f, nm, pl, false, q.1), p4)) (NQ P T false g ix M a σ (2 * r)) (PE P T a σ (2 * r + 3)) := by
  intro r
  induction r with
  | zero =>
    intro k n ls σ p hk hn h hR
    obtain ⟨n, rfl⟩ : ∃ m, n = m + 1 := ⟨n - 1, by omega⟩
    simp only [sp_shortLinks, eb_ok]
    unfold dm_X9_readInstance_L14
    have e1 : 16 < k := by omega
    simp (disch := first | assumption | omega) [lit_nI, nI_add, nI_mul, nI_sub, nI_clamp, nI_eq, nI_ltI, nI_leI, nN_e, nI_nN, nN_nI, bI_0, bI_1, bI_n, bool_0, bool_1, in_T, lg_cmp0, ofN_nI, e1]
    exact (cw_sinsT h hR.mono).mono (fun _ _ _ q => q) (fun _ _ q => q.mono)
  | succ r ih =>
    intro k n ls σ p hk hn h hR
    obtain ⟨n, rfl⟩ : ∃ m, n = m + 1 := ⟨n - 1, by omega⟩
    have ci := h.1.ci
    have e1 : ¬ 16 < k := by omega
    have is := cw_isSign h.1 (c := 59) (by omega)
    unfold dm_X9_readInstance_L14
    simp only [sp_shortLinks]
    by_cases e : sp_is T 59 p = true
    · simp (disch := first | assumption | omega) [ck_T, sm_s, bd_l, bd_r, lt_e, eq_self, and_self, if_true, true_and, and_true, lit_nI, nI_add, nI_mul, nI_sub, nI_clamp, nI_eq, nI_ltI, nI_leI, nN_e, nI_nN, nN_nI, bI_0, bI_1, bI_n, bool_0, bool_1, in_T, lg_cmp0, ofN_nI, e1, ci_0 ci, ci_1 ci, ci_2 ci, ci_3 ci, ci_4 ci, ci_5 ci, ci_6 ci, ci_7 ci, ci_8 ci, ci_9 ci, ci_10 ci, ci_11 ci, ci_12 ci, ci_13 ci, ci_14 ci, ci_15 ci, ci_16 ci, ci_17 ci, ci_18 ci, ci_19 ci, ci_20 ci, ci_21 ci, ci_22 ci, is, e, eb_ok]
      exact (cw_sinsT h hR.mono).mono (fun _ _ _ q => ⟨q.1, q.2.mono⟩) (fun _ _ q => q.mono)
    · simp (disch := first | assumption | omega) [ck_T, sm_s, bd_l, bd_r, lt_e, eq_self, and_self, if_true, true_and, and_true, lit_nI, nI_add, nI_mul, nI_sub, nI_clamp, nI_eq, nI_ltI, nI_leI, nN_e, nI_nN, nN_nI, bI_0, bI_1, bI_n, bool_0, bool_1, in_T, lg_cmp0, ofN_nI, e1, ci_0 ci, ci_1 ci, ci_2 ci, ci_3 ci, ci_4 ci, ci_5 ci, ci_6 ci, ci_7 ci, ci_8 ci, ci_9 ci, ci_10 ci, ci_11 ci, ci_12 ci, ci_13 ci, ci_14 ci, ci_15 ci, ci_16 ci, ci_17 ci, ci_18 ci, ci_19 ci, ci_20 ci, ci_21 ci, ci_22 ci, is, e, eb_as]
      refine Rf.bind (cw_olink h hR.mono) ?_ ?_
      · intro v s q hq
        have q2 := ih (k + 1) n q.1 s q.2 (by omega) (by omega) hq.1 (hR.us hq.2.2.2)
        exact q2.mono (fun _ _ _ z => ⟨z.1, hq.2.trans z.2⟩) (fun _ _ z => PE.aft hq.2 z)
      · intro g5 s5 hq
        exact ⟨rfl, hq.mono⟩
theorem cw_shortIns {P : xP} {T : xT} {g : List Nat → Nat} {ix M : Nat} {m : xMod} {σ : xS} {p : Nat} (h : PX P T false g ix M m σ p) (hp : p < T.2) (hR : Rm P σ 60) : Rf (dm_X9_readInstance P (P.base + 7) σ) (sp_shortIns T m p) (IQ P T false ix M σ 50) (PE P T M σ 50) := by
  have C := h.1
  have ci := C.ci
  have hMs := h.2.2.2.1.1.1
  have st := cw_step C hp
  have C1 := C.step hp
  have ci1 := C1.ci
  have f1 := cst_fr P σ.sz σ
  have h1 := h.fr f1 C1
  unfold dm_X9_readInstance sp_shortIns
  simp (disch := first | assumption | omega) [ck_T, sm_s, bd_l, bd_r, lt_e, eq_self, and_self, if_true, true_and, and_true, lit_nI, nI_add, nI_mul, nI_sub, nI_clamp, nI_eq, nI_ltI, nI_leI, nN_e, nI_nN, nN_nI, bI_0, bI_1, bI_n, bool_0, bool_1, in_T, lg_cmp0, ofN_nI, ci_0 ci, ci_1 ci, ci_2 ci, ci_3 ci, ci_4 ci, ci_5 ci, ci_6 ci, ci_7 ci, ci_8 ci, ci_9 ci, ci_10 ci, ci_11 ci, ci_12 ci, ci_13 ci, ci_14 ci, ci_15 ci, ci_16 ci, ci_17 ci, ci_18 ci, ci_19 ci, ci_20 ci, ci_21 ci, ci_22 ci, ci_0 ci1, ci_1 ci1, ci_2 ci1, ci_3 ci1, ci_4 ci1, ci_5 ci1, ci_6 ci1, ci_7 ci1, ci_8 ci1, ci_9 ci1, ci_10 ci1, ci_11 ci1, ci_12 ci1, ci_13 ci1, ci_14 ci1, ci_15 ci1, ci_16 ci1, ci_17 ci1, ci_18 ci1, ci_19 ci1, ci_20 ci1, ci_21 ci1, ci_22 ci1, st]
  refine Rf.bind (cw_startInstance h1 (hR.us f1.2.2)) ?_ ?_
  · rintro v s ⟨⟨f, nm, pl⟩, p1⟩ ⟨a, rfl, h2, f2⟩
    have ha2 := h2.2.2.2.2.2.2.2.2.1
    have hMa := h2.2.2.2.2.1.1.1
    have f02 : Fr P M 2 σ s := (f1.mono (h' := M) (by omega) (e := 0)).trans f2
    have q2 := cw_sinsL (P := P) (T := T) (f := f) (nm := nm) (pl := pl) (M := M) (m := m) 17 0 P.N [] _ p1 (by omega) (by have := ci.N; omega) h2 (hR.us f02.2.2)
    exact q2.mono (fun _ _ _ z => ⟨g, z.1, f02.trans z.2⟩) (fun _ _ z => PE.aft f02 z)
  · intro g5 s5 hq
    exact ⟨rfl, PE.aft (f1.mono (h' := M) (by omega) (e := 0)) hq⟩
