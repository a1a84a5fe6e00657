/-! ===== the class: pieces ===== -/
theorem cw_endModule {P : xP} {T : xT} {lng : Bool} {D : Nat} {A H : Nat → Nat} {G : Nat → List Nat → Nat} {ms : List xMod} {m : xMod} {σ : xS} {p : Nat} (h : SM P T lng D A H G ms m σ p) (hd : (m.nets.map fun x => x.1).Nodup) (hnm : nm_ok m.nm) : ∃ A' H' G' σ', dm_X8_endModule P (rdA P lng) σ = some (.inl (), σ') ∧ SN P T lng D A' H' G' (ms ++ [m]) σ' p ∧ FD P lng D 0 σ σ' := by
  obtain ⟨g, M, ⟨C, cu, hM, hm, hw⟩, h2, h3, h4, h5, h6, h7, h8⟩ := h
  have ci := C.ci
  have sz := C.sz
  have rn := rd_ne P lng
  have hDM := h4.1.2.1
  obtain ⟨s1, q1, q2, q3⟩ := cw_numberBits ci hM hm hw.1 hd
  have f1 := q2.fr hM
  have C1 : CP P T s1 p := C.fr f1 (q2.2.2.2.2.2.2.2.2.2.2 906 _ (by omega)) (by omega)
  have ci1 := C1.ci
  have kM := hm.1.2.1
  have C2 : CP P T (s1.setR 302 (rdA P lng) none) p := C1.set3 (Or.inr rfl)
  have es : s1.sz = σ.sz := q2.2.2.2.2.2.2.2.1
  have m1 : MR s1 g (fun _ => none) ms.length M σ.sz m := MRc.ix hm q2.1 q2.2.1 q2.2.2.1 q2.2.2.2.1 q2.2.2.2.2.2.2.1 (fun f y z1 z2 _ => q2.2.2.2.2.2.2.2.2.2.1 f y z1 z2)
  have sR : ∀ lo hi, rdA P lng < lo → Sms s1 (s1.setR 302 (rdA P lng) none) lo hi := fun lo hi hl => (Sms.refl s1 _ _).tR (Or.inl hl)
  have m2 := MRc.sm m1 (sR M σ.sz (by omega)) (Nat.le_refl _)
  have b2 := FBR.sm q3 m1 (sR M σ.sz (by omega))
  have d1 : DR P s1 (fun _ _ => none) D A H G ms M := h4.sm (f1.sms2 (by omega) (Nat.le_refl _)) (Nat.le_refl _)
  have d2 : DR P (s1.setR 302 (rdA P lng) none) (fun _ _ => none) D A H G ms M := d1.sm (sR D M (by omega)) (Nat.le_refl _)
  refine ⟨fun i => if i = ms.length then M else A i, fun i => if i = ms.length then σ.sz else H i, fun i => if i = ms.length then g else G i, s1.setR 302 (rdA P lng) none, ?_, ?_, ?_⟩
  · unfold dm_X8_endModule
    simp (disch := first | assumption | omega) [ck_T, sm_s, bd_l, bd_r, lt_e, eq_self, and_self, if_true, true_and, and_true, lit_nI, nI_add, nI_mul, nI_sub, nI_clamp, nI_eq, nI_ltI, nI_leI, nN_e, nI_nN, nN_nI, bI_0, bI_1, bI_n, bool_0, bool_1, in_T, lg_cmp0, ofN_nI, rd_K ci, rd_K ci1, cu, kM, q1, dle_T]
  · refine ⟨C2, ?_, by simp [q_K_setI, q_I_setI, q_J_setI, q_R_setI, q_L_setI, q_AI_setI, q_AJ_setI, q_AR_setI, q_sz_setI, q_su_setI, q_K_setJ, q_I_setJ, q_J_setJ, q_R_setJ, q_L_setJ, q_AI_setJ, q_AJ_setJ, q_AR_setJ, q_sz_setJ, q_su_setJ, q_K_setR, q_I_setR, q_J_setR, q_R_setR, q_L_setR, q_AI_setR, q_AJ_setR, q_AR_setR, q_sz_setR, q_su_setR, q_K_setAI, q_I_setAI, q_J_setAI, q_R_setAI, q_L_setAI, q_AI_setAI, q_AJ_setAI, q_AR_setAI, q_sz_setAI, q_su_setAI, q_K_setAJ, q_I_setAJ, q_J_setAJ, q_R_setAJ, q_L_setAJ, q_AI_setAJ, q_AJ_setAJ, q_AR_setAJ, q_sz_setAJ, q_su_setAJ, q_K_setAR, q_I_setAR, q_J_setAR, q_R_setAR, q_L_setAR, q_AI_setAR, q_AJ_setAR, q_AR_setAR, q_sz_setAR, q_su_setAR, q_K_newO, q_I_newO, q_J_newO, q_R_newO, q_L_newO, q_AI_newO, q_AJ_newO, q_AR_newO, q_sz_newO, q_su_newO, q_K_newA, q_I_newA, q_J_newA, q_R_newA, q_L_newA, q_AI_newA, q_AJ_newA, q_AR_newA, q_sz_newA, q_su_newA, q_K_skip, q_I_skip, q_J_skip, q_R_skip, q_L_skip, q_AI_skip, q_AJ_skip, q_AR_skip, q_sz_skip, q_su_skip, q_up2, q_up], h3, ⟨⟨d2.1.1, ?_, d2.1.2.2.1, d2.1.2.2.2.1, d2.1.2.2.2.2.1, d2.1.2.2.2.2.2.1, by simp; omega⟩, fun i x hx => ?_⟩, ?_, fun x hx => ?_⟩
    · have : s1.R 301 (rdA P lng) = some D := by rw [q2.2.2.2.1]; exact h2
      simp [q_K_setI, q_I_setI, q_J_setI, q_R_setI, q_L_setI, q_AI_setI, q_AJ_setI, q_AR_setI, q_sz_setI, q_su_setI, q_K_setJ, q_I_setJ, q_J_setJ, q_R_setJ, q_L_setJ, q_AI_setJ, q_AJ_setJ, q_AR_setJ, q_sz_setJ, q_su_setJ, q_K_setR, q_I_setR, q_J_setR, q_R_setR, q_L_setR, q_AI_setR, q_AJ_setR, q_AR_setR, q_sz_setR, q_su_setR, q_K_setAI, q_I_setAI, q_J_setAI, q_R_setAI, q_L_setAI, q_AI_setAI, q_AJ_setAI, q_AR_setAI, q_sz_setAI, q_su_setAI, q_K_setAJ, q_I_setAJ, q_J_setAJ, q_R_setAJ, q_L_setAJ, q_AI_setAJ, q_AJ_setAJ, q_AR_setAJ, q_sz_setAJ, q_su_setAJ, q_K_setAR, q_I_setAR, q_J_setAR, q_R_setAR, q_L_setAR, q_AI_setAR, q_AJ_setAR, q_AR_setAR, q_sz_setAR, q_su_setAR, q_K_newO, q_I_newO, q_J_newO, q_R_newO, q_L_newO, q_AI_newO, q_AJ_newO, q_AR_newO, q_sz_newO, q_su_newO, q_K_newA, q_I_newA, q_J_newA, q_R_newA, q_L_newA, q_AI_newA, q_AJ_newA, q_AR_newA, q_sz_newA, q_su_newA, q_K_skip, q_I_skip, q_J_skip, q_R_skip, q_L_skip, q_AI_skip, q_AJ_skip, q_AR_skip, q_sz_skip, q_su_skip, q_up2, q_up, this]
    · show D + 2 ≤ s1.sz
      have := hm.1.1
      omega
    · have hlen := get_lt hx
      rcases app_get hx with ⟨z, hz⟩ | ⟨z, hz⟩
      · obtain ⟨t1, t2, t3, t4, t5, t6, t7⟩ := d2.2 i x hz
        have n1 : ¬ i = ms.length := by omega
        unfold DRi
        simp only [n1, if_false]
        refine ⟨t1, t2, t3, ?_, fun j hj => ?_, t6, t7⟩
        · show H i ≤ s1.sz
          have := hm.1.1
          omega
        · have n2 : ¬ j = ms.length := by omega
          simp only [n2, if_false]
          exact t5 j hj
      · subst z hz
        unfold DRi
        simp only [if_true]
        refine ⟨?_, by omega, hM, ?_, fun j hj => ?_, m2, b2⟩
        · show s1.AR (D + 1) ms.length = some M
          rw [q2.2.2.2.2.2.2.1]; exact h6
        · show σ.sz ≤ s1.sz
          omega
        · have n2 : ¬ j = ms.length := by omega
          simp only [n2, if_false]
          obtain ⟨y, hy⟩ : ∃ y, ms[j]? = some y := ⟨_, List.getElem?_eq_getElem hj⟩
          exact (d2.2 j y hy).2.2.2.1
    · show s1.I 1 D = _
      rw [q2.2.2.2.2.2.2.2.2.2.1 1 D (by omega) (by omega), h5]
      simp
    · rcases List.mem_append.mp hx with z | z
      · exact h8 x z
      · rw [List.mem_singleton.mp z]; exact hnm
  · refine (f1.fd lng (D := D) (by omega) (by omega) (e := 0)).trans (d := 0) ?_
    refine ⟨fun b _ _ hb => ⟨rfl, rfl, fun _ => rfl, fun _ => rfl, fun f => ?_, fun _ => rfl, fun _ => rfl, fun _ => rfl⟩, ⟨rfl, fun _ _ => rfl, fun f => ?_⟩, ⟨rfl, ?_⟩, Us.refl _⟩
    · exact x_up2_a hb
    · exact x_up2_a (by omega)
    · simp [q_K_setI, q_I_setI, q_J_setI, q_R_setI, q_L_setI, q_AI_setI, q_AJ_setI, q_AR_setI, q_sz_setI, q_su_setI, q_K_setJ, q_I_setJ, q_J_setJ, q_R_setJ, q_L_setJ, q_AI_setJ, q_AJ_setJ, q_AR_setJ, q_sz_setJ, q_su_setJ, q_K_setR, q_I_setR, q_J_setR, q_R_setR, q_L_setR, q_AI_setR, q_AJ_setR, q_AR_setR, q_sz_setR, q_su_setR, q_K_setAI, q_I_setAI, q_J_setAI, q_R_setAI, q_L_setAI, q_AI_setAI, q_AJ_setAI, q_AR_setAI, q_sz_setAI, q_su_setAI, q_K_setAJ, q_I_setAJ, q_J_setAJ, q_R_setAJ, q_L_setAJ, q_AI_setAJ, q_AJ_setAJ, q_AR_setAJ, q_sz_setAJ, q_su_setAJ, q_K_setAR, q_I_setAR, q_J_setAR, q_R_setAR, q_L_setAR, q_AI_setAR, q_AJ_setAR, q_AR_setAR, q_sz_setAR, q_su_setAR, q_K_newO, q_I_newO, q_J_newO, q_R_newO, q_L_newO, q_AI_newO, q_AJ_newO, q_AR_newO, q_sz_newO, q_su_newO, q_K_newA, q_I_newA, q_J_newA, q_R_newA, q_L_newA, q_AI_newA, q_AJ_newA, q_AR_newA, q_sz_newA, q_su_newA, q_K_skip, q_I_skip, q_J_skip, q_R_skip, q_L_skip, q_AI_skip, q_AJ_skip, q_AR_skip, q_sz_skip, q_su_skip, q_up2, q_up]
def SX (P : xP) (T : xT) (lng : Bool) (D : Nat) (c : xCur) (σ : xS) : Prop := ∃ A H G, match c.2.1 with
  | none => SN P T lng D A H G c.1 σ c.2.2
  | some m => SM P T lng D A H G c.1 m σ c.2.2
theorem cw_pieceL {P : xP} {T : xT} {D : Nat} {A H : Nat → Nat} {G : Nat → List Nat → Nat} {ms : List xMod} {m : xMod} {σ : xS} {p : Nat} (h : SM P T true D A H G ms m σ p) (hw : WX true m p) (hR : Rm P σ 60) : Rf (dm_X3_readPiece P (P.base + 6) σ) (sp_piece T true (ms, some m, p)) (fun _ s c => SX P T true D c s ∧ FD P true D 50 σ s) (PF P T true D σ 50) := by
  obtain ⟨g, M, hx⟩ := id h
  have C := hx.1.1
  have ci := C.ci
  have cu : σ.R 302 (P.base + 6) = some M := hx.1.2.1
  have hM := hx.1.2.2.1
  have hMs := hx.1.2.2.2.1.1.1
  have hDM := hx.2.2.2.1.1.2.1
  have i1 := cw_isText C (q := (15, kw_input)) (by decide)
  have i2 := cw_isText C (q := (23, kw_output)) (by decide)
  have i3 := cw_isText C (q := (29, kw_wire)) (by decide)
  have i4 := cw_isText C (q := (7, kw_assign)) (by decide)
  have i5 := cw_isText C (q := (11, kw_end)) (by decide)
  simp only at i1 i2 i3 i4 i5
  have ok : ∀ (c : Nat) (s : xS) (q : xMod × Nat), c ≤ 50 → IQ P T true ms.length M σ c () s q → SX P T true D (ms, some q.1, q.2) s ∧ FD P true D 50 σ s := by
    intro c s q hc z
    have := SM.item hx (show IQ P T true ms.length M σ c () s (q.1, q.2) from z)
    exact ⟨⟨A, H, G, this.1⟩, (FD.refl P true D σ).trans this.2⟩
  have er : ∀ (c f : Nat) (s : xS), c ≤ 50 → PE P T M σ c f s → PF P T true D σ 50 f s := fun c f s hc z => z.pf
  unfold sp_piece
  simp only [if_true]
  unfold dm_X3_readPiece
  by_cases e1 : sp_txt T kw_input p = true
  · simp only [e1, if_true] at i1 ⊢
    simp (disch := first | assumption | omega) [ck_T, sm_s, bd_l, bd_r, lt_e, eq_self, and_self, if_true, true_and, and_true, lit_nI, nI_add, nI_mul, nI_sub, nI_clamp, nI_eq, nI_ltI, nI_leI, nN_e, nI_nN, nN_nI, bI_0, bI_1, bI_n, bool_0, bool_1, in_T, lg_cmp0, ofN_nI, ci_0 ci, ci_1 ci, ci_2 ci, ci_3 ci, ci_4 ci, ci_5 ci, ci_6 ci, ci_7 ci, ci_8 ci, ci_9 ci, ci_10 ci, ci_11 ci, ci_12 ci, ci_13 ci, ci_14 ci, ci_15 ci, ci_16 ci, ci_17 ci, ci_18 ci, ci_19 ci, ci_20 ci, ci_21 ci, ci_22 ci, cu, i1, bI_tt, dm_X3_readPiece_p138]
    exact Rf.bind (cw_readNets hx.1 hw.1 (by omega) (txt_lt e1) hR) (fun v s q z => Rf.ok rfl (ok 50 s q (Nat.le_refl _) z)) (fun f s z => ⟨rfl, er 50 f s (Nat.le_refl _) z⟩)
  · have e1' : sp_txt T kw_input p = false := by simpa using e1
    simp only [e1', Bool.false_eq_true, if_false] at i1 ⊢
    by_cases e2 : sp_txt T kw_output p = true
    · simp only [e2, if_true] at i2 ⊢
      simp (disch := first | assumption | omega) [ck_T, sm_s, bd_l, bd_r, lt_e, eq_self, and_self, if_true, true_and, and_true, lit_nI, nI_add, nI_mul, nI_sub, nI_clamp, nI_eq, nI_ltI, nI_leI, nN_e, nI_nN, nN_nI, bI_0, bI_1, bI_n, bool_0, bool_1, in_T, lg_cmp0, ofN_nI, ci_0 ci, ci_1 ci, ci_2 ci, ci_3 ci, ci_4 ci, ci_5 ci, ci_6 ci, ci_7 ci, ci_8 ci, ci_9 ci, ci_10 ci, ci_11 ci, ci_12 ci, ci_13 ci, ci_14 ci, ci_15 ci, ci_16 ci, ci_17 ci, ci_18 ci, ci_19 ci, ci_20 ci, ci_21 ci, ci_22 ci, cu, i1, i2, bI_tt, bI_ff, dm_X3_readPiece_p138]
      exact Rf.bind (cw_readNets hx.1 hw.1 (by omega) (txt_lt e2) hR) (fun v s q z => Rf.ok rfl (ok 50 s q (Nat.le_refl _) z)) (fun f s z => ⟨rfl, er 50 f s (Nat.le_refl _) z⟩)
    · have e2' : sp_txt T kw_output p = false := by simpa using e2
      simp only [e2', Bool.false_eq_true, if_false] at i2 ⊢
      by_cases e3 : sp_txt T kw_wire p = true
      · simp only [e3, if_true] at i3 ⊢
        simp (disch := first | assumption | omega) [ck_T, sm_s, bd_l, bd_r, lt_e, eq_self, and_self, if_true, true_and, and_true, lit_nI, nI_add, nI_mul, nI_sub, nI_clamp, nI_eq, nI_ltI, nI_leI, nN_e, nI_nN, nN_nI, bI_0, bI_1, bI_n, bool_0, bool_1, in_T, lg_cmp0, ofN_nI, ci_0 ci, ci_1 ci, ci_2 ci, ci_3 ci, ci_4 ci, ci_5 ci, ci_6 ci, ci_7 ci, ci_8 ci, ci_9 ci, ci_10 ci, ci_11 ci, ci_12 ci, ci_13 ci, ci_14 ci, ci_15 ci, ci_16 ci, ci_17 ci, ci_18 ci, ci_19 ci, ci_20 ci, ci_21 ci, ci_22 ci, cu, i1, i2, i3, bI_tt, bI_ff, dm_X3_readPiece_p138]
        exact Rf.bind (cw_readNets hx.1 hw.1 (by omega) (txt_lt e3) hR) (fun v s q z => Rf.ok rfl (ok 50 s q (Nat.le_refl _) z)) (fun f s z => ⟨rfl, er 50 f s (Nat.le_refl _) z⟩)
      · have e3' : sp_txt T kw_wire p = false := by simpa using e3
        simp only [e3', Bool.false_eq_true, if_false] at i3 ⊢
        by_cases e4 : sp_txt T kw_assign p = true
        · simp only [e4, if_true] at i4 ⊢
          have ra := cw_readAssign hx.1 (txt_lt e4) hR.mono
          simp only [rdA, if_true, bI_tt] at ra
          simp (disch := first | assumption | omega) [ck_T, sm_s, bd_l, bd_r, lt_e, eq_self, and_self, if_true, true_and, and_true, lit_nI, nI_add, nI_mul, nI_sub, nI_clamp, nI_eq, nI_ltI, nI_leI, nN_e, nI_nN, nN_nI, bI_0, bI_1, bI_n, bool_0, bool_1, in_T, lg_cmp0, ofN_nI, ci_0 ci, ci_1 ci, ci_2 ci, ci_3 ci, ci_4 ci, ci_5 ci, ci_6 ci, ci_7 ci, ci_8 ci, ci_9 ci, ci_10 ci, ci_11 ci, ci_12 ci, ci_13 ci, ci_14 ci, ci_15 ci, ci_16 ci, ci_17 ci, ci_18 ci, ci_19 ci, ci_20 ci, ci_21 ci, ci_22 ci, cu, i1, i2, i3, i4, bI_tt, bI_ff, dm_X3_readPiece_p138]
          exact Rf.bind ra (fun v s q z => Rf.ok rfl (ok 2 s q (by omega) z)) (fun f s z => ⟨rfl, er 4 f s (by omega) z⟩)
        · have e4' : sp_txt T kw_assign p = false := by simpa using e4
          simp only [e4', Bool.false_eq_true, if_false] at i4 ⊢
          by_cases e5 : sp_txt T kw_end p = true
          · simp only [e5, if_true] at i5 ⊢
            have ut := cw_untold ci hx.1.2.2.2.1 hw.2.1.1
            have rt := cw_refuseIf (P := P) (a := P.base + 1) (b := true) (σ := σ) hR.mono
            have rf := cw_refuseIf (P := P) (a := P.base + 1) (b := false) (σ := σ) hR.mono
            simp only [if_true, Bool.false_eq_true, if_false] at rt rf
            have kM := hx.1.2.2.2.1.1.2.1
            unfold sp_longEnd
            by_cases e6 : (m.ports.any fun x => decide (x.2.1 = 3)) = true
            · rw [if_pos e6, eb_er]
              rw [e6] at ut
              refine Rf.er (σ' := σ.skip 6) ?_ ((PE.skip C).pf (by omega) (by omega))
              simp (disch := first | assumption | omega) [ck_T, sm_s, bd_l, bd_r, lt_e, eq_self, and_self, if_true, true_and, and_true, lit_nI, nI_add, nI_mul, nI_sub, nI_clamp, nI_eq, nI_ltI, nI_leI, nN_e, nI_nN, nN_nI, bI_0, bI_1, bI_n, bool_0, bool_1, in_T, lg_cmp0, ofN_nI, ci_0 ci, ci_1 ci, ci_2 ci, ci_3 ci, ci_4 ci, ci_5 ci, ci_6 ci, ci_7 ci, ci_8 ci, ci_9 ci, ci_10 ci, ci_11 ci, ci_12 ci, ci_13 ci, ci_14 ci, ci_15 ci, ci_16 ci, ci_17 ci, ci_18 ci, ci_19 ci, ci_20 ci, ci_21 ci, ci_22 ci, cu, i1, i2, i3, i4, i5, bI_tt, bI_ff]
              simp only [bI_tt] at ut rt
              simp (disch := first | assumption | omega) [ck_T, sm_s, bd_l, bd_r, lt_e, eq_self, and_self, if_true, true_and, and_true, lit_nI, nI_add, nI_mul, nI_sub, nI_clamp, nI_eq, nI_ltI, nI_leI, nN_e, nI_nN, nN_nI, bI_0, bI_1, bI_n, bool_0, bool_1, in_T, lg_cmp0, ofN_nI, kM, ut, rt, ci_0 ci, ci_1 ci, ci_2 ci, ci_3 ci, ci_4 ci, ci_5 ci, ci_6 ci, ci_7 ci, ci_8 ci, ci_9 ci, ci_10 ci, ci_11 ci, ci_12 ci, ci_13 ci, ci_14 ci, ci_15 ci, ci_16 ci, ci_17 ci, ci_18 ci, ci_19 ci, ci_20 ci, ci_21 ci, ci_22 ci]
            · rw [if_neg e6, eb_ok]
              have e6' : (m.ports.any fun x => decide (x.2.1 = 3)) = false := Bool.eq_false_iff.mpr e6
              rw [e6'] at ut
              have hp := txt_lt e5
              have st := cw_step C hp
              have C1 := C.step hp
              have ci1 := C1.ci
              have f1 := cst_fr P σ.sz σ
              have h1 := h.fr f1 C1
              obtain ⟨A', H', G', s2, q1, q2, q3⟩ := cw_endModule h1 hw.1.2.2.2.2 hw.2.2.1
              have q1' : dm_X8_endModule P (P.base + 6) (cst P σ) = some (.inl (), s2) := q1
              refine Rf.ok (v := ()) (σ' := s2) ?_ ⟨⟨A', H', G', q2⟩, ((f1.fd true (by omega) (by omega) (e := 0)).trans q3 (e := 50))⟩
              simp (disch := first | assumption | omega) [ck_T, sm_s, bd_l, bd_r, lt_e, eq_self, and_self, if_true, true_and, and_true, lit_nI, nI_add, nI_mul, nI_sub, nI_clamp, nI_eq, nI_ltI, nI_leI, nN_e, nI_nN, nN_nI, bI_0, bI_1, bI_n, bool_0, bool_1, in_T, lg_cmp0, ofN_nI, ci_0 ci, ci_1 ci, ci_2 ci, ci_3 ci, ci_4 ci, ci_5 ci, ci_6 ci, ci_7 ci, ci_8 ci, ci_9 ci, ci_10 ci, ci_11 ci, ci_12 ci, ci_13 ci, ci_14 ci, ci_15 ci, ci_16 ci, ci_17 ci, ci_18 ci, ci_19 ci, ci_20 ci, ci_21 ci, ci_22 ci, cu, i1, i2, i3, i4, i5, bI_tt, bI_ff]
              simp only [bI_ff] at ut rf
              simp (disch := first | assumption | omega) [ck_T, sm_s, bd_l, bd_r, lt_e, eq_self, and_self, if_true, true_and, and_true, lit_nI, nI_add, nI_mul, nI_sub, nI_clamp, nI_eq, nI_ltI, nI_leI, nN_e, nI_nN, nN_nI, bI_0, bI_1, bI_n, bool_0, bool_1, in_T, lg_cmp0, ofN_nI, kM, ut, rf, ci_0 ci, ci_1 ci, ci_2 ci, ci_3 ci, ci_4 ci, ci_5 ci, ci_6 ci, ci_7 ci, ci_8 ci, ci_9 ci, ci_10 ci, ci_11 ci, ci_12 ci, ci_13 ci, ci_14 ci, ci_15 ci, ci_16 ci, ci_17 ci, ci_18 ci, ci_19 ci, ci_20 ci, ci_21 ci, ci_22 ci, ci_0 ci1, ci_1 ci1, ci_2 ci1, ci_3 ci1, ci_4 ci1, ci_5 ci1, ci_6 ci1, ci_7 ci1, ci_8 ci1, ci_9 ci1, ci_10 ci1, ci_11 ci1, ci_12 ci1, ci_13 ci1, ci_14 ci1, ci_15 ci1, ci_16 ci1, ci_17 ci1, ci_18 ci1, ci_19 ci1, ci_20 ci1, ci_21 ci1, ci_22 ci1, st, q1', dm_X3_readPiece_p138]
          · have e5' : sp_txt T kw_end p = false := by simpa using e5
            simp only [e5', Bool.false_eq_true, if_false] at i5 ⊢
            simp (disch := first | assumption | omega) [ck_T, sm_s, bd_l, bd_r, lt_e, eq_self, and_self, if_true, true_and, and_true, lit_nI, nI_add, nI_mul, nI_sub, nI_clamp, nI_eq, nI_ltI, nI_leI, nN_e, nI_nN, nN_nI, bI_0, bI_1, bI_n, bool_0, bool_1, in_T, lg_cmp0, ofN_nI, ci_0 ci, ci_1 ci, ci_2 ci, ci_3 ci, ci_4 ci, ci_5 ci, ci_6 ci, ci_7 ci, ci_8 ci, ci_9 ci, ci_10 ci, ci_11 ci, ci_12 ci, ci_13 ci, ci_14 ci, ci_15 ci, ci_16 ci, ci_17 ci, ci_18 ci, ci_19 ci, ci_20 ci, ci_21 ci, ci_22 ci, cu, i1, i2, i3, i4, i5, bI_ff, dm_X3_readPiece_p138]
            exact Rf.bind (cw_longIns hx.1 hR) (fun v s q z => Rf.ok rfl (ok 50 s q (Nat.le_refl _) z)) (fun f s z => ⟨rfl, er 50 f s (Nat.le_refl _) z⟩)
theorem cw_pieceS {P : xP} {T : xT} {D : Nat} {A H : Nat → Nat} {G : Nat → List Nat → Nat} {ms : List xMod} {m : xMod} {σ : xS} {p : Nat} (h : SM P T false D A H G ms m σ p) (hw : WX false m p) (hR : Rm P σ 60) : Rf (dm_X9_readPiece P (P.base + 7) σ) (sp_piece T false (ms, some m, p)) (fun _ s c => SX P T false D c s ∧ FD P false D 50 σ s) (PF P T false D σ 50) := by
  obtain ⟨g, M, hx⟩ := id h
  have C := hx.1.1
  have ci := C.ci
  have cu : σ.R 302 (P.base + 7) = some M := hx.1.2.1
  have hM := hx.1.2.2.1
  have hMs := hx.1.2.2.2.1.1.1
  have hDM := hx.2.2.2.1.1.2.1
  have i1 := cw_isText C (q := (13, [105])) (by decide)
  have i2 := cw_isText C (q := (21, [111])) (by decide)
  have i3 := cw_isText C (q := (27, [119])) (by decide)
  have i4 := cw_isText C (q := (5, [97])) (by decide)
  have i5 := cw_isText C (q := (25, [117])) (by decide)
  have tt := cw_takeText C hR.mono (q := (9, [101])) (by decide)
  simp only at i1 i2 i3 i4 i5 tt
  have ok : ∀ (c : Nat) (s : xS) (q : xMod × Nat), c ≤ 50 → IQ P T false ms.length M σ c () s q → SX P T false D (ms, some q.1, q.2) s ∧ FD P false D 50 σ s := by
    intro c s q hc z
    have := SM.item hx (show IQ P T false ms.length M σ c () s (q.1, q.2) from z)
    exact ⟨⟨A, H, G, this.1⟩, (FD.refl P false D σ).trans this.2⟩
  have er : ∀ (c f : Nat) (s : xS), c ≤ 50 → PE P T M σ c f s → PF P T false D σ 50 f s := fun c f s hc z => z.pf
  unfold sp_piece
  simp only [Bool.false_eq_true, if_false]
  unfold dm_X9_readPiece
  by_cases e1 : sp_txt T [105] p = true
  · simp only [e1, if_true] at i1 ⊢
    simp (disch := first | assumption | omega) [ck_T, sm_s, bd_l, bd_r, lt_e, eq_self, and_self, if_true, true_and, and_true, lit_nI, nI_add, nI_mul, nI_sub, nI_clamp, nI_eq, nI_ltI, nI_leI, nN_e, nI_nN, nN_nI, bI_0, bI_1, bI_n, bool_0, bool_1, in_T, lg_cmp0, ofN_nI, ci_0 ci, ci_1 ci, ci_2 ci, ci_3 ci, ci_4 ci, ci_5 ci, ci_6 ci, ci_7 ci, ci_8 ci, ci_9 ci, ci_10 ci, ci_11 ci, ci_12 ci, ci_13 ci, ci_14 ci, ci_15 ci, ci_16 ci, ci_17 ci, ci_18 ci, ci_19 ci, ci_20 ci, ci_21 ci, ci_22 ci, cu, i1, bI_tt, dm_X9_readPiece_p153]
    exact Rf.bind (cw_shortNet hx.1 hw.1 (by omega) (txt_lt e1) hR) (fun v s q z => Rf.ok rfl (ok 50 s q (Nat.le_refl _) z)) (fun f s z => ⟨rfl, er 50 f s (Nat.le_refl _) z⟩)
  · have e1' : sp_txt T [105] p = false := by simpa using e1
    simp only [e1', Bool.false_eq_true, if_false] at i1 ⊢
    by_cases e2 : sp_txt T [111] p = true
    · simp only [e2, if_true] at i2 ⊢
      simp (disch := first | assumption | omega) [ck_T, sm_s, bd_l, bd_r, lt_e, eq_self, and_self, if_true, true_and, and_true, lit_nI, nI_add, nI_mul, nI_sub, nI_clamp, nI_eq, nI_ltI, nI_leI, nN_e, nI_nN, nN_nI, bI_0, bI_1, bI_n, bool_0, bool_1, in_T, lg_cmp0, ofN_nI, ci_0 ci, ci_1 ci, ci_2 ci, ci_3 ci, ci_4 ci, ci_5 ci, ci_6 ci, ci_7 ci, ci_8 ci, ci_9 ci, ci_10 ci, ci_11 ci, ci_12 ci, ci_13 ci, ci_14 ci, ci_15 ci, ci_16 ci, ci_17 ci, ci_18 ci, ci_19 ci, ci_20 ci, ci_21 ci, ci_22 ci, cu, i1, i2, bI_tt, bI_ff, dm_X9_readPiece_p153]
      exact Rf.bind (cw_shortNet hx.1 hw.1 (by omega) (txt_lt e2) hR) (fun v s q z => Rf.ok rfl (ok 50 s q (Nat.le_refl _) z)) (fun f s z => ⟨rfl, er 50 f s (Nat.le_refl _) z⟩)
    · have e2' : sp_txt T [111] p = false := by simpa using e2
      simp only [e2', Bool.false_eq_true, if_false] at i2 ⊢
      by_cases e3 : sp_txt T [119] p = true
      · simp only [e3, if_true] at i3 ⊢
        simp (disch := first | assumption | omega) [ck_T, sm_s, bd_l, bd_r, lt_e, eq_self, and_self, if_true, true_and, and_true, lit_nI, nI_add, nI_mul, nI_sub, nI_clamp, nI_eq, nI_ltI, nI_leI, nN_e, nI_nN, nN_nI, bI_0, bI_1, bI_n, bool_0, bool_1, in_T, lg_cmp0, ofN_nI, ci_0 ci, ci_1 ci, ci_2 ci, ci_3 ci, ci_4 ci, ci_5 ci, ci_6 ci, ci_7 ci, ci_8 ci, ci_9 ci, ci_10 ci, ci_11 ci, ci_12 ci, ci_13 ci, ci_14 ci, ci_15 ci, ci_16 ci, ci_17 ci, ci_18 ci, ci_19 ci, ci_20 ci, ci_21 ci, ci_22 ci, cu, i1, i2, i3, bI_tt, bI_ff, dm_X9_readPiece_p153]
        exact Rf.bind (cw_shortNet hx.1 hw.1 (by omega) (txt_lt e3) hR) (fun v s q z => Rf.ok rfl (ok 50 s q (Nat.le_refl _) z)) (fun f s z => ⟨rfl, er 50 f s (Nat.le_refl _) z⟩)
      · have e3' : sp_txt T [119] p = false := by simpa using e3
        simp only [e3', Bool.false_eq_true, if_false] at i3 ⊢
        by_cases e4 : sp_txt T [97] p = true
        · simp only [e4, if_true] at i4 ⊢
          have ra := cw_readAssign hx.1 (txt_lt e4) hR.mono
          simp only [rdA, Bool.false_eq_true, if_false, bI_ff] at ra
          simp (disch := first | assumption | omega) [ck_T, sm_s, bd_l, bd_r, lt_e, eq_self, and_self, if_true, true_and, and_true, lit_nI, nI_add, nI_mul, nI_sub, nI_clamp, nI_eq, nI_ltI, nI_leI, nN_e, nI_nN, nN_nI, bI_0, bI_1, bI_n, bool_0, bool_1, in_T, lg_cmp0, ofN_nI, ci_0 ci, ci_1 ci, ci_2 ci, ci_3 ci, ci_4 ci, ci_5 ci, ci_6 ci, ci_7 ci, ci_8 ci, ci_9 ci, ci_10 ci, ci_11 ci, ci_12 ci, ci_13 ci, ci_14 ci, ci_15 ci, ci_16 ci, ci_17 ci, ci_18 ci, ci_19 ci, ci_20 ci, ci_21 ci, ci_22 ci, cu, i1, i2, i3, i4, bI_tt, bI_ff, dm_X9_readPiece_p153]
          exact Rf.bind ra (fun v s q z => Rf.ok rfl (ok 2 s q (by omega) z)) (fun f s z => ⟨rfl, er 4 f s (by omega) z⟩)
        · have e4' : sp_txt T [97] p = false := by simpa using e4
          simp only [e4', Bool.false_eq_true, if_false] at i4 ⊢
          by_cases e5 : sp_txt T [117] p = true
          · simp only [e5, if_true] at i5 ⊢
            simp (disch := first | assumption | omega) [ck_T, sm_s, bd_l, bd_r, lt_e, eq_self, and_self, if_true, true_and, and_true, lit_nI, nI_add, nI_mul, nI_sub, nI_clamp, nI_eq, nI_ltI, nI_leI, nN_e, nI_nN, nN_nI, bI_0, bI_1, bI_n, bool_0, bool_1, in_T, lg_cmp0, ofN_nI, ci_0 ci, ci_1 ci, ci_2 ci, ci_3 ci, ci_4 ci, ci_5 ci, ci_6 ci, ci_7 ci, ci_8 ci, ci_9 ci, ci_10 ci, ci_11 ci, ci_12 ci, ci_13 ci, ci_14 ci, ci_15 ci, ci_16 ci, ci_17 ci, ci_18 ci, ci_19 ci, ci_20 ci, ci_21 ci, ci_22 ci, cu, i1, i2, i3, i4, i5, bI_tt, bI_ff, dm_X9_readPiece_p153]
            exact Rf.bind (cw_shortIns hx.1 (txt_lt e5) hR) (fun v s q z => Rf.ok rfl (ok 50 s q (Nat.le_refl _) z)) (fun f s z => ⟨rfl, er 50 f s (Nat.le_refl _) z⟩)
          · have e5' : sp_txt T [117] p = false := by simpa using e5
            simp only [e5', Bool.false_eq_true, if_false] at i5 ⊢
            unfold sp_shortEnd
            by_cases e6 : sp_txt T [101] p = true
            · rw [if_pos e6]
              rw [if_pos e6] at tt
              have hp := txt_lt e6
              have C1 := C.step hp
              have ci1 := C1.ci
              have f1 := cst_fr P σ.sz σ
              have h1 := h.fr f1 C1
              simp (disch := first | assumption | omega) [ck_T, sm_s, bd_l, bd_r, lt_e, eq_self, and_self, if_true, true_and, and_true, lit_nI, nI_add, nI_mul, nI_sub, nI_clamp, nI_eq, nI_ltI, nI_leI, nN_e, nI_nN, nN_nI, bI_0, bI_1, bI_n, bool_0, bool_1, in_T, lg_cmp0, ofN_nI, ci_0 ci, ci_1 ci, ci_2 ci, ci_3 ci, ci_4 ci, ci_5 ci, ci_6 ci, ci_7 ci, ci_8 ci, ci_9 ci, ci_10 ci, ci_11 ci, ci_12 ci, ci_13 ci, ci_14 ci, ci_15 ci, ci_16 ci, ci_17 ci, ci_18 ci, ci_19 ci, ci_20 ci, ci_21 ci, ci_22 ci, cu, i1, i2, i3, i4, i5, bI_ff, tt, ci_0 ci1, ci_1 ci1, ci_2 ci1, ci_3 ci1, ci_4 ci1, ci_5 ci1, ci_6 ci1, ci_7 ci1, ci_8 ci1, ci_9 ci1, ci_10 ci1, ci_11 ci1, ci_12 ci1, ci_13 ci1, ci_14 ci1, ci_15 ci1, ci_16 ci1, ci_17 ci1, ci_18 ci1, ci_19 ci1, ci_20 ci1, ci_21 ci1, ci_22 ci1]
              refine Rf.bind (rf_sign C1 (c := 59) (by omega) (hR.us f1.2.2)) ?_ ?_
              · rintro _ s p3 ⟨rfl, C3⟩
                have ci3 := C3.ci
                have f3 := cst_fr P (cst P σ).sz (cst P σ)
                have h3 := h1.fr f3 C3
                obtain ⟨A', H', G', s2, q1, q2, q3⟩ := cw_endModule h3 hw.1.2.2.2.2 hw.2.2.1
                have q1' : dm_X8_endModule P (P.base + 7) (cst P (cst P σ)) = some (.inl (), s2) := q1
                have fd : FD P false D 0 σ (cst P (cst P σ)) := (f1.trans f3 (Nat.le_refl _) (e := 0)).fd false (by omega) (by omega)
                refine Rf.ok (v := ()) (σ' := s2) ?_ ⟨⟨A', H', G', q2⟩, fd.trans q3⟩
                simp (disch := first | assumption | omega) [ck_T, sm_s, bd_l, bd_r, lt_e, eq_self, and_self, if_true, true_and, and_true, lit_nI, nI_add, nI_mul, nI_sub, nI_clamp, nI_eq, nI_ltI, nI_leI, nN_e, nI_nN, nN_nI, bI_0, bI_1, bI_n, bool_0, bool_1, in_T, lg_cmp0, ofN_nI, ci_0 ci3, ci_1 ci3, ci_2 ci3, ci_3 ci3, ci_4 ci3, ci_5 ci3, ci_6 ci3, ci_7 ci3, ci_8 ci3, ci_9 ci3, ci_10 ci3, ci_11 ci3, ci_12 ci3, ci_13 ci3, ci_14 ci3, ci_15 ci3, ci_16 ci3, ci_17 ci3, ci_18 ci3, ci_19 ci3, ci_20 ci3, ci_21 ci3, ci_22 ci3, q1', dm_X9_readPiece_p153]
              · intro f s z
                exact ⟨rfl, PF.aft (f1.fd false (by omega) (by omega) (e := 0)) (z.pf (by show D ≤ σ.sz; omega) (by show P.base + 9 ≤ σ.sz; omega) (e := 1))⟩
            · rw [if_neg e6, eb_er]
              rw [if_neg e6] at tt
              refine Rf.er (σ' := σ.skip 6) ?_ ((PE.skip C).pf (by omega) (by omega))
              simp (disch := first | assumption | omega) [ck_T, sm_s, bd_l, bd_r, lt_e, eq_self, and_self, if_true, true_and, and_true, lit_nI, nI_add, nI_mul, nI_sub, nI_clamp, nI_eq, nI_ltI, nI_leI, nN_e, nI_nN, nN_nI, bI_0, bI_1, bI_n, bool_0, bool_1, in_T, lg_cmp0, ofN_nI, ci_0 ci, ci_1 ci, ci_2 ci, ci_3 ci, ci_4 ci, ci_5 ci, ci_6 ci, ci_7 ci, ci_8 ci, ci_9 ci, ci_10 ci, ci_11 ci, ci_12 ci, ci_13 ci, ci_14 ci, ci_15 ci, ci_16 ci, ci_17 ci, ci_18 ci, ci_19 ci, ci_20 ci, ci_21 ci, ci_22 ci, cu, i1, i2, i3, i4, i5, bI_ff, tt]
theorem cw_pieceH {P : xP} {T : xT} {lng : Bool} {D : Nat} {A H : Nat → Nat} {G : Nat → List Nat → Nat} {ms : List xMod} {σ : xS} {p : Nat} (h : SN P T lng D A H G ms σ p) (hR : Rm P σ 60) : Rf (if σ.K (rdA P lng) = 4 then dm_X3_readPiece P (rdA P lng) σ else dm_X9_readPiece P (rdA P lng) σ) (sp_piece T lng (ms, none, p)) (fun _ s c => SX P T lng D c s ∧ FD P lng D 50 σ s) (PF P T lng D σ 50) := by
  have C := h.1
  have ci := C.ci
  have hD := h.2.2.2.2.1.1.2.1
  have hD44 := h.2.2.2.1
  cases lng with
  | true =>
    have k4 : σ.K (rdA P true) = 4 := ci_18 ci
    have cu : σ.R 302 (P.base + 6) = none := h.2.2.1
    rw [if_pos k4]
    show Rf (dm_X3_readPiece P (P.base + 6) σ) (sp_item (if true = true then sp_longHead T ms p else sp_shortHead T ms p) ms) _ _
    simp only [if_true]
    unfold dm_X3_readPiece sp_item
    simp (disch := first | assumption | omega) [ck_T, sm_s, bd_l, bd_r, lt_e, eq_self, and_self, if_true, true_and, and_true, lit_nI, nI_add, nI_mul, nI_sub, nI_clamp, nI_eq, nI_ltI, nI_leI, nN_e, nI_nN, nN_nI, bI_0, bI_1, bI_n, bool_0, bool_1, in_T, lg_cmp0, ofN_nI, ci_0 ci, ci_1 ci, ci_2 ci, ci_3 ci, ci_4 ci, ci_5 ci, ci_6 ci, ci_7 ci, ci_8 ci, ci_9 ci, ci_10 ci, ci_11 ci, ci_12 ci, ci_13 ci, ci_14 ci, ci_15 ci, ci_16 ci, ci_17 ci, ci_18 ci, ci_19 ci, ci_20 ci, ci_21 ci, ci_22 ci, cu, dm_X3_readPiece_p138]
    exact Rf.bind (cw_longHead h hR) (fun v s q z => Rf.ok rfl ⟨⟨A, H, G, z.1⟩, z.2⟩) (fun f s z => ⟨rfl, z⟩)
  | false =>
    have k4 : ¬ σ.K (rdA P false) = 4 := by
      have : σ.K (rdA P false) = 9 := ci_20 ci
      omega
    have cu : σ.R 302 (P.base + 7) = none := h.2.2.1
    rw [if_neg k4]
    show Rf (dm_X9_readPiece P (P.base + 7) σ) (sp_item (if false = true then sp_longHead T ms p else sp_shortHead T ms p) ms) _ _
    simp only [Bool.false_eq_true, if_false]
    have tt := cw_takeText C hR.mono (q := (17, [109])) (by decide)
    simp only at tt
    unfold dm_X9_readPiece sp_item sp_shortHead
    by_cases e : sp_txt T [109] p = true
    · rw [if_pos e]
      rw [if_pos e] at tt
      have C1 := C.step (txt_lt e)
      have ci1 := C1.ci
      have f1 := cst_fr P σ.sz σ
      have h1 := h.fr f1 C1
      have hR1 : Rm P (cst P σ) 60 := hR.us f1.2.2
      have fd1 : FD P false D 0 σ (cst P σ) := f1.fd false (by omega) (by omega)
      simp (disch := first | assumption | omega) [ck_T, sm_s, bd_l, bd_r, lt_e, eq_self, and_self, if_true, true_and, and_true, lit_nI, nI_add, nI_mul, nI_sub, nI_clamp, nI_eq, nI_ltI, nI_leI, nN_e, nI_nN, nN_nI, bI_0, bI_1, bI_n, bool_0, bool_1, in_T, lg_cmp0, ofN_nI, ci_0 ci, ci_1 ci, ci_2 ci, ci_3 ci, ci_4 ci, ci_5 ci, ci_6 ci, ci_7 ci, ci_8 ci, ci_9 ci, ci_10 ci, ci_11 ci, ci_12 ci, ci_13 ci, ci_14 ci, ci_15 ci, ci_16 ci, ci_17 ci, ci_18 ci, ci_19 ci, ci_20 ci, ci_21 ci, ci_22 ci, ci_0 ci1, ci_1 ci1, ci_2 ci1, ci_3 ci1, ci_4 ci1, ci_5 ci1, ci_6 ci1, ci_7 ci1, ci_8 ci1, ci_9 ci1, ci_10 ci1, ci_11 ci1, ci_12 ci1, ci_13 ci1, ci_14 ci1, ci_15 ci1, ci_16 ci1, ci_17 ci1, ci_18 ci1, ci_19 ci1, ci_20 ci1, ci_21 ci1, ci_22 ci1, cu, tt, eb_as, eb_ok]
      refine Rf.bind (cw_startModule h1 hR1.mono) ?_ ?_
      · rintro _ s ⟨m, p2⟩ ⟨hm, fd2⟩
        have fd02 : FD P false D 5 σ s := fd1.trans fd2
        obtain ⟨C2, hs2, -⟩ := hm.cp
        have ci2 := C2.ci
        simp (disch := first | assumption | omega) [ck_T, sm_s, bd_l, bd_r, lt_e, eq_self, and_self, if_true, true_and, and_true, lit_nI, nI_add, nI_mul, nI_sub, nI_clamp, nI_eq, nI_ltI, nI_leI, nN_e, nI_nN, nN_nI, bI_0, bI_1, bI_n, bool_0, bool_1, in_T, lg_cmp0, ofN_nI, ci_0 ci2, ci_1 ci2, ci_2 ci2, ci_3 ci2, ci_4 ci2, ci_5 ci2, ci_6 ci2, ci_7 ci2, ci_8 ci2, ci_9 ci2, ci_10 ci2, ci_11 ci2, ci_12 ci2, ci_13 ci2, ci_14 ci2, ci_15 ci2, ci_16 ci2, ci_17 ci2, ci_18 ci2, ci_19 ci2, ci_20 ci2, ci_21 ci2, ci_22 ci2]
        refine Rf.bind (rf_sign C2 (c := 59) (by omega) (hR.us fd02.2.2.2)) ?_ ?_
        · rintro _ s3 p3 ⟨rfl, C3⟩
          have f3 := cst_fr P s.sz s
          refine Rf.ok (v := ()) (σ' := cst P s) rfl ⟨⟨A, H, G, hm.fr f3 C3⟩, fd02.trans (f3.fd false (by omega) (by omega) (e := 0))⟩
        · intro g5 s5 hq
          exact ⟨rfl, PF.aft fd02 (hq.pf (e := 1))⟩
      · intro g5 s5 hq
        exact ⟨rfl, PF.aft fd1 hq⟩
    · rw [if_neg e]
      rw [if_neg e] at tt
      refine Rf.er (σ' := σ.skip 6) ?_ ((PE.skip C).pf (by omega) (by omega))
      simp (disch := first | assumption | omega) [ck_T, sm_s, bd_l, bd_r, lt_e, eq_self, and_self, if_true, true_and, and_true, lit_nI, nI_add, nI_mul, nI_sub, nI_clamp, nI_eq, nI_ltI, nI_leI, nN_e, nI_nN, nN_nI, bI_0, bI_1, bI_n, bool_0, bool_1, in_T, lg_cmp0, ofN_nI, ci_0 ci, ci_1 ci, ci_2 ci, ci_3 ci, ci_4 ci, ci_5 ci, ci_6 ci, ci_7 ci, ci_8 ci, ci_9 ci, ci_10 ci, ci_11 ci, ci_12 ci, ci_13 ci, ci_14 ci, ci_15 ci, ci_16 ci, ci_17 ci, ci_18 ci, ci_19 ci, ci_20 ci, ci_21 ci, ci_22 ci, cu, tt]
theorem cw_piece {P : xP} {T : xT} {lng : Bool} {D : Nat} {c : xCur} {σ : xS} (h : SX P T lng D c σ) (hk : KX T lng c) (hR : Rm P σ 60) : Rf (if σ.K (rdA P lng) = 4 then dm_X3_readPiece P (rdA P lng) σ else dm_X9_readPiece P (rdA P lng) σ) (sp_piece T lng c) (fun _ s c => SX P T lng D c s ∧ FD P lng D 50 σ s) (PF P T lng D σ 50) := by
  obtain ⟨ms, cu, p⟩ := c
  obtain ⟨A, H, G, h⟩ := h
  cases cu with
  | none => exact cw_pieceH h hR
  | some m =>
    have h : SM P T lng D A H G ms m σ p := h
    have hw : WX lng m p := hk.2.2.1
    have ci := h.cp.1.ci
    cases lng with
    | true =>
      have k4 : σ.K (rdA P true) = 4 := ci_18 ci
      rw [if_pos k4]
      exact cw_pieceL h hw hR
    | false =>
      have k4 : ¬ σ.K (rdA P false) = 4 := by
        have : σ.K (rdA P false) = 9 := ci_20 ci
        omega
      rw [if_neg k4]
      exact cw_pieceS h hw hR
