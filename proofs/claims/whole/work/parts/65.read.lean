/-! ===== the class: read ===== -/
def sp_read (T : xT) (lng : Bool) : Except Nat (List xMod) := eb (sp_text T lng 1001 ([], none, lx_pos T 0)) fun ms => if sp_whole ms = 1001 then .ok ms else .error (sp_whole ms)
/-- the class between two calls: T on the tape, ms the design -/
def CL (P : xP) (T : xT) (ms : List xMod) (σ : xS) : Prop := CI P σ ∧ TV T ∧ TP P T σ ∧ P.base + 44 ≤ σ.sz ∧ ∃ D A H G top, σ.R 1004 P.base = some D ∧ top ≤ σ.sz ∧ (top ≤ P.base + 11 ∨ P.base + 44 ≤ D) ∧ DD P σ D A H G ms top
/-- what the class leaves to others -/
def FC (P : xP) (c : Nat) (σ σ' : xS) : Prop := (∀ a, (a < P.base ∨ (P.base + 11 ≤ a ∧ a < P.base + 44)) → Sm σ σ' a) ∧ Us σ σ' c
def FO (P : xP) (D c : Nat) (σ σ' : xS) : Prop := (∀ a, a < D → (a ≤ P.base ∨ P.base + 9 ≤ a) → Sm σ σ' a) ∧ Us σ σ' c
theorem FO.trans {P : xP} {D D' c d e : Nat} {σ σ' σ'' : xS} (f : FO P D c σ σ') (g : FO P D' d σ' σ'') (hD : D ≤ D' := by omega) (he : c + d ≤ e := by omega) : FO P D e σ σ'' := ⟨fun a h1 h2 => (f.1 a h1 h2).trans (g.1 a (by omega) h2), f.2.trans g.2 he⟩
theorem Fr.fo {P : xP} {h D c e : Nat} {σ σ' : xS} (f : Fr P h c σ σ') (hD : D ≤ h := by omega) (he : c ≤ e := by omega) : FO P D e σ σ' := by
  obtain ⟨a1, a2, a3⟩ := f.2.2
  exact ⟨fun a h1 h2 => f.1 a (by omega) (by omega), by omega, by omega, by omega⟩
theorem FD.fo {P : xP} {lng : Bool} {D c e : Nat} {σ σ' : xS} (f : FD P lng D c σ σ') (he : c ≤ e := by omega) : FO P D e σ σ' := by
  obtain ⟨a1, a2, a3⟩ := f.2.2.2
  have rn := rd_ne P lng
  exact ⟨fun a h1 h2 => f.1 a h1 (by omega) (by omega), by omega, by omega, by omega⟩
theorem FS.fo {P : xP} {D : Nat} {σ σ' : xS} (f : FS P σ σ') : FO P D 0 σ σ' := by
  obtain ⟨a1, a2, a3, a4, a5, a6, a7, a8, a9, a10⟩ := f
  exact ⟨fun a h1 h2 => ⟨by rw [a1], by rw [a2], fun f => a8 f a (by omega), fun f => by rw [a3], fun f => by rw [a4], fun i => a9 a i (by omega) (by omega), fun i => a10 a i (by omega), fun i => by rw [a5]⟩, by omega, by omega, by omega⟩
theorem FO.fc {P : xP} {D c : Nat} {σ σ' : xS} (f : FO P D c σ σ') (hD : P.base + 44 ≤ D) : FC P c σ σ' := ⟨fun a ha => f.1 a (by omega) (by omega), f.2⟩
theorem DD.sm {P : xP} {σ σ' : xS} {D : Nat} {A H : Nat → Nat} {G : Nat → List Nat → Nat} {ms : List xMod} {top : Nat} (h : DD P σ D A H G ms top) (C : CI P σ') (s : Sms σ σ' D top) : DD P σ' D A H G ms top := by
  obtain ⟨⟨lng, h1, h2, h3, h4⟩, h5, h6⟩ := h
  have d2 := h2.1.2.1
  refine ⟨⟨lng, C, h2.sm s (Nat.le_refl _), ((s D (by omega) (by omega)).2.2.1 1).trans h3, h4⟩, h5, fun i hi hs => ?_⟩
  obtain ⟨x, hx⟩ : ∃ x, ms[i]? = some x := ⟨_, List.getElem?_eq_getElem hi⟩
  obtain ⟨q1, q2, q3, q4, q5, q6, q7⟩ := h2.2 i x hx
  have := q6.1.1
  exact ((s (A i) (by omega) (by omega)).2.2.1 512).trans (h6 i hi hs)
theorem cw_initD {P : xP} {σ : xS} (hs : P.base + 44 ≤ σ.sz) (hR : Rm P σ 2) : ∃ σ', dm_X0_init P σ.sz (σ.newO 1 2) = some (.inl (), σ') ∧ NewD P σ.sz σ' ∧ Fr P σ.sz 2 σ σ' ∧ σ'.sz = σ.sz + 2 := by
  obtain ⟨r1, r2⟩ := hR
  refine ⟨(((σ.newO 1 2).newA 27 8).setR 0 σ.sz (some (σ.sz + 1))).setI 1 σ.sz (nI 0), ?_, ?_, ?_, rfl⟩
  · unfold dm_X0_init
    have n2 : ¬ nI 8 < nI 0 := by decide
    simp (disch := first | assumption | omega) [x_chk, x_some, x_bind, x_let, lit_nI, nI_add, nI_mul, nI_sub, nI_clamp, nI_eq, nI_ltI, nI_leI, nN_e, nI_nN, nN_nI, bI_0, bI_1, bI_n, bool_0, bool_1, in_T, lg_cmp0, ofN_nI, q_K_setI, q_I_setI, q_J_setI, q_R_setI, q_L_setI, q_AI_setI, q_AJ_setI, q_AR_setI, q_sz_setI, q_su_setI, q_K_setJ, q_I_setJ, q_J_setJ, q_R_setJ, q_L_setJ, q_AI_setJ, q_AJ_setJ, q_AR_setJ, q_sz_setJ, q_su_setJ, q_K_setR, q_I_setR, q_J_setR, q_R_setR, q_L_setR, q_AI_setR, q_AJ_setR, q_AR_setR, q_sz_setR, q_su_setR, q_K_setAI, q_I_setAI, q_J_setAI, q_R_setAI, q_L_setAI, q_AI_setAI, q_AJ_setAI, q_AR_setAI, q_sz_setAI, q_su_setAI, q_K_setAJ, q_I_setAJ, q_J_setAJ, q_R_setAJ, q_L_setAJ, q_AI_setAJ, q_AJ_setAJ, q_AR_setAJ, q_sz_setAJ, q_su_setAJ, q_K_setAR, q_I_setAR, q_J_setAR, q_R_setAR, q_L_setAR, q_AI_setAR, q_AJ_setAR, q_AR_setAR, q_sz_setAR, q_su_setAR, q_K_newO, q_I_newO, q_J_newO, q_R_newO, q_L_newO, q_AI_newO, q_AJ_newO, q_AR_newO, q_sz_newO, q_su_newO, q_K_newA, q_I_newA, q_J_newA, q_R_newA, q_L_newA, q_AI_newA, q_AJ_newA, q_AR_newA, q_sz_newA, q_su_newA, q_K_skip, q_I_skip, q_J_skip, q_R_skip, q_L_skip, q_AI_skip, q_AJ_skip, q_AR_skip, q_sz_skip, q_su_skip, q_up2, q_up, dle_T, n2]
  · refine ⟨hs, by show σ.sz + 2 ≤ σ.sz + 2; omega, ?_, ?_, ?_, ?_, ?_⟩ <;> simp [q_K_setI, q_I_setI, q_J_setI, q_R_setI, q_L_setI, q_AI_setI, q_AJ_setI, q_AR_setI, q_sz_setI, q_su_setI, q_K_setJ, q_I_setJ, q_J_setJ, q_R_setJ, q_L_setJ, q_AI_setJ, q_AJ_setJ, q_AR_setJ, q_sz_setJ, q_su_setJ, q_K_setR, q_I_setR, q_J_setR, q_R_setR, q_L_setR, q_AI_setR, q_AJ_setR, q_AR_setR, q_sz_setR, q_su_setR, q_K_setAI, q_I_setAI, q_J_setAI, q_R_setAI, q_L_setAI, q_AI_setAI, q_AJ_setAI, q_AR_setAI, q_sz_setAI, q_su_setAI, q_K_setAJ, q_I_setAJ, q_J_setAJ, q_R_setAJ, q_L_setAJ, q_AI_setAJ, q_AJ_setAJ, q_AR_setAJ, q_sz_setAJ, q_su_setAJ, q_K_setAR, q_I_setAR, q_J_setAR, q_R_setAR, q_L_setAR, q_AI_setAR, q_AJ_setAR, q_AR_setAR, q_sz_setAR, q_su_setAR, q_K_newO, q_I_newO, q_J_newO, q_R_newO, q_L_newO, q_AI_newO, q_AJ_newO, q_AR_newO, q_sz_newO, q_su_newO, q_K_newA, q_I_newA, q_J_newA, q_R_newA, q_L_newA, q_AI_newA, q_AJ_newA, q_AR_newA, q_sz_newA, q_su_newA, q_K_skip, q_I_skip, q_J_skip, q_R_skip, q_L_skip, q_AI_skip, q_AJ_skip, q_AR_skip, q_sz_skip, q_su_skip, q_up2, q_up]
  · have f0 : Fr P σ.sz 2 σ ((σ.newO 1 2).newA 27 8) := (Fr.newO P (Nat.le_refl _) (by omega) (by omega)).trans (Fr.newA P (h := σ.sz) (by show σ.sz ≤ σ.sz + 1; omega) (by show P.base + 1 < σ.sz + 1; omega) (by omega))
    exact (f0.thenR (Nat.le_refl _) (by omega)).thenI (Nat.le_refl _) (by omega)
theorem TP.fr {P : xP} {T : xT} {σ σ' : xS} {h c : Nat} (t : TP P T σ) (f : Fr P h c σ σ') (hh : P.base + 9 ≤ h) : TP P T σ' := ⟨(f.2.1.2.1 901 (by omega)).trans t.1, fun i hi => ((f.1 (P.base + 2) (by omega) (by omega)).2.2.2.2.2.1 i).trans (t.2 i hi)⟩
theorem CI.set4 {P : xP} {σ : xS} (C : CI P σ) {a : Nat} {v : Option Nat} : CI P (σ.setR 1004 a v) := ⟨ci_0 C, ci_1 C, ci_2 C, ci_3 C, ci_4 C, ci_5 C, ci_6 C, ci_7 C, ci_8 C, ci_9 C, ci_10 C, ci_11 C, ci_12 C, ci_13 C, ci_14 C, ci_15 C, ci_16 C, ci_17 C, ci_18 C, ci_19 C, ci_20 C, ci_21 C, ci_22 C, ci_s C⟩
theorem TV_0 (f : Nat → Nat) : TV (f, 0) := ⟨Nat.zero_le _, fun i hi => absurd hi (Nat.not_lt_zero _)⟩
def IOE : String := "java/lang/IndexOutOfBoundsException"
/-- clear, and what becomes of the design -/
theorem cw_readEnd {P : xP} {T : xT} {ms : List xMod} {σ s : xS} {D c v : Nat} (h : CL P T ms σ) (hD : D = σ.sz) (f : FO P D c σ s) (C : CI P s) : (v < 1001 → ∃ σ', CL P (T.1, 0) ms σ' ∧ FC P c σ σ' ∧ (x_bind (dm_X10_clear P (P.base + 1) s) (fun _ σ_15 => if nI v = 1001 then x_chk ((σ_15.K P.base = 11) ∧ P.base ≤ P.base) <| x_let (σ_15.setR 1004 P.base (some D)) fun σ_20 => x_chk (σ_20.K P.base = 11) <| x_some (σ_20.R 1004 P.base) fun a_22 => x_chk (σ_20.K a_22 = 1) <| some (.inl (σ_20.I 1 a_22), σ_20) else some (.inl ((-1) - nI v), σ_15)) (fun E_24 σ_15 => some (.inr E_24, σ_15)) : xO Int32) = some (.inl (nN - nI v), σ')) ∧ (v = 1001 → ∀ ms' A H G top, D + 2 ≤ top → top ≤ s.sz → DD P s D A H G ms' top → ∃ σ', CL P (T.1, 0) ms' σ' ∧ FC P c σ σ' ∧ (x_bind (dm_X10_clear P (P.base + 1) s) (fun _ σ_15 => if nI v = 1001 then x_chk ((σ_15.K P.base = 11) ∧ P.base ≤ P.base) <| x_let (σ_15.setR 1004 P.base (some D)) fun σ_20 => x_chk (σ_20.K P.base = 11) <| x_some (σ_20.R 1004 P.base) fun a_22 => x_chk (σ_20.K a_22 = 1) <| some (.inl (σ_20.I 1 a_22), σ_20) else some (.inl ((-1) - nI v), σ_15)) (fun E_24 σ_15 => some (.inr E_24, σ_15)) : xO Int32) = some (.inl (nI ms'.length), σ')) := by
  obtain ⟨c1, c2, c3, c4, D0, A0, H0, G0, top0, g1, g2, g3, g4⟩ := h
  have fo1 : FO P D 0 s (s.setI 901 (P.base + 1) (nI 0)) := ⟨fun a _ ha => ⟨rfl, rfl, fun f => x_up2_a (by omega), fun _ => rfl, fun _ => rfl, fun _ => rfl, fun _ => rfl, fun _ => rfl⟩, Us.refl _⟩
  have fo := f.trans fo1 (Nat.le_refl _) (e := c)
  have tp : TP P (T.1, 0) (s.setI 901 (P.base + 1) (nI 0)) := ⟨by simp [q_K_setI, q_I_setI, q_J_setI, q_R_setI, q_L_setI, q_AI_setI, q_AJ_setI, q_AR_setI, q_sz_setI, q_su_setI, q_K_setJ, q_I_setJ, q_J_setJ, q_R_setJ, q_L_setJ, q_AI_setJ, q_AJ_setJ, q_AR_setJ, q_sz_setJ, q_su_setJ, q_K_setR, q_I_setR, q_J_setR, q_R_setR, q_L_setR, q_AI_setR, q_AJ_setR, q_AR_setR, q_sz_setR, q_su_setR, q_K_setAI, q_I_setAI, q_J_setAI, q_R_setAI, q_L_setAI, q_AI_setAI, q_AJ_setAI, q_AR_setAI, q_sz_setAI, q_su_setAI, q_K_setAJ, q_I_setAJ, q_J_setAJ, q_R_setAJ, q_L_setAJ, q_AI_setAJ, q_AJ_setAJ, q_AR_setAJ, q_sz_setAJ, q_su_setAJ, q_K_setAR, q_I_setAR, q_J_setAR, q_R_setAR, q_L_setAR, q_AI_setAR, q_AJ_setAR, q_AR_setAR, q_sz_setAR, q_su_setAR, q_K_newO, q_I_newO, q_J_newO, q_R_newO, q_L_newO, q_AI_newO, q_AJ_newO, q_AR_newO, q_sz_newO, q_su_newO, q_K_newA, q_I_newA, q_J_newA, q_R_newA, q_L_newA, q_AI_newA, q_AJ_newA, q_AR_newA, q_sz_newA, q_su_newA, q_K_skip, q_I_skip, q_J_skip, q_R_skip, q_L_skip, q_AI_skip, q_AJ_skip, q_AR_skip, q_sz_skip, q_su_skip, q_up2, q_up], fun i hi => absurd hi (Nat.not_lt_zero _)⟩
  have k10 := ci_5 C
  have us := f.2.1
  refine ⟨fun hlt => ?_, fun he ms' A H G top d1 d2 dd => ?_⟩
  · refine ⟨s.setI 901 (P.base + 1) (nI 0), ⟨C.setI, TV_0 _, tp, ?_, D0, A0, H0, G0, top0, ?_, ?_, g3, ?_⟩, fo.fc (by omega), ?_⟩
    · show P.base + 44 ≤ s.sz; omega
    · exact ((fo.1 P.base (by omega) (by omega)).2.2.2.2.1 1004).trans g1
    · show top0 ≤ s.sz; omega
    · obtain ⟨lng, k1, k2, -⟩ := g4.1
      have q := k2.1.1
      exact g4.sm C.setI (fun b h1 h2 => fo.1 b (by omega) (by omega))
    · have n1 : ¬ v = 1001 := by omega
      unfold dm_X10_clear
      simp (disch := first | assumption | omega) [ck_T, sm_s, bd_l, bd_r, lt_e, eq_self, and_self, if_true, true_and, and_true, lit_nI, nI_add, nI_mul, nI_sub, nI_clamp, nI_eq, nI_ltI, nI_leI, nN_e, nI_nN, nN_nI, bI_0, bI_1, bI_n, bool_0, bool_1, in_T, lg_cmp0, ofN_nI, k10, dle_T, n1]
  · have fo2 : FC P c σ ((s.setI 901 (P.base + 1) (nI 0)).setR 1004 P.base (some D)) := by
      have q := fo.fc (by omega)
      refine ⟨fun a ha => (q.1 a ha).trans ⟨rfl, rfl, fun _ => rfl, fun _ => rfl, fun f => x_up2_a (by omega), fun _ => rfl, fun _ => rfl, fun _ => rfl⟩, q.2⟩
    refine ⟨(s.setI 901 (P.base + 1) (nI 0)).setR 1004 P.base (some D), ⟨C.setI.set4, TV_0 _, tp, ?_, D, A, H, G, top, by simp [q_K_setI, q_I_setI, q_J_setI, q_R_setI, q_L_setI, q_AI_setI, q_AJ_setI, q_AR_setI, q_sz_setI, q_su_setI, q_K_setJ, q_I_setJ, q_J_setJ, q_R_setJ, q_L_setJ, q_AI_setJ, q_AJ_setJ, q_AR_setJ, q_sz_setJ, q_su_setJ, q_K_setR, q_I_setR, q_J_setR, q_R_setR, q_L_setR, q_AI_setR, q_AJ_setR, q_AR_setR, q_sz_setR, q_su_setR, q_K_setAI, q_I_setAI, q_J_setAI, q_R_setAI, q_L_setAI, q_AI_setAI, q_AJ_setAI, q_AR_setAI, q_sz_setAI, q_su_setAI, q_K_setAJ, q_I_setAJ, q_J_setAJ, q_R_setAJ, q_L_setAJ, q_AI_setAJ, q_AJ_setAJ, q_AR_setAJ, q_sz_setAJ, q_su_setAJ, q_K_setAR, q_I_setAR, q_J_setAR, q_R_setAR, q_L_setAR, q_AI_setAR, q_AJ_setAR, q_AR_setAR, q_sz_setAR, q_su_setAR, q_K_newO, q_I_newO, q_J_newO, q_R_newO, q_L_newO, q_AI_newO, q_AJ_newO, q_AR_newO, q_sz_newO, q_su_newO, q_K_newA, q_I_newA, q_J_newA, q_R_newA, q_L_newA, q_AI_newA, q_AJ_newA, q_AR_newA, q_sz_newA, q_su_newA, q_K_skip, q_I_skip, q_J_skip, q_R_skip, q_L_skip, q_AI_skip, q_AJ_skip, q_AR_skip, q_sz_skip, q_su_skip, q_up2, q_up], d2, Or.inr (by omega), ?_⟩, fo2, ?_⟩
    · show P.base + 44 ≤ s.sz; omega
    · refine dd.sm C.setI.set4 (fun b h1 h2 => ⟨rfl, rfl, fun f => ?_, fun _ => rfl, fun f => ?_, fun _ => rfl, fun _ => rfl, fun _ => rfl⟩)
      · exact x_up2_a (by omega)
      · exact x_up2_a (by omega)
    · obtain ⟨lng, k1, k2, k3, -⟩ := dd.1
      have kD := k2.1.2.2.1
      have kB := ci_0 C
      have n1 : ¬ D = P.base + 1 := by omega
      unfold dm_X10_clear
      simp (disch := first | assumption | omega) [ck_T, sm_s, bd_l, bd_r, lt_e, eq_self, and_self, if_true, true_and, and_true, lit_nI, nI_add, nI_mul, nI_sub, nI_clamp, nI_eq, nI_ltI, nI_leI, nN_e, nI_nN, nN_nI, bI_0, bI_1, bI_n, bool_0, bool_1, in_T, lg_cmp0, ofN_nI, q_K_setI, q_I_setI, q_J_setI, q_R_setI, q_L_setI, q_AI_setI, q_AJ_setI, q_AR_setI, q_sz_setI, q_su_setI, q_K_setJ, q_I_setJ, q_J_setJ, q_R_setJ, q_L_setJ, q_AI_setJ, q_AJ_setJ, q_AR_setJ, q_sz_setJ, q_su_setJ, q_K_setR, q_I_setR, q_J_setR, q_R_setR, q_L_setR, q_AI_setR, q_AJ_setR, q_AR_setR, q_sz_setR, q_su_setR, q_K_setAI, q_I_setAI, q_J_setAI, q_R_setAI, q_L_setAI, q_AI_setAI, q_AJ_setAI, q_AR_setAI, q_sz_setAI, q_su_setAI, q_K_setAJ, q_I_setAJ, q_J_setAJ, q_R_setAJ, q_L_setAJ, q_AI_setAJ, q_AJ_setAJ, q_AR_setAJ, q_sz_setAJ, q_su_setAJ, q_K_setAR, q_I_setAR, q_J_setAR, q_R_setAR, q_L_setAR, q_AI_setAR, q_AJ_setAR, q_AR_setAR, q_sz_setAR, q_su_setAR, q_K_newO, q_I_newO, q_J_newO, q_R_newO, q_L_newO, q_AI_newO, q_AJ_newO, q_AR_newO, q_sz_newO, q_su_newO, q_K_newA, q_I_newA, q_J_newA, q_R_newA, q_L_newA, q_AI_newA, q_AJ_newA, q_AR_newA, q_sz_newA, q_su_newA, q_K_skip, q_I_skip, q_J_skip, q_R_skip, q_L_skip, q_AI_skip, q_AJ_skip, q_AR_skip, q_sz_skip, q_su_skip, q_up2, q_up, k10, dle_T, he, kB, kD, k3, n1]
theorem cw_read {P : xP} {T : xT} {ms : List xMod} {σ : xS} (h : CL P T ms σ) (lng : Bool) (hR : Rm P σ (70 + 50 * T.2)) : ∃ σ' v, dm_X11_read P P.base (nI (if lng = true then 0 else 1)) σ = some (.inl v, σ') ∧ FC P (70 + 50 * T.2) σ σ' ∧ match sp_read T lng with
    | .ok ms' => v = nI ms'.length ∧ CL P (T.1, 0) ms' σ' ∧ ms'.length ≤ 8
    | .error f => v = nN - nI f ∧ CL P (T.1, 0) ms σ' ∧ f ≤ 1000 := by
  obtain ⟨C, hT, ht, hs, hd⟩ := id h
  have T1 := hT.1
  obtain ⟨s1, a1, a2, a3, a4⟩ := cw_initD hs (hR.mono (by omega))
  have C1 := C.fr (by omega) a3
  have t1 := ht.fr a3 (by omega)
  obtain ⟨s2, b1, b2, b3⟩ := cw_scan C1 hT t1 (by omega)
  have C2 := b2.ci
  have nd : NewD P σ.sz s2 := by
    obtain ⟨n1, n2, n3, n4, n5, n6, n7⟩ := a2
    obtain ⟨e1, e2, e3, e4, e5, e6, e7, e8, e9, e10⟩ := b3
    exact ⟨n1, by rw [e6]; exact n2, by rw [e1]; exact n3, by rw [e4]; exact n4, by rw [e1]; exact n5, by rw [e2]; exact n6, (e8 1 _ (by omega)).trans n7⟩
  have es2 : s2.sz = σ.sz + 2 := b3.2.2.2.2.2.1.trans a4
  have f12 : FO P σ.sz 2 σ s2 := (a3.fo (Nat.le_refl _) (e := 2)).trans (FS.fo b3 (D := σ.sz)) (Nat.le_refl _)
  obtain ⟨s3, d1, d2⟩ := cw_faultOf (lng := lng) b2 nd (hR.us f12.2 (by omega))
  have f13 : FO P σ.sz (62 + 50 * T.2) σ s3 := f12.trans (d1.fo (e := 60 + 50 * T.2)) (Nat.le_refl _)
  -- read is reading, clear, and the rest
  have rn := rd_ne P lng
  have rk2 := rd_K C2 lng
  have rc := of_eq_true (Rm.chk hR 1 2 (by omega) (by omega))
  have kB := ci_0 C
  have kB1 := ci_0 C1
  have kB2 := ci_0 C2
  have go : dm_X11_read P P.base (nI (if lng = true then 0 else 1)) σ = x_bind (dm_X8_faultOf P (rdA P lng) (some σ.sz) s2) (fun v_8 σ_9 =>
      x_chk (σ_9.K P.base = 11) <|
      x_some (σ_9.R 1000 P.base) fun a_13 =>
      x_chk (σ_9.K a_13 = 10) <|
      x_bind (dm_X10_clear P a_13 σ_9) (fun _ σ_15 =>
        if v_8 = 1001 then
          x_chk ((σ_15.K P.base = 11) ∧ P.base ≤ P.base) <|
          x_let (σ_15.setR 1004 P.base (some σ.sz)) fun σ_20 =>
          x_chk (σ_20.K P.base = 11) <|
          x_some (σ_20.R 1004 P.base) fun a_22 =>
          x_chk (σ_20.K a_22 = 1) <|
          some (.inl (σ_20.I 1 a_22), σ_20)
        else
          some (.inl ((-1) - v_8), σ_15)
        ) (fun E_24 σ_15 =>
        some (.inr E_24, σ_15)
        )
      ) (fun E_25 σ_9 =>
      some (.inr E_25, σ_9)
      ) := by
    unfold dm_X11_read dm_X11_read_p9 dm_X11_read_p14 dm_X11_refuseUnless dm_X11_read_p40
    cases lng with
    | true =>
      have r1 : rdA P true = P.base + 6 := rfl
      rw [r1] at rk2 ⊢
      simp (disch := first | assumption | omega) [ck_T, sm_s, bd_l, bd_r, lt_e, eq_self, and_self, if_true, true_and, and_true, lit_nI, nI_add, nI_mul, nI_sub, nI_clamp, nI_eq, nI_ltI, nI_leI, nN_e, nI_nN, nN_nI, bI_0, bI_1, bI_n, bool_0, bool_1, in_T, lg_cmp0, ofN_nI, rc, a1, kB1, ci_2 C1, ci_1 C1, ci_5 C1, b1]
      simp only [rk2, ck_T]
    | false =>
      have r1 : rdA P false = P.base + 7 := rfl
      rw [r1] at rk2 ⊢
      simp (disch := first | assumption | omega) [ck_T, sm_s, bd_l, bd_r, lt_e, eq_self, and_self, if_true, true_and, and_true, lit_nI, nI_add, nI_mul, nI_sub, nI_clamp, nI_eq, nI_ltI, nI_leI, nN_e, nI_nN, nN_nI, bI_0, bI_1, bI_n, bool_0, bool_1, in_T, lg_cmp0, ofN_nI, rc, a1, kB1, ci_3 C1, ci_1 C1, ci_5 C1, b1]
      simp only [rk2, ck_T]
  unfold sp_read
  cases e : sp_text T lng 1001 ([], none, lx_pos T 0) with
  | error f =>
    rw [e] at d2
    obtain ⟨q1, q2⟩ := d2
    have C3 := q2.ci
    have fl : f ≤ T.2 := q2.get.choose_spec.choose_spec.2.2.2.2.1
    obtain ⟨σ', u1, u2, u3⟩ := (cw_readEnd (v := f) h rfl f13 C3).1 (by omega)
    refine ⟨σ', nN - nI f, ?_, ⟨u2.1, Us.trans u2.2 (Us.refl σ')⟩, rfl, u1, by omega⟩
    rw [go, q1, bd_l]
    simp only [ci_0 C3, ci_1 C3, ci_5 C3, ck_T, sm_s]
    exact u3
  | ok ms' =>
    rw [e] at d2
    obtain ⟨q1, A, H, G, q2⟩ := d2
    have hx := KX.text hT 1001 ([], none, lx_pos T 0) (KX.start T lng (pos_le T 0)) (by simp only; omega) ms' e
    obtain ⟨s4, w1, w2, w3, w4, w5⟩ := cw_whole q2 hx (hR.us f13.2 (by omega))
    have C4 : CI P s4 := q2.1.ci.fr (by omega) w2
    have f14 : FO P σ.sz (63 + 50 * T.2) σ s4 := f13.trans (w2.fo (Nat.le_refl _) (e := 1)) (Nat.le_refl _)
    have wle := whole_le hx (by omega)
    have kD := q2.2.2.2.2.1.1.2.2.1
    have go2 : dm_X8_faultOf P (rdA P lng) (some σ.sz) s2 = some (.inl (nI (sp_whole ms')), s4) := by
      rw [q1]
      unfold dm_X8_faultOf_p46
      simp only [sm_s, kD, ck_T, w1, bd_l]
    have hD3 := q2.2.2.2.2.1.1.2.1
    have us4 := w2.2.2.1
    rw [eb_ok]
    by_cases e2 : sp_whole ms' = 1001
    · rw [if_pos e2]
      obtain ⟨σ', u1, u2, u3⟩ := (cw_readEnd (v := 1001) h rfl f14 C4).2 rfl ms' A H G s3.sz (by omega) (by omega) (w5 e2)
      refine ⟨σ', nI ms'.length, ?_, ⟨u2.1, Us.trans u2.2 (Us.refl σ')⟩, rfl, u1, hx.1⟩
      rw [go, go2, bd_l, e2]
      simp only [ci_0 C4, ci_1 C4, ci_5 C4, ck_T, sm_s]
      exact u3
    · rw [if_neg e2]
      obtain ⟨σ', u1, u2, u3⟩ := (cw_readEnd (v := sp_whole ms') h rfl f14 C4).1 (by omega)
      refine ⟨σ', nN - nI (sp_whole ms'), ?_, ⟨u2.1, Us.trans u2.2 (Us.refl σ')⟩, rfl, u1, by omega⟩
      rw [go, go2, bd_l]
      simp only [ci_0 C4, ci_1 C4, ci_5 C4, ck_T, sm_s]
      exact u3
