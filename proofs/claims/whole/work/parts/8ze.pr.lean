/-! ===== the reference: printing ===== -/
def rst (w : Nat) (l : List Nat) : Int32 × Int32 := l.foldl (fun s c => (s.1 + nI 1, if s.1 = nI w then nI c else s.2)) (nI 0, nN)
theorem rst_snoc (w : Nat) (l : List Nat) (c : Nat) : rst w (l ++ [c]) = ((rst w l).1 + nI 1, if (rst w l).1 = nI w then nI c else (rst w l).2) := by unfold rst; rw [List.foldl_append]; rfl
/-- the state when l has been printed -/
def pR (P : xP) (σ0 : xS) (w : Nat) (l : List Nat) : xS := ((σ0.setI 1143 (P.base + 11) (nI w)).setI 1144 (P.base + 11) (rst w l).2).setI 1142 (P.base + 11) (rst w l).1
theorem pR_K (P : xP) (σ0 : xS) (w : Nat) (l : List Nat) : (pR P σ0 w l).K = σ0.K := by unfold pR; simp only [q_K_setI, q_I_setI, q_J_setI, q_R_setI, q_L_setI, q_AI_setI, q_AJ_setI, q_AR_setI, q_sz_setI, q_su_setI, q_K_setJ, q_I_setJ, q_J_setJ, q_R_setJ, q_L_setJ, q_AI_setJ, q_AJ_setJ, q_AR_setJ, q_sz_setJ, q_su_setJ, q_K_setR, q_I_setR, q_J_setR, q_R_setR, q_L_setR, q_AI_setR, q_AJ_setR, q_AR_setR, q_sz_setR, q_su_setR, q_K_setAI, q_I_setAI, q_J_setAI, q_R_setAI, q_L_setAI, q_AI_setAI, q_AJ_setAI, q_AR_setAI, q_sz_setAI, q_su_setAI, q_K_setAJ, q_I_setAJ, q_J_setAJ, q_R_setAJ, q_L_setAJ, q_AI_setAJ, q_AJ_setAJ, q_AR_setAJ, q_sz_setAJ, q_su_setAJ, q_K_setAR, q_I_setAR, q_J_setAR, q_R_setAR, q_L_setAR, q_AI_setAR, q_AJ_setAR, q_AR_setAR, q_sz_setAR, q_su_setAR, q_K_newO, q_I_newO, q_J_newO, q_R_newO, q_L_newO, q_AI_newO, q_AJ_newO, q_AR_newO, q_sz_newO, q_su_newO, q_K_newA, q_I_newA, q_J_newA, q_R_newA, q_L_newA, q_AI_newA, q_AJ_newA, q_AR_newA, q_sz_newA, q_su_newA, q_K_skip, q_I_skip, q_J_skip, q_R_skip, q_L_skip, q_AI_skip, q_AJ_skip, q_AR_skip, q_sz_skip, q_su_skip]
theorem pR_R (P : xP) (σ0 : xS) (w : Nat) (l : List Nat) : (pR P σ0 w l).R = σ0.R := by unfold pR; simp only [q_K_setI, q_I_setI, q_J_setI, q_R_setI, q_L_setI, q_AI_setI, q_AJ_setI, q_AR_setI, q_sz_setI, q_su_setI, q_K_setJ, q_I_setJ, q_J_setJ, q_R_setJ, q_L_setJ, q_AI_setJ, q_AJ_setJ, q_AR_setJ, q_sz_setJ, q_su_setJ, q_K_setR, q_I_setR, q_J_setR, q_R_setR, q_L_setR, q_AI_setR, q_AJ_setR, q_AR_setR, q_sz_setR, q_su_setR, q_K_setAI, q_I_setAI, q_J_setAI, q_R_setAI, q_L_setAI, q_AI_setAI, q_AJ_setAI, q_AR_setAI, q_sz_setAI, q_su_setAI, q_K_setAJ, q_I_setAJ, q_J_setAJ, q_R_setAJ, q_L_setAJ, q_AI_setAJ, q_AJ_setAJ, q_AR_setAJ, q_sz_setAJ, q_su_setAJ, q_K_setAR, q_I_setAR, q_J_setAR, q_R_setAR, q_L_setAR, q_AI_setAR, q_AJ_setAR, q_AR_setAR, q_sz_setAR, q_su_setAR, q_K_newO, q_I_newO, q_J_newO, q_R_newO, q_L_newO, q_AI_newO, q_AJ_newO, q_AR_newO, q_sz_newO, q_su_newO, q_K_newA, q_I_newA, q_J_newA, q_R_newA, q_L_newA, q_AI_newA, q_AJ_newA, q_AR_newA, q_sz_newA, q_su_newA, q_K_skip, q_I_skip, q_J_skip, q_R_skip, q_L_skip, q_AI_skip, q_AJ_skip, q_AR_skip, q_sz_skip, q_su_skip]
theorem pR_L (P : xP) (σ0 : xS) (w : Nat) (l : List Nat) : (pR P σ0 w l).L = σ0.L := by unfold pR; simp only [q_K_setI, q_I_setI, q_J_setI, q_R_setI, q_L_setI, q_AI_setI, q_AJ_setI, q_AR_setI, q_sz_setI, q_su_setI, q_K_setJ, q_I_setJ, q_J_setJ, q_R_setJ, q_L_setJ, q_AI_setJ, q_AJ_setJ, q_AR_setJ, q_sz_setJ, q_su_setJ, q_K_setR, q_I_setR, q_J_setR, q_R_setR, q_L_setR, q_AI_setR, q_AJ_setR, q_AR_setR, q_sz_setR, q_su_setR, q_K_setAI, q_I_setAI, q_J_setAI, q_R_setAI, q_L_setAI, q_AI_setAI, q_AJ_setAI, q_AR_setAI, q_sz_setAI, q_su_setAI, q_K_setAJ, q_I_setAJ, q_J_setAJ, q_R_setAJ, q_L_setAJ, q_AI_setAJ, q_AJ_setAJ, q_AR_setAJ, q_sz_setAJ, q_su_setAJ, q_K_setAR, q_I_setAR, q_J_setAR, q_R_setAR, q_L_setAR, q_AI_setAR, q_AJ_setAR, q_AR_setAR, q_sz_setAR, q_su_setAR, q_K_newO, q_I_newO, q_J_newO, q_R_newO, q_L_newO, q_AI_newO, q_AJ_newO, q_AR_newO, q_sz_newO, q_su_newO, q_K_newA, q_I_newA, q_J_newA, q_R_newA, q_L_newA, q_AI_newA, q_AJ_newA, q_AR_newA, q_sz_newA, q_su_newA, q_K_skip, q_I_skip, q_J_skip, q_R_skip, q_L_skip, q_AI_skip, q_AJ_skip, q_AR_skip, q_sz_skip, q_su_skip]
theorem pR_AI (P : xP) (σ0 : xS) (w : Nat) (l : List Nat) : (pR P σ0 w l).AI = σ0.AI := by unfold pR; simp only [q_K_setI, q_I_setI, q_J_setI, q_R_setI, q_L_setI, q_AI_setI, q_AJ_setI, q_AR_setI, q_sz_setI, q_su_setI, q_K_setJ, q_I_setJ, q_J_setJ, q_R_setJ, q_L_setJ, q_AI_setJ, q_AJ_setJ, q_AR_setJ, q_sz_setJ, q_su_setJ, q_K_setR, q_I_setR, q_J_setR, q_R_setR, q_L_setR, q_AI_setR, q_AJ_setR, q_AR_setR, q_sz_setR, q_su_setR, q_K_setAI, q_I_setAI, q_J_setAI, q_R_setAI, q_L_setAI, q_AI_setAI, q_AJ_setAI, q_AR_setAI, q_sz_setAI, q_su_setAI, q_K_setAJ, q_I_setAJ, q_J_setAJ, q_R_setAJ, q_L_setAJ, q_AI_setAJ, q_AJ_setAJ, q_AR_setAJ, q_sz_setAJ, q_su_setAJ, q_K_setAR, q_I_setAR, q_J_setAR, q_R_setAR, q_L_setAR, q_AI_setAR, q_AJ_setAR, q_AR_setAR, q_sz_setAR, q_su_setAR, q_K_newO, q_I_newO, q_J_newO, q_R_newO, q_L_newO, q_AI_newO, q_AJ_newO, q_AR_newO, q_sz_newO, q_su_newO, q_K_newA, q_I_newA, q_J_newA, q_R_newA, q_L_newA, q_AI_newA, q_AJ_newA, q_AR_newA, q_sz_newA, q_su_newA, q_K_skip, q_I_skip, q_J_skip, q_R_skip, q_L_skip, q_AI_skip, q_AJ_skip, q_AR_skip, q_sz_skip, q_su_skip]
theorem pR_I (P : xP) (σ0 : xS) (w : Nat) (l : List Nat) {f a : Nat} (h0 : f ≠ 1142) (h1 : f ≠ 1143) (h2 : f ≠ 1144) : (pR P σ0 w l).I f a = σ0.I f a := by unfold pR; simp [q_K_setI, q_I_setI, q_J_setI, q_R_setI, q_L_setI, q_AI_setI, q_AJ_setI, q_AR_setI, q_sz_setI, q_su_setI, q_K_setJ, q_I_setJ, q_J_setJ, q_R_setJ, q_L_setJ, q_AI_setJ, q_AJ_setJ, q_AR_setJ, q_sz_setJ, q_su_setJ, q_K_setR, q_I_setR, q_J_setR, q_R_setR, q_L_setR, q_AI_setR, q_AJ_setR, q_AR_setR, q_sz_setR, q_su_setR, q_K_setAI, q_I_setAI, q_J_setAI, q_R_setAI, q_L_setAI, q_AI_setAI, q_AJ_setAI, q_AR_setAI, q_sz_setAI, q_su_setAI, q_K_setAJ, q_I_setAJ, q_J_setAJ, q_R_setAJ, q_L_setAJ, q_AI_setAJ, q_AJ_setAJ, q_AR_setAJ, q_sz_setAJ, q_su_setAJ, q_K_setAR, q_I_setAR, q_J_setAR, q_R_setAR, q_L_setAR, q_AI_setAR, q_AJ_setAR, q_AR_setAR, q_sz_setAR, q_su_setAR, q_K_newO, q_I_newO, q_J_newO, q_R_newO, q_L_newO, q_AI_newO, q_AJ_newO, q_AR_newO, q_sz_newO, q_su_newO, q_K_newA, q_I_newA, q_J_newA, q_R_newA, q_L_newA, q_AI_newA, q_AJ_newA, q_AR_newA, q_sz_newA, q_su_newA, q_K_skip, q_I_skip, q_J_skip, q_R_skip, q_L_skip, q_AI_skip, q_AJ_skip, q_AR_skip, q_sz_skip, q_su_skip, q_up2, q_up, h0, h1, h2]
theorem pR_2 (P : xP) (σ0 : xS) (w : Nat) (l : List Nat) : (pR P σ0 w l).I 1142 (P.base + 11) = (rst w l).1 := by unfold pR; simp [q_K_setI, q_I_setI, q_J_setI, q_R_setI, q_L_setI, q_AI_setI, q_AJ_setI, q_AR_setI, q_sz_setI, q_su_setI, q_K_setJ, q_I_setJ, q_J_setJ, q_R_setJ, q_L_setJ, q_AI_setJ, q_AJ_setJ, q_AR_setJ, q_sz_setJ, q_su_setJ, q_K_setR, q_I_setR, q_J_setR, q_R_setR, q_L_setR, q_AI_setR, q_AJ_setR, q_AR_setR, q_sz_setR, q_su_setR, q_K_setAI, q_I_setAI, q_J_setAI, q_R_setAI, q_L_setAI, q_AI_setAI, q_AJ_setAI, q_AR_setAI, q_sz_setAI, q_su_setAI, q_K_setAJ, q_I_setAJ, q_J_setAJ, q_R_setAJ, q_L_setAJ, q_AI_setAJ, q_AJ_setAJ, q_AR_setAJ, q_sz_setAJ, q_su_setAJ, q_K_setAR, q_I_setAR, q_J_setAR, q_R_setAR, q_L_setAR, q_AI_setAR, q_AJ_setAR, q_AR_setAR, q_sz_setAR, q_su_setAR, q_K_newO, q_I_newO, q_J_newO, q_R_newO, q_L_newO, q_AI_newO, q_AJ_newO, q_AR_newO, q_sz_newO, q_su_newO, q_K_newA, q_I_newA, q_J_newA, q_R_newA, q_L_newA, q_AI_newA, q_AJ_newA, q_AR_newA, q_sz_newA, q_su_newA, q_K_skip, q_I_skip, q_J_skip, q_R_skip, q_L_skip, q_AI_skip, q_AJ_skip, q_AR_skip, q_sz_skip, q_su_skip, q_up2, q_up]
theorem pR_3 (P : xP) (σ0 : xS) (w : Nat) (l : List Nat) : (pR P σ0 w l).I 1143 (P.base + 11) = nI w := by unfold pR; simp [q_K_setI, q_I_setI, q_J_setI, q_R_setI, q_L_setI, q_AI_setI, q_AJ_setI, q_AR_setI, q_sz_setI, q_su_setI, q_K_setJ, q_I_setJ, q_J_setJ, q_R_setJ, q_L_setJ, q_AI_setJ, q_AJ_setJ, q_AR_setJ, q_sz_setJ, q_su_setJ, q_K_setR, q_I_setR, q_J_setR, q_R_setR, q_L_setR, q_AI_setR, q_AJ_setR, q_AR_setR, q_sz_setR, q_su_setR, q_K_setAI, q_I_setAI, q_J_setAI, q_R_setAI, q_L_setAI, q_AI_setAI, q_AJ_setAI, q_AR_setAI, q_sz_setAI, q_su_setAI, q_K_setAJ, q_I_setAJ, q_J_setAJ, q_R_setAJ, q_L_setAJ, q_AI_setAJ, q_AJ_setAJ, q_AR_setAJ, q_sz_setAJ, q_su_setAJ, q_K_setAR, q_I_setAR, q_J_setAR, q_R_setAR, q_L_setAR, q_AI_setAR, q_AJ_setAR, q_AR_setAR, q_sz_setAR, q_su_setAR, q_K_newO, q_I_newO, q_J_newO, q_R_newO, q_L_newO, q_AI_newO, q_AJ_newO, q_AR_newO, q_sz_newO, q_su_newO, q_K_newA, q_I_newA, q_J_newA, q_R_newA, q_L_newA, q_AI_newA, q_AJ_newA, q_AR_newA, q_sz_newA, q_su_newA, q_K_skip, q_I_skip, q_J_skip, q_R_skip, q_L_skip, q_AI_skip, q_AJ_skip, q_AR_skip, q_sz_skip, q_su_skip, q_up2, q_up]
theorem pR_4 (P : xP) (σ0 : xS) (w : Nat) (l : List Nat) : (pR P σ0 w l).I 1144 (P.base + 11) = (rst w l).2 := by unfold pR; simp [q_K_setI, q_I_setI, q_J_setI, q_R_setI, q_L_setI, q_AI_setI, q_AJ_setI, q_AR_setI, q_sz_setI, q_su_setI, q_K_setJ, q_I_setJ, q_J_setJ, q_R_setJ, q_L_setJ, q_AI_setJ, q_AJ_setJ, q_AR_setJ, q_sz_setJ, q_su_setJ, q_K_setR, q_I_setR, q_J_setR, q_R_setR, q_L_setR, q_AI_setR, q_AJ_setR, q_AR_setR, q_sz_setR, q_su_setR, q_K_setAI, q_I_setAI, q_J_setAI, q_R_setAI, q_L_setAI, q_AI_setAI, q_AJ_setAI, q_AR_setAI, q_sz_setAI, q_su_setAI, q_K_setAJ, q_I_setAJ, q_J_setAJ, q_R_setAJ, q_L_setAJ, q_AI_setAJ, q_AJ_setAJ, q_AR_setAJ, q_sz_setAJ, q_su_setAJ, q_K_setAR, q_I_setAR, q_J_setAR, q_R_setAR, q_L_setAR, q_AI_setAR, q_AJ_setAR, q_AR_setAR, q_sz_setAR, q_su_setAR, q_K_newO, q_I_newO, q_J_newO, q_R_newO, q_L_newO, q_AI_newO, q_AJ_newO, q_AR_newO, q_sz_newO, q_su_newO, q_K_newA, q_I_newA, q_J_newA, q_R_newA, q_L_newA, q_AI_newA, q_AJ_newA, q_AR_newA, q_sz_newA, q_su_newA, q_K_skip, q_I_skip, q_J_skip, q_R_skip, q_L_skip, q_AI_skip, q_AJ_skip, q_AR_skip, q_sz_skip, q_su_skip, q_up2, q_up]
theorem RU.pr {P : xP} {T : xT} {hv : Nat} {lng : Bool} {ms : List xMod} {n : Nat} {σ : xS} (h : RU P T hv lng ms n σ) (w : Nat) (l : List Nat) : RU P T hv lng ms n (pR P σ w l) := ((h.setI (by omega)).setI (by omega)).setI (by omega)
theorem rp_put {P : xP} {σ : xS} (h : RI P σ) (w : Nat) (l : List Nat) (c : Nat) : dm_X12_print P (P.base + 11) (nI c) (pR P σ w l) = some (.inl (), pR P σ w (l ++ [c])) := by
  have k8 := ri_0 h
  unfold dm_X12_print dm_X12_print_p20
  by_cases e : (rst w l).1 = nI w
  · have es : ((pR P σ w l).setI 1144 (P.base + 11) (nI c)).setI 1142 (P.base + 11) ((rst w l).1 + nI 1) = pR P σ w (l ++ [c]) := by
      unfold pR
      rw [rst_snoc, if_pos e, setI_cm _ 1142 1144 _ _ _ (by omega), setI_ov, setI_ov]
    rw [← es, e]
    simp (disch := first | assumption | omega) [ck_T, sm_s, bd_l, bd_r, lt_e, eq_self, and_self, if_true, true_and, and_true, lit_nI, pR_K, pR_2, pR_3, k8, e, dle_T, q_K_setI, q_I_setI, q_J_setI, q_R_setI, q_L_setI, q_AI_setI, q_AJ_setI, q_AR_setI, q_sz_setI, q_su_setI, q_K_setJ, q_I_setJ, q_J_setJ, q_R_setJ, q_L_setJ, q_AI_setJ, q_AJ_setJ, q_AR_setJ, q_sz_setJ, q_su_setJ, q_K_setR, q_I_setR, q_J_setR, q_R_setR, q_L_setR, q_AI_setR, q_AJ_setR, q_AR_setR, q_sz_setR, q_su_setR, q_K_setAI, q_I_setAI, q_J_setAI, q_R_setAI, q_L_setAI, q_AI_setAI, q_AJ_setAI, q_AR_setAI, q_sz_setAI, q_su_setAI, q_K_setAJ, q_I_setAJ, q_J_setAJ, q_R_setAJ, q_L_setAJ, q_AI_setAJ, q_AJ_setAJ, q_AR_setAJ, q_sz_setAJ, q_su_setAJ, q_K_setAR, q_I_setAR, q_J_setAR, q_R_setAR, q_L_setAR, q_AI_setAR, q_AJ_setAR, q_AR_setAR, q_sz_setAR, q_su_setAR, q_K_newO, q_I_newO, q_J_newO, q_R_newO, q_L_newO, q_AI_newO, q_AJ_newO, q_AR_newO, q_sz_newO, q_su_newO, q_K_newA, q_I_newA, q_J_newA, q_R_newA, q_L_newA, q_AI_newA, q_AJ_newA, q_AR_newA, q_sz_newA, q_su_newA, q_K_skip, q_I_skip, q_J_skip, q_R_skip, q_L_skip, q_AI_skip, q_AJ_skip, q_AR_skip, q_sz_skip, q_su_skip, q_up2, q_up]
  · have es : ((pR P σ w l).setI 1144 (P.base + 11) (rst w l).2).setI 1142 (P.base + 11) ((rst w l).1 + nI 1) = pR P σ w (l ++ [c]) := by
      unfold pR
      rw [rst_snoc, if_neg e, setI_cm _ 1142 1144 _ _ _ (by omega), setI_ov, setI_ov]
    rw [← es]
    simp (disch := first | assumption | omega) [ck_T, sm_s, bd_l, bd_r, lt_e, eq_self, and_self, if_true, true_and, and_true, lit_nI, pR_K, pR_2, pR_3, pR_4, k8, e, dle_T, q_K_setI, q_I_setI, q_J_setI, q_R_setI, q_L_setI, q_AI_setI, q_AJ_setI, q_AR_setI, q_sz_setI, q_su_setI, q_K_setJ, q_I_setJ, q_J_setJ, q_R_setJ, q_L_setJ, q_AI_setJ, q_AJ_setJ, q_AR_setJ, q_sz_setJ, q_su_setJ, q_K_setR, q_I_setR, q_J_setR, q_R_setR, q_L_setR, q_AI_setR, q_AJ_setR, q_AR_setR, q_sz_setR, q_su_setR, q_K_setAI, q_I_setAI, q_J_setAI, q_R_setAI, q_L_setAI, q_AI_setAI, q_AJ_setAI, q_AR_setAI, q_sz_setAI, q_su_setAI, q_K_setAJ, q_I_setAJ, q_J_setAJ, q_R_setAJ, q_L_setAJ, q_AI_setAJ, q_AJ_setAJ, q_AR_setAJ, q_sz_setAJ, q_su_setAJ, q_K_setAR, q_I_setAR, q_J_setAR, q_R_setAR, q_L_setAR, q_AI_setAR, q_AJ_setAR, q_AR_setAR, q_sz_setAR, q_su_setAR, q_K_newO, q_I_newO, q_J_newO, q_R_newO, q_L_newO, q_AI_newO, q_AJ_newO, q_AR_newO, q_sz_newO, q_su_newO, q_K_newA, q_I_newA, q_J_newA, q_R_newA, q_L_newA, q_AI_newA, q_AJ_newA, q_AR_newA, q_sz_newA, q_su_newA, q_K_skip, q_I_skip, q_J_skip, q_R_skip, q_L_skip, q_AI_skip, q_AJ_skip, q_AR_skip, q_sz_skip, q_su_skip, q_up2, q_up]
theorem rp_four {P : xP} {σ : xS} (h : RI P σ) (w : Nat) (l : List Nat) (a b c d : Nat) (hd : d < 2 ^ 31) : dm_X12_printFour P (P.base + 11) (nI a) (nI b) (nI c) (nI d) (pR P σ w l) = some (.inl (), pR P σ w (l ++ ([a, b, c] ++ if d = 0 then [] else [d]))) := by
  have k8 := ri_0 h
  have u := rp_put h w
  unfold dm_X12_printFour dm_X12_printFour_p26
  by_cases e : d = 0
  · subst e
    simp (disch := first | assumption | omega) [ck_T, sm_s, bd_l, bd_r, lt_e, eq_self, and_self, if_true, true_and, and_true, lit_nI, nI_add, nI_mul, nI_sub, nI_clamp, nI_eq, nI_ltI, nI_leI, nN_e, nI_nN, nN_nI, bI_0, bI_1, bI_n, bool_0, bool_1, in_T, lg_cmp0, ofN_nI, pR_K, k8, u]
  · have e1 : ¬ d ≤ 0 := by omega
    simp (disch := first | assumption | omega) [ck_T, sm_s, bd_l, bd_r, lt_e, eq_self, and_self, if_true, true_and, and_true, lit_nI, nI_add, nI_mul, nI_sub, nI_clamp, nI_eq, nI_ltI, nI_leI, nN_e, nI_nN, nN_nI, bI_0, bI_1, bI_n, bool_0, bool_1, in_T, lg_cmp0, ofN_nI, pR_K, k8, u, e, e1]
theorem rp_end {P : xP} {σ : xS} (h : RI P σ) (w : Nat) (l : List Nat) : dm_X12_printEnd P (P.base + 11) (pR P σ w l) = some (.inl (), pR P σ w (l ++ [59, 10])) := by
  have k8 := ri_0 h
  have u := rp_put h w
  unfold dm_X12_printEnd
  simp (disch := first | assumption | omega) [ck_T, sm_s, bd_l, bd_r, lt_e, eq_self, and_self, if_true, true_and, and_true, lit_nI, nI_add, nI_mul, nI_sub, nI_clamp, nI_eq, nI_ltI, nI_leI, nN_e, nI_nN, nN_nI, bI_0, bI_1, bI_n, bool_0, bool_1, in_T, lg_cmp0, ofN_nI, pR_K, k8, u]
theorem rp_dig : ∀ v : Fin 10, nI 48 + (nI v.1 - nI v.1 / nI 10 * nI 10) = nI (48 + v.1) := by decide +kernel
theorem rp_num {P : xP} {σ : xS} (h : RI P σ) (w : Nat) (l : List Nat) {v : Nat} (hv : v < 10) : dm_X12_printNumber P (P.base + 11) (nI v) (pR P σ w l) = some (.inl (), pR P σ w (l ++ [48 + v])) := by
  have k8 := ri_0 h
  have u := rp_put h w l (48 + v)
  have d := rp_dig ⟨v, hv⟩
  simp only at d
  have n10 : ¬ nI 10 = nI 0 := by decide
  have le : nI v ≤ nI 9 := by rw [nI_leI (by omega) (by omega)]; omega
  unfold dm_X12_printNumber dm_X12_printNumber_p17
  simp only [lit_nI, le, if_true, ck_T, n10, not_false_eq_true, pR_K, k8, eq_self, d, u, bd_l]
theorem rp_nameL {P : xP} {T : xT} {hv : Nat} {lng : Bool} {ms : List xMod} {n : Nat} {σ : xS} {q : Nat} {nm : List Nat} (h : RU P T hv lng ms n σ) (hq : NmAt T q nm) (w : Nat) : ∀ (r j F : Nat) (l : List Nat), j + r = nm.length → r < F → dm_X12_printName_L2 P (P.base + 11) F (nI q) (nI j) (pR P σ w l) = some (.inl (), pR P σ w (l ++ nm.drop j)) := by
  have r0 := h.ri
  obtain ⟨b1, b2, b3, b4, b5⟩ := h.b
  have q1 := h.2
  have l8 := hq.le8
  have u := rp_put r0 w
  intro r
  induction r with
  | zero =>
    intro j F l hj hF
    obtain ⟨F, rfl⟩ : ∃ m, F = m + 1 := ⟨F - 1, by omega⟩
    have ln := rw_length (h.pr w l).1.1.1 hq
    have e : nm.drop j = [] := List.drop_eq_nil_of_le (by omega)
    have e1 : nm.length ≤ j := by omega
    rw [e, List.append_nil]
    unfold dm_X12_printName_L2
    simp (disch := first | assumption | omega) [ck_T, sm_s, bd_l, bd_r, lt_e, eq_self, and_self, if_true, true_and, and_true, lit_nI, nI_add, nI_mul, nI_sub, nI_clamp, nI_eq, nI_ltI, nI_leI, nN_e, nI_nN, nN_nI, bI_0, bI_1, bI_n, bool_0, bool_1, in_T, lg_cmp0, ofN_nI, pR_K, pR_I, ri_0 r0, q1, ln, e1]
  | succ r ih =>
    intro j F l hj hF
    obtain ⟨F, rfl⟩ : ∃ m, F = m + 1 := ⟨F - 1, by omega⟩
    have ln := rw_length (h.pr w l).1.1.1 hq
    have e1 : ¬ nm.length ≤ j := by omega
    obtain ⟨g1, g2⟩ := hq.get (i := j) (by omega)
    have tx := h.1.1.1.2.2.2.2.1 _ g2
    have ix : 1000 * hv + q + j = 1000 * hv + (q + j) := by omega
    have ihh := ih (j + 1) F (l ++ [T.1 (q + j)]) (by omega) (by omega)
    rw [List.append_assoc] at ihh
    rw [drop_at g1]
    show _ = (some (Sum.inl (), pR P σ w (l ++ ([T.1 (q + j)] ++ nm.drop (j + 1)))) : xO Unit)
    rw [← ihh]
    conv => lhs; unfold dm_X12_printName_L2
    simp (disch := first | assumption | omega) [ck_T, sm_s, bd_l, bd_r, lt_e, eq_self, and_self, if_true, true_and, and_true, lit_nI, nI_add, nI_mul, nI_sub, nI_clamp, nI_eq, nI_ltI, nI_leI, nN_e, nI_nN, nN_nI, bI_0, bI_1, bI_n, bool_0, bool_1, in_T, lg_cmp0, ofN_nI, pR_K, pR_I, pR_R, pR_L, pR_AI, ri_0 r0, ri_4 r0, ri_5 r0, ri_6 r0, q1, ln, e1, ix, tx, u, x_in, dlt_T, dle_T]
theorem rp_name {P : xP} {T : xT} {hv : Nat} {lng : Bool} {ms : List xMod} {n : Nat} {σ : xS} {q : Nat} {nm : List Nat} (h : RU P T hv lng ms n σ) (hq : NmAt T q nm) (w : Nat) (l : List Nat) : dm_X12_printName P (P.base + 11) (nI q) (pR P σ w l) = some (.inl (), pR P σ w (l ++ nm)) := by
  have l8 := hq.le8
  obtain ⟨b1, b2, b3, b4, b5⟩ := h.b
  exact rp_nameL h hq w nm.length 0 P.N l (by omega) (by omega)
theorem rp_ref {P : xP} {T : xT} {hv : Nat} {lng : Bool} {ms : List xMod} {n k r : Nat} {σ : xS} {m : xMod} {x : xPart} (h : RU P T hv lng ms n σ) (hm : ms[k]? = some m) (hr : RRef P σ T hv n m.nets r x) (hw : PW m.nets x) (w : Nat) (lg : Bool) (l : List Nat) : dm_X12_printRef P (P.base + 11) (nI (8 * hv + k)) (nI r) (nI (if lg = true then 1 else 0)) (pR P σ w l) = some (.inl (), pR P σ w (l ++ pr_part lg x)) := by
  have r0 := h.ri
  obtain ⟨b1, b2, b3, b4, b5⟩ := h.b
  have kl := get_lt hm
  have wm := h.wx hm
  have u := rp_put r0 w
  obtain ⟨⟨ra, rb⟩, c2, c3, c4, c5, c6⟩ := hr
  rcases hw with ⟨w1, w2, w3, w4, w5, w6, w7⟩ | ⟨w1, w2, y, w3, w4, w5, w6, w7, w8⟩
  · obtain ⟨d, d1, d2, d3⟩ := c4 w1
    rw [w1] at c2
    have nm := rp_name h d2 w
    have nu := fun l => rp_num r0 w l (v := x.2.2.2.2.2.length) (by omega)
    unfold pr_part dm_X12_printRef dm_X12_printRef_p24
    rw [if_pos w1]
    cases lg with
    | true =>
      simp (disch := first | assumption | omega) [ck_T, sm_s, bd_l, bd_r, lt_e, eq_self, and_self, if_true, true_and, and_true, lit_nI, nI_add, nI_mul, nI_sub, nI_clamp, nI_eq, nI_ltI, nI_leI, nN_e, nI_nN, nN_nI, bI_0, bI_1, bI_n, bool_0, bool_1, in_T, lg_cmp0, ofN_nI, pR_K, pR_R, pR_L, pR_AI, ri_0 r0, ri_43 r0, ri_44 r0, ri_45 r0, ri_49 r0, ri_50 r0, ri_51 r0, ri_52 r0, ri_53 r0, ri_54 r0, c2, d1, d3, u, nm, nu, x_in, dlt_T, dle_T]
    | false =>
      simp (disch := first | assumption | omega) [ck_T, sm_s, bd_l, bd_r, lt_e, eq_self, and_self, if_true, true_and, and_true, lit_nI, nI_add, nI_mul, nI_sub, nI_clamp, nI_eq, nI_ltI, nI_leI, nN_e, nI_nN, nN_nI, bI_0, bI_1, bI_n, bool_0, bool_1, in_T, lg_cmp0, ofN_nI, pR_K, pR_R, pR_L, pR_AI, ri_0 r0, ri_43 r0, ri_44 r0, ri_45 r0, ri_49 r0, ri_50 r0, ri_51 r0, c2, d1, u, nm, x_in, dlt_T, dle_T]
  · have n3 : ¬ x.1 = 3 := by omega
    obtain ⟨j, j1, j2, j3⟩ := c5 n3
    have y8 := (wm.2.1.1 y (sp_find_mem w3).1).2.2.1
    cases ej : m.nets[j]? with
    | none => rw [ej] at j3; cases j3
    | some z =>
      rw [ej] at j3
      simp only [Option.map_some, Option.some.injEq] at j3
      have jl := get_lt ej
      obtain ⟨⟨q, z1, z2⟩, -⟩ := (h.rm hm).2.1 j z ej
      rw [j3] at z2
      have nm := rp_name h z2 w
      have c3' : ¬ nI x.1 = nI 3 := by rw [nI_eq (by omega) (by omega)]; exact n3
      unfold pr_part dm_X12_printRef
      rw [if_neg n3]
      by_cases e0 : x.1 = 0
      · rw [e0] at c2
        rw [if_pos e0]
        simp (disch := first | assumption | omega) [ck_T, sm_s, bd_l, bd_r, lt_e, eq_self, and_self, if_true, true_and, and_true, lit_nI, nI_add, nI_mul, nI_sub, nI_clamp, nI_eq, nI_ltI, nI_leI, nN_e, nI_nN, nN_nI, bI_0, bI_1, bI_n, bool_0, bool_1, in_T, lg_cmp0, ofN_nI, pR_K, pR_R, pR_L, pR_AI, ri_0 r0, ri_43 r0, ri_44 r0, ri_45 r0, ri_46 r0, ri_47 r0, ri_48 r0, ri_22 r0, ri_23 r0, ri_24 r0, c2, j1, z1, nm, x_in, dlt_T, dle_T]
      · rw [if_neg e0]
        obtain ⟨g1, g2⟩ := c6 (by omega)
        have c0 : ¬ nI x.1 = nI 0 := by rw [nI_eq (by omega) (by omega)]; exact e0
        have n1 := fun l => rp_num r0 w l (v := x.2.2.2.1) (by omega)
        have n2 := fun l => rp_num r0 w l (v := x.2.2.2.2.1) (by omega)
        unfold dm_X12_printRef_p83 dm_X12_printRef_p118 dm_X12_printRef_p131 dm_X12_printRef_p141
        by_cases e2 : x.1 = 2
        · rw [if_pos e2]
          rw [e2] at c2
          cases lg with
          | true => simp (disch := first | assumption | omega) [ck_T, sm_s, bd_l, bd_r, lt_e, eq_self, and_self, if_true, true_and, and_true, lit_nI, nI_add, nI_mul, nI_sub, nI_clamp, nI_eq, nI_ltI, nI_leI, nN_e, nI_nN, nN_nI, bI_0, bI_1, bI_n, bool_0, bool_1, in_T, lg_cmp0, ofN_nI, pR_K, pR_R, pR_L, pR_AI, ri_0 r0, ri_43 r0, ri_44 r0, ri_45 r0, ri_46 r0, ri_47 r0, ri_48 r0, ri_22 r0, ri_23 r0, ri_24 r0, ri_49 r0, ri_50 r0, ri_51 r0, ri_52 r0, ri_53 r0, ri_54 r0, c2, j1, z1, g1, g2, nm, n1, n2, u, x_in, dlt_T, dle_T]
          | false => simp (disch := first | assumption | omega) [ck_T, sm_s, bd_l, bd_r, lt_e, eq_self, and_self, if_true, true_and, and_true, lit_nI, nI_add, nI_mul, nI_sub, nI_clamp, nI_eq, nI_ltI, nI_leI, nN_e, nI_nN, nN_nI, bI_0, bI_1, bI_n, bool_0, bool_1, in_T, lg_cmp0, ofN_nI, pR_K, pR_R, pR_L, pR_AI, ri_0 r0, ri_43 r0, ri_44 r0, ri_45 r0, ri_46 r0, ri_47 r0, ri_48 r0, ri_22 r0, ri_23 r0, ri_24 r0, ri_49 r0, ri_50 r0, ri_51 r0, ri_52 r0, ri_53 r0, ri_54 r0, c2, j1, z1, g1, g2, nm, n1, n2, u, x_in, dlt_T, dle_T]
        · rw [if_neg e2]
          have e1 : x.1 = 1 := by omega
          rw [e1] at c2
          cases lg with
          | true => simp (disch := first | assumption | omega) [ck_T, sm_s, bd_l, bd_r, lt_e, eq_self, and_self, if_true, true_and, and_true, lit_nI, nI_add, nI_mul, nI_sub, nI_clamp, nI_eq, nI_ltI, nI_leI, nN_e, nI_nN, nN_nI, bI_0, bI_1, bI_n, bool_0, bool_1, in_T, lg_cmp0, ofN_nI, pR_K, pR_R, pR_L, pR_AI, ri_0 r0, ri_43 r0, ri_44 r0, ri_45 r0, ri_46 r0, ri_47 r0, ri_48 r0, ri_22 r0, ri_23 r0, ri_24 r0, ri_49 r0, ri_50 r0, ri_51 r0, ri_52 r0, ri_53 r0, ri_54 r0, c2, j1, z1, g1, g2, nm, n1, n2, u, x_in, dlt_T, dle_T]
          | false => simp (disch := first | assumption | omega) [ck_T, sm_s, bd_l, bd_r, lt_e, eq_self, and_self, if_true, true_and, and_true, lit_nI, nI_add, nI_mul, nI_sub, nI_clamp, nI_eq, nI_ltI, nI_leI, nN_e, nI_nN, nN_nI, bI_0, bI_1, bI_n, bool_0, bool_1, in_T, lg_cmp0, ofN_nI, pR_K, pR_R, pR_L, pR_AI, ri_0 r0, ri_43 r0, ri_44 r0, ri_45 r0, ri_46 r0, ri_47 r0, ri_48 r0, ri_22 r0, ri_23 r0, ri_24 r0, ri_49 r0, ri_50 r0, ri_51 r0, ri_52 r0, ri_53 r0, ri_54 r0, c2, j1, z1, g1, g2, nm, n1, n2, u, x_in, dlt_T, dle_T]
theorem rp_link {P : xP} {T : xT} {hv : Nat} {lng : Bool} {ms : List xMod} {n k : Nat} {σ : xS} {m : xMod} {o : Option xPart} {v : Int32} (h : RU P T hv lng ms n σ) (hm : ms[k]? = some m) (hr : RV P σ T hv n m.nets o v) (hw : ∀ x, o = some x → PW m.nets x) (w : Nat) (lg : Bool) (l : List Nat) : dm_X12_printLink P (P.base + 11) (nI (8 * hv + k)) v (nI (if lg = true then 1 else 0)) (pR P σ w l) = some (.inl (), pR P σ w (l ++ pr_ol lg o)) := by
  have r0 := h.ri
  have k8 := ri_0 r0
  obtain ⟨b1, b2, b3, b4, b5⟩ := h.b
  have u := rp_put r0 w
  unfold dm_X12_printLink dm_X12_printLink_p21 pr_ol
  cases o with
  | none =>
    rw [show v = nN from hr]
    simp (disch := first | assumption | omega) [ck_T, sm_s, bd_l, bd_r, lt_e, eq_self, and_self, if_true, true_and, and_true, lit_nI, nI_add, nI_mul, nI_sub, nI_clamp, nI_eq, nI_ltI, nI_leI, nN_e, nI_nN, nN_nI, bI_0, bI_1, bI_n, bool_0, bool_1, in_T, lg_cmp0, ofN_nI, pR_K, k8, u]
  | some x =>
    obtain ⟨r, rfl, hr⟩ := hr
    have rb := hr.1
    have rN : ¬ nI r = nN := by rw [nI_nN (by omega)]; simp
    have rf := rp_ref h hm hr (hw x rfl) w lg l
    simp (disch := first | assumption | omega) [ck_T, sm_s, bd_l, bd_r, lt_e, eq_self, and_self, if_true, true_and, and_true, lit_nI, nI_add, nI_mul, nI_sub, nI_clamp, nI_eq, nI_ltI, nI_leI, nN_e, nI_nN, nN_nI, bI_0, bI_1, bI_n, bool_0, bool_1, in_T, lg_cmp0, ofN_nI, rN, pR_K, k8, rf]
theorem rp_named {P : xP} {T : xT} {hv : Nat} {lng : Bool} {ms : List xMod} {n k q : Nat} {σ : xS} {m : xMod} {o : Option xPart} {v : Int32} {nm : List Nat} (h : RU P T hv lng ms n σ) (hm : ms[k]? = some m) (hq : NmAt T q nm) (hr : RV P σ T hv n m.nets o v) (hw : ∀ x, o = some x → PW m.nets x) (w : Nat) (l : List Nat) : dm_X12_printNamed P (P.base + 11) (nI (8 * hv + k)) (nI q) v (pR P σ w l) = some (.inl (), pR P σ w (l ++ pr_nl nm o)) := by
  have r0 := h.ri
  have k8 := ri_0 r0
  obtain ⟨b1, b2, b3, b4, b5⟩ := h.b
  have u := rp_put r0 w
  have na := rp_name h hq w
  unfold dm_X12_printNamed dm_X12_printNamed_p29 pr_nl
  cases o with
  | none =>
    rw [show v = nN from hr]
    simp (disch := first | assumption | omega) [ck_T, sm_s, bd_l, bd_r, lt_e, eq_self, and_self, if_true, true_and, and_true, lit_nI, nI_add, nI_mul, nI_sub, nI_clamp, nI_eq, nI_ltI, nI_leI, nN_e, nI_nN, nN_nI, bI_0, bI_1, bI_n, bool_0, bool_1, in_T, lg_cmp0, ofN_nI, pR_K, k8, u, na]
  | some x =>
    obtain ⟨r, rfl, hr⟩ := hr
    have rb := hr.1
    have rN : ¬ nI r = nN := by rw [nI_nN (by omega)]; simp
    have rf := rp_ref h hm hr (hw x rfl) w true
    simp only [if_true] at rf
    simp (disch := first | assumption | omega) [ck_T, sm_s, bd_l, bd_r, lt_e, eq_self, and_self, if_true, true_and, and_true, lit_nI, nI_add, nI_mul, nI_sub, nI_clamp, nI_eq, nI_ltI, nI_leI, nN_e, nI_nN, nN_nI, bI_0, bI_1, bI_n, bool_0, bool_1, in_T, lg_cmp0, ofN_nI, rN, pR_K, k8, u, na, rf]
