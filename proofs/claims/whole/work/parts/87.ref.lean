/-! ===== the reference: parts ===== -/
/-- the word at the cursor, whatever the fault -/
def RW (P : xP) (T : xT) (σ : xS) (p : Nat) : Prop := p ≤ T.2 ∧ σ.I 1136 (P.base + 11) = nI p ∧ σ.I 1134 (P.base + 11) = nI (rEnd T p) ∧ σ.I 1137 (P.base + 11) = nI (rEnd T p) ∧ σ.I 1135 (P.base + 11) = nI (rKd T p)
theorem RC.rw {P : xP} {T : xT} {σ : xS} {p : Nat} (c : RC P T σ p) : RW P T σ p := ⟨c.1, c.2.1, c.2.2.1, c.2.2.2.1, c.2.2.2.2.1⟩
/-- a fault stands, and a word under the cursor -/
def DQ (P : xP) (T : xT) (hv k : Nat) (f : Nat) (σ : xS) : Prop := TX P T hv σ ∧ (∃ p, RW P T σ p) ∧ σ.I 1139 (P.base + 11) = nI f ∧ f ≤ 1000 ∧ σ.I 1141 (P.base + 11) = nI k
theorem DQ.de {P : xP} {T : xT} {hv k f : Nat} {σ : xS} (h : DQ P T hv k f σ) : DE P σ f := ⟨h.1.1, h.2.2.1, h.2.2.2.1⟩
theorem RX.bad {P : xP} {T : xT} {hv : Nat} {lng : Bool} {ms : List xMod} {m : xMod} {n : Nat} {σ : xS} {p : Nat} (h : RX P T hv lng ms m n σ p) (hk : lx_kind T p = 4) : DQ P T hv ms.length p σ := by
  obtain ⟨h1, h2, h3, h4, h5, h6, h7, h8, h9⟩ := h
  have de := h2.at h1 hk
  exact ⟨h1, ⟨p, h2.rw⟩, de.2.1, de.2.2, h3⟩
theorem RXfail {P : xP} {T : xT} {hv : Nat} {lng : Bool} {ms : List xMod} {m : xMod} {n : Nat} {σ : xS} {p : Nat} (h : RX P T hv lng ms m n σ p) : DQ P T hv ms.length p (fl P σ p) := by
  obtain ⟨h1, h2, h3, h4, h5, h6, h7, h8, h9⟩ := h
  have f : FL P σ (fl P σ p) := fl_FL
  have t1 := h1.2.1.1
  have hp := h2.1
  refine ⟨h1.fl f, ⟨p, h2.1, ?_, ?_, ?_, ?_⟩, by unfold fl; simp [q_K_setI, q_I_setI, q_J_setI, q_R_setI, q_L_setI, q_AI_setI, q_AJ_setI, q_AR_setI, q_sz_setI, q_su_setI, q_K_setJ, q_I_setJ, q_J_setJ, q_R_setJ, q_L_setJ, q_AI_setJ, q_AJ_setJ, q_AR_setJ, q_sz_setJ, q_su_setJ, q_K_setR, q_I_setR, q_J_setR, q_R_setR, q_L_setR, q_AI_setR, q_AJ_setR, q_AR_setR, q_sz_setR, q_su_setR, q_K_setAI, q_I_setAI, q_J_setAI, q_R_setAI, q_L_setAI, q_AI_setAI, q_AJ_setAI, q_AR_setAI, q_sz_setAI, q_su_setAI, q_K_setAJ, q_I_setAJ, q_J_setAJ, q_R_setAJ, q_L_setAJ, q_AI_setAJ, q_AJ_setAJ, q_AR_setAJ, q_sz_setAJ, q_su_setAJ, q_K_setAR, q_I_setAR, q_J_setAR, q_R_setAR, q_L_setAR, q_AI_setAR, q_AJ_setAR, q_AR_setAR, q_sz_setAR, q_su_setAR, q_K_newO, q_I_newO, q_J_newO, q_R_newO, q_L_newO, q_AI_newO, q_AJ_newO, q_AR_newO, q_sz_newO, q_su_newO, q_K_newA, q_I_newA, q_J_newA, q_R_newA, q_L_newA, q_AI_newA, q_AJ_newA, q_AR_newA, q_sz_newA, q_su_newA, q_K_skip, q_I_skip, q_J_skip, q_R_skip, q_L_skip, q_AI_skip, q_AJ_skip, q_AR_skip, q_sz_skip, q_su_skip, q_up2, q_up], by omega, (f.2.2.2.2.2.2.2.2.2 1141 _ (by omega)).trans h3⟩
  · have := h2.2.1; unfold fl; simp [q_K_setI, q_I_setI, q_J_setI, q_R_setI, q_L_setI, q_AI_setI, q_AJ_setI, q_AR_setI, q_sz_setI, q_su_setI, q_K_setJ, q_I_setJ, q_J_setJ, q_R_setJ, q_L_setJ, q_AI_setJ, q_AJ_setJ, q_AR_setJ, q_sz_setJ, q_su_setJ, q_K_setR, q_I_setR, q_J_setR, q_R_setR, q_L_setR, q_AI_setR, q_AJ_setR, q_AR_setR, q_sz_setR, q_su_setR, q_K_setAI, q_I_setAI, q_J_setAI, q_R_setAI, q_L_setAI, q_AI_setAI, q_AJ_setAI, q_AR_setAI, q_sz_setAI, q_su_setAI, q_K_setAJ, q_I_setAJ, q_J_setAJ, q_R_setAJ, q_L_setAJ, q_AI_setAJ, q_AJ_setAJ, q_AR_setAJ, q_sz_setAJ, q_su_setAJ, q_K_setAR, q_I_setAR, q_J_setAR, q_R_setAR, q_L_setAR, q_AI_setAR, q_AJ_setAR, q_AR_setAR, q_sz_setAR, q_su_setAR, q_K_newO, q_I_newO, q_J_newO, q_R_newO, q_L_newO, q_AI_newO, q_AJ_newO, q_AR_newO, q_sz_newO, q_su_newO, q_K_newA, q_I_newA, q_J_newA, q_R_newA, q_L_newA, q_AI_newA, q_AJ_newA, q_AR_newA, q_sz_newA, q_su_newA, q_K_skip, q_I_skip, q_J_skip, q_R_skip, q_L_skip, q_AI_skip, q_AJ_skip, q_AR_skip, q_sz_skip, q_su_skip, q_up2, q_up, this]
  · have := h2.2.2.1; unfold fl; simp [q_K_setI, q_I_setI, q_J_setI, q_R_setI, q_L_setI, q_AI_setI, q_AJ_setI, q_AR_setI, q_sz_setI, q_su_setI, q_K_setJ, q_I_setJ, q_J_setJ, q_R_setJ, q_L_setJ, q_AI_setJ, q_AJ_setJ, q_AR_setJ, q_sz_setJ, q_su_setJ, q_K_setR, q_I_setR, q_J_setR, q_R_setR, q_L_setR, q_AI_setR, q_AJ_setR, q_AR_setR, q_sz_setR, q_su_setR, q_K_setAI, q_I_setAI, q_J_setAI, q_R_setAI, q_L_setAI, q_AI_setAI, q_AJ_setAI, q_AR_setAI, q_sz_setAI, q_su_setAI, q_K_setAJ, q_I_setAJ, q_J_setAJ, q_R_setAJ, q_L_setAJ, q_AI_setAJ, q_AJ_setAJ, q_AR_setAJ, q_sz_setAJ, q_su_setAJ, q_K_setAR, q_I_setAR, q_J_setAR, q_R_setAR, q_L_setAR, q_AI_setAR, q_AJ_setAR, q_AR_setAR, q_sz_setAR, q_su_setAR, q_K_newO, q_I_newO, q_J_newO, q_R_newO, q_L_newO, q_AI_newO, q_AJ_newO, q_AR_newO, q_sz_newO, q_su_newO, q_K_newA, q_I_newA, q_J_newA, q_R_newA, q_L_newA, q_AI_newA, q_AJ_newA, q_AR_newA, q_sz_newA, q_su_newA, q_K_skip, q_I_skip, q_J_skip, q_R_skip, q_L_skip, q_AI_skip, q_AJ_skip, q_AR_skip, q_sz_skip, q_su_skip, q_up2, q_up, this]
  · have := h2.2.2.2.1; unfold fl; simp [q_K_setI, q_I_setI, q_J_setI, q_R_setI, q_L_setI, q_AI_setI, q_AJ_setI, q_AR_setI, q_sz_setI, q_su_setI, q_K_setJ, q_I_setJ, q_J_setJ, q_R_setJ, q_L_setJ, q_AI_setJ, q_AJ_setJ, q_AR_setJ, q_sz_setJ, q_su_setJ, q_K_setR, q_I_setR, q_J_setR, q_R_setR, q_L_setR, q_AI_setR, q_AJ_setR, q_AR_setR, q_sz_setR, q_su_setR, q_K_setAI, q_I_setAI, q_J_setAI, q_R_setAI, q_L_setAI, q_AI_setAI, q_AJ_setAI, q_AR_setAI, q_sz_setAI, q_su_setAI, q_K_setAJ, q_I_setAJ, q_J_setAJ, q_R_setAJ, q_L_setAJ, q_AI_setAJ, q_AJ_setAJ, q_AR_setAJ, q_sz_setAJ, q_su_setAJ, q_K_setAR, q_I_setAR, q_J_setAR, q_R_setAR, q_L_setAR, q_AI_setAR, q_AJ_setAR, q_AR_setAR, q_sz_setAR, q_su_setAR, q_K_newO, q_I_newO, q_J_newO, q_R_newO, q_L_newO, q_AI_newO, q_AJ_newO, q_AR_newO, q_sz_newO, q_su_newO, q_K_newA, q_I_newA, q_J_newA, q_R_newA, q_L_newA, q_AI_newA, q_AJ_newA, q_AR_newA, q_sz_newA, q_su_newA, q_K_skip, q_I_skip, q_J_skip, q_R_skip, q_L_skip, q_AI_skip, q_AJ_skip, q_AR_skip, q_sz_skip, q_su_skip, q_up2, q_up, this]
  · have := h2.2.2.2.2.1; unfold fl; simp [q_K_setI, q_I_setI, q_J_setI, q_R_setI, q_L_setI, q_AI_setI, q_AJ_setI, q_AR_setI, q_sz_setI, q_su_setI, q_K_setJ, q_I_setJ, q_J_setJ, q_R_setJ, q_L_setJ, q_AI_setJ, q_AJ_setJ, q_AR_setJ, q_sz_setJ, q_su_setJ, q_K_setR, q_I_setR, q_J_setR, q_R_setR, q_L_setR, q_AI_setR, q_AJ_setR, q_AR_setR, q_sz_setR, q_su_setR, q_K_setAI, q_I_setAI, q_J_setAI, q_R_setAI, q_L_setAI, q_AI_setAI, q_AJ_setAI, q_AR_setAI, q_sz_setAI, q_su_setAI, q_K_setAJ, q_I_setAJ, q_J_setAJ, q_R_setAJ, q_L_setAJ, q_AI_setAJ, q_AJ_setAJ, q_AR_setAJ, q_sz_setAJ, q_su_setAJ, q_K_setAR, q_I_setAR, q_J_setAR, q_R_setAR, q_L_setAR, q_AI_setAR, q_AJ_setAR, q_AR_setAR, q_sz_setAR, q_su_setAR, q_K_newO, q_I_newO, q_J_newO, q_R_newO, q_L_newO, q_AI_newO, q_AJ_newO, q_AR_newO, q_sz_newO, q_su_newO, q_K_newA, q_I_newA, q_J_newA, q_R_newA, q_L_newA, q_AI_newA, q_AJ_newA, q_AR_newA, q_sz_newA, q_su_newA, q_K_skip, q_I_skip, q_J_skip, q_R_skip, q_L_skip, q_AI_skip, q_AJ_skip, q_AR_skip, q_sz_skip, q_su_skip, q_up2, q_up, this]
/-- one part more -/
def adR (P : xP) (hv n : Nat) (σ : xS) (so pl k a b : Int32) : xS := (((((σ.setAI (P.base + 26) (512 * hv + n) so).setAI (P.base + 25) (512 * hv + n) pl).setAI (P.base + 27) (512 * hv + n) k).setAI (P.base + 28) (512 * hv + n) a).setAI (P.base + 29) (512 * hv + n) b).setAI (P.base + 24) hv (nI (n + 1))
theorem rw_addRef {P : xP} {T : xT} {hv n : Nat} {σ : xS} (h : TX P T hv σ) (hn : σ.AI (P.base + 24) hv = nI n) (hl : n < 512) (so pl k a b : Int32) : dm_X12_addRef P (P.base + 11) so pl k a b σ = some (.inl (nI (512 * hv + n)), adR P hv n σ so pl k a b) := by
  have a0 := ri_0 h.1
  have hh := h.2.2.2.1
  have hv1 := h.2.2.1
  have b1 := ri_37 h.1
  have b2 := ri_38 h.1
  have b3 := ri_39 h.1
  have c1 := ri_40 h.1
  have c2 := ri_41 h.1
  have c3 := ri_42 h.1
  have d1 := ri_43 h.1
  have d2 := ri_44 h.1
  have d3 := ri_45 h.1
  have e1 := ri_46 h.1
  have e2 := ri_47 h.1
  have e3 := ri_48 h.1
  have f1 := ri_49 h.1
  have f2 := ri_50 h.1
  have f3 := ri_51 h.1
  have g1 := ri_52 h.1
  have g2 := ri_53 h.1
  have g3 := ri_54 h.1
  unfold dm_X12_addRef adR
  simp (config := { maxSteps := 2000000 }) (disch := first | assumption | omega) [ck_T, sm_s, bd_l, bd_r, lt_e, eq_self, and_self, if_true, true_and, and_true, lit_nI, nI_add, nI_mul, nI_sub, nI_clamp, nI_eq, nI_ltI, nI_leI, nN_e, nI_nN, nN_nI, bI_0, bI_1, bI_n, bool_0, bool_1, in_T, lg_cmp0, ofN_nI, q_K_setI, q_I_setI, q_J_setI, q_R_setI, q_L_setI, q_AI_setI, q_AJ_setI, q_AR_setI, q_sz_setI, q_su_setI, q_K_setJ, q_I_setJ, q_J_setJ, q_R_setJ, q_L_setJ, q_AI_setJ, q_AJ_setJ, q_AR_setJ, q_sz_setJ, q_su_setJ, q_K_setR, q_I_setR, q_J_setR, q_R_setR, q_L_setR, q_AI_setR, q_AJ_setR, q_AR_setR, q_sz_setR, q_su_setR, q_K_setAI, q_I_setAI, q_J_setAI, q_R_setAI, q_L_setAI, q_AI_setAI, q_AJ_setAI, q_AR_setAI, q_sz_setAI, q_su_setAI, q_K_setAJ, q_I_setAJ, q_J_setAJ, q_R_setAJ, q_L_setAJ, q_AI_setAJ, q_AJ_setAJ, q_AR_setAJ, q_sz_setAJ, q_su_setAJ, q_K_setAR, q_I_setAR, q_J_setAR, q_R_setAR, q_L_setAR, q_AI_setAR, q_AJ_setAR, q_AR_setAR, q_sz_setAR, q_su_setAR, q_K_newO, q_I_newO, q_J_newO, q_R_newO, q_L_newO, q_AI_newO, q_AJ_newO, q_AR_newO, q_sz_newO, q_su_newO, q_K_newA, q_I_newA, q_J_newA, q_R_newA, q_L_newA, q_AI_newA, q_AJ_newA, q_AR_newA, q_sz_newA, q_su_newA, q_K_skip, q_I_skip, q_J_skip, q_R_skip, q_L_skip, q_AI_skip, q_AJ_skip, q_AR_skip, q_sz_skip, q_su_skip, q_up2, q_up, a0, hh, hn, b1, b2, b3, c1, c2, c3, d1, d2, d3, e1, e2, e3, f1, f2, f3, g1, g2, g3, x_in, dlt_T, dle_T]
theorem up2_ne {α : Type} {f : Nat → Nat → α} {k a k' a' : Nat} {v : α} (h : ¬ (k' = k ∧ a' = a)) : x_up2 f k a v k' a' = f k' a' := by
  by_cases e : k' = k
  · exact x_up2_a (fun z => h ⟨e, z⟩)
  · exact x_up2_k e
theorem adR_AI {P : xP} {hv n : Nat} {σ : xS} {so pl k a b : Int32} {c i : Nat} (h : ¬ (c = 24 ∧ i = hv)) (h2 : ¬ (25 ≤ c ∧ c ≤ 29 ∧ i = 512 * hv + n)) : (adR P hv n σ so pl k a b).AI (P.base + c) i = σ.AI (P.base + c) i := by
  unfold adR
  simp only [q_K_setI, q_I_setI, q_J_setI, q_R_setI, q_L_setI, q_AI_setI, q_AJ_setI, q_AR_setI, q_sz_setI, q_su_setI, q_K_setJ, q_I_setJ, q_J_setJ, q_R_setJ, q_L_setJ, q_AI_setJ, q_AJ_setJ, q_AR_setJ, q_sz_setJ, q_su_setJ, q_K_setR, q_I_setR, q_J_setR, q_R_setR, q_L_setR, q_AI_setR, q_AJ_setR, q_AR_setR, q_sz_setR, q_su_setR, q_K_setAI, q_I_setAI, q_J_setAI, q_R_setAI, q_L_setAI, q_AI_setAI, q_AJ_setAI, q_AR_setAI, q_sz_setAI, q_su_setAI, q_K_setAJ, q_I_setAJ, q_J_setAJ, q_R_setAJ, q_L_setAJ, q_AI_setAJ, q_AJ_setAJ, q_AR_setAJ, q_sz_setAJ, q_su_setAJ, q_K_setAR, q_I_setAR, q_J_setAR, q_R_setAR, q_L_setAR, q_AI_setAR, q_AJ_setAR, q_AR_setAR, q_sz_setAR, q_su_setAR, q_K_newO, q_I_newO, q_J_newO, q_R_newO, q_L_newO, q_AI_newO, q_AJ_newO, q_AR_newO, q_sz_newO, q_su_newO, q_K_newA, q_I_newA, q_J_newA, q_R_newA, q_L_newA, q_AI_newA, q_AJ_newA, q_AR_newA, q_sz_newA, q_su_newA, q_K_skip, q_I_skip, q_J_skip, q_R_skip, q_L_skip, q_AI_skip, q_AJ_skip, q_AR_skip, q_sz_skip, q_su_skip]
  rw [up2_ne (by omega), up2_ne (by omega), up2_ne (by omega), up2_ne (by omega), up2_ne (by omega), up2_ne (by omega)]
theorem adR_FM {P : xP} {hv M pl' n : Nat} {σ : xS} {so pl k a b : Int32} (hn : n < 512) : FM P hv M pl' n σ (adR P hv n σ so pl k a b) := by
  refine ⟨⟨rfl, rfl, rfl, rfl, rfl, rfl, rfl, rfl⟩, fun _ _ _ => rfl, fun ad i ha => ?_, fun r r1 r2 => ⟨fun c hc => ?_, fun q _ _ => ?_⟩⟩
  · by_cases e : ∃ c, ad = P.base + c
    · obtain ⟨c, rfl⟩ := e
      have := ha c rfl
      exact adR_AI (by omega) (by omega)
    · have z : ∀ c, ¬ ad = P.base + c := fun c z => e ⟨c, z⟩
      unfold adR
      simp only [q_K_setI, q_I_setI, q_J_setI, q_R_setI, q_L_setI, q_AI_setI, q_AJ_setI, q_AR_setI, q_sz_setI, q_su_setI, q_K_setJ, q_I_setJ, q_J_setJ, q_R_setJ, q_L_setJ, q_AI_setJ, q_AJ_setJ, q_AR_setJ, q_sz_setJ, q_su_setJ, q_K_setR, q_I_setR, q_J_setR, q_R_setR, q_L_setR, q_AI_setR, q_AJ_setR, q_AR_setR, q_sz_setR, q_su_setR, q_K_setAI, q_I_setAI, q_J_setAI, q_R_setAI, q_L_setAI, q_AI_setAI, q_AJ_setAI, q_AR_setAI, q_sz_setAI, q_su_setAI, q_K_setAJ, q_I_setAJ, q_J_setAJ, q_R_setAJ, q_L_setAJ, q_AI_setAJ, q_AJ_setAJ, q_AR_setAJ, q_sz_setAJ, q_su_setAJ, q_K_setAR, q_I_setAR, q_J_setAR, q_R_setAR, q_L_setAR, q_AI_setAR, q_AJ_setAR, q_AR_setAR, q_sz_setAR, q_su_setAR, q_K_newO, q_I_newO, q_J_newO, q_R_newO, q_L_newO, q_AI_newO, q_AJ_newO, q_AR_newO, q_sz_newO, q_su_newO, q_K_newA, q_I_newA, q_J_newA, q_R_newA, q_L_newA, q_AI_newA, q_AJ_newA, q_AR_newA, q_sz_newA, q_su_newA, q_K_skip, q_I_skip, q_J_skip, q_R_skip, q_L_skip, q_AI_skip, q_AJ_skip, q_AR_skip, q_sz_skip, q_su_skip]
      rw [x_up2_k (z _), x_up2_k (z _), x_up2_k (z _), x_up2_k (z _), x_up2_k (z _), x_up2_k (z _)]
  · exact adR_AI (by omega) (by omega)
  · exact adR_AI (by omega) (by omega)
/-- only new parts and the word have changed -/
def FP (P : xP) (hv n : Nat) (σ σ' : xS) : Prop := (σ'.K = σ.K ∧ σ'.L = σ.L ∧ σ'.J = σ.J ∧ σ'.R = σ.R ∧ σ'.AJ = σ.AJ ∧ σ'.AR = σ.AR ∧ σ'.sz = σ.sz ∧ σ'.su = σ.su) ∧ (∀ f a, ¬ (a = P.base + 11 ∧ 1134 ≤ f ∧ f ≤ 1139) → σ'.I f a = σ.I f a) ∧ (∀ a i, (∀ k, a = P.base + k → ¬ ((k = 24 ∧ i = hv) ∨ (25 ≤ k ∧ k ≤ 29 ∧ 512 * hv + n ≤ i ∧ i < 512 * hv + 512))) → σ'.AI a i = σ.AI a i)
theorem FP.refl (P : xP) (hv n : Nat) (σ : xS) : FP P hv n σ σ := ⟨⟨rfl, rfl, rfl, rfl, rfl, rfl, rfl, rfl⟩, fun _ _ _ => rfl, fun _ _ _ => rfl⟩
theorem FP.trans {P : xP} {hv n n' : Nat} {σ σ' σ'' : xS} (h : FP P hv n σ σ') (k : FP P hv n' σ' σ'') (hn : n ≤ n') : FP P hv n σ σ'' := by
  obtain ⟨⟨a1, a2, a3, a4, a5, a6, a7, a8⟩, a9, a10⟩ := h
  obtain ⟨⟨b1, b2, b3, b4, b5, b6, b7, b8⟩, b9, b10⟩ := k
  refine ⟨⟨b1.trans a1, b2.trans a2, b3.trans a3, b4.trans a4, b5.trans a5, b6.trans a6, b7.trans a7, b8.trans a8⟩, fun f a hf => (b9 f a hf).trans (a9 f a hf), fun a i ha => (b10 a i (fun k hk z => ha k hk (by omega))).trans (a10 a i ha)⟩
theorem FL.fp {P : xP} {hv n : Nat} {σ σ' : xS} (h : FL P σ σ') : FP P hv n σ σ' := by
  obtain ⟨a1, a2, a3, a4, a5, a6, a7, a8, a9, a10⟩ := h
  exact ⟨⟨a1, a2, a3, a4, a6, a7, a8, a9⟩, a10, fun a i _ => by rw [a5]⟩
theorem FP.fm {P : xP} {hv M pl n : Nat} {σ σ' : xS} (h : FP P hv n σ σ') : FM P hv M pl n σ σ' := by
  refine ⟨h.1, h.2.1, fun a i ha => h.2.2 a i (fun k hk z => ha k hk (by omega)), fun r r1 r2 => ⟨fun k hk => h.2.2 _ _ (fun k' hk' => by omega), fun q _ _ => h.2.2 _ _ (fun k' hk' => by omega)⟩⟩
theorem adR_FP {P : xP} {hv n : Nat} {σ : xS} {so pl k a b : Int32} (hn : n < 512) : FP P hv n σ (adR P hv n σ so pl k a b) := by
  refine ⟨⟨rfl, rfl, rfl, rfl, rfl, rfl, rfl, rfl⟩, fun _ _ _ => rfl, fun ad i ha => ?_⟩
  by_cases e : ∃ c, ad = P.base + c
  · obtain ⟨c, rfl⟩ := e
    have := ha c rfl
    exact adR_AI (by omega) (by omega)
  · have z : ∀ c, ¬ ad = P.base + c := fun c z => e ⟨c, z⟩
    unfold adR
    simp only [q_K_setI, q_I_setI, q_J_setI, q_R_setI, q_L_setI, q_AI_setI, q_AJ_setI, q_AR_setI, q_sz_setI, q_su_setI, q_K_setJ, q_I_setJ, q_J_setJ, q_R_setJ, q_L_setJ, q_AI_setJ, q_AJ_setJ, q_AR_setJ, q_sz_setJ, q_su_setJ, q_K_setR, q_I_setR, q_J_setR, q_R_setR, q_L_setR, q_AI_setR, q_AJ_setR, q_AR_setR, q_sz_setR, q_su_setR, q_K_setAI, q_I_setAI, q_J_setAI, q_R_setAI, q_L_setAI, q_AI_setAI, q_AJ_setAI, q_AR_setAI, q_sz_setAI, q_su_setAI, q_K_setAJ, q_I_setAJ, q_J_setAJ, q_R_setAJ, q_L_setAJ, q_AI_setAJ, q_AJ_setAJ, q_AR_setAJ, q_sz_setAJ, q_su_setAJ, q_K_setAR, q_I_setAR, q_J_setAR, q_R_setAR, q_L_setAR, q_AI_setAR, q_AJ_setAR, q_AR_setAR, q_sz_setAR, q_su_setAR, q_K_newO, q_I_newO, q_J_newO, q_R_newO, q_L_newO, q_AI_newO, q_AJ_newO, q_AR_newO, q_sz_newO, q_su_newO, q_K_newA, q_I_newA, q_J_newA, q_R_newA, q_L_newA, q_AI_newA, q_AJ_newA, q_AR_newA, q_sz_newA, q_su_newA, q_K_skip, q_I_skip, q_J_skip, q_R_skip, q_L_skip, q_AI_skip, q_AJ_skip, q_AR_skip, q_sz_skip, q_su_skip]
    rw [x_up2_k (z _), x_up2_k (z _), x_up2_k (z _), x_up2_k (z _), x_up2_k (z _), x_up2_k (z _)]
theorem RRef.ad {P : xP} {T : xT} {hv n : Nat} {σ : xS} {ns : List xNet} {r : Nat} {x : xPart} {so pl k a b : Int32} (h : RRef P σ T hv n ns r x) : RRef P (adR P hv n σ so pl k a b) T hv (n + 1) ns r x := by
  obtain ⟨h1, h2, h3, h4, h5, h6⟩ := h
  have q : ∀ c, 25 ≤ c → c ≤ 29 → (adR P hv n σ so pl k a b).AI (P.base + c) r = σ.AI (P.base + c) r := fun c _ _ => adR_AI (by omega) (by omega)
  unfold RRef
  rw [q 25 (by omega) (by omega), q 26 (by omega) (by omega), q 27 (by omega) (by omega), q 28 (by omega) (by omega), q 29 (by omega) (by omega)]
  exact ⟨⟨h1.1, by omega⟩, h2, h3, h4, h5, h6⟩
/-- the state behind a part -/
theorem RX.ad {P : xP} {T : xT} {hv : Nat} {lng : Bool} {ms : List xMod} {m : xMod} {n : Nat} {σ : xS} {p : Nat} (h : RX P T hv lng ms m n σ p) {so pl k a b : Int32} (hs : RSl T (n + 1) p) : RX P T hv lng ms m (n + 1) (adR P hv n σ so pl k a b) p := by
  obtain ⟨h1, h2, h3, h4, ⟨h5, h6⟩, ⟨ni, h7⟩, h8, h9, h10⟩ := h
  have n5 := h6.b h1.2.1 h2.1
  have f := adR_FM (P := P) (hv := hv) (M := 8 * hv + ms.length) (pl' := m.pl) (n := n) (σ := σ) (so := so) (pl := pl) (k := k) (a := a) (b := b) (by omega)
  have md : ∀ M' m' p' ni, WX lng m' p' → RMc P σ T hv n M' m' ni → RMc P (adR P hv n σ so pl k a b) T hv (n + 1) M' m' ni := by
    intro M' m' p' ni hw hm
    exact hm.ag hw (fun c i hc => adR_AI (by unfold cl at hc; omega) (by unfold cl at hc; omega)) (fun r x _ hr => hr.ad)
  refine ⟨f.tx h1, h2, h3, h4, ⟨?_, hs⟩, ⟨ni, md _ _ _ _ h8 h7⟩, h8, h9, fun k' m' hm' => md _ _ _ _ (h9.2.2.1 m' (List.mem_of_getElem? hm')).1 (h10 k' m' hm')⟩
  unfold adR
  simp [q_K_setI, q_I_setI, q_J_setI, q_R_setI, q_L_setI, q_AI_setI, q_AJ_setI, q_AR_setI, q_sz_setI, q_su_setI, q_K_setJ, q_I_setJ, q_J_setJ, q_R_setJ, q_L_setJ, q_AI_setJ, q_AJ_setJ, q_AR_setJ, q_sz_setJ, q_su_setJ, q_K_setR, q_I_setR, q_J_setR, q_R_setR, q_L_setR, q_AI_setR, q_AJ_setR, q_AR_setR, q_sz_setR, q_su_setR, q_K_setAI, q_I_setAI, q_J_setAI, q_R_setAI, q_L_setAI, q_AI_setAI, q_AJ_setAI, q_AR_setAI, q_sz_setAI, q_su_setAI, q_K_setAJ, q_I_setAJ, q_J_setAJ, q_R_setAJ, q_L_setAJ, q_AI_setAJ, q_AJ_setAJ, q_AR_setAJ, q_sz_setAJ, q_su_setAJ, q_K_setAR, q_I_setAR, q_J_setAR, q_R_setAR, q_L_setAR, q_AI_setAR, q_AJ_setAR, q_AR_setAR, q_sz_setAR, q_su_setAR, q_K_newO, q_I_newO, q_J_newO, q_R_newO, q_L_newO, q_AI_newO, q_AJ_newO, q_AR_newO, q_sz_newO, q_su_newO, q_K_newA, q_I_newA, q_J_newA, q_R_newA, q_L_newA, q_AI_newA, q_AJ_newA, q_AR_newA, q_sz_newA, q_su_newA, q_K_skip, q_I_skip, q_J_skip, q_R_skip, q_L_skip, q_AI_skip, q_AJ_skip, q_AR_skip, q_sz_skip, q_su_skip, q_up2, q_up]
