/-! ===== the class: what each instance is of ===== -/
def FK (lo hi : Nat) (σ σ' : xS) : Prop := σ'.K = σ.K ∧ σ'.I = σ.I ∧ σ'.J = σ.J ∧ σ'.L = σ.L ∧ σ'.AI = σ.AI ∧ σ'.AJ = σ.AJ ∧ σ'.AR = σ.AR ∧ σ'.sz = σ.sz ∧ σ'.su = σ.su ∧ (∀ f a, f ≠ 106 → σ'.R f a = σ.R f a) ∧ (∀ a, ¬ (lo ≤ a ∧ a < hi) → σ'.R 106 a = σ.R 106 a)
theorem FK.refl (lo hi : Nat) (σ : xS) : FK lo hi σ σ := ⟨rfl, rfl, rfl, rfl, rfl, rfl, rfl, rfl, rfl, fun _ _ _ => rfl, fun _ _ => rfl⟩
theorem FK.sm {lo hi : Nat} {σ σ' : xS} (h : FK lo hi σ σ') {b : Nat} (hb : ¬ (lo ≤ b ∧ b < hi)) : Sm σ σ' b := by
  obtain ⟨h1, h2, h3, h4, h5, h6, h7, h8, h9, h10, h11⟩ := h
  refine ⟨by rw [h1], by rw [h4], fun f => by rw [h2], fun f => by rw [h3], fun f => ?_, fun i => by rw [h5], fun i => by rw [h6], fun i => by rw [h7]⟩
  by_cases e : f = 106
  · subst e; exact h11 b hb
  · exact h10 f b e
theorem FK.fr {P : xP} {lo hi : Nat} {σ σ' : xS} (h : FK lo hi σ σ') (hl : P.base + 2 ≤ lo) : Fr P lo 0 σ σ' := by
  have q := h.sm (b := P.base + 1) (by omega)
  refine ⟨fun a ha _ => h.sm (by omega), ⟨q.1, fun f _ => q.2.2.1 f, q.2.2.2.2.1⟩, ?_⟩
  obtain ⟨h1, h2, h3, h4, h5, h6, h7, h8, h9, h10, h11⟩ := h
  exact ⟨by omega, by omega, by omega⟩
theorem FK.up {lo hi lo' hi' : Nat} {σ σ' : xS} (h : FK lo hi σ σ') (h1 : lo' ≤ lo) (h2 : hi ≤ hi') : FK lo' hi' σ σ' := ⟨h.1, h.2.1, h.2.2.1, h.2.2.2.1, h.2.2.2.2.1, h.2.2.2.2.2.1, h.2.2.2.2.2.2.1, h.2.2.2.2.2.2.2.1, h.2.2.2.2.2.2.2.2.1, h.2.2.2.2.2.2.2.2.2.1, fun a ha => h.2.2.2.2.2.2.2.2.2.2 a (by omega)⟩
theorem FK.trans {lo hi : Nat} {σ σ' σ'' : xS} (h : FK lo hi σ σ') (k : FK lo hi σ' σ'') : FK lo hi σ σ'' := by
  obtain ⟨h1, h2, h3, h4, h5, h6, h7, h8, h9, h10, h11⟩ := h
  obtain ⟨k1, k2, k3, k4, k5, k6, k7, k8, k9, k10, k11⟩ := k
  exact ⟨k1.trans h1, k2.trans h2, k3.trans h3, k4.trans h4, k5.trans h5, k6.trans h6, k7.trans h7, k8.trans h8, k9.trans h9, fun f a hf => (k10 f a hf).trans (h10 f a hf), fun a ha => (k11 a ha).trans (h11 a ha)⟩
def NmR (σ : xS) (D : Nat) (A : Nat → Nat) (ms : List xMod) : Prop := σ.K D = 1 ∧ σ.R 0 D = some (D + 1) ∧ σ.K (D + 1) = 27 ∧ σ.L (D + 1) = 8 ∧ σ.I 1 D = nI ms.length ∧ ms.length ≤ 8 ∧ ∀ j m, ms[j]? = some m → σ.AR (D + 1) j = some (A j) ∧ σ.K (A j) = 6 ∧ σ.J 501 (A j) = pk m.nm ∧ nm_ok m.nm
theorem DR.nm {P : xP} {σ : xS} {kd : Nat → List Nat → Option Nat} {D : Nat} {A H : Nat → Nat} {G : Nat → List Nat → Nat} {ms : List xMod} {top : Nat} (h : DR P σ kd D A H G ms top) (hc : σ.I 1 D = nI ms.length) (hn : ∀ m ∈ ms, nm_ok m.nm) : NmR σ D A ms := by
  obtain ⟨⟨a1, a2, a3, a4, a5, a6, a7⟩, h2⟩ := h
  refine ⟨a3, a4, a5, a6, hc, a7, fun j m hm => ?_⟩
  obtain ⟨q1, q2, q3, q4, q5, q6, q7⟩ := h2 j m hm
  exact ⟨q1, q6.1.2.1, q6.1.2.2.2.1, hn m (List.mem_of_getElem? hm)⟩
theorem NmR.fk {lo hi : Nat} {σ σ' : xS} {D : Nat} {A : Nat → Nat} {ms : List xMod} (h : NmR σ D A ms) (f : FK lo hi σ σ') : NmR σ' D A ms := by
  obtain ⟨h1, h2, h3, h4, h5, h6, h7, h8, h9, h10, h11⟩ := f
  obtain ⟨a1, a2, a3, a4, a5, a6, a7⟩ := h
  refine ⟨by rw [h1]; exact a1, by rw [h10 0 D (by omega)]; exact a2, by rw [h1]; exact a3, by rw [h4]; exact a4, by rw [h2]; exact a5, a6, fun j m hm => ?_⟩
  rw [h7, h1, h3]
  exact a7 j m hm
theorem cw_mnL {P : xP} {σ : xS} {D : Nat} {A : Nat → Nat} {ms : List xMod} (h : NmR σ D A ms) {nm : List Nat} (ho : nm_ok nm) : ∀ (r j n : Nat), j + r = ms.length → r < n → dm_X0_moduleNamed_L2 P D n (pk nm) (nI j) σ = some (.inl (((ms.drop j).findIdx? fun m => decide (m.nm = nm)).map fun i => A (i + j)), σ) := by
  obtain ⟨a3, a4, a5, a6, hc, a7, h2⟩ := h
  intro r
  induction r with
  | zero =>
    intro j n hj hn
    obtain ⟨n, rfl⟩ : ∃ m, n = m + 1 := ⟨n - 1, by omega⟩
    have e : ms.drop j = [] := List.drop_eq_nil_of_le (by omega)
    rw [e]
    unfold dm_X0_moduleNamed_L2
    simp (disch := first | assumption | omega) [x_chk, x_some, x_bind, x_let, lit_nI, nI_add, nI_mul, nI_sub, nI_clamp, nI_eq, nI_ltI, nI_leI, nN_e, nI_nN, nN_nI, bI_0, bI_1, bI_n, bool_0, bool_1, in_T, lg_cmp0, ofN_nI, a3, hc, dle_T]
  | succ r ih =>
    intro j n hj hn'
    obtain ⟨n, rfl⟩ : ∃ m, n = m + 1 := ⟨n - 1, by omega⟩
    obtain ⟨x, hx⟩ : ∃ x, ms[j]? = some x := ⟨_, List.getElem?_eq_getElem (by omega)⟩
    have ed : ms.drop j = x :: ms.drop (j + 1) := by
      obtain ⟨hlt, hx3⟩ := List.getElem?_eq_some_iff.mp hx
      rw [List.drop_eq_getElem_cons hlt, hx3]
    obtain ⟨q1, b2, b4, no⟩ := h2 j x hx
    have ihh := ih (j + 1) n (by omega) (by omega)
    rw [ed]
    unfold dm_X0_moduleNamed_L2
    have i2 : ¬ ms.length ≤ j := by omega
    by_cases e : x.nm = nm
    · subst e
      simp (disch := first | assumption | omega) [x_chk, x_some, x_bind, x_let, lit_nI, nI_add, nI_mul, nI_sub, nI_clamp, nI_eq, nI_ltI, nI_leI, nN_e, nI_nN, nN_nI, bI_0, bI_1, bI_n, bool_0, bool_1, in_T, lg_cmp0, ofN_nI, i2, a3, a4, a5, a6, hc, q1, b2, b4, dlt_T, List.findIdx?_cons]
    · have em : (((ms.drop (j + 1)).findIdx? fun m => decide (m.nm = nm)).map fun i => A (i + (j + 1))) = (((x :: ms.drop (j + 1)).findIdx? fun m => decide (m.nm = nm)).map fun i => A (i + j)) := by
        rw [List.findIdx?_cons]
        simp only [e, decide_false, Bool.false_eq_true, if_false, Option.map_map]
        congr 1
        funext i
        simp only [Function.comp]
        congr 1
        omega
      rw [← em]
      simp (disch := first | assumption | omega) [x_chk, x_some, x_bind, x_let, lit_nI, nI_add, nI_mul, nI_sub, nI_clamp, nI_eq, nI_ltI, nI_leI, nN_e, nI_nN, nN_nI, bI_0, bI_1, bI_n, bool_0, bool_1, in_T, lg_cmp0, ofN_nI, i2, a3, a4, a5, a6, hc, q1, b2, b4, pk_iff', e, dlt_T, ihh]
theorem cw_mn {P : xP} {σ : xS} {D : Nat} {A : Nat → Nat} {ms : List xMod} (hN : 5000 ≤ P.N) (h : NmR σ D A ms) {nm : List Nat} (ho : nm_ok nm) : dm_X0_moduleNamed P D (pk nm) σ = some (.inl ((sp_kind ms nm).map A), σ) := by
  have q := cw_mnL (P := P) h ho ms.length 0 P.N (by omega) (by have := h.2.2.2.2.2.1; omega)
  exact q
theorem cw_nkL {P : xP} {σ0 : xS} {kd : List Nat → Option Nat} {g : List Nat → Nat} {D M hi ix : Nat} {A : Nat → Nat} {ms : List xMod} {m : xMod} (hN : 5000 ≤ P.N) (h : NmR σ0 D A ms) (hM : P.base + 44 ≤ M) (hm : MR σ0 g kd ix M hi m) (hw : ∀ i ∈ m.ins, nm_ok i.1) : ∀ (r j n : Nat) (σ : xS), j + r = m.ins.length → r < n → FK M hi σ0 σ → (∀ k x a, k < j → m.ins[k]? = some x → σ0.AR (M + 4) k = some a → σ.R 106 a = (sp_kind ms x.1).map A) → ∃ σ', dm_X0_nameKinds_L2 P D n (some M) (nI j) σ = some (.inl (), σ') ∧ FK M hi σ0 σ' ∧ ∀ k x a, m.ins[k]? = some x → σ0.AR (M + 4) k = some a → σ'.R 106 a = (sp_kind ms x.1).map A := by
  obtain ⟨⟨a1, a2, a3, a4, a5⟩, -, -, ⟨d1, d2, d3, d4, d5⟩, -, -, e3⟩ := hm
  intro r
  induction r with
  | zero =>
    intro j n σ hj hn f hk
    obtain ⟨n, rfl⟩ : ∃ m, n = m + 1 := ⟨n - 1, by omega⟩
    have a2' : σ.K M = 6 := by rw [f.1]; exact a2
    have d4' : σ.I 511 M = nI m.ins.length := by rw [f.2.1]; exact d4
    refine ⟨σ, ?_, f, fun k x a hx => hk k x a (by have := get_lt hx; omega) hx⟩
    unfold dm_X0_nameKinds_L2
    simp (disch := first | assumption | omega) [x_chk, x_some, x_bind, x_let, lit_nI, nI_add, nI_mul, nI_sub, nI_clamp, nI_eq, nI_ltI, nI_leI, nN_e, nI_nN, nN_nI, bI_0, bI_1, bI_n, bool_0, bool_1, in_T, lg_cmp0, ofN_nI, a2', d4', dle_T]
  | succ r ih =>
    intro j n σ hj hn f hk
    obtain ⟨n, rfl⟩ : ∃ m, n = m + 1 := ⟨n - 1, by omega⟩
    obtain ⟨x, hx⟩ : ∃ x, m.ins[j]? = some x := ⟨_, List.getElem?_eq_getElem (by omega)⟩
    obtain ⟨a, q1, q2⟩ := e3 j x hx
    have a2' : σ.K M = 6 := by rw [f.1]; exact a2
    have d1' : σ.R 510 M = some (M + 4) := by rw [f.2.2.2.2.2.2.2.2.2.1 510 M (by omega)]; exact d1
    have d2' : σ.K (M + 4) = 24 := by rw [f.1]; exact d2
    have d3' : σ.L (M + 4) = 12 := by rw [f.2.2.2.1]; exact d3
    have d4' : σ.I 511 M = nI m.ins.length := by rw [f.2.1]; exact d4
    have q1' : σ.AR (M + 4) j = some a := by rw [f.2.2.2.2.2.2.1]; exact q1
    have k2' : σ.K a = 2 := by rw [f.1]; exact q2.2.2.1
    have j1' : σ.J 100 a = pk x.1 := by rw [f.2.2.1]; exact q2.2.2.2.1
    have kD := (h.fk f).1
    have al := q2.1
    have ah := q2.2.1
    have mn := cw_mn hN (h.fk f) (hw x (List.mem_of_getElem? hx))
    have f1 : FK M hi σ0 (σ.setR 106 a ((sp_kind ms x.1).map A)) := by
      refine f.trans ⟨rfl, rfl, rfl, rfl, rfl, rfl, rfl, rfl, rfl, fun y b hy => ?_, fun b hb => ?_⟩
      · simp [q_K_setI, q_I_setI, q_J_setI, q_R_setI, q_L_setI, q_AI_setI, q_AJ_setI, q_AR_setI, q_sz_setI, q_su_setI, q_K_setJ, q_I_setJ, q_J_setJ, q_R_setJ, q_L_setJ, q_AI_setJ, q_AJ_setJ, q_AR_setJ, q_sz_setJ, q_su_setJ, q_K_setR, q_I_setR, q_J_setR, q_R_setR, q_L_setR, q_AI_setR, q_AJ_setR, q_AR_setR, q_sz_setR, q_su_setR, q_K_setAI, q_I_setAI, q_J_setAI, q_R_setAI, q_L_setAI, q_AI_setAI, q_AJ_setAI, q_AR_setAI, q_sz_setAI, q_su_setAI, q_K_setAJ, q_I_setAJ, q_J_setAJ, q_R_setAJ, q_L_setAJ, q_AI_setAJ, q_AJ_setAJ, q_AR_setAJ, q_sz_setAJ, q_su_setAJ, q_K_setAR, q_I_setAR, q_J_setAR, q_R_setAR, q_L_setAR, q_AI_setAR, q_AJ_setAR, q_AR_setAR, q_sz_setAR, q_su_setAR, q_K_newO, q_I_newO, q_J_newO, q_R_newO, q_L_newO, q_AI_newO, q_AJ_newO, q_AR_newO, q_sz_newO, q_su_newO, q_K_newA, q_I_newA, q_J_newA, q_R_newA, q_L_newA, q_AI_newA, q_AJ_newA, q_AR_newA, q_sz_newA, q_su_newA, q_K_skip, q_I_skip, q_J_skip, q_R_skip, q_L_skip, q_AI_skip, q_AJ_skip, q_AR_skip, q_sz_skip, q_su_skip, q_up2, q_up, hy]
      · have : ¬ b = a := by omega
        simp [q_K_setI, q_I_setI, q_J_setI, q_R_setI, q_L_setI, q_AI_setI, q_AJ_setI, q_AR_setI, q_sz_setI, q_su_setI, q_K_setJ, q_I_setJ, q_J_setJ, q_R_setJ, q_L_setJ, q_AI_setJ, q_AJ_setJ, q_AR_setJ, q_sz_setJ, q_su_setJ, q_K_setR, q_I_setR, q_J_setR, q_R_setR, q_L_setR, q_AI_setR, q_AJ_setR, q_AR_setR, q_sz_setR, q_su_setR, q_K_setAI, q_I_setAI, q_J_setAI, q_R_setAI, q_L_setAI, q_AI_setAI, q_AJ_setAI, q_AR_setAI, q_sz_setAI, q_su_setAI, q_K_setAJ, q_I_setAJ, q_J_setAJ, q_R_setAJ, q_L_setAJ, q_AI_setAJ, q_AJ_setAJ, q_AR_setAJ, q_sz_setAJ, q_su_setAJ, q_K_setAR, q_I_setAR, q_J_setAR, q_R_setAR, q_L_setAR, q_AI_setAR, q_AJ_setAR, q_AR_setAR, q_sz_setAR, q_su_setAR, q_K_newO, q_I_newO, q_J_newO, q_R_newO, q_L_newO, q_AI_newO, q_AJ_newO, q_AR_newO, q_sz_newO, q_su_newO, q_K_newA, q_I_newA, q_J_newA, q_R_newA, q_L_newA, q_AI_newA, q_AJ_newA, q_AR_newA, q_sz_newA, q_su_newA, q_K_skip, q_I_skip, q_J_skip, q_R_skip, q_L_skip, q_AI_skip, q_AJ_skip, q_AR_skip, q_sz_skip, q_su_skip, q_up2, q_up, this]
    obtain ⟨σ', t1, t2, t3⟩ := ih (j + 1) n (σ.setR 106 a ((sp_kind ms x.1).map A)) (by omega) (by omega) f1 (fun k y b hk' hy hb => by
      by_cases e : b = a
      · subst e
        obtain ⟨c, u1, u2⟩ := e3 k y hy
        rw [hb] at u1
        cases u1
        have z : pk y.1 = pk x.1 := u2.2.2.2.1.symm.trans q2.2.2.2.1
        rw [pk_inj (hw y (List.mem_of_getElem? hy)) (hw x (List.mem_of_getElem? hx)) z]
        simp [q_K_setI, q_I_setI, q_J_setI, q_R_setI, q_L_setI, q_AI_setI, q_AJ_setI, q_AR_setI, q_sz_setI, q_su_setI, q_K_setJ, q_I_setJ, q_J_setJ, q_R_setJ, q_L_setJ, q_AI_setJ, q_AJ_setJ, q_AR_setJ, q_sz_setJ, q_su_setJ, q_K_setR, q_I_setR, q_J_setR, q_R_setR, q_L_setR, q_AI_setR, q_AJ_setR, q_AR_setR, q_sz_setR, q_su_setR, q_K_setAI, q_I_setAI, q_J_setAI, q_R_setAI, q_L_setAI, q_AI_setAI, q_AJ_setAI, q_AR_setAI, q_sz_setAI, q_su_setAI, q_K_setAJ, q_I_setAJ, q_J_setAJ, q_R_setAJ, q_L_setAJ, q_AI_setAJ, q_AJ_setAJ, q_AR_setAJ, q_sz_setAJ, q_su_setAJ, q_K_setAR, q_I_setAR, q_J_setAR, q_R_setAR, q_L_setAR, q_AI_setAR, q_AJ_setAR, q_AR_setAR, q_sz_setAR, q_su_setAR, q_K_newO, q_I_newO, q_J_newO, q_R_newO, q_L_newO, q_AI_newO, q_AJ_newO, q_AR_newO, q_sz_newO, q_su_newO, q_K_newA, q_I_newA, q_J_newA, q_R_newA, q_L_newA, q_AI_newA, q_AJ_newA, q_AR_newA, q_sz_newA, q_su_newA, q_K_skip, q_I_skip, q_J_skip, q_R_skip, q_L_skip, q_AI_skip, q_AJ_skip, q_AR_skip, q_sz_skip, q_su_skip, q_up2, q_up]
      · have ne : k ≠ j := by
          intro z
          subst z
          rw [q1] at hb
          cases hb
          exact e rfl
        have := hk k y b (by omega) hy hb
        simp [q_K_setI, q_I_setI, q_J_setI, q_R_setI, q_L_setI, q_AI_setI, q_AJ_setI, q_AR_setI, q_sz_setI, q_su_setI, q_K_setJ, q_I_setJ, q_J_setJ, q_R_setJ, q_L_setJ, q_AI_setJ, q_AJ_setJ, q_AR_setJ, q_sz_setJ, q_su_setJ, q_K_setR, q_I_setR, q_J_setR, q_R_setR, q_L_setR, q_AI_setR, q_AJ_setR, q_AR_setR, q_sz_setR, q_su_setR, q_K_setAI, q_I_setAI, q_J_setAI, q_R_setAI, q_L_setAI, q_AI_setAI, q_AJ_setAI, q_AR_setAI, q_sz_setAI, q_su_setAI, q_K_setAJ, q_I_setAJ, q_J_setAJ, q_R_setAJ, q_L_setAJ, q_AI_setAJ, q_AJ_setAJ, q_AR_setAJ, q_sz_setAJ, q_su_setAJ, q_K_setAR, q_I_setAR, q_J_setAR, q_R_setAR, q_L_setAR, q_AI_setAR, q_AJ_setAR, q_AR_setAR, q_sz_setAR, q_su_setAR, q_K_newO, q_I_newO, q_J_newO, q_R_newO, q_L_newO, q_AI_newO, q_AJ_newO, q_AR_newO, q_sz_newO, q_su_newO, q_K_newA, q_I_newA, q_J_newA, q_R_newA, q_L_newA, q_AI_newA, q_AJ_newA, q_AR_newA, q_sz_newA, q_su_newA, q_K_skip, q_I_skip, q_J_skip, q_R_skip, q_L_skip, q_AI_skip, q_AJ_skip, q_AR_skip, q_sz_skip, q_su_skip, q_up2, q_up, e, this])
    refine ⟨σ', ?_, t2, t3⟩
    unfold dm_X0_nameKinds_L2
    rw [← t1]
    have i2 : ¬ m.ins.length ≤ j := by omega
    simp (disch := first | assumption | omega) [ck_T, sm_s, bd_l, bd_r, lt_e, eq_self, and_self, if_true, true_and, and_true, lit_nI, nI_add, nI_mul, nI_sub, nI_clamp, nI_eq, nI_ltI, nI_leI, nN_e, nI_nN, nN_nI, bI_0, bI_1, bI_n, bool_0, bool_1, in_T, lg_cmp0, ofN_nI, i2, a2', d1', d2', d3', d4', q1', k2', j1', kD, mn, dlt_T, dle_T, x_in]
/-- the kinds are told -/
theorem InsR.kd {σ σ' : xS} {g : List Nat → Nat} {kd kd' : List Nat → Option Nat} {lo hi M h2 a : Nat} {x : xIns} (h : InsR σ g kd lo hi a x) (f : FK M h2 σ σ') (hk : σ'.R 106 a = kd' x.1) : InsR σ' g kd' lo hi a x := by
  have s : Sms σ (σ'.K, σ'.I, σ'.J, (fun f a => if f = 106 then σ.R f a else σ'.R f a), σ'.L, σ'.AI, σ'.AJ, σ'.AR, σ'.sz, σ'.su) lo hi := by
    intro b _ _
    obtain ⟨f1, f2, f3, f4, f5, f6, f7, f8, f9, f10, f11⟩ := f
    refine ⟨by rw [← f1]; rfl, by rw [← f4]; rfl, fun f => by rw [← f2]; rfl, fun f => by rw [← f3]; rfl, fun f => ?_, fun i => by rw [← f5]; rfl, fun i => by rw [← f6]; rfl, fun i => by rw [← f7]; rfl⟩
    show (if f = 106 then σ.R f b else σ'.R f b) = σ.R f b
    split
    · rfl
    · rename_i q; exact f10 f b q
  have q := InsR.sm h s (Nat.le_refl _)
  obtain ⟨h1, h2, h3, h4, h5, h6, h7, h8, h9, h10, h11, h12, h13, h14⟩ := q
  exact ⟨h1, h2, h3, h4, h5, h6, h7, h8, h9, h10, h11, hk, h13, h14⟩
theorem MRc.kd {σ σ' : xS} {g : List Nat → Nat} {kd kd' : List Nat → Option Nat} {ix M hi ni : Nat} {m : xMod} (h : MRc σ g kd ix M hi m ni) (f : FK M hi σ σ') (hk : ∀ k x a, m.ins[k]? = some x → σ.AR (M + 4) k = some a → σ'.R 106 a = kd' x.1) : MRc σ' g kd' ix M hi m ni := by
  have s : Sms σ (σ'.K, σ'.I, σ'.J, (fun f a => if f = 106 then σ.R f a else σ'.R f a), σ'.L, σ'.AI, σ'.AJ, σ'.AR, σ'.sz, σ'.su) M hi := by
    intro b _ _
    obtain ⟨f1, f2, f3, f4, f5, f6, f7, f8, f9, f10, f11⟩ := f
    refine ⟨by rw [← f1]; rfl, by rw [← f4]; rfl, fun f => by rw [← f2]; rfl, fun f => by rw [← f3]; rfl, fun f => ?_, fun i => by rw [← f5]; rfl, fun i => by rw [← f6]; rfl, fun i => by rw [← f7]; rfl⟩
    show (if f = 106 then σ.R f b else σ'.R f b) = σ.R f b
    split
    · rfl
    · rename_i q; exact f10 f b q
  have q := MRc.sm h s (Nat.le_refl _)
  obtain ⟨h1, h2, h3, h4, h5, h6, h7⟩ := q
  refine ⟨h1, h2, h3, h4, h5, h6, fun k x hx => ?_⟩
  obtain ⟨a, q1, q2⟩ := h.2.2.2.2.2.2 k x hx
  exact ⟨a, by rw [f.2.2.2.2.2.2.1]; exact q1, q2.kd f (hk k x a hx q1)⟩
theorem cw_nameKinds {P : xP} {σ : xS} {kd : Nat → List Nat → Option Nat} {D : Nat} {A H : Nat → Nat} {G : Nat → List Nat → Nat} {ms : List xMod} {m : xMod} {top i : Nat} (hN : 5000 ≤ P.N) (h : DR P σ kd D A H G ms top) (hc : σ.I 1 D = nI ms.length) (hn : ∀ m ∈ ms, nm_ok m.nm) (hi : ms[i]? = some m) (hw : ∀ i ∈ m.ins, nm_ok i.1) : ∃ σ', dm_X0_nameKinds P D (some (A i)) σ = some (.inl (), σ') ∧ FK (D + 2) top σ σ' ∧ DR P σ' (fun j => if j = i then (fun f => (sp_kind ms f).map A) else kd j) D A H G ms top := by
  obtain ⟨q1, q2, q3, q4, q5, q6, q7⟩ := h.2 i m hi
  have mn := h.nm hc hn
  obtain ⟨σ', t1, t2, t3⟩ := cw_nkL (P := P) hN mn q3 q6 hw m.ins.length 0 P.N σ (by omega) (by have := q6.2.2.2.1.2.2.2.2; omega) (FK.refl _ _ σ) (fun k x a hk => by omega)
  refine ⟨σ', t1, t2.up q2 q4, ?_, fun j y hy => ?_⟩
  · obtain ⟨a1, a2, a3, a4, a5, a6, a7⟩ := h.1
    refine ⟨a1, a2, by rw [t2.1]; exact a3, by rw [t2.2.2.2.2.2.2.2.2.2.1 0 D (by omega)]; exact a4, by rw [t2.1]; exact a5, by rw [t2.2.2.2.1]; exact a6, a7⟩
  · by_cases e : j = i
    · subst e
      rw [hi] at hy
      cases hy
      simp only [if_true]
      refine ⟨by rw [t2.2.2.2.2.2.2.1]; exact q1, q2, q3, q4, q5, MRc.kd q6 t2 t3, ?_⟩
      refine ⟨by rw [t2.2.1]; exact q7.1, fun k x hx => by rw [t2.2.1]; exact q7.2 k x hx⟩
    · simp only [e, if_false]
      obtain ⟨u1, u2, u3, u4, u5, u6, u7⟩ := h.2 j y hy
      have dis : H j ≤ A i ∨ H i ≤ A j := by
        by_cases z : j < i
        · exact Or.inl (q5 j z)
        · exact Or.inr (u5 i (by omega))
      have s : Sms σ σ' (A j) (H j) := fun b b1 b2 => t2.sm (by omega)
      exact ⟨by rw [t2.2.2.2.2.2.2.1]; exact u1, u2, u3, u4, u5, u6.sm s (Nat.le_refl _), u7.sm u6 s⟩
theorem cw_kindsL {P : xP} {D : Nat} {A H : Nat → Nat} {G : Nat → List Nat → Nat} {ms : List xMod} {top : Nat} (hN : 5000 ≤ P.N) (hn : ∀ m ∈ ms, nm_ok m.nm) (hw : ∀ m ∈ ms, ∀ i ∈ m.ins, nm_ok i.1) : ∀ (r j n : Nat) (σ : xS), j + r = ms.length → r < n → DR P σ (fun i => if i < j then (fun f => (sp_kind ms f).map A) else fun _ => none) D A H G ms top → σ.I 1 D = nI ms.length → ∃ σ', dm_X0_faultAsWhole_L2 P D n (nI j) σ = dm_X0_faultAsWhole_L32 P D P.N (nI 1001) (nI 0) σ' ∧ FK (D + 2) top σ σ' ∧ DR P σ' (fun _ f => (sp_kind ms f).map A) D A H G ms top := by
  intro r
  induction r with
  | zero =>
    intro j n σ hj hn h hc
    obtain ⟨n, rfl⟩ : ∃ m, n = m + 1 := ⟨n - 1, by omega⟩
    have a3 := h.1.2.2.1
    have a7 := h.1.2.2.2.2.2.2
    refine ⟨σ, ?_, FK.refl _ _ σ, h.1, fun i m hm => ?_⟩
    · unfold dm_X0_faultAsWhole_L2
      simp (disch := first | assumption | omega) [ck_T, sm_s, bd_l, bd_r, lt_e, eq_self, and_self, if_true, true_and, and_true, lit_nI, nI_add, nI_mul, nI_sub, nI_clamp, nI_eq, nI_ltI, nI_leI, nN_e, nI_nN, nN_nI, bI_0, bI_1, bI_n, bool_0, bool_1, in_T, lg_cmp0, ofN_nI, a3, hc]
      intro z; omega
    · have := h.2 i m hm
      have hl := get_lt hm
      simp only [show i < j by omega, if_true] at this
      exact this
  | succ r ih =>
    intro j n σ hj hn' h hc
    obtain ⟨n, rfl⟩ : ∃ m, n = m + 1 := ⟨n - 1, by omega⟩
    obtain ⟨x, hx⟩ : ∃ x, ms[j]? = some x := ⟨_, List.getElem?_eq_getElem (by omega)⟩
    obtain ⟨a1, a2, a3, a4, a5, a6, a7⟩ := h.1
    have q1 := (h.2 j x hx).1
    obtain ⟨σ1, t1, t2, t3⟩ := cw_nameKinds hN h hc hn hx (hw x (List.mem_of_getElem? hx))
    have ef : (fun i => if i = j then (fun f => (sp_kind ms f).map A) else (fun i => if i < j then (fun f => (sp_kind ms f).map A) else fun _ => none) i) = (fun i => if i < j + 1 then (fun f => (sp_kind ms f).map A) else fun _ => none) := by
      funext i
      by_cases e : i = j
      · simp [e]
      · by_cases e2 : i < j
        · simp only [e, e2, show i < j + 1 by omega, if_true, if_false]
        · simp only [e, e2, show ¬ i < j + 1 by omega, if_false]
    rw [ef] at t3
    obtain ⟨σ2, s1, s2, s3⟩ := ih (j + 1) n σ1 (by omega) (by omega) t3 (by rw [t2.2.1]; exact hc)
    refine ⟨σ2, ?_, t2.trans s2, s3⟩
    unfold dm_X0_faultAsWhole_L2
    rw [← s1]
    have i2 : ¬ ms.length ≤ j := by omega
    simp (disch := first | assumption | omega) [ck_T, sm_s, bd_l, bd_r, lt_e, eq_self, and_self, if_true, true_and, and_true, lit_nI, nI_add, nI_mul, nI_sub, nI_clamp, nI_eq, nI_ltI, nI_leI, nN_e, nI_nN, nN_nI, bI_0, bI_1, bI_n, bool_0, bool_1, in_T, lg_cmp0, ofN_nI, i2, a3, a4, a5, a6, hc, q1, t1, dlt_T, dle_T, x_in]
