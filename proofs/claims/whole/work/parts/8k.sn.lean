/-! ===== the reference: shortNet ===== -/
theorem PW_3 {ns : List xNet} {x : xPart} (h : PW ns x) : x.1 ≤ 3 := by
  rcases h with q | q
  · have := q.1; omega
  · have := q.1; omega
def adM (P : xP) (M k N : Nat) (σ : xS) (a s w : Int32) : xS := ((((σ.setAI (P.base + 19) (16 * M + k) a).setAI (P.base + 20) (16 * M + k) s).setAI (P.base + 21) (16 * M + k) w).setAI (P.base + 23) (16 * M + k) (nI 1)).setAI (P.base + 18) M (nI (N + 1))
theorem adM_AI {P : xP} {M k N : Nat} {σ : xS} {a s w : Int32} {c i : Nat} (h1 : ¬ ((c = 19 ∨ c = 20 ∨ c = 21 ∨ c = 23) ∧ i = 16 * M + k)) (h2 : ¬ (c = 18 ∧ i = M)) : (adM P M k N σ a s w).AI (P.base + c) i = σ.AI (P.base + c) i := by
  unfold adM
  simp only [q_K_setI, q_I_setI, q_J_setI, q_R_setI, q_L_setI, q_AI_setI, q_AJ_setI, q_AR_setI, q_sz_setI, q_su_setI, q_K_setJ, q_I_setJ, q_J_setJ, q_R_setJ, q_L_setJ, q_AI_setJ, q_AJ_setJ, q_AR_setJ, q_sz_setJ, q_su_setJ, q_K_setR, q_I_setR, q_J_setR, q_R_setR, q_L_setR, q_AI_setR, q_AJ_setR, q_AR_setR, q_sz_setR, q_su_setR, q_K_setAI, q_I_setAI, q_J_setAI, q_R_setAI, q_L_setAI, q_AI_setAI, q_AJ_setAI, q_AR_setAI, q_sz_setAI, q_su_setAI, q_K_setAJ, q_I_setAJ, q_J_setAJ, q_R_setAJ, q_L_setAJ, q_AI_setAJ, q_AJ_setAJ, q_AR_setAJ, q_sz_setAJ, q_su_setAJ, q_K_setAR, q_I_setAR, q_J_setAR, q_R_setAR, q_L_setAR, q_AI_setAR, q_AJ_setAR, q_AR_setAR, q_sz_setAR, q_su_setAR, q_K_newO, q_I_newO, q_J_newO, q_R_newO, q_L_newO, q_AI_newO, q_AJ_newO, q_AR_newO, q_sz_newO, q_su_newO, q_K_newA, q_I_newA, q_J_newA, q_R_newA, q_L_newA, q_AI_newA, q_AJ_newA, q_AR_newA, q_sz_newA, q_su_newA, q_K_skip, q_I_skip, q_J_skip, q_R_skip, q_L_skip, q_AI_skip, q_AJ_skip, q_AR_skip, q_sz_skip, q_su_skip]
  rw [up2_ne (by omega), up2_ne (by omega), up2_ne (by omega), up2_ne (by omega), up2_ne (by omega)]
theorem adM_FM {P : xP} {hv M pl n k N : Nat} {σ : xS} {a s w : Int32} (hk : k < 16) : FM P hv M pl n σ (adM P M k N σ a s w) := by
  unfold adM
  refine FM.trans (FM.trans (FM.trans (FM.trans (FM.set (by unfold cl; omega)) (FM.set (by unfold cl; omega)) (Nat.le_refl _)) (FM.set (by unfold cl; omega)) (Nat.le_refl _)) (FM.set (by unfold cl; omega)) (Nat.le_refl _)) (FM.set (by unfold cl; omega)) (Nat.le_refl _)
/-- the last round: a wire -/
theorem rw_sn2 {P : xP} {T : xT} {hv K N k f : Nat} {σ : xS} {a w : Int32} (h : TX P T hv σ) (hm : σ.I 1141 (P.base + 11) = nI K) (hK : K < 8) (hk : k < 16) (hf : 0 < f) (hn : σ.AI (P.base + 18) (8 * hv + K) = nI N) (hN : N < 16) : dm_X12_shortNet_L127 P (P.base + 11) f (nI 2) a w (nI k) (nI k) σ = some (.inl (), adM P (8 * hv + K) k N σ a (nI 2) w) := by
  obtain ⟨f, rfl⟩ : ∃ m, f = m + 1 := ⟨f - 1, by omega⟩
  have hv1 := h.2.2.1
  have hh := h.2.2.2.1
  have r0 := h.1
  unfold dm_X12_shortNet_L127 adM dm_X12_shortNet_p243
  simp (config := { maxSteps := 2000000 }) (disch := first | assumption | omega) [ck_T, sm_s, bd_l, bd_r, lt_e, eq_self, and_self, if_true, true_and, and_true, lit_nI, nI_add, nI_mul, nI_sub, nI_clamp, nI_eq, nI_ltI, nI_leI, nN_e, nI_nN, nN_nI, bI_0, bI_1, bI_n, bool_0, bool_1, in_T, lg_cmp0, ofN_nI, q_K_setI, q_I_setI, q_J_setI, q_R_setI, q_L_setI, q_AI_setI, q_AJ_setI, q_AR_setI, q_sz_setI, q_su_setI, q_K_setJ, q_I_setJ, q_J_setJ, q_R_setJ, q_L_setJ, q_AI_setJ, q_AJ_setJ, q_AR_setJ, q_sz_setJ, q_su_setJ, q_K_setR, q_I_setR, q_J_setR, q_R_setR, q_L_setR, q_AI_setR, q_AJ_setR, q_AR_setR, q_sz_setR, q_su_setR, q_K_setAI, q_I_setAI, q_J_setAI, q_R_setAI, q_L_setAI, q_AI_setAI, q_AJ_setAI, q_AR_setAI, q_sz_setAI, q_su_setAI, q_K_setAJ, q_I_setAJ, q_J_setAJ, q_R_setAJ, q_L_setAJ, q_AI_setAJ, q_AJ_setAJ, q_AR_setAJ, q_sz_setAJ, q_su_setAJ, q_K_setAR, q_I_setAR, q_J_setAR, q_R_setAR, q_L_setAR, q_AI_setAR, q_AJ_setAR, q_AR_setAR, q_sz_setAR, q_su_setAR, q_K_newO, q_I_newO, q_J_newO, q_R_newO, q_L_newO, q_AI_newO, q_AJ_newO, q_AR_newO, q_sz_newO, q_su_newO, q_K_newA, q_I_newA, q_J_newA, q_R_newA, q_L_newA, q_AI_newA, q_AJ_newA, q_AR_newA, q_sz_newA, q_su_newA, q_K_skip, q_I_skip, q_J_skip, q_R_skip, q_L_skip, q_AI_skip, q_AJ_skip, q_AR_skip, q_sz_skip, q_su_skip, q_up2, q_up, ri_0 r0, ri_19 r0, ri_20 r0, ri_21 r0, ri_22 r0, ri_23 r0, ri_24 r0, ri_25 r0, ri_26 r0, ri_27 r0, ri_28 r0, ri_29 r0, ri_30 r0, ri_34 r0, ri_35 r0, ri_36 r0, dm_X12_netCell, dm_X12_mod, hh, hm, hn, x_in, dlt_T, dle_T]
/-- the last round: a port -/
theorem rw_sn1 {P : xP} {T : xT} {hv K N k s f : Nat} {σ : xS} {a w : Int32} (h : TX P T hv σ) (hm : σ.I 1141 (P.base + 11) = nI K) (hK : K < 8) (hk : k < 16) (hf : 0 < f) (hs : s < 2) (hn : σ.AI (P.base + 18) (8 * hv + K) = nI N) (hN : N < 16) (hp : σ.AI (P.base + 17) (8 * hv + K) = nI k) : dm_X12_shortNet_L127 P (P.base + 11) f (nI s) a w (nI k) (nI k) σ = x_bind (dm_X12_shift P (P.base + 11) (nI k) ((adM P (8 * hv + K) k N σ a (nI s) w).setAI (P.base + 17) (8 * hv + K) (nI (k + 1)))) (fun _ s => some (.inl (), s)) (fun E s => some (.inr E, s)) := by
  obtain ⟨f, rfl⟩ : ∃ m, f = m + 1 := ⟨f - 1, by omega⟩
  have hv1 := h.2.2.1
  have hh := h.2.2.2.1
  have r0 := h.1
  have s2 : ¬ 2 ≤ s := by omega
  unfold dm_X12_shortNet_L127 adM dm_X12_shortNet_p243
  simp (config := { maxSteps := 2000000 }) (disch := first | assumption | omega) [ck_T, sm_s, bd_l, bd_r, lt_e, eq_self, and_self, if_true, true_and, and_true, lit_nI, nI_add, nI_mul, nI_sub, nI_clamp, nI_eq, nI_ltI, nI_leI, nN_e, nI_nN, nN_nI, bI_0, bI_1, bI_n, bool_0, bool_1, in_T, lg_cmp0, ofN_nI, q_K_setI, q_I_setI, q_J_setI, q_R_setI, q_L_setI, q_AI_setI, q_AJ_setI, q_AR_setI, q_sz_setI, q_su_setI, q_K_setJ, q_I_setJ, q_J_setJ, q_R_setJ, q_L_setJ, q_AI_setJ, q_AJ_setJ, q_AR_setJ, q_sz_setJ, q_su_setJ, q_K_setR, q_I_setR, q_J_setR, q_R_setR, q_L_setR, q_AI_setR, q_AJ_setR, q_AR_setR, q_sz_setR, q_su_setR, q_K_setAI, q_I_setAI, q_J_setAI, q_R_setAI, q_L_setAI, q_AI_setAI, q_AJ_setAI, q_AR_setAI, q_sz_setAI, q_su_setAI, q_K_setAJ, q_I_setAJ, q_J_setAJ, q_R_setAJ, q_L_setAJ, q_AI_setAJ, q_AJ_setAJ, q_AR_setAJ, q_sz_setAJ, q_su_setAJ, q_K_setAR, q_I_setAR, q_J_setAR, q_R_setAR, q_L_setAR, q_AI_setAR, q_AJ_setAR, q_AR_setAR, q_sz_setAR, q_su_setAR, q_K_newO, q_I_newO, q_J_newO, q_R_newO, q_L_newO, q_AI_newO, q_AJ_newO, q_AR_newO, q_sz_newO, q_su_newO, q_K_newA, q_I_newA, q_J_newA, q_R_newA, q_L_newA, q_AI_newA, q_AJ_newA, q_AR_newA, q_sz_newA, q_su_newA, q_K_skip, q_I_skip, q_J_skip, q_R_skip, q_L_skip, q_AI_skip, q_AJ_skip, q_AR_skip, q_sz_skip, q_su_skip, q_up2, q_up, ri_0 r0, ri_16 r0, ri_17 r0, ri_18 r0, ri_19 r0, ri_20 r0, ri_21 r0, ri_22 r0, ri_23 r0, ri_24 r0, ri_25 r0, ri_26 r0, ri_27 r0, ri_28 r0, ri_29 r0, ri_30 r0, ri_34 r0, ri_35 r0, ri_36 r0, dm_X12_netCell, dm_X12_mod, hh, hm, hn, hp, s2, x_in, dlt_T, dle_T]
theorem ins_get {A B : List xNet} {x y : xNet} {j : Nat} (h : (A ++ [x] ++ B)[j]? = some y) : (j < A.length ∧ (A ++ B)[j]? = some y) ∨ (j = A.length ∧ y = x) ∨ (A.length < j ∧ (A ++ B)[j - 1]? = some y) := by
  by_cases e1 : j < A.length
  · left
    refine ⟨e1, ?_⟩
    rw [List.append_assoc, List.getElem?_append_left e1] at h
    rw [List.getElem?_append_left e1]
    exact h
  · by_cases e2 : j = A.length
    · right; left
      subst e2
      refine ⟨rfl, ?_⟩
      rw [List.append_assoc, List.getElem?_append_right (Nat.le_refl _)] at h
      simp at h
      exact h.symm
    · right; right
      refine ⟨by omega, ?_⟩
      rw [List.append_assoc, List.getElem?_append_right (by omega)] at h
      rw [List.getElem?_append_right (by omega)]
      have z : j - A.length = (j - 1 - A.length) + 1 := by omega
      rw [z] at h
      simpa using h
theorem ins_get' {A B : List xNet} {x y : xNet} {j : Nat} (h : (A ++ B)[j]? = some y) : (A ++ [x] ++ B)[if j < A.length then j else j + 1]? = some y := by
  by_cases e1 : j < A.length
  · rw [if_pos e1]
    rw [List.getElem?_append_left e1] at h
    rw [List.append_assoc, List.getElem?_append_left e1]
    exact h
  · rw [if_neg e1]
    rw [List.getElem?_append_right (by omega)] at h
    rw [List.append_assoc, List.getElem?_append_right (by omega)]
    have z : j + 1 - A.length = (j - A.length) + 1 := by omega
    rw [z]
    simpa using h
theorem S27.fm {P : xP} {T : xT} {hv M k pl n : Nat} {σ σ' : xS} (f : S27 P M k (512 * hv) (512 * hv + n) σ σ') (hn : n ≤ 512) (hpl : σ.AI (P.base + 16) M = nI pl) (hl : pl < 2000) : FM P hv M pl n σ σ' := by
  obtain ⟨f0, f9, f10, f11⟩ := f
  refine ⟨f0, fun _ _ _ => by rw [f9], fun a i ha => f10 a i (fun z => ?_), fun r r1 r2 => ⟨fun c hc => f10 _ _ (by omega), fun q hq hql => ?_⟩⟩
  · exact ha 27 z.1 (Or.inr (Or.inr ⟨by omega, by omega, by omega, by omega⟩))
  · rw [f11 r r1 r2]
    unfold shV
    rw [hq, hpl, if_pos]
    exact (nI_leI (by omega) (by omega)).mpr (by omega)
/-- the state behind a port of the short text -/
theorem RXf.ins {P : xP} {T : xT} {hv : Nat} {ms : List xMod} {m : xMod} {n : Nat} {σ σ1 σ3 : xS} {p s w q : Nat} {nm : List Nat} (h : RXf P T hv false ms m n σ p) (hq : NmAt T q nm) (hs : s < 2) (hc : sp_can m nm = true) (hw1 : 1 ≤ w) (hw : w ≤ 8) (mv : MV P hv (8 * hv + ms.length) m.pl n m.nets.length m.ports.length σ σ1) (sh : S27 P (8 * hv + ms.length) m.ports.length (512 * hv) (512 * hv + n) ((adM P (8 * hv + ms.length) m.ports.length m.nets.length σ1 (nI q) (nI s) (nI w)).setAI (P.base + 17) (8 * hv + ms.length) (nI (m.ports.length + 1))) σ3) : RXf P T hv false ms (m.nm, m.pl, m.ports ++ [(nm, s, w)], m.wires, m.asg, m.ins) n σ3 p ∧ FM P hv (8 * hv + ms.length) m.pl n σ σ3 := by
  have hc' := hc
  simp only [sp_can, Bool.and_eq_true, decide_eq_true_eq] at hc'
  obtain ⟨c1, c2⟩ := hc'
  have wx := h.1.2.2.2.2.2.2.1
  have hT := h.1.1.2.1
  have nok : nm_ok nm := by
    have := kind_nm_ok hT (p := q) (Or.inl hq.1)
    rw [hq.2] at this
    exact this
  have w' := wx.net (x := (nm, s, w)) hc ⟨nok, by simp only; omega, hw, fun _ => hw1⟩ (fun _ => by simp only; omega)
  have em : m.wNet (nm, s, w) = (m.nm, m.pl, m.ports ++ [(nm, s, w)], m.wires, m.asg, m.ins) := by
    unfold xMod.wNet; rw [if_neg (by simp only; omega)]
  rw [em] at w'
  have n500 := h.1.2.2.2.2.1.2.b hT h.1.2.1.1
  have rm := (h.1.2.2.2.2.2.1).choose_spec
  have plb : m.pl < 2000 := by
    have := rm.1.2.1.lt
    have := hT.1
    omega
  have pn : m.ports.length ≤ m.nets.length := by unfold xMod.nets; simp
  obtain ⟨v1, v2, v3, v4⟩ := mv
  -- the state before the shift
  generalize eσ2 : (adM P (8 * hv + ms.length) m.ports.length m.nets.length σ1 (nI q) (nI s) (nI w)).setAI (P.base + 17) (8 * hv + ms.length) (nI (m.ports.length + 1)) = σ2 at sh
  have f12 : FM P hv (8 * hv + ms.length) m.pl n σ1 σ2 := by
    rw [← eσ2]
    exact (adM_FM (by omega)).trans (FM.set (by unfold cl; omega)) (Nat.le_refl _)
  have ne2 : ∀ c i, ¬ ((c = 19 ∨ c = 20 ∨ c = 21 ∨ c = 23) ∧ i = 16 * (8 * hv + ms.length) + m.ports.length) → ¬ (c = 18 ∧ i = 8 * hv + ms.length) → ¬ (c = 17 ∧ i = 8 * hv + ms.length) → σ2.AI (P.base + c) i = σ1.AI (P.base + c) i := by
    intro c i z1 z2 z3
    rw [← eσ2, q_AI_setAI, up2_ne (by omega)]
    exact adM_AI z1 z2
  have e16 : σ2.AI (P.base + 16) (8 * hv + ms.length) = nI m.pl := by
    rw [ne2 16 _ (by omega) (by omega) (by omega), v4 16 _ (by omega)]
    exact rm.1.1
  have f23 := sh.fm (T := T) (by omega) e16 plb
  have ff : FM P hv (8 * hv + ms.length) m.pl n σ σ3 := (v1.trans f12 (Nat.le_refl _)).trans f23 (Nat.le_refl _)
  have ne3 : ∀ c i, c ≠ 27 → σ3.AI (P.base + c) i = σ2.AI (P.base + c) i := fun c i hc => sh.2.2.1 _ _ (by omega)
  have en : xMod.nets (m.nm, m.pl, m.ports ++ [(nm, s, w)], m.wires, m.asg, m.ins) = m.ports ++ [(nm, s, w)] ++ m.wires := rfl
  have I2 : σ2.I = σ1.I := by rw [← eσ2]; rfl
  refine ⟨h.nets ff (sh.2.1.trans (I2.trans v2)) (fun k i hk => ?_) ⟨rfl, rfl, rfl, rfl⟩ ?_ ?_ ?_ ?_ w', ff⟩
  · rw [ne3 k i (by omega), ne2 k i (by omega) (by omega) (by omega), v4 k i (by omega)]
  · rw [ne3 17 _ (by omega), ← eσ2]
    show _ = nI (m.ports ++ [(nm, s, w)]).length
    simp [q_K_setI, q_I_setI, q_J_setI, q_R_setI, q_L_setI, q_AI_setI, q_AJ_setI, q_AR_setI, q_sz_setI, q_su_setI, q_K_setJ, q_I_setJ, q_J_setJ, q_R_setJ, q_L_setJ, q_AI_setJ, q_AJ_setJ, q_AR_setJ, q_sz_setJ, q_su_setJ, q_K_setR, q_I_setR, q_J_setR, q_R_setR, q_L_setR, q_AI_setR, q_AJ_setR, q_AR_setR, q_sz_setR, q_su_setR, q_K_setAI, q_I_setAI, q_J_setAI, q_R_setAI, q_L_setAI, q_AI_setAI, q_AJ_setAI, q_AR_setAI, q_sz_setAI, q_su_setAI, q_K_setAJ, q_I_setAJ, q_J_setAJ, q_R_setAJ, q_L_setAJ, q_AI_setAJ, q_AJ_setAJ, q_AR_setAJ, q_sz_setAJ, q_su_setAJ, q_K_setAR, q_I_setAR, q_J_setAR, q_R_setAR, q_L_setAR, q_AI_setAR, q_AJ_setAR, q_AR_setAR, q_sz_setAR, q_su_setAR, q_K_newO, q_I_newO, q_J_newO, q_R_newO, q_L_newO, q_AI_newO, q_AJ_newO, q_AR_newO, q_sz_newO, q_su_newO, q_K_newA, q_I_newA, q_J_newA, q_R_newA, q_L_newA, q_AI_newA, q_AJ_newA, q_AR_newA, q_sz_newA, q_su_newA, q_K_skip, q_I_skip, q_J_skip, q_R_skip, q_L_skip, q_AI_skip, q_AJ_skip, q_AR_skip, q_sz_skip, q_su_skip, q_up2, q_up]
  · rw [ne3 18 _ (by omega), ← eσ2, q_AI_setAI, up2_ne (by omega), en]
    unfold adM xMod.nets
    simp [q_K_setI, q_I_setI, q_J_setI, q_R_setI, q_L_setI, q_AI_setI, q_AJ_setI, q_AR_setI, q_sz_setI, q_su_setI, q_K_setJ, q_I_setJ, q_J_setJ, q_R_setJ, q_L_setJ, q_AI_setJ, q_AJ_setJ, q_AR_setJ, q_sz_setJ, q_su_setJ, q_K_setR, q_I_setR, q_J_setR, q_R_setR, q_L_setR, q_AI_setR, q_AJ_setR, q_AR_setR, q_sz_setR, q_su_setR, q_K_setAI, q_I_setAI, q_J_setAI, q_R_setAI, q_L_setAI, q_AI_setAI, q_AJ_setAI, q_AR_setAI, q_sz_setAI, q_su_setAI, q_K_setAJ, q_I_setAJ, q_J_setAJ, q_R_setAJ, q_L_setAJ, q_AI_setAJ, q_AJ_setAJ, q_AR_setAJ, q_sz_setAJ, q_su_setAJ, q_K_setAR, q_I_setAR, q_J_setAR, q_R_setAR, q_L_setAR, q_AI_setAR, q_AJ_setAR, q_AR_setAR, q_sz_setAR, q_su_setAR, q_K_newO, q_I_newO, q_J_newO, q_R_newO, q_L_newO, q_AI_newO, q_AJ_newO, q_AR_newO, q_sz_newO, q_su_newO, q_K_newA, q_I_newA, q_J_newA, q_R_newA, q_L_newA, q_AI_newA, q_AJ_newA, q_AR_newA, q_sz_newA, q_su_newA, q_K_skip, q_I_skip, q_J_skip, q_R_skip, q_L_skip, q_AI_skip, q_AJ_skip, q_AR_skip, q_sz_skip, q_su_skip, q_up2, q_up]
    congr 1
  · intro j y hy
    rw [en] at hy
    unfold RNet
    rw [ne3 19 _ (by omega), ne3 20 _ (by omega), ne3 21 _ (by omega), ne3 23 _ (by omega)]
    rcases ins_get hy with ⟨z1, z2⟩ | ⟨z1, z2⟩ | ⟨z1, z2⟩
    · obtain ⟨⟨q', y1, y2⟩, y3, y4, y5⟩ := rm.2.1 j y z2
      have g : ∀ c, (c = 19 ∨ c = 20 ∨ c = 21 ∨ c = 23) → σ2.AI (P.base + c) (16 * (8 * hv + ms.length) + j) = σ.AI (P.base + c) (16 * (8 * hv + ms.length) + j) := fun c hc => by
        rw [ne2 c _ (by omega) (by omega) (by omega), v4 c _ (by omega)]
      rw [g 19 (by omega), g 20 (by omega), g 21 (by omega), g 23 (by omega)]
      exact ⟨⟨q', y1, y2⟩, y3, y4, y5⟩
    · subst z1 z2
      rw [← eσ2]
      simp only [q_AI_setAI]
      rw [up2_ne (by omega), up2_ne (by omega), up2_ne (by omega), up2_ne (by omega)]
      have s3 : ¬ s = 3 := by omega
      unfold adM
      refine ⟨⟨q, ?_, hq⟩, ?_, ?_, ?_⟩
      · simp [q_K_setI, q_I_setI, q_J_setI, q_R_setI, q_L_setI, q_AI_setI, q_AJ_setI, q_AR_setI, q_sz_setI, q_su_setI, q_K_setJ, q_I_setJ, q_J_setJ, q_R_setJ, q_L_setJ, q_AI_setJ, q_AJ_setJ, q_AR_setJ, q_sz_setJ, q_su_setJ, q_K_setR, q_I_setR, q_J_setR, q_R_setR, q_L_setR, q_AI_setR, q_AJ_setR, q_AR_setR, q_sz_setR, q_su_setR, q_K_setAI, q_I_setAI, q_J_setAI, q_R_setAI, q_L_setAI, q_AI_setAI, q_AJ_setAI, q_AR_setAI, q_sz_setAI, q_su_setAI, q_K_setAJ, q_I_setAJ, q_J_setAJ, q_R_setAJ, q_L_setAJ, q_AI_setAJ, q_AJ_setAJ, q_AR_setAJ, q_sz_setAJ, q_su_setAJ, q_K_setAR, q_I_setAR, q_J_setAR, q_R_setAR, q_L_setAR, q_AI_setAR, q_AJ_setAR, q_AR_setAR, q_sz_setAR, q_su_setAR, q_K_newO, q_I_newO, q_J_newO, q_R_newO, q_L_newO, q_AI_newO, q_AJ_newO, q_AR_newO, q_sz_newO, q_su_newO, q_K_newA, q_I_newA, q_J_newA, q_R_newA, q_L_newA, q_AI_newA, q_AJ_newA, q_AR_newA, q_sz_newA, q_su_newA, q_K_skip, q_I_skip, q_J_skip, q_R_skip, q_L_skip, q_AI_skip, q_AJ_skip, q_AR_skip, q_sz_skip, q_su_skip, q_up2, q_up]
      · simp [q_K_setI, q_I_setI, q_J_setI, q_R_setI, q_L_setI, q_AI_setI, q_AJ_setI, q_AR_setI, q_sz_setI, q_su_setI, q_K_setJ, q_I_setJ, q_J_setJ, q_R_setJ, q_L_setJ, q_AI_setJ, q_AJ_setJ, q_AR_setJ, q_sz_setJ, q_su_setJ, q_K_setR, q_I_setR, q_J_setR, q_R_setR, q_L_setR, q_AI_setR, q_AJ_setR, q_AR_setR, q_sz_setR, q_su_setR, q_K_setAI, q_I_setAI, q_J_setAI, q_R_setAI, q_L_setAI, q_AI_setAI, q_AJ_setAI, q_AR_setAI, q_sz_setAI, q_su_setAI, q_K_setAJ, q_I_setAJ, q_J_setAJ, q_R_setAJ, q_L_setAJ, q_AI_setAJ, q_AJ_setAJ, q_AR_setAJ, q_sz_setAJ, q_su_setAJ, q_K_setAR, q_I_setAR, q_J_setAR, q_R_setAR, q_L_setAR, q_AI_setAR, q_AJ_setAR, q_AR_setAR, q_sz_setAR, q_su_setAR, q_K_newO, q_I_newO, q_J_newO, q_R_newO, q_L_newO, q_AI_newO, q_AJ_newO, q_AR_newO, q_sz_newO, q_su_newO, q_K_newA, q_I_newA, q_J_newA, q_R_newA, q_L_newA, q_AI_newA, q_AJ_newA, q_AR_newA, q_sz_newA, q_su_newA, q_K_skip, q_I_skip, q_J_skip, q_R_skip, q_L_skip, q_AI_skip, q_AJ_skip, q_AR_skip, q_sz_skip, q_su_skip, q_up2, q_up, s3]
      · simp [q_K_setI, q_I_setI, q_J_setI, q_R_setI, q_L_setI, q_AI_setI, q_AJ_setI, q_AR_setI, q_sz_setI, q_su_setI, q_K_setJ, q_I_setJ, q_J_setJ, q_R_setJ, q_L_setJ, q_AI_setJ, q_AJ_setJ, q_AR_setJ, q_sz_setJ, q_su_setJ, q_K_setR, q_I_setR, q_J_setR, q_R_setR, q_L_setR, q_AI_setR, q_AJ_setR, q_AR_setR, q_sz_setR, q_su_setR, q_K_setAI, q_I_setAI, q_J_setAI, q_R_setAI, q_L_setAI, q_AI_setAI, q_AJ_setAI, q_AR_setAI, q_sz_setAI, q_su_setAI, q_K_setAJ, q_I_setAJ, q_J_setAJ, q_R_setAJ, q_L_setAJ, q_AI_setAJ, q_AJ_setAJ, q_AR_setAJ, q_sz_setAJ, q_su_setAJ, q_K_setAR, q_I_setAR, q_J_setAR, q_R_setAR, q_L_setAR, q_AI_setAR, q_AJ_setAR, q_AR_setAR, q_sz_setAR, q_su_setAR, q_K_newO, q_I_newO, q_J_newO, q_R_newO, q_L_newO, q_AI_newO, q_AJ_newO, q_AR_newO, q_sz_newO, q_su_newO, q_K_newA, q_I_newA, q_J_newA, q_R_newA, q_L_newA, q_AI_newA, q_AJ_newA, q_AR_newA, q_sz_newA, q_su_newA, q_K_skip, q_I_skip, q_J_skip, q_R_skip, q_L_skip, q_AI_skip, q_AJ_skip, q_AR_skip, q_sz_skip, q_su_skip, q_up2, q_up]
      · simp [q_K_setI, q_I_setI, q_J_setI, q_R_setI, q_L_setI, q_AI_setI, q_AJ_setI, q_AR_setI, q_sz_setI, q_su_setI, q_K_setJ, q_I_setJ, q_J_setJ, q_R_setJ, q_L_setJ, q_AI_setJ, q_AJ_setJ, q_AR_setJ, q_sz_setJ, q_su_setJ, q_K_setR, q_I_setR, q_J_setR, q_R_setR, q_L_setR, q_AI_setR, q_AJ_setR, q_AR_setR, q_sz_setR, q_su_setR, q_K_setAI, q_I_setAI, q_J_setAI, q_R_setAI, q_L_setAI, q_AI_setAI, q_AJ_setAI, q_AR_setAI, q_sz_setAI, q_su_setAI, q_K_setAJ, q_I_setAJ, q_J_setAJ, q_R_setAJ, q_L_setAJ, q_AI_setAJ, q_AJ_setAJ, q_AR_setAJ, q_sz_setAJ, q_su_setAJ, q_K_setAR, q_I_setAR, q_J_setAR, q_R_setAR, q_L_setAR, q_AI_setAR, q_AJ_setAR, q_AR_setAR, q_sz_setAR, q_su_setAR, q_K_newO, q_I_newO, q_J_newO, q_R_newO, q_L_newO, q_AI_newO, q_AJ_newO, q_AR_newO, q_sz_newO, q_su_newO, q_K_newA, q_I_newA, q_J_newA, q_R_newA, q_L_newA, q_AI_newA, q_AJ_newA, q_AR_newA, q_sz_newA, q_su_newA, q_K_skip, q_I_skip, q_J_skip, q_R_skip, q_L_skip, q_AI_skip, q_AJ_skip, q_AR_skip, q_sz_skip, q_su_skip, q_up2, q_up, s3, bI_tt]
    · obtain ⟨⟨q', y1, y2⟩, y3, y4, y5⟩ := rm.2.1 (j - 1) y z2
      have jl : j - 1 < m.nets.length := get_lt z2
      have g : ∀ c, (c = 19 ∨ c = 20 ∨ c = 21 ∨ c = 23) → σ2.AI (P.base + c) (16 * (8 * hv + ms.length) + j) = σ.AI (P.base + c) (16 * (8 * hv + ms.length) + (j - 1)) := fun c hc => by
        rw [ne2 c _ (by omega) (by omega) (by omega), v3 c j hc (by omega) (by omega)]
        congr 1
        omega
      rw [g 19 (by omega), g 20 (by omega), g 21 (by omega), g 23 (by omega)]
      exact ⟨⟨q', y1, y2⟩, y3, y4, y5⟩
  · intro r x hx hr
    obtain ⟨x1, x2⟩ := inP_pl wx hx
    obtain ⟨d1, d2, d3, d4, d5, d6⟩ := hr
    have g : ∀ c, 25 ≤ c → c ≤ 29 → σ2.AI (P.base + c) r = σ.AI (P.base + c) r := fun c _ _ => by
      rw [ne2 c _ (by omega) (by omega) (by omega), v4 c _ (by omega)]
    unfold RRef
    rw [ne3 25 _ (by omega), ne3 26 _ (by omega), ne3 28 _ (by omega), ne3 29 _ (by omega), g 25 (by omega) (by omega), g 26 (by omega) (by omega), g 28 (by omega) (by omega), g 29 (by omega) (by omega)]
    refine ⟨d1, d2, d3, d4, fun hx3 => ?_, d6⟩
    obtain ⟨j, j1, j2, j3⟩ := d5 hx3
    cases e : m.nets[j]? with
    | none => rw [e] at j3; cases j3
    | some y =>
      rw [e] at j3
      have jl := get_lt e
      refine ⟨if j < m.ports.length then j else j + 1, ?_, by split <;> omega, ?_⟩
      · rw [sh.2.2.2 r d1.1 d1.2]
        unfold shV
        have pb := h.1.2.1.1
        have tb := hT.1
        have l1 : ¬ nI x.2.1 ≤ nI m.pl := fun z => by have := (nI_leI (by omega) (by omega)).mp z; omega
        have xb : x.1 ≤ 3 := by
          rcases hx with ⟨a, ha, e | e⟩ | ⟨i, hi, l, hl, e⟩
          · rw [e]; exact PW_3 (wx.1.1 a ha).1
          · rw [e]; exact PW_3 (wx.1.1 a ha).2
          · exact PW_3 (wx.1.2.1 i hi l hl x e)
        have l2 : ¬ nI x.1 = nI 3 := fun z => hx3 ((nI_eq (by omega) (by omega)).mp z)
        rw [g 25 (by omega) (by omega), g 26 (by omega) (by omega), g 27 (by omega) (by omega), d3, d2, j1, e16, if_neg l1, if_neg l2]
        by_cases z : j < m.ports.length
        · rw [if_pos ((nI_ltI (by omega) (by omega)).mpr z), if_pos z]
        · rw [if_neg (fun y => z ((nI_ltI (by omega) (by omega)).mp y)), if_neg z]
          simp (disch := first | assumption | omega) [lit_nI, nI_add, nI_mul, nI_sub, nI_clamp, nI_eq, nI_ltI, nI_leI, nN_e, nI_nN, nN_nI, bI_0, bI_1, bI_n, bool_0, bool_1, in_T, lg_cmp0, ofN_nI]
      · rw [en, ins_get' e]
        exact j3
