/-! ===== the reference: first bits and depths ===== -/
theorem fb_le {ns : List xNet} (hn : NW ns) : ∀ k, k ≤ ns.length → sp_fb ns k ≤ 8 * k
  | 0, _ => by unfold sp_fb; simp
  | k + 1, h => by
    obtain ⟨x, hx⟩ : ∃ x, ns[k]? = some x := ⟨_, List.getElem?_eq_getElem (by omega)⟩
    have h1 := fb_le hn k (by omega)
    have h2 := (hn x (List.mem_of_getElem? hx)).2.2.1
    rw [fb_succ hx]
    omega
/-- the first bits of the nets of the module at M -/
def NF (P : xP) (σ : xS) (M : Nat) (ns : List xNet) : Prop := ∀ j, j < ns.length → σ.AI (P.base + 22) (16 * M + j) = nI (sp_fb ns j)
theorem rw_fi19 {P : xP} {T : xT} {hv : Nat} {lng : Bool} {ms : List xMod} {n k : Nat} {m : xMod} (hm : ms[k]? = some m) (k2 : Int32 → xS → xO Unit) : ∀ (r j F : Nat) (σ : xS), j + r = m.nets.length → r < F → CV P T hv lng ms n σ → (∀ j', j' < j → σ.AI (P.base + 22) (16 * (8 * hv + k) + j') = nI (sp_fb m.nets j')) → ∃ σ', dm_X12_finish_L19 P k2 (P.base + 11) F (nI k) (nI (sp_fb m.nets j)) (nI j) σ = k2 (nI (k + 1)) σ' ∧ FQc P hv σ σ' ∧ (∀ i, σ'.AI (P.base + 37) i = σ.AI (P.base + 37) i) ∧ (∀ i, ¬ (16 * (8 * hv + k) ≤ i ∧ i < 16 * (8 * hv + k) + 16) → σ'.AI (P.base + 22) i = σ.AI (P.base + 22) i) ∧ (∀ i, i ≠ 8 * hv + k → σ'.AI (P.base + 42) i = σ.AI (P.base + 42) i) ∧ NF P σ' (8 * hv + k) m.nets ∧ σ'.AI (P.base + 42) (8 * hv + k) = nI 0 ∧ σ'.I = σ.I := by
  intro r
  induction r with
  | zero =>
    intro j F σ hj hF h ho
    obtain ⟨F, rfl⟩ : ∃ m, F = m + 1 := ⟨F - 1, by omega⟩
    obtain ⟨⟨⟨r0, -, hv1, -⟩, h2, h3, -, h5⟩, h6, -⟩ := id h
    have l8 := h3.1
    have kl := get_lt hm
    have w1 := (h.wx hm).2.2.2.1.1
    have a4 := (h5 k m hm).1.2.2.2.1
    have e1 : m.nets.length ≤ j := by omega
    refine ⟨σ.setAI (P.base + 42) (8 * hv + k) (nI 0), ?_, ?_, fun i => up2_ne (by omega), fun i _ => up2_ne (by omega), fun i hi => up2_ne (by omega), fun j' hj' => (up2_ne (by omega)).trans (ho j' (by omega)), by simp [q_K_setI, q_I_setI, q_J_setI, q_R_setI, q_L_setI, q_AI_setI, q_AJ_setI, q_AR_setI, q_sz_setI, q_su_setI, q_K_setJ, q_I_setJ, q_J_setJ, q_R_setJ, q_L_setJ, q_AI_setJ, q_AJ_setJ, q_AR_setJ, q_sz_setJ, q_su_setJ, q_K_setR, q_I_setR, q_J_setR, q_R_setR, q_L_setR, q_AI_setR, q_AJ_setR, q_AR_setR, q_sz_setR, q_su_setR, q_K_setAI, q_I_setAI, q_J_setAI, q_R_setAI, q_L_setAI, q_AI_setAI, q_AJ_setAI, q_AR_setAI, q_sz_setAI, q_su_setAI, q_K_setAJ, q_I_setAJ, q_J_setAJ, q_R_setAJ, q_L_setAJ, q_AI_setAJ, q_AJ_setAJ, q_AR_setAJ, q_sz_setAJ, q_su_setAJ, q_K_setAR, q_I_setAR, q_J_setAR, q_R_setAR, q_L_setAR, q_AI_setAR, q_AJ_setAR, q_AR_setAR, q_sz_setAR, q_su_setAR, q_K_newO, q_I_newO, q_J_newO, q_R_newO, q_L_newO, q_AI_newO, q_AJ_newO, q_AR_newO, q_sz_newO, q_su_newO, q_K_newA, q_I_newA, q_J_newA, q_R_newA, q_L_newA, q_AI_newA, q_AJ_newA, q_AR_newA, q_sz_newA, q_su_newA, q_K_skip, q_I_skip, q_J_skip, q_R_skip, q_L_skip, q_AI_skip, q_AJ_skip, q_AR_skip, q_sz_skip, q_su_skip, q_up2, q_up], rfl⟩
    · unfold dm_X12_finish_L19
      simp (disch := first | assumption | omega) [ck_T, sm_s, bd_l, bd_r, lt_e, eq_self, and_self, if_true, true_and, and_true, lit_nI, nI_add, nI_mul, nI_sub, nI_clamp, nI_eq, nI_ltI, nI_leI, nN_e, nI_nN, nN_nI, bI_0, bI_1, bI_n, bool_0, bool_1, in_T, lg_cmp0, ofN_nI, ri_0 r0, ri_19 r0, ri_20 r0, ri_21 r0, ri_91 r0, ri_92 r0, ri_93 r0, h6, a4, e1, x_in, dlt_T, dle_T]
    · exact ⟨⟨rfl, rfl, rfl, rfl, rfl, rfl, rfl, rfl⟩, fun _ _ _ => rfl, fun a i' ha => up2_ne (fun z => ha 42 z.1 (Or.inr (Or.inr (by omega))))⟩
  | succ r ih =>
    intro j F σ hj hF h ho
    obtain ⟨F, rfl⟩ : ∃ m, F = m + 1 := ⟨F - 1, by omega⟩
    obtain ⟨⟨⟨r0, -, hv1, -⟩, h2, h3, -, h5⟩, h6, -⟩ := id h
    have l8 := h3.1
    have kl := get_lt hm
    have w1 := (h.wx hm).2.2.2.1.1
    have nw := (h.wx hm).2.1.1
    have a4 := (h5 k m hm).1.2.2.2.1
    have e1 : ¬ m.nets.length ≤ j := by omega
    obtain ⟨x, hx⟩ : ∃ x, m.nets[j]? = some x := ⟨_, List.getElem?_eq_getElem (by omega)⟩
    have wd := ((h5 k m hm).2.1 j x hx).2.2.1
    have xw := (nw x (List.mem_of_getElem? hx)).2.2.1
    have fb := fb_le nw j (by omega)
    have fs := fb_succ hx
    have f1 : FQc P hv σ (σ.setAI (P.base + 22) (16 * (8 * hv + k) + j) (nI (sp_fb m.nets j))) := by
      refine ⟨⟨rfl, rfl, rfl, rfl, rfl, rfl, rfl, rfl⟩, fun _ _ _ => rfl, fun a i' ha => up2_ne (fun z => ha 22 z.1 (Or.inl (by omega)))⟩
    have o1 : ∀ c i', ¬ (c = 22 ∧ i' = 16 * (8 * hv + k) + j) → (σ.setAI (P.base + 22) (16 * (8 * hv + k) + j) (nI (sp_fb m.nets j))).AI (P.base + c) i' = σ.AI (P.base + c) i' := fun c i' hi' => up2_ne (fun z => hi' (by omega))
    have o2 : (σ.setAI (P.base + 22) (16 * (8 * hv + k) + j) (nI (sp_fb m.nets j))).AI (P.base + 22) (16 * (8 * hv + k) + j) = nI (sp_fb m.nets j) := by simp [q_K_setI, q_I_setI, q_J_setI, q_R_setI, q_L_setI, q_AI_setI, q_AJ_setI, q_AR_setI, q_sz_setI, q_su_setI, q_K_setJ, q_I_setJ, q_J_setJ, q_R_setJ, q_L_setJ, q_AI_setJ, q_AJ_setJ, q_AR_setJ, q_sz_setJ, q_su_setJ, q_K_setR, q_I_setR, q_J_setR, q_R_setR, q_L_setR, q_AI_setR, q_AJ_setR, q_AR_setR, q_sz_setR, q_su_setR, q_K_setAI, q_I_setAI, q_J_setAI, q_R_setAI, q_L_setAI, q_AI_setAI, q_AJ_setAI, q_AR_setAI, q_sz_setAI, q_su_setAI, q_K_setAJ, q_I_setAJ, q_J_setAJ, q_R_setAJ, q_L_setAJ, q_AI_setAJ, q_AJ_setAJ, q_AR_setAJ, q_sz_setAJ, q_su_setAJ, q_K_setAR, q_I_setAR, q_J_setAR, q_R_setAR, q_L_setAR, q_AI_setAR, q_AJ_setAR, q_AR_setAR, q_sz_setAR, q_su_setAR, q_K_newO, q_I_newO, q_J_newO, q_R_newO, q_L_newO, q_AI_newO, q_AJ_newO, q_AR_newO, q_sz_newO, q_su_newO, q_K_newA, q_I_newA, q_J_newA, q_R_newA, q_L_newA, q_AI_newA, q_AJ_newA, q_AR_newA, q_sz_newA, q_su_newA, q_K_skip, q_I_skip, q_J_skip, q_R_skip, q_L_skip, q_AI_skip, q_AJ_skip, q_AR_skip, q_sz_skip, q_su_skip, q_up2, q_up]
    obtain ⟨σ', g1, g2, g3, g4, g5, g6, g7, g8⟩ := ih (j + 1) F _ (by omega) (by omega) (h.fq f1) (by
      intro j' hj'
      by_cases z : j' = j
      · subst z; exact o2
      · rw [o1 _ _ (by omega)]
        exact ho j' (by omega))
    refine ⟨σ', ?_, f1.trans g2, fun i => (g3 i).trans (o1 _ _ (by omega)), fun i hi => (g4 i hi).trans (o1 _ _ (by omega)), fun i hi => (g5 i hi).trans (o1 _ _ (by omega)), g6, g7, g8⟩
    rw [← g1, fs]
    conv => lhs; unfold dm_X12_finish_L19
    simp (disch := first | assumption | omega) [ck_T, sm_s, bd_l, bd_r, lt_e, eq_self, and_self, if_true, true_and, and_true, lit_nI, nI_add, nI_mul, nI_sub, nI_clamp, nI_eq, nI_ltI, nI_leI, nN_e, nI_nN, nN_nI, bI_0, bI_1, bI_n, bool_0, bool_1, in_T, lg_cmp0, ofN_nI, q_K_setI, q_I_setI, q_J_setI, q_R_setI, q_L_setI, q_AI_setI, q_AJ_setI, q_AR_setI, q_sz_setI, q_su_setI, q_K_setJ, q_I_setJ, q_J_setJ, q_R_setJ, q_L_setJ, q_AI_setJ, q_AJ_setJ, q_AR_setJ, q_sz_setJ, q_su_setJ, q_K_setR, q_I_setR, q_J_setR, q_R_setR, q_L_setR, q_AI_setR, q_AJ_setR, q_AR_setR, q_sz_setR, q_su_setR, q_K_setAI, q_I_setAI, q_J_setAI, q_R_setAI, q_L_setAI, q_AI_setAI, q_AJ_setAI, q_AR_setAI, q_sz_setAI, q_su_setAI, q_K_setAJ, q_I_setAJ, q_J_setAJ, q_R_setAJ, q_L_setAJ, q_AI_setAJ, q_AJ_setAJ, q_AR_setAJ, q_sz_setAJ, q_su_setAJ, q_K_setAR, q_I_setAR, q_J_setAR, q_R_setAR, q_L_setAR, q_AI_setAR, q_AJ_setAR, q_AR_setAR, q_sz_setAR, q_su_setAR, q_K_newO, q_I_newO, q_J_newO, q_R_newO, q_L_newO, q_AI_newO, q_AJ_newO, q_AR_newO, q_sz_newO, q_su_newO, q_K_newA, q_I_newA, q_J_newA, q_R_newA, q_L_newA, q_AI_newA, q_AJ_newA, q_AR_newA, q_sz_newA, q_su_newA, q_K_skip, q_I_skip, q_J_skip, q_R_skip, q_L_skip, q_AI_skip, q_AJ_skip, q_AR_skip, q_sz_skip, q_su_skip, q_up2, q_up, ri_0 r0, ri_19 r0, ri_20 r0, ri_21 r0, ri_31 r0, ri_32 r0, ri_33 r0, ri_28 r0, ri_29 r0, ri_30 r0, h6, a4, e1, wd, x_in, dlt_T, dle_T]
theorem OF.ai {P : xP} {σ σ' : xS} {ms : List xMod} {M : Nat} {is : List xIns} (h : OF P σ ms M is) (e : ∀ i, σ'.AI (P.base + 37) i = σ.AI (P.base + 37) i) : OF P σ' ms M is := fun j i hi => (e _).trans (h j i hi)
theorem rw_fi2 {P : xP} {T : xT} {hv : Nat} {lng : Bool} {ms : List xMod} {n : Nat} : ∀ (r k F : Nat) (σ : xS), k + r = ms.length → r < F → CV P T hv lng ms n σ → (∀ k' m, k' < k → ms[k']? = some m → NF P σ (8 * hv + k') m.nets ∧ σ.AI (P.base + 42) (8 * hv + k') = nI 0) → ∃ σ', dm_X12_finish_L2 P (P.base + 11) F (nI k) σ = dm_X12_finish_L108 P (P.base + 11) P.N (nI 0) σ' ∧ FQc P hv σ σ' ∧ (∀ i, σ'.AI (P.base + 37) i = σ.AI (P.base + 37) i) ∧ (∀ k' m, ms[k']? = some m → NF P σ' (8 * hv + k') m.nets ∧ σ'.AI (P.base + 42) (8 * hv + k') = nI 0) ∧ σ'.I = σ.I := by
  intro r
  induction r with
  | zero =>
    intro k F σ hj hF h ho
    obtain ⟨F, rfl⟩ : ∃ m, F = m + 1 := ⟨F - 1, by omega⟩
    obtain ⟨⟨⟨r0, -, hv1, -⟩, h2, h3, -⟩, h6, -⟩ := id h
    have l8 := h3.1
    have e1 : ms.length ≤ k := by omega
    refine ⟨σ, ?_, FQc.refl _ _ _, fun _ => rfl, fun k' m hm => ho k' m (by have := get_lt hm; omega) hm, rfl⟩
    unfold dm_X12_finish_L2
    simp (disch := first | assumption | omega) [ck_T, sm_s, bd_l, bd_r, lt_e, eq_self, and_self, if_true, true_and, and_true, lit_nI, nI_add, nI_mul, nI_sub, nI_clamp, nI_eq, nI_ltI, nI_leI, nN_e, nI_nN, nN_nI, bI_0, bI_1, bI_n, bool_0, bool_1, in_T, lg_cmp0, ofN_nI, ri_0 r0, ri_10 r0, ri_11 r0, ri_12 r0, h6, h2, e1, x_in, dlt_T, dle_T]
  | succ r ih =>
    intro k F σ hj hF h ho
    obtain ⟨F, rfl⟩ : ∃ m, F = m + 1 := ⟨F - 1, by omega⟩
    obtain ⟨⟨⟨r0, -, hv1, -⟩, h2, h3, -⟩, h6, -⟩ := id h
    have l8 := h3.1
    have hN := h.tx.2.2.2.2.2.2
    obtain ⟨m, hm⟩ : ∃ m, ms[k]? = some m := ⟨_, List.getElem?_eq_getElem (by omega)⟩
    have w1 := (h.wx hm).2.2.2.1.1
    have e1 : ¬ ms.length ≤ k := by omega
    obtain ⟨σ1, g1, g2, g3, g4, g5, g6, g7, g8⟩ := rw_fi19 hm (dm_X12_finish_L2 P (P.base + 11) F) m.nets.length 0 P.N σ (by omega) (by omega) h (fun j' hj' => by omega)
    obtain ⟨σ', s1, s2, s3, s4, s5⟩ := ih (k + 1) F σ1 (by omega) (by omega) (h.fq g2) (by
      intro k' m' hk' hm'
      by_cases z : k' = k
      · subst z
        rw [hm] at hm'
        cases hm'
        exact ⟨g6, g7⟩
      · have w4 := (h.wx hm').2.2.2.1.1
        obtain ⟨o1, o2⟩ := ho k' m' (by omega) hm'
        exact ⟨fun j hj => (g4 _ (by omega)).trans (o1 j hj), (g5 _ (by omega)).trans o2⟩)
    refine ⟨σ', ?_, g2.trans s2, fun i => (s3 i).trans (g3 i), s4, s5.trans g8⟩
    have fz : sp_fb m.nets 0 = 0 := by unfold sp_fb; simp
    rw [fz] at g1
    rw [← s1, ← g1]
    conv => lhs; unfold dm_X12_finish_L2
    simp (disch := first | assumption | omega) [ck_T, sm_s, bd_l, bd_r, lt_e, eq_self, and_self, if_true, true_and, and_true, lit_nI, nI_add, nI_mul, nI_sub, nI_clamp, nI_eq, nI_ltI, nI_leI, nN_e, nI_nN, nN_nI, bI_0, bI_1, bI_n, bool_0, bool_1, in_T, lg_cmp0, ofN_nI, ri_0 r0, ri_10 r0, ri_11 r0, ri_12 r0, h6, h2, e1, x_in, dlt_T, dle_T]
/-- depths as far as they are known -/
def DP (P : xP) (hv : Nat) (ms : List xMod) (σ : xS) (d : Nat → Nat) : Prop := ∀ k, k < ms.length → σ.AI (P.base + 42) (8 * hv + k) = nI (d k) ∧ d k ≤ gr_D (sp_has ms) ms.length k
/-- only depths have changed -/
def F42 (P : xP) (σ σ' : xS) : Prop := (∀ c i, c ≠ 42 → σ'.AI (P.base + c) i = σ.AI (P.base + c) i) ∧ σ'.I = σ.I
theorem has_of {ms : List xMod} {k j : Nat} {m : xMod} {y : xIns} (hm : ms[k]? = some m) (hy : y ∈ m.ins) (hk : sp_kind ms y.1 = some j) : sp_has ms k j = true := by
  unfold sp_has
  rw [hm]
  simp only [List.any_eq_true, decide_eq_true_eq]
  exact ⟨y, hy, hk⟩
theorem rw_fi142 {P : xP} {T : xT} {hv : Nat} {lng : Bool} {ms : List xMod} {n k t : Nat} {m : xMod} (hm : ms[k]? = some m) (ac : ∀ k, k < ms.length → ¬ gr_R (sp_has ms) ms.length k k) (k116 : Int32 → Int32 → xS → xO Unit) (k108 : Int32 → xS → xO Unit) : ∀ (r i F : Nat) (σ : xS) (d : Nat → Nat), i + r = m.ins.length → r < F → CV P T hv lng ms n σ → OF P σ ms (8 * hv + k) m.ins → DP P hv ms σ d → ∃ σ' d', dm_X12_finish_L142 P k116 k108 (P.base + 11) F (nI t) (nI k) (nI (8 * hv + k)) (nI i) σ = k116 (nI t) (nI (k + 1)) σ' ∧ FQc P hv σ σ' ∧ F42 P σ σ' ∧ DP P hv ms σ' d' ∧ (∀ x, d x ≤ d' x) ∧ ∀ y ∈ m.ins.drop i, ∀ j, sp_kind ms y.1 = some j → d j + 1 ≤ d' k := by
  intro r
  induction r with
  | zero =>
    intro i F σ d hi hF h ho hd
    obtain ⟨F, rfl⟩ : ∃ m, F = m + 1 := ⟨F - 1, by omega⟩
    obtain ⟨⟨⟨r0, -, hv1, -⟩, h2, h3, -, h5⟩, h6, -⟩ := id h
    have l8 := h3.1
    have kl := get_lt hm
    have w3 := (h.wx hm).2.2.2.1.2.2
    have a6 := (h5 k m hm).1.2.2.2.2.2
    have e : m.ins.drop i = [] := List.drop_eq_nil_of_le (by omega)
    have e1 : m.ins.length ≤ i := by omega
    refine ⟨σ, d, ?_, FQc.refl _ _ _, ⟨fun _ _ _ => rfl, rfl⟩, hd, fun _ => Nat.le_refl _, by rw [e]; simp⟩
    unfold dm_X12_finish_L142
    simp (disch := first | assumption | omega) [ck_T, sm_s, bd_l, bd_r, lt_e, eq_self, and_self, if_true, true_and, and_true, lit_nI, nI_add, nI_mul, nI_sub, nI_clamp, nI_eq, nI_ltI, nI_leI, nN_e, nI_nN, nN_nI, bI_0, bI_1, bI_n, bool_0, bool_1, in_T, lg_cmp0, ofN_nI, ri_0 r0, ri_64 r0, ri_65 r0, ri_66 r0, a6, e1, x_in, dlt_T, dle_T]
  | succ r ih =>
    intro i F σ d hi hF h ho hd
    obtain ⟨F, rfl⟩ : ∃ m, F = m + 1 := ⟨F - 1, by omega⟩
    obtain ⟨⟨⟨r0, -, hv1, -⟩, h2, h3, -, h5⟩, h6, -⟩ := id h
    have l8 := h3.1
    have kl := get_lt hm
    have w3 := (h.wx hm).2.2.2.1.2.2
    have a6 := (h5 k m hm).1.2.2.2.2.2
    have e1 : ¬ m.ins.length ≤ i := by omega
    obtain ⟨y, hy⟩ : ∃ y, m.ins[i]? = some y := ⟨_, List.getElem?_eq_getElem (by omega)⟩
    have o1 := ho i y hy
    obtain ⟨dk, dl⟩ := hd k kl
    have Dk := D_lt ac kl
    -- one step: the depth becomes v
    have go : ∀ v : Nat, d k ≤ v → v ≤ gr_D (sp_has ms) ms.length k → (∀ j, sp_kind ms y.1 = some j → d j + 1 ≤ v) → dm_X12_finish_L142 P k116 k108 (P.base + 11) (F + 1) (nI t) (nI k) (nI (8 * hv + k)) (nI i) σ = dm_X12_finish_L142 P k116 k108 (P.base + 11) F (nI t) (nI k) (nI (8 * hv + k)) (nI (i + 1)) (σ.setAI (P.base + 42) (8 * hv + k) (nI v)) → ∃ σ' d', dm_X12_finish_L142 P k116 k108 (P.base + 11) (F + 1) (nI t) (nI k) (nI (8 * hv + k)) (nI i) σ = k116 (nI t) (nI (k + 1)) σ' ∧ FQc P hv σ σ' ∧ F42 P σ σ' ∧ DP P hv ms σ' d' ∧ (∀ x, d x ≤ d' x) ∧ ∀ y ∈ m.ins.drop i, ∀ j, sp_kind ms y.1 = some j → d j + 1 ≤ d' k := by
      intro v v1 v2 v3 st
      have f1 : FQc P hv σ (σ.setAI (P.base + 42) (8 * hv + k) (nI v)) := ⟨⟨rfl, rfl, rfl, rfl, rfl, rfl, rfl, rfl⟩, fun _ _ _ => rfl, fun a i' ha => up2_ne (fun z => ha 42 z.1 (Or.inr (Or.inr (by omega))))⟩
      have q1 : F42 P σ (σ.setAI (P.base + 42) (8 * hv + k) (nI v)) := ⟨fun c i hc => up2_ne (by omega), rfl⟩
      have d1 : DP P hv ms (σ.setAI (P.base + 42) (8 * hv + k) (nI v)) (fun x => if x = k then v else d x) := by
        intro x hx
        by_cases z : x = k
        · subst z
          simp only [if_true]
          exact ⟨by simp [q_K_setI, q_I_setI, q_J_setI, q_R_setI, q_L_setI, q_AI_setI, q_AJ_setI, q_AR_setI, q_sz_setI, q_su_setI, q_K_setJ, q_I_setJ, q_J_setJ, q_R_setJ, q_L_setJ, q_AI_setJ, q_AJ_setJ, q_AR_setJ, q_sz_setJ, q_su_setJ, q_K_setR, q_I_setR, q_J_setR, q_R_setR, q_L_setR, q_AI_setR, q_AJ_setR, q_AR_setR, q_sz_setR, q_su_setR, q_K_setAI, q_I_setAI, q_J_setAI, q_R_setAI, q_L_setAI, q_AI_setAI, q_AJ_setAI, q_AR_setAI, q_sz_setAI, q_su_setAI, q_K_setAJ, q_I_setAJ, q_J_setAJ, q_R_setAJ, q_L_setAJ, q_AI_setAJ, q_AJ_setAJ, q_AR_setAJ, q_sz_setAJ, q_su_setAJ, q_K_setAR, q_I_setAR, q_J_setAR, q_R_setAR, q_L_setAR, q_AI_setAR, q_AJ_setAR, q_AR_setAR, q_sz_setAR, q_su_setAR, q_K_newO, q_I_newO, q_J_newO, q_R_newO, q_L_newO, q_AI_newO, q_AJ_newO, q_AR_newO, q_sz_newO, q_su_newO, q_K_newA, q_I_newA, q_J_newA, q_R_newA, q_L_newA, q_AI_newA, q_AJ_newA, q_AR_newA, q_sz_newA, q_su_newA, q_K_skip, q_I_skip, q_J_skip, q_R_skip, q_L_skip, q_AI_skip, q_AJ_skip, q_AR_skip, q_sz_skip, q_su_skip, q_up2, q_up], v2⟩
        · simp only [if_neg z]
          obtain ⟨p1, p2⟩ := hd x hx
          exact ⟨(up2_ne (by omega)).trans p1, p2⟩
      obtain ⟨σ', d', g1, g2, g3, g4, g5, g6⟩ := ih (i + 1) F _ _ (by omega) (by omega) (h.fq f1) (ho.ai (fun i => q1.1 37 i (by omega))) d1
      have mono : ∀ x, d x ≤ d' x := by
        intro x
        have := g5 x
        by_cases z : x = k
        · subst z
          simp only [if_true] at this
          omega
        · simp only [if_neg z] at this
          exact this
      have mk : v ≤ d' k := by
        have := g5 k
        simpa using this
      refine ⟨σ', d', st.trans g1, f1.trans g2, ⟨fun c i hc => (g3.1 c i hc).trans (q1.1 c i hc), g3.2.trans q1.2⟩, g4, mono, ?_⟩
      rw [drop_at hy]
      intro z hz j hj
      rcases List.mem_cons.mp hz with q | q
      · subst q
        have := v3 j hj
        omega
      · have := g6 z q j hj
        by_cases w : j = k
        · subst w
          simp only [if_true] at this
          omega
        · simp only [if_neg w] at this
          exact this
    cases ek : sp_kind ms y.1 with
    | none =>
      rw [mIx_N ek] at o1
      refine go (d k) (Nat.le_refl _) dl (fun j hj => by rw [ek] at hj; cases hj) ?_
      conv => lhs; unfold dm_X12_finish_L142 dm_X12_finish_p194 dm_X12_finish_p223
      simp (disch := first | assumption | omega) [ck_T, sm_s, bd_l, bd_r, lt_e, eq_self, and_self, if_true, true_and, and_true, lit_nI, nI_add, nI_mul, nI_sub, nI_clamp, nI_eq, nI_ltI, nI_leI, nN_e, nI_nN, nN_nI, bI_0, bI_1, bI_n, bool_0, bool_1, in_T, lg_cmp0, ofN_nI, ri_0 r0, ri_64 r0, ri_65 r0, ri_66 r0, ri_76 r0, ri_77 r0, ri_78 r0, ri_91 r0, ri_92 r0, ri_93 r0, a6, e1, o1, dk, x_in, dlt_T, dle_T]
    | some kk =>
      rw [mIx_S ek] at o1
      have kkl : kk < ms.length := (List.findIdx?_eq_some_iff_getElem.mp ek).1
      have nk : ¬ nI kk = nN := by rw [nI_nN (by omega)]; simp
      obtain ⟨pk, pl⟩ := hd kk kkl
      have Dkk := D_lt ac kkl
      have le := (D_M ac kl).1 kk kkl (has_of hm (List.mem_of_getElem? hy) ek)
      by_cases z : d kk + 1 ≤ d k
      · refine go (d k) (Nat.le_refl _) dl (fun j hj => by rw [ek] at hj; cases hj; exact z) ?_
        conv => lhs; unfold dm_X12_finish_L142 dm_X12_finish_p194 dm_X12_finish_p223
        simp (disch := first | assumption | omega) [ck_T, sm_s, bd_l, bd_r, lt_e, eq_self, and_self, if_true, true_and, and_true, lit_nI, nI_add, nI_mul, nI_sub, nI_clamp, nI_eq, nI_ltI, nI_leI, nN_e, nI_nN, nN_nI, bI_0, bI_1, bI_n, bool_0, bool_1, in_T, lg_cmp0, ofN_nI, ri_0 r0, ri_64 r0, ri_65 r0, ri_66 r0, ri_76 r0, ri_77 r0, ri_78 r0, ri_91 r0, ri_92 r0, ri_93 r0, h6, a6, e1, o1, nk, pk, dk, z, x_in, dlt_T, dle_T]
      · refine go (d kk + 1) (by omega) (by omega) (fun j hj => by rw [ek] at hj; cases hj; exact Nat.le_refl _) ?_
        conv => lhs; unfold dm_X12_finish_L142 dm_X12_finish_p194 dm_X12_finish_p223
        simp (disch := first | assumption | omega) [ck_T, sm_s, bd_l, bd_r, lt_e, eq_self, and_self, if_true, true_and, and_true, lit_nI, nI_add, nI_mul, nI_sub, nI_clamp, nI_eq, nI_ltI, nI_leI, nN_e, nI_nN, nN_nI, bI_0, bI_1, bI_n, bool_0, bool_1, in_T, lg_cmp0, ofN_nI, ri_0 r0, ri_64 r0, ri_65 r0, ri_66 r0, ri_76 r0, ri_77 r0, ri_78 r0, ri_91 r0, ri_92 r0, ri_93 r0, h6, a6, e1, o1, nk, pk, dk, z, x_in, dlt_T, dle_T]
theorem rw_fi116 {P : xP} {T : xT} {hv : Nat} {lng : Bool} {ms : List xMod} {n t : Nat} (ht : t < 8) (ac : ∀ k, k < ms.length → ¬ gr_R (sp_has ms) ms.length k k) (k108 : Int32 → xS → xO Unit) : ∀ (r k F : Nat) (σ : xS) (d : Nat → Nat), k + r = ms.length → r < F → CV P T hv lng ms n σ → (∀ k m, ms[k]? = some m → OF P σ ms (8 * hv + k) m.ins) → DP P hv ms σ d → ∃ σ' d', dm_X12_finish_L116 P k108 (P.base + 11) F (nI t) (nI k) σ = k108 (nI (t + 1)) σ' ∧ FQc P hv σ σ' ∧ F42 P σ σ' ∧ DP P hv ms σ' d' ∧ (∀ x, d x ≤ d' x) ∧ ∀ x, k ≤ x → x < ms.length → ∀ j, sp_has ms x j = true → d j + 1 ≤ d' x := by
  intro r
  induction r with
  | zero =>
    intro k F σ d hk hF h ho hd
    obtain ⟨F, rfl⟩ : ∃ m, F = m + 1 := ⟨F - 1, by omega⟩
    obtain ⟨⟨⟨r0, -, hv1, -⟩, h2, h3, -⟩, h6, -⟩ := id h
    have l8 := h3.1
    have e1 : ms.length ≤ k := by omega
    refine ⟨σ, d, ?_, FQc.refl _ _ _, ⟨fun _ _ _ => rfl, rfl⟩, hd, fun _ => Nat.le_refl _, fun x h1 h2 => by omega⟩
    unfold dm_X12_finish_L116
    simp (disch := first | assumption | omega) [ck_T, sm_s, bd_l, bd_r, lt_e, eq_self, and_self, if_true, true_and, and_true, lit_nI, nI_add, nI_mul, nI_sub, nI_clamp, nI_eq, nI_ltI, nI_leI, nN_e, nI_nN, nN_nI, bI_0, bI_1, bI_n, bool_0, bool_1, in_T, lg_cmp0, ofN_nI, ri_0 r0, ri_10 r0, ri_11 r0, ri_12 r0, h6, h2, e1, x_in, dlt_T, dle_T]
  | succ r ih =>
    intro k F σ d hk hF h ho hd
    obtain ⟨F, rfl⟩ : ∃ m, F = m + 1 := ⟨F - 1, by omega⟩
    obtain ⟨⟨⟨r0, -, hv1, -⟩, h2, h3, -⟩, h6, -⟩ := id h
    have l8 := h3.1
    have hN := h.tx.2.2.2.2.2.2
    obtain ⟨m, hm⟩ : ∃ m, ms[k]? = some m := ⟨_, List.getElem?_eq_getElem (by omega)⟩
    have w3 := (h.wx hm).2.2.2.1.2.2
    have e1 : ¬ ms.length ≤ k := by omega
    obtain ⟨σ1, d1, g1, g2, g3, g4, g5, g6⟩ := rw_fi142 (t := t) hm ac (dm_X12_finish_L116 P k108 (P.base + 11) F) k108 m.ins.length 0 P.N σ d (by omega) (by omega) h (ho k m hm) hd
    obtain ⟨σ', d', s1, s2, s3, s4, s5, s6⟩ := ih (k + 1) F σ1 d1 (by omega) (by omega) (h.fq g2) (fun k' m' hm' => (ho k' m' hm').ai (fun i => g3.1 37 i (by omega))) g4
    refine ⟨σ', d', ?_, g2.trans s2, ⟨fun c i hc => (s3.1 c i hc).trans (g3.1 c i hc), s3.2.trans g3.2⟩, s4, fun x => Nat.le_trans (g5 x) (s5 x), ?_⟩
    · rw [← s1, ← g1]
      conv => lhs; unfold dm_X12_finish_L116
      simp (disch := first | assumption | omega) [ck_T, sm_s, bd_l, bd_r, lt_e, eq_self, and_self, if_true, true_and, and_true, lit_nI, nI_add, nI_mul, nI_sub, nI_clamp, nI_eq, nI_ltI, nI_leI, nN_e, nI_nN, nN_nI, bI_0, bI_1, bI_n, bool_0, bool_1, in_T, lg_cmp0, ofN_nI, ri_0 r0, ri_10 r0, ri_11 r0, ri_12 r0, h6, h2, e1, x_in, dlt_T, dle_T]
    · intro x x1 x2 j hj
      by_cases z : x = k
      · subst z
        unfold sp_has at hj
        rw [hm] at hj
        simp only [List.any_eq_true, decide_eq_true_eq] at hj
        obtain ⟨y, y1, y2⟩ := hj
        have := g6 y (by rw [List.drop_zero]; exact y1) j y2
        have := s5 x
        omega
      · have := s6 x (by omega) x2 j hj
        have := g5 j
        omega
theorem rw_fi108 {P : xP} {T : xT} {hv : Nat} {lng : Bool} {ms : List xMod} {n : Nat} (ac : ∀ k, k < ms.length → ¬ gr_R (sp_has ms) ms.length k k) : ∀ (r t F : Nat) (σ : xS) (d : Nat → Nat), t + r = 8 → r < F → CV P T hv lng ms n σ → (∀ k m, ms[k]? = some m → OF P σ ms (8 * hv + k) m.ins) → DP P hv ms σ d → (∀ x, x < ms.length → gr_D (sp_has ms) ms.length x ≤ t → d x = gr_D (sp_has ms) ms.length x) → ∃ σ', dm_X12_finish_L108 P (P.base + 11) F (nI t) σ = some (.inl (), σ') ∧ FQc P hv σ σ' ∧ F42 P σ σ' ∧ ∀ x, x < ms.length → σ'.AI (P.base + 42) (8 * hv + x) = nI (gr_D (sp_has ms) ms.length x) := by
  intro r
  induction r with
  | zero =>
    intro t F σ d ht hF h ho hd hx
    obtain ⟨F, rfl⟩ : ∃ m, F = m + 1 := ⟨F - 1, by omega⟩
    have l8 := h.1.2.2.1.1
    have e : t = 8 := by omega
    subst e
    refine ⟨σ, ?_, FQc.refl _ _ _, ⟨fun _ _ _ => rfl, rfl⟩, fun x hx' => ?_⟩
    · unfold dm_X12_finish_L108
      simp (disch := first | assumption | omega) [ck_T, sm_s, bd_l, bd_r, lt_e, eq_self, and_self, if_true, true_and, and_true, lit_nI, nI_add, nI_mul, nI_sub, nI_clamp, nI_eq, nI_ltI, nI_leI, nN_e, nI_nN, nN_nI, bI_0, bI_1, bI_n, bool_0, bool_1, in_T, lg_cmp0, ofN_nI]
    · have := D_lt ac hx'
      rw [(hd x hx').1, hx x hx' (by omega)]
  | succ r ih =>
    intro t F σ d ht hF h ho hd hx
    obtain ⟨F, rfl⟩ : ∃ m, F = m + 1 := ⟨F - 1, by omega⟩
    have l8 := h.1.2.2.1.1
    have hN := h.tx.2.2.2.2.2.2
    obtain ⟨σ1, d1, g1, g2, g3, g4, g5, g6⟩ := rw_fi116 (t := t) (by omega) ac (dm_X12_finish_L108 P (P.base + 11) F) ms.length 0 P.N σ d (by omega) (by omega) h ho hd
    obtain ⟨σ', s1, s2, s3, s4⟩ := ih (t + 1) F σ1 d1 (by omega) (by omega) (h.fq g2) (fun k' m' hm' => (ho k' m' hm').ai (fun i => g3.1 37 i (by omega))) g4 (by
      intro x x1 x2
      have up := (g4 x x1).2
      rcases (D_M ac x1).2 with z | ⟨j, j1, j2, j3⟩
      · omega
      · have := g6 x (by omega) x1 j j2
        have := hx j j1 (by omega)
        omega)
    refine ⟨σ', ?_, g2.trans s2, ⟨fun c i hc => (s3.1 c i hc).trans (g3.1 c i hc), s3.2.trans g3.2⟩, s4⟩
    rw [← s1, ← g1]
    have e : ¬ 8 ≤ t := by omega
    conv => lhs; unfold dm_X12_finish_L108
    simp (disch := first | assumption | omega) [ck_T, sm_s, bd_l, bd_r, lt_e, eq_self, and_self, if_true, true_and, and_true, lit_nI, nI_add, nI_mul, nI_sub, nI_clamp, nI_eq, nI_ltI, nI_leI, nN_e, nI_nN, nN_nI, bI_0, bI_1, bI_n, bool_0, bool_1, in_T, lg_cmp0, ofN_nI, e]
theorem rw_finish {P : xP} {T : xT} {hv : Nat} {lng : Bool} {ms : List xMod} {n : Nat} {σ : xS} (ac : ∀ k, k < ms.length → ¬ gr_R (sp_has ms) ms.length k k) (h : CV P T hv lng ms n σ) (ho : ∀ k m, ms[k]? = some m → OF P σ ms (8 * hv + k) m.ins) : ∃ σ', dm_X12_finish P (P.base + 11) σ = some (.inl (), σ') ∧ FQc P hv σ σ' ∧ σ'.I = σ.I ∧ ∀ k m, ms[k]? = some m → OF P σ' ms (8 * hv + k) m.ins ∧ NF P σ' (8 * hv + k) m.nets ∧ σ'.AI (P.base + 42) (8 * hv + k) = nI (gr_D (sp_has ms) ms.length k) := by
  have hN := h.tx.2.2.2.2.2.2
  have l8 := h.1.2.2.1.1
  obtain ⟨σ1, g1, g2, g3, g4, g5⟩ := rw_fi2 ms.length 0 P.N σ (by omega) (by omega) h (fun k' m hk' => by omega)
  obtain ⟨σ', s1, s2, s3, s4⟩ := rw_fi108 ac 8 0 P.N σ1 (fun _ => 0) (by omega) (by omega) (h.fq g2) (fun k' m' hm' => (ho k' m' hm').ai g3) (by
    intro k hk
    obtain ⟨m, hm⟩ : ∃ m, ms[k]? = some m := ⟨_, List.getElem?_eq_getElem hk⟩
    exact ⟨(g4 k m hm).2, Nat.zero_le _⟩) (fun x _ hx => by omega)
  refine ⟨σ', g1.trans s1, g2.trans s2, s3.2.trans g5, fun k m hm => ⟨(ho k m hm).ai (fun i => (s3.1 37 i (by omega)).trans (g3 i)), fun j hj => (s3.1 22 _ (by omega)).trans ((g4 k m hm).1 j hj), s4 k (get_lt hm)⟩⟩
