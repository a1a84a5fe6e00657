/-! ===== the reference: modules ===== -/
/-- only the half hv and the word have changed -/
def FR (P : xP) (hv : Nat) (σ σ' : xS) : Prop := (σ'.K = σ.K ∧ σ'.L = σ.L ∧ σ'.J = σ.J ∧ σ'.R = σ.R ∧ σ'.AJ = σ.AJ ∧ σ'.AR = σ.AR ∧ σ'.sz = σ.sz ∧ σ'.su = σ.su) ∧ (∀ f a, ¬ (a = P.base + 11 ∧ ((1134 ≤ f ∧ f ≤ 1139) ∨ f = 1141)) → σ'.I f a = σ.I f a) ∧ ∀ a i, (∀ k, a = P.base + k → ¬ ((∃ M, 8 * hv ≤ M ∧ M < 8 * hv + 8 ∧ cl M k i) ∨ ((k = 15 ∨ k = 24) ∧ i = hv) ∨ (25 ≤ k ∧ k ≤ 29 ∧ 512 * hv ≤ i ∧ i < 512 * hv + 512) ∨ (k = 42 ∧ 8 * hv ≤ i ∧ i < 8 * hv + 8))) → σ'.AI a i = σ.AI a i
theorem FR.refl (P : xP) (hv : Nat) (σ : xS) : FR P hv σ σ := ⟨⟨rfl, rfl, rfl, rfl, rfl, rfl, rfl, rfl⟩, fun _ _ _ => rfl, fun _ _ _ => rfl⟩
theorem FR.trans {P : xP} {hv : Nat} {σ σ' σ'' : xS} (h : FR P hv σ σ') (k : FR P hv σ' σ'') : FR P hv σ σ'' := by
  obtain ⟨⟨a1, a2, a3, a4, a5, a6, a7, a8⟩, a9, a10⟩ := h
  obtain ⟨⟨b1, b2, b3, b4, b5, b6, b7, b8⟩, b9, b10⟩ := k
  exact ⟨⟨b1.trans a1, b2.trans a2, b3.trans a3, b4.trans a4, b5.trans a5, b6.trans a6, b7.trans a7, b8.trans a8⟩, fun f a hf => (b9 f a hf).trans (a9 f a hf), fun a i ha => (b10 a i ha).trans (a10 a i ha)⟩
theorem FM.fr {P : xP} {hv M pl n : Nat} {σ σ' : xS} (h : FM P hv M pl n σ σ') (h1 : 8 * hv ≤ M) (h2 : M < 8 * hv + 8) : FR P hv σ σ' := by
  refine ⟨h.1, fun f a hf => h.2.1 f a (fun z => hf ⟨z.1, Or.inl z.2⟩), fun a i ha => h.2.2.1 a i (fun k hk z => ha k hk ?_)⟩
  rcases z with z | z | z
  · exact Or.inl ⟨M, h1, h2, z⟩
  · exact Or.inr (Or.inl ⟨Or.inr z.1, z.2⟩)
  · exact Or.inr (Or.inr (Or.inl z))
theorem FL.fr {P : xP} {hv : Nat} {σ σ' : xS} (h : FL P σ σ') : FR P hv σ σ' := (h.fm (hv := hv) (M := 8 * hv) (pl := 0) (n := 0)).fr (Nat.le_refl _) (by omega)
theorem FR.tx {P : xP} {T : xT} {hv hv' : Nat} {σ σ' : xS} (f : FR P hv σ σ') (h : TX P T hv' σ) : TX P T hv' σ' := by
  obtain ⟨h1, h2, h3, h4, h5, h6, h7⟩ := h
  have na : ∀ k i, k < 15 → σ'.AI (P.base + k) i = σ.AI (P.base + k) i := by
    intro k i hk
    refine f.2.2 _ i (fun k' e => ?_)
    have : k' = k := by omega
    subst this
    unfold cl
    rintro (⟨M, z⟩ | z | z | z) <;> omega
  refine ⟨?_, h2, h3, (f.2.1 1140 _ (by omega)).trans h4, (na 14 _ (by omega)).trans h5, fun i hi => (na 13 _ (by omega)).trans (h6 i hi), h7⟩
  unfold RI at h1 ⊢
  rw [f.1.1, f.1.2.1, f.1.2.2.2.1]
  exact h1
/-- between two modules -/
def MB (P : xP) (T : xT) (hv : Nat) (lng : Bool) (ms : List xMod) (n : Nat) (σ : xS) (p : Nat) : Prop := TX P T hv σ ∧ RC P T σ p ∧ σ.I 1141 (P.base + 11) = nI ms.length ∧ σ.AI (P.base + 15) hv = nI ms.length ∧ (σ.AI (P.base + 24) hv = nI n ∧ RSl T n p) ∧ DX lng ms p ∧ ∀ k m', ms[k]? = some m' → RMd P σ T hv n (8 * hv + k) m'
theorem MB.fl {P : xP} {T : xT} {hv : Nat} {lng : Bool} {ms : List xMod} {n : Nat} {σ σ' : xS} {p p' : Nat} (h : MB P T hv lng ms n σ p) (f : FL P σ σ') (c : RC P T σ' p') (hp : p ≤ p') : MB P T hv lng ms n σ' p' := by
  obtain ⟨h1, h2, h3, h3', ⟨h5, h6⟩, h9, h10⟩ := h
  have e : σ'.AI = σ.AI := f.2.2.2.2.1
  exact ⟨h1.fl f, c, (f.2.2.2.2.2.2.2.2.2 1141 _ (by omega)).trans h3, by rw [e]; exact h3', ⟨by rw [e]; exact h5, h6.le hp⟩, h9.up hp, fun k m' hm' => (h10 k m' hm').fl f⟩
theorem MB.bad {P : xP} {T : xT} {hv : Nat} {lng : Bool} {ms : List xMod} {n : Nat} {σ : xS} {p : Nat} (h : MB P T hv lng ms n σ p) (hk : lx_kind T p = 4) : DQ P T hv ms.length p σ := by
  obtain ⟨h1, h2, h3, h4, h5⟩ := h
  have de := h2.at h1 hk
  exact ⟨h1, ⟨p, h2.rw⟩, de.2.1, de.2.2, h3⟩
theorem MBfail {P : xP} {T : xT} {hv : Nat} {lng : Bool} {ms : List xMod} {n : Nat} {σ : xS} {p : Nat} (h : MB P T hv lng ms n σ p) : DQ P T hv ms.length p (fl P σ p) := by
  obtain ⟨h1, h2, h3, h4, h5⟩ := h
  have f : FL P σ (fl P σ p) := fl_FL
  have t1 := h1.2.1.1
  have hp := h2.1
  refine ⟨h1.fl f, ⟨p, h2.1, ?_, ?_, ?_, ?_⟩, by unfold fl; simp [q_K_setI, q_I_setI, q_J_setI, q_R_setI, q_L_setI, q_AI_setI, q_AJ_setI, q_AR_setI, q_sz_setI, q_su_setI, q_K_setJ, q_I_setJ, q_J_setJ, q_R_setJ, q_L_setJ, q_AI_setJ, q_AJ_setJ, q_AR_setJ, q_sz_setJ, q_su_setJ, q_K_setR, q_I_setR, q_J_setR, q_R_setR, q_L_setR, q_AI_setR, q_AJ_setR, q_AR_setR, q_sz_setR, q_su_setR, q_K_setAI, q_I_setAI, q_J_setAI, q_R_setAI, q_L_setAI, q_AI_setAI, q_AJ_setAI, q_AR_setAI, q_sz_setAI, q_su_setAI, q_K_setAJ, q_I_setAJ, q_J_setAJ, q_R_setAJ, q_L_setAJ, q_AI_setAJ, q_AJ_setAJ, q_AR_setAJ, q_sz_setAJ, q_su_setAJ, q_K_setAR, q_I_setAR, q_J_setAR, q_R_setAR, q_L_setAR, q_AI_setAR, q_AJ_setAR, q_AR_setAR, q_sz_setAR, q_su_setAR, q_K_newO, q_I_newO, q_J_newO, q_R_newO, q_L_newO, q_AI_newO, q_AJ_newO, q_AR_newO, q_sz_newO, q_su_newO, q_K_newA, q_I_newA, q_J_newA, q_R_newA, q_L_newA, q_AI_newA, q_AJ_newA, q_AR_newA, q_sz_newA, q_su_newA, q_K_skip, q_I_skip, q_J_skip, q_R_skip, q_L_skip, q_AI_skip, q_AJ_skip, q_AR_skip, q_sz_skip, q_su_skip, q_up2, q_up], by omega, (f.2.2.2.2.2.2.2.2.2 1141 _ (by omega)).trans h3⟩
  · have := h2.2.1; unfold fl; simp [q_K_setI, q_I_setI, q_J_setI, q_R_setI, q_L_setI, q_AI_setI, q_AJ_setI, q_AR_setI, q_sz_setI, q_su_setI, q_K_setJ, q_I_setJ, q_J_setJ, q_R_setJ, q_L_setJ, q_AI_setJ, q_AJ_setJ, q_AR_setJ, q_sz_setJ, q_su_setJ, q_K_setR, q_I_setR, q_J_setR, q_R_setR, q_L_setR, q_AI_setR, q_AJ_setR, q_AR_setR, q_sz_setR, q_su_setR, q_K_setAI, q_I_setAI, q_J_setAI, q_R_setAI, q_L_setAI, q_AI_setAI, q_AJ_setAI, q_AR_setAI, q_sz_setAI, q_su_setAI, q_K_setAJ, q_I_setAJ, q_J_setAJ, q_R_setAJ, q_L_setAJ, q_AI_setAJ, q_AJ_setAJ, q_AR_setAJ, q_sz_setAJ, q_su_setAJ, q_K_setAR, q_I_setAR, q_J_setAR, q_R_setAR, q_L_setAR, q_AI_setAR, q_AJ_setAR, q_AR_setAR, q_sz_setAR, q_su_setAR, q_K_newO, q_I_newO, q_J_newO, q_R_newO, q_L_newO, q_AI_newO, q_AJ_newO, q_AR_newO, q_sz_newO, q_su_newO, q_K_newA, q_I_newA, q_J_newA, q_R_newA, q_L_newA, q_AI_newA, q_AJ_newA, q_AR_newA, q_sz_newA, q_su_newA, q_K_skip, q_I_skip, q_J_skip, q_R_skip, q_L_skip, q_AI_skip, q_AJ_skip, q_AR_skip, q_sz_skip, q_su_skip, q_up2, q_up, this]
  · have := h2.2.2.1; unfold fl; simp [q_K_setI, q_I_setI, q_J_setI, q_R_setI, q_L_setI, q_AI_setI, q_AJ_setI, q_AR_setI, q_sz_setI, q_su_setI, q_K_setJ, q_I_setJ, q_J_setJ, q_R_setJ, q_L_setJ, q_AI_setJ, q_AJ_setJ, q_AR_setJ, q_sz_setJ, q_su_setJ, q_K_setR, q_I_setR, q_J_setR, q_R_setR, q_L_setR, q_AI_setR, q_AJ_setR, q_AR_setR, q_sz_setR, q_su_setR, q_K_setAI, q_I_setAI, q_J_setAI, q_R_setAI, q_L_setAI, q_AI_setAI, q_AJ_setAI, q_AR_setAI, q_sz_setAI, q_su_setAI, q_K_setAJ, q_I_setAJ, q_J_setAJ, q_R_setAJ, q_L_setAJ, q_AI_setAJ, q_AJ_setAJ, q_AR_setAJ, q_sz_setAJ, q_su_setAJ, q_K_setAR, q_I_setAR, q_J_setAR, q_R_setAR, q_L_setAR, q_AI_setAR, q_AJ_setAR, q_AR_setAR, q_sz_setAR, q_su_setAR, q_K_newO, q_I_newO, q_J_newO, q_R_newO, q_L_newO, q_AI_newO, q_AJ_newO, q_AR_newO, q_sz_newO, q_su_newO, q_K_newA, q_I_newA, q_J_newA, q_R_newA, q_L_newA, q_AI_newA, q_AJ_newA, q_AR_newA, q_sz_newA, q_su_newA, q_K_skip, q_I_skip, q_J_skip, q_R_skip, q_L_skip, q_AI_skip, q_AJ_skip, q_AR_skip, q_sz_skip, q_su_skip, q_up2, q_up, this]
  · have := h2.2.2.2.1; unfold fl; simp [q_K_setI, q_I_setI, q_J_setI, q_R_setI, q_L_setI, q_AI_setI, q_AJ_setI, q_AR_setI, q_sz_setI, q_su_setI, q_K_setJ, q_I_setJ, q_J_setJ, q_R_setJ, q_L_setJ, q_AI_setJ, q_AJ_setJ, q_AR_setJ, q_sz_setJ, q_su_setJ, q_K_setR, q_I_setR, q_J_setR, q_R_setR, q_L_setR, q_AI_setR, q_AJ_setR, q_AR_setR, q_sz_setR, q_su_setR, q_K_setAI, q_I_setAI, q_J_setAI, q_R_setAI, q_L_setAI, q_AI_setAI, q_AJ_setAI, q_AR_setAI, q_sz_setAI, q_su_setAI, q_K_setAJ, q_I_setAJ, q_J_setAJ, q_R_setAJ, q_L_setAJ, q_AI_setAJ, q_AJ_setAJ, q_AR_setAJ, q_sz_setAJ, q_su_setAJ, q_K_setAR, q_I_setAR, q_J_setAR, q_R_setAR, q_L_setAR, q_AI_setAR, q_AJ_setAR, q_AR_setAR, q_sz_setAR, q_su_setAR, q_K_newO, q_I_newO, q_J_newO, q_R_newO, q_L_newO, q_AI_newO, q_AJ_newO, q_AR_newO, q_sz_newO, q_su_newO, q_K_newA, q_I_newA, q_J_newA, q_R_newA, q_L_newA, q_AI_newA, q_AJ_newA, q_AR_newA, q_sz_newA, q_su_newA, q_K_skip, q_I_skip, q_J_skip, q_R_skip, q_L_skip, q_AI_skip, q_AJ_skip, q_AR_skip, q_sz_skip, q_su_skip, q_up2, q_up, this]
  · have := h2.2.2.2.2.1; unfold fl; simp [q_K_setI, q_I_setI, q_J_setI, q_R_setI, q_L_setI, q_AI_setI, q_AJ_setI, q_AR_setI, q_sz_setI, q_su_setI, q_K_setJ, q_I_setJ, q_J_setJ, q_R_setJ, q_L_setJ, q_AI_setJ, q_AJ_setJ, q_AR_setJ, q_sz_setJ, q_su_setJ, q_K_setR, q_I_setR, q_J_setR, q_R_setR, q_L_setR, q_AI_setR, q_AJ_setR, q_AR_setR, q_sz_setR, q_su_setR, q_K_setAI, q_I_setAI, q_J_setAI, q_R_setAI, q_L_setAI, q_AI_setAI, q_AJ_setAI, q_AR_setAI, q_sz_setAI, q_su_setAI, q_K_setAJ, q_I_setAJ, q_J_setAJ, q_R_setAJ, q_L_setAJ, q_AI_setAJ, q_AJ_setAJ, q_AR_setAJ, q_sz_setAJ, q_su_setAJ, q_K_setAR, q_I_setAR, q_J_setAR, q_R_setAR, q_L_setAR, q_AI_setAR, q_AJ_setAR, q_AR_setAR, q_sz_setAR, q_su_setAR, q_K_newO, q_I_newO, q_J_newO, q_R_newO, q_L_newO, q_AI_newO, q_AJ_newO, q_AR_newO, q_sz_newO, q_su_newO, q_K_newA, q_I_newA, q_J_newA, q_R_newA, q_L_newA, q_AI_newA, q_AJ_newA, q_AR_newA, q_sz_newA, q_su_newA, q_K_skip, q_I_skip, q_J_skip, q_R_skip, q_L_skip, q_AI_skip, q_AJ_skip, q_AR_skip, q_sz_skip, q_su_skip, q_up2, q_up, this]
/-- a fault stands -/
def ER (P : xP) (T : xT) (hv k : Nat) (σ0 : xS) (f : Nat) (σ : xS) : Prop := FR P hv σ0 σ ∧ DQ P T hv k f σ
theorem rd_p144 {P : xP} {σ : xS} {f : Nat} (h : DE P σ f) : dm_X12_takeModule_p144 P (P.base + 11) σ = some (.inl (), σ) := by
  unfold dm_X12_takeModule_p144
  simp only [ri_0 h.1, ck_T, eq_self, rd_next h, bd_l]
theorem rd_tm84 {P : xP} {σ : xS} {f : Nat} (h : DE P σ f) : dm_X12_takeModule_p84 P (P.base + 11) σ = some (.inl (), σ) := by
  have ok := rd_ok h.1 (by have := h.2.2; omega) h.2.1
  unfold dm_X12_takeModule_p84
  simp only [ri_0 h.1, ck_T, eq_self, ok, bd_l, lit_nI, if_true, rd_p144 h]
theorem rd_p60 {P : xP} {σ : xS} {f : Nat} (h : DE P σ f) : dm_X12_takeModule_p60 P (P.base + 11) σ = some (.inl (), σ) := by
  have ok := rd_ok h.1 (by have := h.2.2; omega) h.2.1
  unfold dm_X12_takeModule_p60
  simp only [ri_0 h.1, ck_T, eq_self, ok, bd_l, lit_nI, if_true, rd_tm84 h]
theorem rd_L6 {P : xP} {σ : xS} {f : Nat} (h : DE P σ f) (N : Nat) (v : Int32) : dm_X12_takeModule_L6 P (P.base + 11) (N + 1) v σ = some (.inl (), σ) := by
  have ok := rd_ok h.1 (by have := h.2.2; omega) h.2.1
  unfold dm_X12_takeModule_L6
  by_cases e : σ.I 1141 (P.base + 11) ≤ v
  · simp only [ri_0 h.1, ck_T, eq_self, e, if_true, rd_p60 h]
  · simp only [ri_0 h.1, ck_T, eq_self, e, if_false, ok, bd_l, lit_nI, if_true, rd_p60 h]
theorem rd_takeModule {P : xP} {σ : xS} {f : Nat} (h : DE P σ f) (hN : 5000 ≤ P.N) : dm_X12_takeModule P (P.base + 11) σ = some (.inl (), σ) := by
  obtain ⟨N, hN1⟩ : ∃ k, P.N = k + 1 := ⟨P.N - 1, by omega⟩
  unfold dm_X12_takeModule
  rw [hN1]
  simp only [ri_0 h.1, ck_T, eq_self, rd_needName h, bd_l, rd_L6 h]
theorem rw_tmL {P : xP} {T : xT} {hv : Nat} {lng : Bool} {ms : List xMod} {n : Nat} {σ : xS} {p : Nat} {nm : List Nat} (h : MB P T hv lng ms n σ p) (hq : NmAt T p nm) : ∀ (r j f : Nat), j + r = ms.length → r + 1 < f → dm_X12_takeModule_L6 P (P.base + 11) f (nI j) σ = dm_X12_takeModule_p60 P (P.base + 11) (if nm ∈ (ms.drop j).map (fun m => m.nm) then fl P σ p else σ) := by
  have hk : lx_kind T p ≠ 4 := by rw [hq.1]; decide
  have fq := MBfail h
  have de := fq.de
  obtain ⟨h1, h2, h3, h4, h5, h6, h7⟩ := h
  have r0 := h1.1
  have a0 := ri_0 r0
  have ok := rw_ok r0 (h2.ok hk)
  have hv1 := h1.2.2.1
  have hh := h1.2.2.2.1
  have l8 := h6.1
  have fr := h2.2.1
  have ff : dm_X12_fail P (P.base + 11) (nI p) σ = some (.inl (), fl P σ p) := rw_fail r0 (h2.ok hk) (nI p)
  intro r
  induction r with
  | zero =>
    intro j f hj hf
    obtain ⟨f, rfl⟩ : ∃ m, f = m + 1 := ⟨f - 1, by omega⟩
    have e : ms.drop j = [] := List.drop_eq_nil_of_le (by omega)
    have e1 : ms.length ≤ j := by omega
    rw [e]
    unfold dm_X12_takeModule_L6
    simp (disch := first | assumption | omega) [ck_T, sm_s, bd_l, bd_r, lt_e, eq_self, and_self, if_true, true_and, and_true, lit_nI, nI_add, nI_mul, nI_sub, nI_clamp, nI_eq, nI_ltI, nI_leI, nN_e, nI_nN, nN_nI, bI_0, bI_1, bI_n, bool_0, bool_1, in_T, lg_cmp0, ofN_nI, a0, h3, e1]
  | succ r ih =>
    intro j f hj hf
    obtain ⟨f, rfl⟩ : ∃ m, f = m + 1 := ⟨f - 1, by omega⟩
    obtain ⟨x, hx⟩ : ∃ x, ms[j]? = some x := ⟨_, List.getElem?_eq_getElem (by omega)⟩
    have e1 : ¬ ms.length ≤ j := by omega
    obtain ⟨⟨y1, y2, -⟩, -⟩ := h7 j x hx
    have sm := rw_areSame h1 y2 hq
    have et : ms.drop j = x :: ms.drop (j + 1) := by
      rw [List.drop_eq_getElem_cons (by omega)]
      congr 1
      rw [List.getElem?_eq_getElem (by omega)] at hx
      exact Option.some.inj hx
    conv => lhs; unfold dm_X12_takeModule_L6 dm_X12_takeModule_p54
    rw [et, List.map_cons]
    by_cases e : x.nm = nm
    · rw [decide_eq_true e] at sm
      have mem : nm ∈ x.nm :: (ms.drop (j + 1)).map (fun m => m.nm) := by rw [e]; exact List.mem_cons_self
      rw [if_pos mem]
      have st : dm_X12_takeModule_L6 P (P.base + 11) f (nI (j + 1)) (fl P σ p) = dm_X12_takeModule_p60 P (P.base + 11) (fl P σ p) := by
        obtain ⟨f, rfl⟩ : ∃ m, f = m + 1 := ⟨f - 1, by omega⟩
        rw [rd_L6 de, rd_p60 de]
      simp (disch := first | assumption | omega) [ck_T, sm_s, bd_l, bd_r, lt_e, eq_self, and_self, if_true, true_and, and_true, lit_nI, nI_add, nI_mul, nI_sub, nI_clamp, nI_eq, nI_ltI, nI_leI, nN_e, nI_nN, nN_nI, bI_0, bI_1, bI_n, bool_0, bool_1, in_T, lg_cmp0, ofN_nI, ri_0 r0, ri_13 r0, ri_14 r0, ri_15 r0, hh, h3, ok, e1, y1, fr, sm, bI_tt, ff, st, x_in, dlt_T, dle_T]
    · rw [decide_eq_false e] at sm
      have e' : (nm ∈ x.nm :: (ms.drop (j + 1)).map (fun m => m.nm)) = (nm ∈ (ms.drop (j + 1)).map (fun m => m.nm)) := by
        simp only [List.mem_cons, eq_iff_iff]
        constructor
        · rintro (z | z)
          · exact absurd z.symm e
          · exact z
        · exact Or.inr
      simp only [e']
      rw [← ih (j + 1) f (by omega) (by omega)]
      simp (disch := first | assumption | omega) [ck_T, sm_s, bd_l, bd_r, lt_e, eq_self, and_self, if_true, true_and, and_true, lit_nI, nI_add, nI_mul, nI_sub, nI_clamp, nI_eq, nI_ltI, nI_leI, nN_e, nI_nN, nN_nI, bI_0, bI_1, bI_n, bool_0, bool_1, in_T, lg_cmp0, ofN_nI, ri_0 r0, ri_13 r0, ri_14 r0, ri_15 r0, hh, h3, ok, e1, y1, fr, sm, bI_ff, x_in, dlt_T, dle_T]
def tmS (P : xP) (M : Nat) (σ : xS) (a : Int32) : xS := ((((σ.setAI (P.base + 16) M a).setAI (P.base + 17) M (nI 0)).setAI (P.base + 18) M (nI 0)).setAI (P.base + 30) M (nI 0)).setAI (P.base + 33) M (nI 0)
theorem tmS_AI {P : xP} {M k j : Nat} {σ : xS} {a : Int32} (h : ¬ ((k = 16 ∨ k = 17 ∨ k = 18 ∨ k = 30 ∨ k = 33) ∧ j = M)) : (tmS P M σ a).AI (P.base + k) j = σ.AI (P.base + k) j := by
  unfold tmS
  simp only [q_K_setI, q_I_setI, q_J_setI, q_R_setI, q_L_setI, q_AI_setI, q_AJ_setI, q_AR_setI, q_sz_setI, q_su_setI, q_K_setJ, q_I_setJ, q_J_setJ, q_R_setJ, q_L_setJ, q_AI_setJ, q_AJ_setJ, q_AR_setJ, q_sz_setJ, q_su_setJ, q_K_setR, q_I_setR, q_J_setR, q_R_setR, q_L_setR, q_AI_setR, q_AJ_setR, q_AR_setR, q_sz_setR, q_su_setR, q_K_setAI, q_I_setAI, q_J_setAI, q_R_setAI, q_L_setAI, q_AI_setAI, q_AJ_setAI, q_AR_setAI, q_sz_setAI, q_su_setAI, q_K_setAJ, q_I_setAJ, q_J_setAJ, q_R_setAJ, q_L_setAJ, q_AI_setAJ, q_AJ_setAJ, q_AR_setAJ, q_sz_setAJ, q_su_setAJ, q_K_setAR, q_I_setAR, q_J_setAR, q_R_setAR, q_L_setAR, q_AI_setAR, q_AJ_setAR, q_AR_setAR, q_sz_setAR, q_su_setAR, q_K_newO, q_I_newO, q_J_newO, q_R_newO, q_L_newO, q_AI_newO, q_AJ_newO, q_AR_newO, q_sz_newO, q_su_newO, q_K_newA, q_I_newA, q_J_newA, q_R_newA, q_L_newA, q_AI_newA, q_AJ_newA, q_AR_newA, q_sz_newA, q_su_newA, q_K_skip, q_I_skip, q_J_skip, q_R_skip, q_L_skip, q_AI_skip, q_AJ_skip, q_AR_skip, q_sz_skip, q_su_skip]
  rw [up2_ne (by omega), up2_ne (by omega), up2_ne (by omega), up2_ne (by omega), up2_ne (by omega)]
theorem tmS_FM {P : xP} {hv M pl n : Nat} {σ : xS} {a : Int32} : FM P hv M pl n σ (tmS P M σ a) := by
  unfold tmS
  refine FM.trans (FM.trans (FM.trans (FM.trans (FM.set (by unfold cl; omega)) (FM.set (by unfold cl; omega)) (Nat.le_refl _)) (FM.set (by unfold cl; omega)) (Nat.le_refl _)) (FM.set (by unfold cl; omega)) (Nat.le_refl _)) (FM.set (by unfold cl; omega)) (Nat.le_refl _)
/-- what taking a module leaves -/
def QM (P : xP) (T : xT) (hv : Nat) (lng : Bool) (ms : List xMod) (n0 : Nat) (σ0 : xS) (_ : Unit) (s : xS) (q : xMod × Nat) : Prop := ms.length < 8 ∧ (lx_kind T q.2 ≠ 4 → SI P T hv lng ms q.1.pl n0 σ0 q.1 s q.2) ∧ (lx_kind T q.2 = 4 → EI P T hv ms q.1.pl n0 σ0 q.2 s)
theorem rw_takeModule {P : xP} {T : xT} {hv : Nat} {lng : Bool} {ms : List xMod} {n : Nat} {σ : xS} {p : Nat} (h : MB P T hv lng ms n σ p) (hk : lx_kind T p ≠ 4) : Rr (dm_X12_takeModule P (P.base + 11) σ) (sp_mod T ms p) (QM P T hv lng ms n σ) (ER P T hv ms.length σ) := by
  have fq := MBfail h
  have de := fq.de
  have okd := rd_ok de.1 (by have := de.2.2; omega) de.2.1
  obtain ⟨h1, h2, h3, h4, h5, h6, h7⟩ := id h
  have r0 := h1.1
  have a0 := ri_0 r0
  have ok := rw_ok r0 (h2.ok hk)
  have hv1 := h1.2.2.1
  have hh := h1.2.2.2.1
  have hN := h1.2.2.2.2.2.2
  have hT := h1.2.1
  have l8 := h6.1
  have fr := h2.2.1
  have nn := rw_needName h1 h2 hk
  have ff : dm_X12_fail P (P.base + 11) (nI p) σ = some (.inl (), fl P σ p) := rw_fail r0 (h2.ok hk) (nI p)
  have er : ER P T hv ms.length σ p (fl P σ p) := ⟨fl_FL.fr, fq⟩
  obtain ⟨N, hN1⟩ : ∃ k, P.N = k + 1 := ⟨P.N - 1, by omega⟩
  unfold sp_mod
  by_cases k0 : lx_kind T p = 0
  · rw [if_pos k0] at nn
    have hq : NmAt T p (lx_nm T p) := ⟨k0, rfl⟩
    have sn : sp_name T p = .ok (lx_nm T p) := by unfold sp_name; rw [if_pos k0]
    rw [sn]
    simp only [eb_ok]
    have lp := rw_tmL h hq ms.length 0 P.N (by omega) (by omega)
    rw [List.drop_zero] at lp
    have st : dm_X12_takeModule P (P.base + 11) σ = dm_X12_takeModule_L6 P (P.base + 11) P.N (nI 0) σ := by
      unfold dm_X12_takeModule
      simp only [a0, ck_T, eq_self, nn, bd_l, lit_nI]
    refine Rr.eq ?_ (st.trans lp)
    by_cases e : lx_nm T p ∈ ms.map (fun m => m.nm)
    · rw [if_pos e, if_pos (Or.inr e)]
      exact Rr.er (rd_p60 de) er
    · rw [if_neg e]
      by_cases e8 : 8 ≤ ms.length
      · rw [if_pos (Or.inl e8)]
        have e8' : ms.length = 8 := by omega
        rw [e8'] at h3
        refine Rr.er (v := ()) (σ' := fl P σ p) ?_ er
        unfold dm_X12_takeModule_p60
        simp (disch := first | assumption | omega) [ck_T, sm_s, bd_l, bd_r, lt_e, eq_self, and_self, if_true, true_and, and_true, lit_nI, nI_add, nI_mul, nI_sub, nI_clamp, nI_eq, nI_ltI, nI_leI, nN_e, nI_nN, nN_nI, bI_0, bI_1, bI_n, bool_0, bool_1, in_T, lg_cmp0, ofN_nI, a0, ok, fr, ff, h3, rd_tm84 de]
      · rw [if_neg (by intro z; rcases z with z | z <;> contradiction)]
        have e8' : ¬ ms.length = 8 := by omega
        have fm := tmS_FM (P := P) (hv := hv) (M := 8 * hv + ms.length) (pl := p) (n := n) (σ := σ) (a := nI p)
        have c33 : (tmS P (8 * hv + ms.length) σ (nI p)).AI (P.base + 33) (8 * hv + ms.length) = nI 0 := by unfold tmS; simp [q_K_setI, q_I_setI, q_J_setI, q_R_setI, q_L_setI, q_AI_setI, q_AJ_setI, q_AR_setI, q_sz_setI, q_su_setI, q_K_setJ, q_I_setJ, q_J_setJ, q_R_setJ, q_L_setJ, q_AI_setJ, q_AJ_setJ, q_AR_setJ, q_sz_setJ, q_su_setJ, q_K_setR, q_I_setR, q_J_setR, q_R_setR, q_L_setR, q_AI_setR, q_AJ_setR, q_AR_setR, q_sz_setR, q_su_setR, q_K_setAI, q_I_setAI, q_J_setAI, q_R_setAI, q_L_setAI, q_AI_setAI, q_AJ_setAI, q_AR_setAI, q_sz_setAI, q_su_setAI, q_K_setAJ, q_I_setAJ, q_J_setAJ, q_R_setAJ, q_L_setAJ, q_AI_setAJ, q_AJ_setAJ, q_AR_setAJ, q_sz_setAJ, q_su_setAJ, q_K_setAR, q_I_setAR, q_J_setAR, q_R_setAR, q_L_setAR, q_AI_setAR, q_AJ_setAR, q_AR_setAR, q_sz_setAR, q_su_setAR, q_K_newO, q_I_newO, q_J_newO, q_R_newO, q_L_newO, q_AI_newO, q_AJ_newO, q_AR_newO, q_sz_newO, q_su_newO, q_K_newA, q_I_newA, q_J_newA, q_R_newA, q_L_newA, q_AI_newA, q_AJ_newA, q_AR_newA, q_sz_newA, q_su_newA, q_K_skip, q_I_skip, q_J_skip, q_R_skip, q_L_skip, q_AI_skip, q_AJ_skip, q_AR_skip, q_sz_skip, q_su_skip, q_up2, q_up]
        have gt := nx_gt hq.lt
        have md : (8 ≤ ms.length ∨ lx_nm T p ∈ ms.map (fun m => m.nm)) = False := by simp [e, e8]
        have sm : sp_mod T ms p = .ok ((lx_nm T p, p, [], [], [], []), lx_nx T p) := by
          unfold sp_mod
          rw [sn, eb_ok]
          simp only [md, if_false]
        have wx := (WX.start (lng := lng) hT sm).1
        -- the new module, as yet at p
        have tx' := fm.tx h1
        have rc' : RC P T (tmS P (8 * hv + ms.length) σ (nI p)) p := h2.eI rfl
        obtain ⟨s, u1, u2, u3⟩ := rw_next tx' rc' hk
        have ea : s.AI = (tmS P (8 * hv + ms.length) σ (nI p)).AI := u2.2.2.2.2.1
        have fm' : FM P hv (8 * hv + ms.length) p n σ s := fm.trans u2.fm (Nat.le_refl _)
        have rmc : RMc P s T hv n (8 * hv + ms.length) (lx_nm T p, p, [], [], [], []) 0 := by
          unfold RMc
          rw [ea]
          refine ⟨⟨?_, hq, ?_, ?_, ?_, c33⟩, fun j x hx => by simp [xMod.nets, xMod.ports, xMod.wires] at hx, fun j x hx => by simp [xMod.asg] at hx, fun j x hx => by simp [xMod.ins] at hx⟩
          · unfold tmS; simp [q_K_setI, q_I_setI, q_J_setI, q_R_setI, q_L_setI, q_AI_setI, q_AJ_setI, q_AR_setI, q_sz_setI, q_su_setI, q_K_setJ, q_I_setJ, q_J_setJ, q_R_setJ, q_L_setJ, q_AI_setJ, q_AJ_setJ, q_AR_setJ, q_sz_setJ, q_su_setJ, q_K_setR, q_I_setR, q_J_setR, q_R_setR, q_L_setR, q_AI_setR, q_AJ_setR, q_AR_setR, q_sz_setR, q_su_setR, q_K_setAI, q_I_setAI, q_J_setAI, q_R_setAI, q_L_setAI, q_AI_setAI, q_AJ_setAI, q_AR_setAI, q_sz_setAI, q_su_setAI, q_K_setAJ, q_I_setAJ, q_J_setAJ, q_R_setAJ, q_L_setAJ, q_AI_setAJ, q_AJ_setAJ, q_AR_setAJ, q_sz_setAJ, q_su_setAJ, q_K_setAR, q_I_setAR, q_J_setAR, q_R_setAR, q_L_setAR, q_AI_setAR, q_AJ_setAR, q_AR_setAR, q_sz_setAR, q_su_setAR, q_K_newO, q_I_newO, q_J_newO, q_R_newO, q_L_newO, q_AI_newO, q_AJ_newO, q_AR_newO, q_sz_newO, q_su_newO, q_K_newA, q_I_newA, q_J_newA, q_R_newA, q_L_newA, q_AI_newA, q_AJ_newA, q_AR_newA, q_sz_newA, q_su_newA, q_K_skip, q_I_skip, q_J_skip, q_R_skip, q_L_skip, q_AI_skip, q_AJ_skip, q_AR_skip, q_sz_skip, q_su_skip, q_up2, q_up]; rfl
          · unfold tmS; simp [q_K_setI, q_I_setI, q_J_setI, q_R_setI, q_L_setI, q_AI_setI, q_AJ_setI, q_AR_setI, q_sz_setI, q_su_setI, q_K_setJ, q_I_setJ, q_J_setJ, q_R_setJ, q_L_setJ, q_AI_setJ, q_AJ_setJ, q_AR_setJ, q_sz_setJ, q_su_setJ, q_K_setR, q_I_setR, q_J_setR, q_R_setR, q_L_setR, q_AI_setR, q_AJ_setR, q_AR_setR, q_sz_setR, q_su_setR, q_K_setAI, q_I_setAI, q_J_setAI, q_R_setAI, q_L_setAI, q_AI_setAI, q_AJ_setAI, q_AR_setAI, q_sz_setAI, q_su_setAI, q_K_setAJ, q_I_setAJ, q_J_setAJ, q_R_setAJ, q_L_setAJ, q_AI_setAJ, q_AJ_setAJ, q_AR_setAJ, q_sz_setAJ, q_su_setAJ, q_K_setAR, q_I_setAR, q_J_setAR, q_R_setAR, q_L_setAR, q_AI_setAR, q_AJ_setAR, q_AR_setAR, q_sz_setAR, q_su_setAR, q_K_newO, q_I_newO, q_J_newO, q_R_newO, q_L_newO, q_AI_newO, q_AJ_newO, q_AR_newO, q_sz_newO, q_su_newO, q_K_newA, q_I_newA, q_J_newA, q_R_newA, q_L_newA, q_AI_newA, q_AJ_newA, q_AR_newA, q_sz_newA, q_su_newA, q_K_skip, q_I_skip, q_J_skip, q_R_skip, q_L_skip, q_AI_skip, q_AJ_skip, q_AR_skip, q_sz_skip, q_su_skip, q_up2, q_up]; rfl
          · unfold tmS; simp [q_K_setI, q_I_setI, q_J_setI, q_R_setI, q_L_setI, q_AI_setI, q_AJ_setI, q_AR_setI, q_sz_setI, q_su_setI, q_K_setJ, q_I_setJ, q_J_setJ, q_R_setJ, q_L_setJ, q_AI_setJ, q_AJ_setJ, q_AR_setJ, q_sz_setJ, q_su_setJ, q_K_setR, q_I_setR, q_J_setR, q_R_setR, q_L_setR, q_AI_setR, q_AJ_setR, q_AR_setR, q_sz_setR, q_su_setR, q_K_setAI, q_I_setAI, q_J_setAI, q_R_setAI, q_L_setAI, q_AI_setAI, q_AJ_setAI, q_AR_setAI, q_sz_setAI, q_su_setAI, q_K_setAJ, q_I_setAJ, q_J_setAJ, q_R_setAJ, q_L_setAJ, q_AI_setAJ, q_AJ_setAJ, q_AR_setAJ, q_sz_setAJ, q_su_setAJ, q_K_setAR, q_I_setAR, q_J_setAR, q_R_setAR, q_L_setAR, q_AI_setAR, q_AJ_setAR, q_AR_setAR, q_sz_setAR, q_su_setAR, q_K_newO, q_I_newO, q_J_newO, q_R_newO, q_L_newO, q_AI_newO, q_AJ_newO, q_AR_newO, q_sz_newO, q_su_newO, q_K_newA, q_I_newA, q_J_newA, q_R_newA, q_L_newA, q_AI_newA, q_AJ_newA, q_AR_newA, q_sz_newA, q_su_newA, q_K_skip, q_I_skip, q_J_skip, q_R_skip, q_L_skip, q_AI_skip, q_AJ_skip, q_AR_skip, q_sz_skip, q_su_skip, q_up2, q_up]; rfl
          · unfold tmS; simp [q_K_setI, q_I_setI, q_J_setI, q_R_setI, q_L_setI, q_AI_setI, q_AJ_setI, q_AR_setI, q_sz_setI, q_su_setI, q_K_setJ, q_I_setJ, q_J_setJ, q_R_setJ, q_L_setJ, q_AI_setJ, q_AJ_setJ, q_AR_setJ, q_sz_setJ, q_su_setJ, q_K_setR, q_I_setR, q_J_setR, q_R_setR, q_L_setR, q_AI_setR, q_AJ_setR, q_AR_setR, q_sz_setR, q_su_setR, q_K_setAI, q_I_setAI, q_J_setAI, q_R_setAI, q_L_setAI, q_AI_setAI, q_AJ_setAI, q_AR_setAI, q_sz_setAI, q_su_setAI, q_K_setAJ, q_I_setAJ, q_J_setAJ, q_R_setAJ, q_L_setAJ, q_AI_setAJ, q_AJ_setAJ, q_AR_setAJ, q_sz_setAJ, q_su_setAJ, q_K_setAR, q_I_setAR, q_J_setAR, q_R_setAR, q_L_setAR, q_AI_setAR, q_AJ_setAR, q_AR_setAR, q_sz_setAR, q_su_setAR, q_K_newO, q_I_newO, q_J_newO, q_R_newO, q_L_newO, q_AI_newO, q_AJ_newO, q_AR_newO, q_sz_newO, q_su_newO, q_K_newA, q_I_newA, q_J_newA, q_R_newA, q_L_newA, q_AI_newA, q_AJ_newA, q_AR_newA, q_sz_newA, q_su_newA, q_K_skip, q_I_skip, q_J_skip, q_R_skip, q_L_skip, q_AI_skip, q_AJ_skip, q_AR_skip, q_sz_skip, q_su_skip, q_up2, q_up]; rfl
        have rx : RX P T hv lng ms (lx_nm T p, p, [], [], [], []) n s (lx_nx T p) := by
          refine ⟨tx'.fl u2, u3, (fm'.2.1 1141 _ (by omega)).trans h3, by omega, ⟨?_, h5.2.le (by omega)⟩, ⟨0, rmc⟩, wx, h6, fun k m' hm' => ?_⟩
          · rw [ea, tmS_AI (by omega)]; exact h5.1
          · have := get_lt hm'
            exact (h7 k m' hm').fm (h6.2.2.1 m' (List.mem_of_getElem? hm')).1 fm' (by omega) (Nat.le_refl _)
        have si : SI P T hv lng ms p n σ (lx_nm T p, p, [], [], [], []) s (lx_nx T p) := ⟨rfl, fm', n, Nat.le_refl _, rx, by rw [ea]; exact c33⟩
        refine Rr.ok (v := ()) (σ' := s) ?_ ⟨by omega, fun _ => si, fun z => si.bad z⟩
        unfold tmS at u1
        unfold dm_X12_takeModule_p60 dm_X12_takeModule_p84 dm_X12_takeModule_p144
        simp (config := { maxSteps := 2000000 }) (disch := first | assumption | omega) [ck_T, sm_s, bd_l, bd_r, lt_e, eq_self, and_self, if_true, true_and, and_true, lit_nI, nI_add, nI_mul, nI_sub, nI_clamp, nI_eq, nI_ltI, nI_leI, nN_e, nI_nN, nN_nI, bI_0, bI_1, bI_n, bool_0, bool_1, in_T, lg_cmp0, ofN_nI, q_K_setI, q_I_setI, q_J_setI, q_R_setI, q_L_setI, q_AI_setI, q_AJ_setI, q_AR_setI, q_sz_setI, q_su_setI, q_K_setJ, q_I_setJ, q_J_setJ, q_R_setJ, q_L_setJ, q_AI_setJ, q_AJ_setJ, q_AR_setJ, q_sz_setJ, q_su_setJ, q_K_setR, q_I_setR, q_J_setR, q_R_setR, q_L_setR, q_AI_setR, q_AJ_setR, q_AR_setR, q_sz_setR, q_su_setR, q_K_setAI, q_I_setAI, q_J_setAI, q_R_setAI, q_L_setAI, q_AI_setAI, q_AJ_setAI, q_AR_setAI, q_sz_setAI, q_su_setAI, q_K_setAJ, q_I_setAJ, q_J_setAJ, q_R_setAJ, q_L_setAJ, q_AI_setAJ, q_AJ_setAJ, q_AR_setAJ, q_sz_setAJ, q_su_setAJ, q_K_setAR, q_I_setAR, q_J_setAR, q_R_setAR, q_L_setAR, q_AI_setAR, q_AJ_setAR, q_AR_setAR, q_sz_setAR, q_su_setAR, q_K_newO, q_I_newO, q_J_newO, q_R_newO, q_L_newO, q_AI_newO, q_AJ_newO, q_AR_newO, q_sz_newO, q_su_newO, q_K_newA, q_I_newA, q_J_newA, q_R_newA, q_L_newA, q_AI_newA, q_AJ_newA, q_AR_newA, q_sz_newA, q_su_newA, q_K_skip, q_I_skip, q_J_skip, q_R_skip, q_L_skip, q_AI_skip, q_AJ_skip, q_AR_skip, q_sz_skip, q_su_skip, q_up2, q_up, ri_0 r0, ri_13 r0, ri_14 r0, ri_15 r0, ri_16 r0, ri_17 r0, ri_18 r0, ri_19 r0, ri_20 r0, ri_21 r0, ri_55 r0, ri_56 r0, ri_57 r0, ri_64 r0, ri_65 r0, ri_66 r0, dm_X12_mod, hh, h3, ok, e8', fr, u1, x_in, dlt_T, dle_T]
  · rw [if_neg k0] at nn
    have sn : sp_name T p = .error p := by unfold sp_name; rw [if_neg k0]
    rw [sn, eb_er]
    refine Rr.er (v := ()) (σ' := fl P σ p) ?_ er
    unfold dm_X12_takeModule
    rw [hN1]
    simp only [a0, ck_T, eq_self, nn, bd_l, rd_L6 de]
