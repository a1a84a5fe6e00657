/-! ===== the reference: read ===== -/
/-- what the reference leaves alone -/
def FE (P : xP) (σ σ' : xS) : Prop := (σ'.K = σ.K ∧ σ'.L = σ.L ∧ σ'.J = σ.J ∧ σ'.R = σ.R ∧ σ'.AJ = σ.AJ ∧ σ'.AR = σ.AR ∧ σ'.sz = σ.sz ∧ σ'.su = σ.su) ∧ (∀ f a, a ≠ P.base + 11 → σ'.I f a = σ.I f a) ∧ ∀ a i, (a < P.base + 12 ∨ P.base + 43 ≤ a) → σ'.AI a i = σ.AI a i
theorem FE.refl (P : xP) (σ : xS) : FE P σ σ := ⟨⟨rfl, rfl, rfl, rfl, rfl, rfl, rfl, rfl⟩, fun _ _ _ => rfl, fun _ _ _ => rfl⟩
theorem FE.trans {P : xP} {σ σ' σ'' : xS} (h : FE P σ σ') (k : FE P σ' σ'') : FE P σ σ'' := by
  obtain ⟨⟨a1, a2, a3, a4, a5, a6, a7, a8⟩, a9, a10⟩ := h
  obtain ⟨⟨b1, b2, b3, b4, b5, b6, b7, b8⟩, b9, b10⟩ := k
  exact ⟨⟨b1.trans a1, b2.trans a2, b3.trans a3, b4.trans a4, b5.trans a5, b6.trans a6, b7.trans a7, b8.trans a8⟩, fun f a hf => (b9 f a hf).trans (a9 f a hf), fun a i ha => (b10 a i ha).trans (a10 a i ha)⟩
theorem FE.setI {P : xP} {σ : xS} {f : Nat} {v : Int32} : FE P σ (σ.setI f (P.base + 11) v) := ⟨⟨rfl, rfl, rfl, rfl, rfl, rfl, rfl, rfl⟩, fun _ _ hf => up2_ne (fun z => hf z.2), fun _ _ _ => rfl⟩
theorem FE.setAI {P : xP} {σ : xS} {c i : Nat} {v : Int32} (hc : 12 ≤ c ∧ c < 43) : FE P σ (σ.setAI (P.base + c) i v) := ⟨⟨rfl, rfl, rfl, rfl, rfl, rfl, rfl, rfl⟩, fun _ _ _ => rfl, fun _ _ ha => up2_ne (fun z => by omega)⟩
theorem FR.fe {P : xP} {hv : Nat} {σ σ' : xS} (h : FR P hv σ σ') : FE P σ σ' := by
  refine ⟨h.1, fun f a ha => h.2.1 f a (fun z => ha z.1), fun a i ha => h.2.2 a i (fun k hk z => ?_)⟩
  unfold cl at z
  rcases z with ⟨M, z⟩ | z | z | z <;> omega
theorem FE.ri {P : xP} {σ σ' : xS} (h : FE P σ σ') (r : RI P σ) : RI P σ' := by
  unfold RI at r ⊢
  rw [h.1.1, h.1.2.1, h.1.2.2.2.1]
  exact r
/-- cells of the half hv -/
def iH (hv k i : Nat) : Prop := (k = 13 ∧ 1000 * hv ≤ i ∧ i < 1000 * hv + 1000) ∨ ((k = 14 ∨ k = 15 ∨ k = 24) ∧ i = hv) ∨ ((k = 16 ∨ k = 17 ∨ k = 18 ∨ k = 30 ∨ k = 33 ∨ k = 42) ∧ 8 * hv ≤ i ∧ i < 8 * hv + 8) ∨ (19 ≤ k ∧ k ≤ 23 ∧ 128 * hv ≤ i ∧ i < 128 * hv + 128) ∨ (25 ≤ k ∧ k ≤ 29 ∧ 512 * hv ≤ i ∧ i < 512 * hv + 512) ∨ ((k = 31 ∨ k = 32) ∧ 64 * hv ≤ i ∧ i < 64 * hv + 64) ∨ (34 ≤ k ∧ k ≤ 38 ∧ 96 * hv ≤ i ∧ i < 96 * hv + 96) ∨ (39 ≤ k ∧ k ≤ 41 ∧ 1536 * hv ≤ i ∧ i < 1536 * hv + 1536)
theorem cl_ih {hv M k i : Nat} (h : cl M k i) (h1 : 8 * hv ≤ M) (h2 : M < 8 * hv + 8) : iH hv k i := by
  rcases h with h | h | h | h | h
  · exact Or.inr (Or.inr (Or.inl ⟨by omega, by omega, by omega⟩))
  · exact Or.inr (Or.inr (Or.inr (Or.inl ⟨h.1, h.2.1, by omega, by omega⟩)))
  · exact Or.inr (Or.inr (Or.inr (Or.inr (Or.inr (Or.inl ⟨h.1, by omega, by omega⟩)))))
  · exact Or.inr (Or.inr (Or.inr (Or.inr (Or.inr (Or.inr (Or.inl ⟨h.1, h.2.1, by omega, by omega⟩))))))
  · exact Or.inr (Or.inr (Or.inr (Or.inr (Or.inr (Or.inr (Or.inr ⟨h.1, h.2.1, by omega, by omega⟩))))))
theorem iH_ne {hv hv' k i : Nat} (h : iH hv k i) (h' : iH hv' k i) : hv = hv' := by
  rcases h with h | h | h | h | h | h | h | h <;> rcases h' with h' | h' | h' | h' | h' | h' | h' | h' <;> omega
/-- the half hv is as it was -/
def OH (P : xP) (hv : Nat) (σ σ' : xS) : Prop := (RI P σ → RI P σ') ∧ ∀ k i, iH hv k i → σ'.AI (P.base + k) i = σ.AI (P.base + k) i
theorem OH.trans {P : xP} {hv : Nat} {σ σ' σ'' : xS} (h : OH P hv σ σ') (k : OH P hv σ' σ'') : OH P hv σ σ'' := ⟨fun r => k.1 (h.1 r), fun c i hc => (k.2 c i hc).trans (h.2 c i hc)⟩
theorem OH.setI {P : xP} {hv f : Nat} {σ : xS} {v : Int32} : OH P hv σ (σ.setI f (P.base + 11) v) := ⟨(FE.setI (f := f) (v := v)).ri, fun _ _ _ => rfl⟩
theorem OH.setAI {P : xP} {hv c j : Nat} {σ : xS} {v : Int32} (h : ¬ iH hv c j) : OH P hv σ (σ.setAI (P.base + c) j v) := by
  refine ⟨fun r => r, fun k i hk => up2_ne (fun z => ?_)⟩
  obtain ⟨z1, z2⟩ := z
  have : k = c := by omega
  subst this z2
  exact h hk
theorem FR.oh {P : xP} {hv hv' : Nat} {σ σ' : xS} (h : FR P hv σ σ') (h1 : hv ≤ 1) (h2 : hv' ≤ 1) (h3 : hv ≠ hv') : OH P hv' σ σ' := by
  refine ⟨h.fe.ri, fun k i hk => h.2.2 _ i (fun k' e z => ?_)⟩
  have : k' = k := by omega
  subst this
  refine h3 (iH_ne ?_ hk)
  rcases z with ⟨M, z1, z2, z3⟩ | z | z | z
  · exact cl_ih z3 z1 z2
  · exact Or.inr (Or.inl ⟨by omega, z.2⟩)
  · exact Or.inr (Or.inr (Or.inr (Or.inr (Or.inl z))))
  · exact Or.inr (Or.inr (Or.inl ⟨by omega, z.2.1, z.2.2⟩))
/-- a design that may be asked -/
def RG (P : xP) (T : xT) (hv : Nat) (lng : Bool) (ms : List xMod) (n : Nat) (σ : xS) : Prop := RH P T hv lng ms n σ ∧ sp_mis ms = 1001 ∧ (∀ k, k < ms.length → ¬ gr_R (sp_has ms) ms.length k k) ∧ ∀ k m, ms[k]? = some m → OF P σ ms (8 * hv + k) m.ins ∧ NF P σ (8 * hv + k) m.nets ∧ σ.AI (P.base + 42) (8 * hv + k) = nI (gr_D (sp_has ms) ms.length k)
theorem RG.oh {P : xP} {T : xT} {hv : Nat} {lng : Bool} {ms : List xMod} {n : Nat} {σ σ' : xS} (h : RG P T hv lng ms n σ) (f : OH P hv σ σ') : RG P T hv lng ms n σ' := by
  obtain ⟨⟨⟨t1, t2, t3, t4, t5, t6⟩, h2, h3, h4, h5⟩, g1, g2, g3⟩ := h
  have t7 := t2.1
  have l8 := h3.1
  have hw : ∀ k m, ms[k]? = some m → WX lng m T.2 := fun k m hm => (h3.2.2.1 m (List.mem_of_getElem? hm)).1
  refine ⟨⟨⟨f.1 t1, t2, t3, (f.2 14 _ (by unfold iH; omega)).trans t4, fun i hi => (f.2 13 _ (by unfold iH; omega)).trans (t5 i hi), t6⟩, (f.2 15 _ (by unfold iH; omega)).trans h2, h3, h4, fun k m hm => ?_⟩, g1, g2, fun k m hm => ?_⟩
  · have kl := get_lt hm
    refine (h5 k m hm).ag (hw k m hm) (fun c i hc => f.2 c i (cl_ih hc (by omega) (by omega))) (fun r x _ hr => ?_)
    have rb := hr.1
    exact hr.nm (fun c _ _ => f.2 c r (by unfold iH; omega)) (fun _ _ z => z)
  · have kl := get_lt hm
    obtain ⟨a1, a2, a3⟩ := g3 k m hm
    obtain ⟨w1, w2, w3⟩ := (hw k m hm).2.2.2.1
    refine ⟨fun j i hi => ?_, fun j hj => ?_, (f.2 42 _ (by unfold iH; omega)).trans a3⟩
    · have jl := get_lt hi
      exact (f.2 37 _ (by unfold iH; omega)).trans (a1 j i hi)
    · exact (f.2 22 _ (by unfold iH; omega)).trans (a2 j hj)
/-- the tape of the reference -/
def TQ (P : xP) (T : xT) (σ : xS) : Prop := TV T ∧ σ.I 1102 (P.base + 11) = nI T.2 ∧ ∀ i, i < T.2 → σ.AI (P.base + 12) i = nI (T.1 i)
/-- the reference between calls -/
def RS (P : xP) (T : xT) (ms : List xMod) (σ : xS) : Prop := RI P σ ∧ 5000 ≤ P.N ∧ TQ P T σ ∧ ∃ hv T' lng n, σ.I 1103 (P.base + 11) = nI hv ∧ RG P T' hv lng ms n σ
theorem rd_p208 {P : xP} {σ : xS} {f : Nat} (h : DE P σ f) : dm_X12_read_p208 P (P.base + 11) σ = some (.inl (nN - nI f), σ.setI 1139 (P.base + 11) nN) := by
  have ok := rd_ok h.1 (by have := h.2.2; omega) h.2.1
  have e := h.2.1
  unfold dm_X12_read_p208
  simp (disch := first | assumption | omega) [ck_T, sm_s, bd_l, bd_r, lt_e, eq_self, and_self, if_true, true_and, and_true, lit_nI, nI_add, nI_mul, nI_sub, nI_clamp, nI_eq, nI_ltI, nI_leI, nN_e, nI_nN, nN_nI, bI_0, bI_1, bI_n, bool_0, bool_1, in_T, lg_cmp0, ofN_nI, ri_0 h.1, ok, e]
theorem rd_p197 {P : xP} {σ : xS} {f : Nat} (h : DE P σ f) : dm_X12_read_p197 P (P.base + 11) σ = some (.inl (nN - nI f), σ.setI 1139 (P.base + 11) nN) := by
  have ok := rd_ok h.1 (by have := h.2.2; omega) h.2.1
  unfold dm_X12_read_p197
  simp (disch := first | assumption | omega) [ck_T, sm_s, bd_l, bd_r, lt_e, eq_self, and_self, if_true, true_and, and_true, lit_nI, nI_add, nI_mul, nI_sub, nI_clamp, nI_eq, nI_ltI, nI_leI, nN_e, nI_nN, nN_nI, bI_0, bI_1, bI_n, bool_0, bool_1, in_T, lg_cmp0, ofN_nI, ri_0 h.1, ok, rd_p208 h]
theorem rd_p186 {P : xP} {σ : xS} {f : Nat} (h : DE P σ f) : dm_X12_read_p186 P (P.base + 11) σ = some (.inl (nN - nI f), σ.setI 1139 (P.base + 11) nN) := by
  have ok := rd_ok h.1 (by have := h.2.2; omega) h.2.1
  unfold dm_X12_read_p186
  simp (disch := first | assumption | omega) [ck_T, sm_s, bd_l, bd_r, lt_e, eq_self, and_self, if_true, true_and, and_true, lit_nI, nI_add, nI_mul, nI_sub, nI_clamp, nI_eq, nI_ltI, nI_leI, nN_e, nI_nN, nN_nI, bI_0, bI_1, bI_n, bool_0, bool_1, in_T, lg_cmp0, ofN_nI, ri_0 h.1, ok, rd_p197 h]
theorem ft_de {P : xP} {σ : xS} {f : Nat} (h : RI P σ) (hf : f ≤ 1000) : DE P (ft P σ f) f := by
  refine ⟨(ft_FQc (hv := 0)).ri h, ?_, hf⟩
  unfold ft fI
  rw [if_neg (by omega)]
  simp [q_K_setI, q_I_setI, q_J_setI, q_R_setI, q_L_setI, q_AI_setI, q_AJ_setI, q_AR_setI, q_sz_setI, q_su_setI, q_K_setJ, q_I_setJ, q_J_setJ, q_R_setJ, q_L_setJ, q_AI_setJ, q_AJ_setJ, q_AR_setJ, q_sz_setJ, q_su_setJ, q_K_setR, q_I_setR, q_J_setR, q_R_setR, q_L_setR, q_AI_setR, q_AJ_setR, q_AR_setR, q_sz_setR, q_su_setR, q_K_setAI, q_I_setAI, q_J_setAI, q_R_setAI, q_L_setAI, q_AI_setAI, q_AJ_setAI, q_AR_setAI, q_sz_setAI, q_su_setAI, q_K_setAJ, q_I_setAJ, q_J_setAJ, q_R_setAJ, q_L_setAJ, q_AI_setAJ, q_AJ_setAJ, q_AR_setAJ, q_sz_setAJ, q_su_setAJ, q_K_setAR, q_I_setAR, q_J_setAR, q_R_setAR, q_L_setAR, q_AI_setAR, q_AJ_setAR, q_AR_setAR, q_sz_setAR, q_su_setAR, q_K_newO, q_I_newO, q_J_newO, q_R_newO, q_L_newO, q_AI_newO, q_AJ_newO, q_AR_newO, q_sz_newO, q_su_newO, q_K_newA, q_I_newA, q_J_newA, q_R_newA, q_L_newA, q_AI_newA, q_AJ_newA, q_AR_newA, q_sz_newA, q_su_newA, q_K_skip, q_I_skip, q_J_skip, q_R_skip, q_L_skip, q_AI_skip, q_AJ_skip, q_AR_skip, q_sz_skip, q_su_skip, q_up2, q_up]
theorem ft_set {P : xP} {σ : xS} {f : Nat} : (ft P σ f).setI 1139 (P.base + 11) nN = ft P σ 1001 := by
  have : (ft P σ f).setI 1139 (P.base + 11) nN = ft P (ft P σ f) 1001 := by
    conv => rhs; unfold ft
    unfold ft fI
    simp
  rw [this, ft_ft]
/-- what the end of a read leaves -/
def QE (P : xP) (T : xT) (hv : Nat) (lng : Bool) (s s' : xS) (v : Int32) (e : Except Nat (List xMod)) : Prop := FE P s s' ∧ s'.I 1100 (P.base + 11) = s.I 1100 (P.base + 11) ∧ s'.I 1102 (P.base + 11) = s.I 1102 (P.base + 11) ∧ match e with
  | .error f => v = nN - nI f ∧ FR P hv s s' ∧ f ≤ 1000
  | .ok ms => v = nI ms.length ∧ (∃ n, RG P T hv lng ms n s') ∧ s'.I 1103 (P.base + 11) = nI hv
theorem QE.er {P : xP} {T : xT} {hv : Nat} {lng : Bool} {s s' : xS} {f : Nat} (h : FR P hv s s') (hf : f ≤ 1000) : QE P T hv lng s s' (nN - nI f) (.error f) := ⟨h.fe, h.2.1 1100 _ (by omega), h.2.1 1102 _ (by omega), rfl, h, hf⟩
theorem rw_p186 {P : xP} {T : xT} {hv : Nat} {lng : Bool} {s : xS} {e : Except Nat (List xMod)} (h : QX P T hv lng s e) : ∃ s' v, dm_X12_read_p186 P (P.base + 11) s = some (.inl v, s') ∧ QE P T hv lng s s' v (eb e fun ms => if sp_whole ms = 1001 then .ok ms else .error (sp_whole ms)) := by
  cases e with
  | error f =>
    obtain ⟨h1, h2⟩ := h
    have fr : FR P hv s (s.setI 1139 (P.base + 11) nN) := ⟨⟨rfl, rfl, rfl, rfl, rfl, rfl, rfl, rfl⟩, fun f a hf => up2_ne (fun z => hf (by omega)), fun _ _ _ => rfl⟩
    exact ⟨_, _, rd_p186 h1, QE.er fr h1.2.2⟩
  | ok ms =>
    obtain ⟨n, h⟩ := h
    have cs := h.cs
    have r0 := cs.1.1.1
    have hv1 := cs.1.1.2.2.1
    have hT := cs.1.1.2.1
    have h1000 := hT.1
    have dx := cs.1.2.2.1
    have f0 : s.I 1139 (P.base + 11) = nN := by
      have := h.2.1.2.2.2.2.2.1
      rw [if_neg (by rw [kind_5.mpr (Nat.le_refl _)]; decide)] at this
      exact this
    have ok := rw_ok r0 f0
    obtain ⟨s1, g1, g2, g3, g4⟩ := rw_checkAll cs f0
    have cs1 := cs.fq g2
    have r1 := cs1.1.1.1
    have e1 : dm_X12_read_p186 P (P.base + 11) s = dm_X12_read_p197 P (P.base + 11) (ft P s1 (sp_mis ms)) := by
      unfold dm_X12_read_p186
      simp (disch := first | assumption | omega) [ck_T, sm_s, bd_l, bd_r, lt_e, eq_self, and_self, if_true, true_and, and_true, lit_nI, nI_add, nI_mul, nI_sub, nI_clamp, nI_eq, nI_ltI, nI_leI, nN_e, nI_nN, nN_nI, bI_0, bI_1, bI_n, bool_0, bool_1, in_T, lg_cmp0, ofN_nI, ri_0 r0, ok, g1]
    show ∃ s' v, _ ∧ QE P T hv lng s s' v (if sp_whole ms = 1001 then .ok ms else .error (sp_whole ms))
    by_cases e2 : sp_mis ms = 1001
    · have ew : sp_whole ms = sp_rg (fun k => gr_W (sp_has ms) ms.length k k) 0 ms := by unfold sp_whole; rw [if_pos e2]
      rw [e2, ft_self g4] at e1
      have ok1 := rw_ok r1 g4
      have cr := rw_checkRings cs1 g3 g4
      rw [← ew] at cr
      have e3 : dm_X12_read_p197 P (P.base + 11) s1 = dm_X12_read_p208 P (P.base + 11) (ft P s1 (sp_whole ms)) := by
        unfold dm_X12_read_p197
        simp (disch := first | assumption | omega) [ck_T, sm_s, bd_l, bd_r, lt_e, eq_self, and_self, if_true, true_and, and_true, lit_nI, nI_add, nI_mul, nI_sub, nI_clamp, nI_eq, nI_ltI, nI_leI, nN_e, nI_nN, nN_nI, bI_0, bI_1, bI_n, bool_0, bool_1, in_T, lg_cmp0, ofN_nI, ri_0 r1, ok1, cr]
      by_cases e4 : sp_whole ms = 1001
      · rw [if_pos e4]
        have ac := whole_ac dx (by omega) e4
        obtain ⟨s2, p1, p2, p3, p4⟩ := rw_finish ac cs1 g3
        have cs2 := cs1.fq p2
        have r2 := cs2.1.1.1
        rw [e4, ft_self g4] at e3
        have h6 := cs2.2.1
        have h2 := cs2.1.2.1
        refine ⟨s2.setI 1103 (P.base + 11) (nI hv), nI ms.length, ?_, ?_⟩
        · rw [e1, e3]
          unfold dm_X12_read_p208
          simp (disch := first | assumption | omega) [ck_T, sm_s, bd_l, bd_r, lt_e, eq_self, and_self, if_true, true_and, and_true, lit_nI, nI_add, nI_mul, nI_sub, nI_clamp, nI_eq, nI_ltI, nI_leI, nN_e, nI_nN, nN_nI, bI_0, bI_1, bI_n, bool_0, bool_1, in_T, lg_cmp0, ofN_nI, q_K_setI, q_I_setI, q_J_setI, q_R_setI, q_L_setI, q_AI_setI, q_AJ_setI, q_AR_setI, q_sz_setI, q_su_setI, q_K_setJ, q_I_setJ, q_J_setJ, q_R_setJ, q_L_setJ, q_AI_setJ, q_AJ_setJ, q_AR_setJ, q_sz_setJ, q_su_setJ, q_K_setR, q_I_setR, q_J_setR, q_R_setR, q_L_setR, q_AI_setR, q_AJ_setR, q_AR_setR, q_sz_setR, q_su_setR, q_K_setAI, q_I_setAI, q_J_setAI, q_R_setAI, q_L_setAI, q_AI_setAI, q_AJ_setAI, q_AR_setAI, q_sz_setAI, q_su_setAI, q_K_setAJ, q_I_setAJ, q_J_setAJ, q_R_setAJ, q_L_setAJ, q_AI_setAJ, q_AJ_setAJ, q_AR_setAJ, q_sz_setAJ, q_su_setAJ, q_K_setAR, q_I_setAR, q_J_setAR, q_R_setAR, q_L_setAR, q_AI_setAR, q_AJ_setAR, q_AR_setAR, q_sz_setAR, q_su_setAR, q_K_newO, q_I_newO, q_J_newO, q_R_newO, q_L_newO, q_AI_newO, q_AJ_newO, q_AR_newO, q_sz_newO, q_su_newO, q_K_newA, q_I_newA, q_J_newA, q_R_newA, q_L_newA, q_AI_newA, q_AJ_newA, q_AR_newA, q_sz_newA, q_su_newA, q_K_skip, q_I_skip, q_J_skip, q_R_skip, q_L_skip, q_AI_skip, q_AJ_skip, q_AR_skip, q_sz_skip, q_su_skip, q_up2, q_up, ri_0 r1, ok1, p1, ri_0 r2, ri_10 r2, ri_11 r2, ri_12 r2, h6, h2, x_in, dlt_T, dle_T]
        · have fr := g2.fr.trans p2.fr
          have rg : RG P T hv lng ms n s2 := ⟨cs2.1, e2, ac, p4⟩
          refine ⟨fr.fe.trans FE.setI, ?_, ?_, rfl, ⟨n, rg.oh OH.setI⟩, by simp [q_K_setI, q_I_setI, q_J_setI, q_R_setI, q_L_setI, q_AI_setI, q_AJ_setI, q_AR_setI, q_sz_setI, q_su_setI, q_K_setJ, q_I_setJ, q_J_setJ, q_R_setJ, q_L_setJ, q_AI_setJ, q_AJ_setJ, q_AR_setJ, q_sz_setJ, q_su_setJ, q_K_setR, q_I_setR, q_J_setR, q_R_setR, q_L_setR, q_AI_setR, q_AJ_setR, q_AR_setR, q_sz_setR, q_su_setR, q_K_setAI, q_I_setAI, q_J_setAI, q_R_setAI, q_L_setAI, q_AI_setAI, q_AJ_setAI, q_AR_setAI, q_sz_setAI, q_su_setAI, q_K_setAJ, q_I_setAJ, q_J_setAJ, q_R_setAJ, q_L_setAJ, q_AI_setAJ, q_AJ_setAJ, q_AR_setAJ, q_sz_setAJ, q_su_setAJ, q_K_setAR, q_I_setAR, q_J_setAR, q_R_setAR, q_L_setAR, q_AI_setAR, q_AJ_setAR, q_AR_setAR, q_sz_setAR, q_su_setAR, q_K_newO, q_I_newO, q_J_newO, q_R_newO, q_L_newO, q_AI_newO, q_AJ_newO, q_AR_newO, q_sz_newO, q_su_newO, q_K_newA, q_I_newA, q_J_newA, q_R_newA, q_L_newA, q_AI_newA, q_AJ_newA, q_AR_newA, q_sz_newA, q_su_newA, q_K_skip, q_I_skip, q_J_skip, q_R_skip, q_L_skip, q_AI_skip, q_AJ_skip, q_AR_skip, q_sz_skip, q_su_skip, q_up2, q_up]⟩
          · have q := fr.2.1 1100 (P.base + 11) (by omega)
            simp [q_K_setI, q_I_setI, q_J_setI, q_R_setI, q_L_setI, q_AI_setI, q_AJ_setI, q_AR_setI, q_sz_setI, q_su_setI, q_K_setJ, q_I_setJ, q_J_setJ, q_R_setJ, q_L_setJ, q_AI_setJ, q_AJ_setJ, q_AR_setJ, q_sz_setJ, q_su_setJ, q_K_setR, q_I_setR, q_J_setR, q_R_setR, q_L_setR, q_AI_setR, q_AJ_setR, q_AR_setR, q_sz_setR, q_su_setR, q_K_setAI, q_I_setAI, q_J_setAI, q_R_setAI, q_L_setAI, q_AI_setAI, q_AJ_setAI, q_AR_setAI, q_sz_setAI, q_su_setAI, q_K_setAJ, q_I_setAJ, q_J_setAJ, q_R_setAJ, q_L_setAJ, q_AI_setAJ, q_AJ_setAJ, q_AR_setAJ, q_sz_setAJ, q_su_setAJ, q_K_setAR, q_I_setAR, q_J_setAR, q_R_setAR, q_L_setAR, q_AI_setAR, q_AJ_setAR, q_AR_setAR, q_sz_setAR, q_su_setAR, q_K_newO, q_I_newO, q_J_newO, q_R_newO, q_L_newO, q_AI_newO, q_AJ_newO, q_AR_newO, q_sz_newO, q_su_newO, q_K_newA, q_I_newA, q_J_newA, q_R_newA, q_L_newA, q_AI_newA, q_AJ_newA, q_AR_newA, q_sz_newA, q_su_newA, q_K_skip, q_I_skip, q_J_skip, q_R_skip, q_L_skip, q_AI_skip, q_AJ_skip, q_AR_skip, q_sz_skip, q_su_skip, q_up2, q_up, q]
          · have q := fr.2.1 1102 (P.base + 11) (by omega)
            simp [q_K_setI, q_I_setI, q_J_setI, q_R_setI, q_L_setI, q_AI_setI, q_AJ_setI, q_AR_setI, q_sz_setI, q_su_setI, q_K_setJ, q_I_setJ, q_J_setJ, q_R_setJ, q_L_setJ, q_AI_setJ, q_AJ_setJ, q_AR_setJ, q_sz_setJ, q_su_setJ, q_K_setR, q_I_setR, q_J_setR, q_R_setR, q_L_setR, q_AI_setR, q_AJ_setR, q_AR_setR, q_sz_setR, q_su_setR, q_K_setAI, q_I_setAI, q_J_setAI, q_R_setAI, q_L_setAI, q_AI_setAI, q_AJ_setAI, q_AR_setAI, q_sz_setAI, q_su_setAI, q_K_setAJ, q_I_setAJ, q_J_setAJ, q_R_setAJ, q_L_setAJ, q_AI_setAJ, q_AJ_setAJ, q_AR_setAJ, q_sz_setAJ, q_su_setAJ, q_K_setAR, q_I_setAR, q_J_setAR, q_R_setAR, q_L_setAR, q_AI_setAR, q_AJ_setAR, q_AR_setAR, q_sz_setAR, q_su_setAR, q_K_newO, q_I_newO, q_J_newO, q_R_newO, q_L_newO, q_AI_newO, q_AJ_newO, q_AR_newO, q_sz_newO, q_su_newO, q_K_newA, q_I_newA, q_J_newA, q_R_newA, q_L_newA, q_AI_newA, q_AJ_newA, q_AR_newA, q_sz_newA, q_su_newA, q_K_skip, q_I_skip, q_J_skip, q_R_skip, q_L_skip, q_AI_skip, q_AJ_skip, q_AR_skip, q_sz_skip, q_su_skip, q_up2, q_up, q]
      · rw [if_neg e4]
        have wl := whole_le dx (show T.2 ≤ 1001 by omega)
        have de := ft_de r1 (show sp_whole ms ≤ 1000 by omega)
        refine ⟨_, _, e1.trans (e3.trans (rd_p208 de)), ?_⟩
        rw [ft_set]
        exact QE.er (g2.trans ft_FQc).fr (by omega)
    · have ew : sp_whole ms = sp_mis ms := by unfold sp_whole; rw [if_neg e2]
      have ml : sp_mis ms ≤ 1001 := foldl_le _ _
      rw [ew, if_neg e2]
      have de := ft_de r1 (show sp_mis ms ≤ 1000 by omega)
      refine ⟨_, _, e1.trans (rd_p197 de), ?_⟩
      rw [ft_set]
      exact QE.er (g2.trans ft_FQc).fr (by omega)
/-- while the tape is copied -/
def CPy (P : xP) (T : xT) (hn j : Nat) (σ : xS) : Prop := RI P σ ∧ 5000 ≤ P.N ∧ hn ≤ 1 ∧ TQ P T σ ∧ σ.I 1140 (P.base + 11) = nI hn ∧ ∀ i, i < j → σ.AI (P.base + 13) (1000 * hn + i) = nI (T.1 i)
theorem rw_L52 {P : xP} {T : xT} {hn : Nat} (v1 : Int32) : ∀ (r j F : Nat) (σ : xS), j + r = T.2 → r < F → CPy P T hn j σ → ∃ F' σ', dm_X12_read_L52 P (P.base + 11) F v1 (nI j) σ = dm_X12_read_L52 P (P.base + 11) (F' + 1) v1 (nI T.2) σ' ∧ CPy P T hn T.2 σ' ∧ FE P σ σ' ∧ σ'.I = σ.I ∧ (∀ k i, ¬ (k = 13 ∧ 1000 * hn ≤ i ∧ i < 1000 * hn + 1000) → σ'.AI (P.base + k) i = σ.AI (P.base + k) i) := by
  intro r
  induction r with
  | zero =>
    intro j F σ hj hF h
    obtain ⟨F, rfl⟩ : ∃ m, F = m + 1 := ⟨F - 1, by omega⟩
    have : j = T.2 := by omega
    subst this
    exact ⟨F, σ, rfl, h, FE.refl _ _, rfl, fun _ _ _ => rfl⟩
  | succ r ih =>
    intro j F σ hj hF h
    obtain ⟨F, rfl⟩ : ∃ m, F = m + 1 := ⟨F - 1, by omega⟩
    obtain ⟨r0, hN, hn1, ⟨hT, t1, t2⟩, h6, hc⟩ := id h
    have h1000 := hT.1
    have tj := t2 j (by omega)
    have e1 : ¬ T.2 ≤ j := by omega
    have o1 : ∀ k i, ¬ (k = 13 ∧ i = 1000 * hn + j) → (σ.setAI (P.base + 13) (1000 * hn + j) (nI (T.1 j))).AI (P.base + k) i = σ.AI (P.base + k) i := fun k i hi => up2_ne (fun z => hi (by omega))
    obtain ⟨F', σ', g1, g2, g3, g4, g5⟩ := ih (j + 1) F (σ.setAI (P.base + 13) (1000 * hn + j) (nI (T.1 j))) (by omega) (by omega) (by
      refine ⟨r0, hN, hn1, ⟨hT, t1, fun i hi => (o1 _ _ (by omega)).trans (t2 i hi)⟩, h6, fun i hi => ?_⟩
      by_cases z : i = j
      · subst z
        simp [q_K_setI, q_I_setI, q_J_setI, q_R_setI, q_L_setI, q_AI_setI, q_AJ_setI, q_AR_setI, q_sz_setI, q_su_setI, q_K_setJ, q_I_setJ, q_J_setJ, q_R_setJ, q_L_setJ, q_AI_setJ, q_AJ_setJ, q_AR_setJ, q_sz_setJ, q_su_setJ, q_K_setR, q_I_setR, q_J_setR, q_R_setR, q_L_setR, q_AI_setR, q_AJ_setR, q_AR_setR, q_sz_setR, q_su_setR, q_K_setAI, q_I_setAI, q_J_setAI, q_R_setAI, q_L_setAI, q_AI_setAI, q_AJ_setAI, q_AR_setAI, q_sz_setAI, q_su_setAI, q_K_setAJ, q_I_setAJ, q_J_setAJ, q_R_setAJ, q_L_setAJ, q_AI_setAJ, q_AJ_setAJ, q_AR_setAJ, q_sz_setAJ, q_su_setAJ, q_K_setAR, q_I_setAR, q_J_setAR, q_R_setAR, q_L_setAR, q_AI_setAR, q_AJ_setAR, q_AR_setAR, q_sz_setAR, q_su_setAR, q_K_newO, q_I_newO, q_J_newO, q_R_newO, q_L_newO, q_AI_newO, q_AJ_newO, q_AR_newO, q_sz_newO, q_su_newO, q_K_newA, q_I_newA, q_J_newA, q_R_newA, q_L_newA, q_AI_newA, q_AJ_newA, q_AR_newA, q_sz_newA, q_su_newA, q_K_skip, q_I_skip, q_J_skip, q_R_skip, q_L_skip, q_AI_skip, q_AJ_skip, q_AR_skip, q_sz_skip, q_su_skip, q_up2, q_up]
      · exact (o1 _ _ (by omega)).trans (hc i (by omega)))
    refine ⟨F', σ', ?_, g2, (FE.setAI (by omega)).trans g3, g4, fun k i hk => (g5 k i hk).trans (o1 k i (by omega))⟩
    rw [← g1]
    conv => lhs; unfold dm_X12_read_L52
    simp (disch := first | assumption | omega) [ck_T, sm_s, bd_l, bd_r, lt_e, eq_self, and_self, if_true, true_and, and_true, lit_nI, nI_add, nI_mul, nI_sub, nI_clamp, nI_eq, nI_ltI, nI_leI, nN_e, nI_nN, nN_nI, bI_0, bI_1, bI_n, bool_0, bool_1, in_T, lg_cmp0, ofN_nI, ri_0 r0, ri_1 r0, ri_2 r0, ri_3 r0, ri_4 r0, ri_5 r0, ri_6 r0, t1, h6, e1, tj, x_in, dlt_T, dle_T]
def s52 (P : xP) (hn : Nat) (σ : xS) : xS := (((((σ.setI 1102 (P.base + 11) (nI 0)).setAI (P.base + 24) hn (nI 0)).setAI (P.base + 15) hn (nI 0)).setI 1141 (P.base + 11) (nI 0)).setI 1134 (P.base + 11) (nI 0)).setI 1139 (P.base + 11) nN
theorem rw_read {P : xP} {T : xT} {ms : List xMod} {σ : xS} (h : RS P T ms σ) (lng : Bool) : ∃ σ' v, dm_X12_read P (P.base + 11) (nI (if lng = true then 0 else 1)) σ = some (.inl v, σ') ∧ FE P σ σ' ∧ σ'.I 1100 (P.base + 11) = nI 0 ∧ match sp_read T lng with
    | .ok ms' => v = nI ms'.length ∧ RS P (T.1, 0) ms' σ'
    | .error f => v = nN - nI f ∧ RS P (T.1, 0) ms σ' := by
  obtain ⟨r0, hN, ⟨hT, t1, t2⟩, hv, T', lng', n', q1, rg⟩ := h
  have hv1 := rg.1.1.2.2.1
  have h1000 := hT.1
  obtain ⟨hn, ehn⟩ : ∃ hn, hn = 1 - hv := ⟨_, rfl⟩
  have hn1 : hn ≤ 1 := by omega
  have hne : hn ≠ hv := by omega
  -- before the tape is copied
  obtain ⟨σ1, eσ1⟩ : ∃ s, s = ((σ.setI 1100 (P.base + 11) (nI 0)).setI 1140 (P.base + 11) (nI hn)).setAI (P.base + 14) hn (nI T.2) := ⟨_, rfl⟩
  have fe1 : FE P σ σ1 := by rw [eσ1]; exact (FE.setI.trans FE.setI).trans (FE.setAI (by omega))
  have oh1 : OH P hv σ σ1 := by rw [eσ1]; exact (OH.setI.trans OH.setI).trans (OH.setAI (by unfold iH; omega))
  have cp1 : CPy P T hn 0 σ1 := by
    refine ⟨fe1.ri r0, hN, hn1, ⟨hT, ?_, fun i hi => ?_⟩, ?_, fun i hi => by omega⟩
    · rw [eσ1]; simp [q_K_setI, q_I_setI, q_J_setI, q_R_setI, q_L_setI, q_AI_setI, q_AJ_setI, q_AR_setI, q_sz_setI, q_su_setI, q_K_setJ, q_I_setJ, q_J_setJ, q_R_setJ, q_L_setJ, q_AI_setJ, q_AJ_setJ, q_AR_setJ, q_sz_setJ, q_su_setJ, q_K_setR, q_I_setR, q_J_setR, q_R_setR, q_L_setR, q_AI_setR, q_AJ_setR, q_AR_setR, q_sz_setR, q_su_setR, q_K_setAI, q_I_setAI, q_J_setAI, q_R_setAI, q_L_setAI, q_AI_setAI, q_AJ_setAI, q_AR_setAI, q_sz_setAI, q_su_setAI, q_K_setAJ, q_I_setAJ, q_J_setAJ, q_R_setAJ, q_L_setAJ, q_AI_setAJ, q_AJ_setAJ, q_AR_setAJ, q_sz_setAJ, q_su_setAJ, q_K_setAR, q_I_setAR, q_J_setAR, q_R_setAR, q_L_setAR, q_AI_setAR, q_AJ_setAR, q_AR_setAR, q_sz_setAR, q_su_setAR, q_K_newO, q_I_newO, q_J_newO, q_R_newO, q_L_newO, q_AI_newO, q_AJ_newO, q_AR_newO, q_sz_newO, q_su_newO, q_K_newA, q_I_newA, q_J_newA, q_R_newA, q_L_newA, q_AI_newA, q_AJ_newA, q_AR_newA, q_sz_newA, q_su_newA, q_K_skip, q_I_skip, q_J_skip, q_R_skip, q_L_skip, q_AI_skip, q_AJ_skip, q_AR_skip, q_sz_skip, q_su_skip, q_up2, q_up, t1]
    · rw [eσ1]; simp [q_K_setI, q_I_setI, q_J_setI, q_R_setI, q_L_setI, q_AI_setI, q_AJ_setI, q_AR_setI, q_sz_setI, q_su_setI, q_K_setJ, q_I_setJ, q_J_setJ, q_R_setJ, q_L_setJ, q_AI_setJ, q_AJ_setJ, q_AR_setJ, q_sz_setJ, q_su_setJ, q_K_setR, q_I_setR, q_J_setR, q_R_setR, q_L_setR, q_AI_setR, q_AJ_setR, q_AR_setR, q_sz_setR, q_su_setR, q_K_setAI, q_I_setAI, q_J_setAI, q_R_setAI, q_L_setAI, q_AI_setAI, q_AJ_setAI, q_AR_setAI, q_sz_setAI, q_su_setAI, q_K_setAJ, q_I_setAJ, q_J_setAJ, q_R_setAJ, q_L_setAJ, q_AI_setAJ, q_AJ_setAJ, q_AR_setAJ, q_sz_setAJ, q_su_setAJ, q_K_setAR, q_I_setAR, q_J_setAR, q_R_setAR, q_L_setAR, q_AI_setAR, q_AJ_setAR, q_AR_setAR, q_sz_setAR, q_su_setAR, q_K_newO, q_I_newO, q_J_newO, q_R_newO, q_L_newO, q_AI_newO, q_AJ_newO, q_AR_newO, q_sz_newO, q_su_newO, q_K_newA, q_I_newA, q_J_newA, q_R_newA, q_L_newA, q_AI_newA, q_AJ_newA, q_AR_newA, q_sz_newA, q_su_newA, q_K_skip, q_I_skip, q_J_skip, q_R_skip, q_L_skip, q_AI_skip, q_AJ_skip, q_AR_skip, q_sz_skip, q_su_skip, q_up2, q_up, t2 i hi]
    · rw [eσ1]; simp [q_K_setI, q_I_setI, q_J_setI, q_R_setI, q_L_setI, q_AI_setI, q_AJ_setI, q_AR_setI, q_sz_setI, q_su_setI, q_K_setJ, q_I_setJ, q_J_setJ, q_R_setJ, q_L_setJ, q_AI_setJ, q_AJ_setJ, q_AR_setJ, q_sz_setJ, q_su_setJ, q_K_setR, q_I_setR, q_J_setR, q_R_setR, q_L_setR, q_AI_setR, q_AJ_setR, q_AR_setR, q_sz_setR, q_su_setR, q_K_setAI, q_I_setAI, q_J_setAI, q_R_setAI, q_L_setAI, q_AI_setAI, q_AJ_setAI, q_AR_setAI, q_sz_setAI, q_su_setAI, q_K_setAJ, q_I_setAJ, q_J_setAJ, q_R_setAJ, q_L_setAJ, q_AI_setAJ, q_AJ_setAJ, q_AR_setAJ, q_sz_setAJ, q_su_setAJ, q_K_setAR, q_I_setAR, q_J_setAR, q_R_setAR, q_L_setAR, q_AI_setAR, q_AJ_setAR, q_AR_setAR, q_sz_setAR, q_su_setAR, q_K_newO, q_I_newO, q_J_newO, q_R_newO, q_L_newO, q_AI_newO, q_AJ_newO, q_AR_newO, q_sz_newO, q_su_newO, q_K_newA, q_I_newA, q_J_newA, q_R_newA, q_L_newA, q_AI_newA, q_AJ_newA, q_AR_newA, q_sz_newA, q_su_newA, q_K_skip, q_I_skip, q_J_skip, q_R_skip, q_L_skip, q_AI_skip, q_AJ_skip, q_AR_skip, q_sz_skip, q_su_skip, q_up2, q_up]
  have z1 : σ1.I 1100 (P.base + 11) = nI 0 := by rw [eσ1]; simp [q_K_setI, q_I_setI, q_J_setI, q_R_setI, q_L_setI, q_AI_setI, q_AJ_setI, q_AR_setI, q_sz_setI, q_su_setI, q_K_setJ, q_I_setJ, q_J_setJ, q_R_setJ, q_L_setJ, q_AI_setJ, q_AJ_setJ, q_AR_setJ, q_sz_setJ, q_su_setJ, q_K_setR, q_I_setR, q_J_setR, q_R_setR, q_L_setR, q_AI_setR, q_AJ_setR, q_AR_setR, q_sz_setR, q_su_setR, q_K_setAI, q_I_setAI, q_J_setAI, q_R_setAI, q_L_setAI, q_AI_setAI, q_AJ_setAI, q_AR_setAI, q_sz_setAI, q_su_setAI, q_K_setAJ, q_I_setAJ, q_J_setAJ, q_R_setAJ, q_L_setAJ, q_AI_setAJ, q_AJ_setAJ, q_AR_setAJ, q_sz_setAJ, q_su_setAJ, q_K_setAR, q_I_setAR, q_J_setAR, q_R_setAR, q_L_setAR, q_AI_setAR, q_AJ_setAR, q_AR_setAR, q_sz_setAR, q_su_setAR, q_K_newO, q_I_newO, q_J_newO, q_R_newO, q_L_newO, q_AI_newO, q_AJ_newO, q_AR_newO, q_sz_newO, q_su_newO, q_K_newA, q_I_newA, q_J_newA, q_R_newA, q_L_newA, q_AI_newA, q_AJ_newA, q_AR_newA, q_sz_newA, q_su_newA, q_K_skip, q_I_skip, q_J_skip, q_R_skip, q_L_skip, q_AI_skip, q_AJ_skip, q_AR_skip, q_sz_skip, q_su_skip, q_up2, q_up]
  have z3 : σ1.I 1103 (P.base + 11) = nI hv := by rw [eσ1]; simp [q_K_setI, q_I_setI, q_J_setI, q_R_setI, q_L_setI, q_AI_setI, q_AJ_setI, q_AR_setI, q_sz_setI, q_su_setI, q_K_setJ, q_I_setJ, q_J_setJ, q_R_setJ, q_L_setJ, q_AI_setJ, q_AJ_setJ, q_AR_setJ, q_sz_setJ, q_su_setJ, q_K_setR, q_I_setR, q_J_setR, q_R_setR, q_L_setR, q_AI_setR, q_AJ_setR, q_AR_setR, q_sz_setR, q_su_setR, q_K_setAI, q_I_setAI, q_J_setAI, q_R_setAI, q_L_setAI, q_AI_setAI, q_AJ_setAI, q_AR_setAI, q_sz_setAI, q_su_setAI, q_K_setAJ, q_I_setAJ, q_J_setAJ, q_R_setAJ, q_L_setAJ, q_AI_setAJ, q_AJ_setAJ, q_AR_setAJ, q_sz_setAJ, q_su_setAJ, q_K_setAR, q_I_setAR, q_J_setAR, q_R_setAR, q_L_setAR, q_AI_setAR, q_AJ_setAR, q_AR_setAR, q_sz_setAR, q_su_setAR, q_K_newO, q_I_newO, q_J_newO, q_R_newO, q_L_newO, q_AI_newO, q_AJ_newO, q_AR_newO, q_sz_newO, q_su_newO, q_K_newA, q_I_newA, q_J_newA, q_R_newA, q_L_newA, q_AI_newA, q_AJ_newA, q_AR_newA, q_sz_newA, q_su_newA, q_K_skip, q_I_skip, q_J_skip, q_R_skip, q_L_skip, q_AI_skip, q_AJ_skip, q_AR_skip, q_sz_skip, q_su_skip, q_up2, q_up, q1]
  have z14 : σ1.AI (P.base + 14) hn = nI T.2 := by rw [eσ1]; simp [q_K_setI, q_I_setI, q_J_setI, q_R_setI, q_L_setI, q_AI_setI, q_AJ_setI, q_AR_setI, q_sz_setI, q_su_setI, q_K_setJ, q_I_setJ, q_J_setJ, q_R_setJ, q_L_setJ, q_AI_setJ, q_AJ_setJ, q_AR_setJ, q_sz_setJ, q_su_setJ, q_K_setR, q_I_setR, q_J_setR, q_R_setR, q_L_setR, q_AI_setR, q_AJ_setR, q_AR_setR, q_sz_setR, q_su_setR, q_K_setAI, q_I_setAI, q_J_setAI, q_R_setAI, q_L_setAI, q_AI_setAI, q_AJ_setAI, q_AR_setAI, q_sz_setAI, q_su_setAI, q_K_setAJ, q_I_setAJ, q_J_setAJ, q_R_setAJ, q_L_setAJ, q_AI_setAJ, q_AJ_setAJ, q_AR_setAJ, q_sz_setAJ, q_su_setAJ, q_K_setAR, q_I_setAR, q_J_setAR, q_R_setAR, q_L_setAR, q_AI_setAR, q_AJ_setAR, q_AR_setAR, q_sz_setAR, q_su_setAR, q_K_newO, q_I_newO, q_J_newO, q_R_newO, q_L_newO, q_AI_newO, q_AJ_newO, q_AR_newO, q_sz_newO, q_su_newO, q_K_newA, q_I_newA, q_J_newA, q_R_newA, q_L_newA, q_AI_newA, q_AJ_newA, q_AR_newA, q_sz_newA, q_su_newA, q_K_skip, q_I_skip, q_J_skip, q_R_skip, q_L_skip, q_AI_skip, q_AJ_skip, q_AR_skip, q_sz_skip, q_su_skip, q_up2, q_up]
  have e1 : dm_X12_read P (P.base + 11) (nI (if lng = true then 0 else 1)) σ = dm_X12_read_L52 P (P.base + 11) P.N (nI (if lng = true then 0 else 1)) (nI 0) σ1 := by
    have sb : nI 1 - nI hv = nI hn := by rw [nI_sub (by omega), ehn]
    rw [eσ1]
    cases lng with
    | true =>
      unfold dm_X12_read dm_X12_read_p10 dm_X12_read_p15
      simp (disch := first | assumption | omega) [ck_T, sm_s, bd_l, bd_r, lt_e, eq_self, and_self, if_true, true_and, and_true, lit_nI, nI_add, nI_mul, nI_sub, nI_clamp, nI_eq, nI_ltI, nI_leI, nN_e, nI_nN, nN_nI, bI_0, bI_1, bI_n, bool_0, bool_1, in_T, lg_cmp0, ofN_nI, q_K_setI, q_I_setI, q_J_setI, q_R_setI, q_L_setI, q_AI_setI, q_AJ_setI, q_AR_setI, q_sz_setI, q_su_setI, q_K_setJ, q_I_setJ, q_J_setJ, q_R_setJ, q_L_setJ, q_AI_setJ, q_AJ_setJ, q_AR_setJ, q_sz_setJ, q_su_setJ, q_K_setR, q_I_setR, q_J_setR, q_R_setR, q_L_setR, q_AI_setR, q_AJ_setR, q_AR_setR, q_sz_setR, q_su_setR, q_K_setAI, q_I_setAI, q_J_setAI, q_R_setAI, q_L_setAI, q_AI_setAI, q_AJ_setAI, q_AR_setAI, q_sz_setAI, q_su_setAI, q_K_setAJ, q_I_setAJ, q_J_setAJ, q_R_setAJ, q_L_setAJ, q_AI_setAJ, q_AJ_setAJ, q_AR_setAJ, q_sz_setAJ, q_su_setAJ, q_K_setAR, q_I_setAR, q_J_setAR, q_R_setAR, q_L_setAR, q_AI_setAR, q_AJ_setAR, q_AR_setAR, q_sz_setAR, q_su_setAR, q_K_newO, q_I_newO, q_J_newO, q_R_newO, q_L_newO, q_AI_newO, q_AJ_newO, q_AR_newO, q_sz_newO, q_su_newO, q_K_newA, q_I_newA, q_J_newA, q_R_newA, q_L_newA, q_AI_newA, q_AJ_newA, q_AR_newA, q_sz_newA, q_su_newA, q_K_skip, q_I_skip, q_J_skip, q_R_skip, q_L_skip, q_AI_skip, q_AJ_skip, q_AR_skip, q_sz_skip, q_su_skip, q_up2, q_up, ri_0 r0, ri_7 r0, ri_8 r0, ri_9 r0, q1, t1, sb, x_in, dlt_T, dle_T]
    | false =>
      unfold dm_X12_read dm_X12_read_p10 dm_X12_read_p15
      simp (disch := first | assumption | omega) [ck_T, sm_s, bd_l, bd_r, lt_e, eq_self, and_self, if_true, true_and, and_true, lit_nI, nI_add, nI_mul, nI_sub, nI_clamp, nI_eq, nI_ltI, nI_leI, nN_e, nI_nN, nN_nI, bI_0, bI_1, bI_n, bool_0, bool_1, in_T, lg_cmp0, ofN_nI, q_K_setI, q_I_setI, q_J_setI, q_R_setI, q_L_setI, q_AI_setI, q_AJ_setI, q_AR_setI, q_sz_setI, q_su_setI, q_K_setJ, q_I_setJ, q_J_setJ, q_R_setJ, q_L_setJ, q_AI_setJ, q_AJ_setJ, q_AR_setJ, q_sz_setJ, q_su_setJ, q_K_setR, q_I_setR, q_J_setR, q_R_setR, q_L_setR, q_AI_setR, q_AJ_setR, q_AR_setR, q_sz_setR, q_su_setR, q_K_setAI, q_I_setAI, q_J_setAI, q_R_setAI, q_L_setAI, q_AI_setAI, q_AJ_setAI, q_AR_setAI, q_sz_setAI, q_su_setAI, q_K_setAJ, q_I_setAJ, q_J_setAJ, q_R_setAJ, q_L_setAJ, q_AI_setAJ, q_AJ_setAJ, q_AR_setAJ, q_sz_setAJ, q_su_setAJ, q_K_setAR, q_I_setAR, q_J_setAR, q_R_setAR, q_L_setAR, q_AI_setAR, q_AJ_setAR, q_AR_setAR, q_sz_setAR, q_su_setAR, q_K_newO, q_I_newO, q_J_newO, q_R_newO, q_L_newO, q_AI_newO, q_AJ_newO, q_AR_newO, q_sz_newO, q_su_newO, q_K_newA, q_I_newA, q_J_newA, q_R_newA, q_L_newA, q_AI_newA, q_AJ_newA, q_AR_newA, q_sz_newA, q_su_newA, q_K_skip, q_I_skip, q_J_skip, q_R_skip, q_L_skip, q_AI_skip, q_AJ_skip, q_AR_skip, q_sz_skip, q_su_skip, q_up2, q_up, ri_0 r0, ri_7 r0, ri_8 r0, ri_9 r0, q1, t1, sb, x_in, dlt_T, dle_T]
  obtain ⟨F', σ2, c1, c2, c3, c4, c5⟩ := rw_L52 (nI (if lng = true then 0 else 1)) T.2 0 P.N σ1 (by omega) (by omega) cp1
  obtain ⟨r2, -, -, ⟨-, u1, -⟩, u6, uc⟩ := c2
  obtain ⟨σ3, eσ3⟩ : ∃ s, s = s52 P hn σ2 := ⟨_, rfl⟩
  have fe3 : FE P σ2 σ3 := by rw [eσ3]; unfold s52; exact ((((FE.setI.trans (FE.setAI (by omega))).trans (FE.setAI (by omega))).trans FE.setI).trans FE.setI).trans FE.setI
  have oh3 : OH P hv σ2 σ3 := by
    rw [eσ3]; unfold s52
    exact ((((OH.setI.trans (OH.setAI (by unfold iH; omega))).trans (OH.setAI (by unfold iH; omega))).trans OH.setI).trans OH.setI).trans OH.setI
  have oh2 : OH P hv σ1 σ2 := ⟨c3.ri, fun k i hk => c5 k i (by unfold iH at hk; omega)⟩
  have r3 := fe3.ri r2
  have tx3 : TX P T hn σ3 := by
    refine ⟨r3, hT, hn1, ?_, ?_, fun i hi => ?_, hN⟩
    · rw [eσ3]; unfold s52; simp [q_K_setI, q_I_setI, q_J_setI, q_R_setI, q_L_setI, q_AI_setI, q_AJ_setI, q_AR_setI, q_sz_setI, q_su_setI, q_K_setJ, q_I_setJ, q_J_setJ, q_R_setJ, q_L_setJ, q_AI_setJ, q_AJ_setJ, q_AR_setJ, q_sz_setJ, q_su_setJ, q_K_setR, q_I_setR, q_J_setR, q_R_setR, q_L_setR, q_AI_setR, q_AJ_setR, q_AR_setR, q_sz_setR, q_su_setR, q_K_setAI, q_I_setAI, q_J_setAI, q_R_setAI, q_L_setAI, q_AI_setAI, q_AJ_setAI, q_AR_setAI, q_sz_setAI, q_su_setAI, q_K_setAJ, q_I_setAJ, q_J_setAJ, q_R_setAJ, q_L_setAJ, q_AI_setAJ, q_AJ_setAJ, q_AR_setAJ, q_sz_setAJ, q_su_setAJ, q_K_setAR, q_I_setAR, q_J_setAR, q_R_setAR, q_L_setAR, q_AI_setAR, q_AJ_setAR, q_AR_setAR, q_sz_setAR, q_su_setAR, q_K_newO, q_I_newO, q_J_newO, q_R_newO, q_L_newO, q_AI_newO, q_AJ_newO, q_AR_newO, q_sz_newO, q_su_newO, q_K_newA, q_I_newA, q_J_newA, q_R_newA, q_L_newA, q_AI_newA, q_AJ_newA, q_AR_newA, q_sz_newA, q_su_newA, q_K_skip, q_I_skip, q_J_skip, q_R_skip, q_L_skip, q_AI_skip, q_AJ_skip, q_AR_skip, q_sz_skip, q_su_skip, q_up2, q_up, u6]
    · rw [eσ3]; unfold s52; simp [q_K_setI, q_I_setI, q_J_setI, q_R_setI, q_L_setI, q_AI_setI, q_AJ_setI, q_AR_setI, q_sz_setI, q_su_setI, q_K_setJ, q_I_setJ, q_J_setJ, q_R_setJ, q_L_setJ, q_AI_setJ, q_AJ_setJ, q_AR_setJ, q_sz_setJ, q_su_setJ, q_K_setR, q_I_setR, q_J_setR, q_R_setR, q_L_setR, q_AI_setR, q_AJ_setR, q_AR_setR, q_sz_setR, q_su_setR, q_K_setAI, q_I_setAI, q_J_setAI, q_R_setAI, q_L_setAI, q_AI_setAI, q_AJ_setAI, q_AR_setAI, q_sz_setAI, q_su_setAI, q_K_setAJ, q_I_setAJ, q_J_setAJ, q_R_setAJ, q_L_setAJ, q_AI_setAJ, q_AJ_setAJ, q_AR_setAJ, q_sz_setAJ, q_su_setAJ, q_K_setAR, q_I_setAR, q_J_setAR, q_R_setAR, q_L_setAR, q_AI_setAR, q_AJ_setAR, q_AR_setAR, q_sz_setAR, q_su_setAR, q_K_newO, q_I_newO, q_J_newO, q_R_newO, q_L_newO, q_AI_newO, q_AJ_newO, q_AR_newO, q_sz_newO, q_su_newO, q_K_newA, q_I_newA, q_J_newA, q_R_newA, q_L_newA, q_AI_newA, q_AJ_newA, q_AR_newA, q_sz_newA, q_su_newA, q_K_skip, q_I_skip, q_J_skip, q_R_skip, q_L_skip, q_AI_skip, q_AJ_skip, q_AR_skip, q_sz_skip, q_su_skip, q_up2, q_up]; rw [c5 _ _ (by omega)]; exact z14
    · rw [eσ3]; unfold s52; simp [q_K_setI, q_I_setI, q_J_setI, q_R_setI, q_L_setI, q_AI_setI, q_AJ_setI, q_AR_setI, q_sz_setI, q_su_setI, q_K_setJ, q_I_setJ, q_J_setJ, q_R_setJ, q_L_setJ, q_AI_setJ, q_AJ_setJ, q_AR_setJ, q_sz_setJ, q_su_setJ, q_K_setR, q_I_setR, q_J_setR, q_R_setR, q_L_setR, q_AI_setR, q_AJ_setR, q_AR_setR, q_sz_setR, q_su_setR, q_K_setAI, q_I_setAI, q_J_setAI, q_R_setAI, q_L_setAI, q_AI_setAI, q_AJ_setAI, q_AR_setAI, q_sz_setAI, q_su_setAI, q_K_setAJ, q_I_setAJ, q_J_setAJ, q_R_setAJ, q_L_setAJ, q_AI_setAJ, q_AJ_setAJ, q_AR_setAJ, q_sz_setAJ, q_su_setAJ, q_K_setAR, q_I_setAR, q_J_setAR, q_R_setAR, q_L_setAR, q_AI_setAR, q_AJ_setAR, q_AR_setAR, q_sz_setAR, q_su_setAR, q_K_newO, q_I_newO, q_J_newO, q_R_newO, q_L_newO, q_AI_newO, q_AJ_newO, q_AR_newO, q_sz_newO, q_su_newO, q_K_newA, q_I_newA, q_J_newA, q_R_newA, q_L_newA, q_AI_newA, q_AJ_newA, q_AR_newA, q_sz_newA, q_su_newA, q_K_skip, q_I_skip, q_J_skip, q_R_skip, q_L_skip, q_AI_skip, q_AJ_skip, q_AR_skip, q_sz_skip, q_su_skip, q_up2, q_up, uc i hi]
  have at3 : σ3.I 1134 (P.base + 11) = nI (T.2 - T.2) := by rw [eσ3]; unfold s52; simp [q_K_setI, q_I_setI, q_J_setI, q_R_setI, q_L_setI, q_AI_setI, q_AJ_setI, q_AR_setI, q_sz_setI, q_su_setI, q_K_setJ, q_I_setJ, q_J_setJ, q_R_setJ, q_L_setJ, q_AI_setJ, q_AJ_setJ, q_AR_setJ, q_sz_setJ, q_su_setJ, q_K_setR, q_I_setR, q_J_setR, q_R_setR, q_L_setR, q_AI_setR, q_AJ_setR, q_AR_setR, q_sz_setR, q_su_setR, q_K_setAI, q_I_setAI, q_J_setAI, q_R_setAI, q_L_setAI, q_AI_setAI, q_AJ_setAI, q_AR_setAI, q_sz_setAI, q_su_setAI, q_K_setAJ, q_I_setAJ, q_J_setAJ, q_R_setAJ, q_L_setAJ, q_AI_setAJ, q_AJ_setAJ, q_AR_setAJ, q_sz_setAJ, q_su_setAJ, q_K_setAR, q_I_setAR, q_J_setAR, q_R_setAR, q_L_setAR, q_AI_setAR, q_AJ_setAR, q_AR_setAR, q_sz_setAR, q_su_setAR, q_K_newO, q_I_newO, q_J_newO, q_R_newO, q_L_newO, q_AI_newO, q_AJ_newO, q_AR_newO, q_sz_newO, q_su_newO, q_K_newA, q_I_newA, q_J_newA, q_R_newA, q_L_newA, q_AI_newA, q_AJ_newA, q_AR_newA, q_sz_newA, q_su_newA, q_K_skip, q_I_skip, q_J_skip, q_R_skip, q_L_skip, q_AI_skip, q_AJ_skip, q_AR_skip, q_sz_skip, q_su_skip, q_up2, q_up]
  have f3 : σ3.I 1139 (P.base + 11) = nN := by rw [eσ3]; unfold s52; simp [q_K_setI, q_I_setI, q_J_setI, q_R_setI, q_L_setI, q_AI_setI, q_AJ_setI, q_AR_setI, q_sz_setI, q_su_setI, q_K_setJ, q_I_setJ, q_J_setJ, q_R_setJ, q_L_setJ, q_AI_setJ, q_AJ_setJ, q_AR_setJ, q_sz_setJ, q_su_setJ, q_K_setR, q_I_setR, q_J_setR, q_R_setR, q_L_setR, q_AI_setR, q_AJ_setR, q_AR_setR, q_sz_setR, q_su_setR, q_K_setAI, q_I_setAI, q_J_setAI, q_R_setAI, q_L_setAI, q_AI_setAI, q_AJ_setAI, q_AR_setAI, q_sz_setAI, q_su_setAI, q_K_setAJ, q_I_setAJ, q_J_setAJ, q_R_setAJ, q_L_setAJ, q_AI_setAJ, q_AJ_setAJ, q_AR_setAJ, q_sz_setAJ, q_su_setAJ, q_K_setAR, q_I_setAR, q_J_setAR, q_R_setAR, q_L_setAR, q_AI_setAR, q_AJ_setAR, q_AR_setAR, q_sz_setAR, q_su_setAR, q_K_newO, q_I_newO, q_J_newO, q_R_newO, q_L_newO, q_AI_newO, q_AJ_newO, q_AR_newO, q_sz_newO, q_su_newO, q_K_newA, q_I_newA, q_J_newA, q_R_newA, q_L_newA, q_AI_newA, q_AJ_newA, q_AR_newA, q_sz_newA, q_su_newA, q_K_skip, q_I_skip, q_J_skip, q_R_skip, q_L_skip, q_AI_skip, q_AJ_skip, q_AR_skip, q_sz_skip, q_su_skip, q_up2, q_up]
  obtain ⟨σ4, n1, n2, n3⟩ := rw_nextAt tx3 (Nat.le_refl _) at3 f3
  have e3 : dm_X12_read_L52 P (P.base + 11) (F' + 1) (nI (if lng = true then 0 else 1)) (nI T.2) σ2 = dm_X12_read_L131 P (P.base + 11) P.N (nI (if lng = true then 0 else 1)) σ4 := by
    have nn : dm_X12_next P (P.base + 11) (s52 P hn σ2) = some (.inl (), σ4) := by rw [← eσ3]; exact n1
    unfold s52 at nn
    unfold dm_X12_read_L52
    simp (disch := first | assumption | omega) [ck_T, sm_s, bd_l, bd_r, lt_e, eq_self, and_self, if_true, true_and, and_true, lit_nI, nI_add, nI_mul, nI_sub, nI_clamp, nI_eq, nI_ltI, nI_leI, nN_e, nI_nN, nN_nI, bI_0, bI_1, bI_n, bool_0, bool_1, in_T, lg_cmp0, ofN_nI, q_K_setI, q_I_setI, q_J_setI, q_R_setI, q_L_setI, q_AI_setI, q_AJ_setI, q_AR_setI, q_sz_setI, q_su_setI, q_K_setJ, q_I_setJ, q_J_setJ, q_R_setJ, q_L_setJ, q_AI_setJ, q_AJ_setJ, q_AR_setJ, q_sz_setJ, q_su_setJ, q_K_setR, q_I_setR, q_J_setR, q_R_setR, q_L_setR, q_AI_setR, q_AJ_setR, q_AR_setR, q_sz_setR, q_su_setR, q_K_setAI, q_I_setAI, q_J_setAI, q_R_setAI, q_L_setAI, q_AI_setAI, q_AJ_setAI, q_AR_setAI, q_sz_setAI, q_su_setAI, q_K_setAJ, q_I_setAJ, q_J_setAJ, q_R_setAJ, q_L_setAJ, q_AI_setAJ, q_AJ_setAJ, q_AR_setAJ, q_sz_setAJ, q_su_setAJ, q_K_setAR, q_I_setAR, q_J_setAR, q_R_setAR, q_L_setAR, q_AI_setAR, q_AJ_setAR, q_AR_setAR, q_sz_setAR, q_su_setAR, q_K_newO, q_I_newO, q_J_newO, q_R_newO, q_L_newO, q_AI_newO, q_AJ_newO, q_AR_newO, q_sz_newO, q_su_newO, q_K_newA, q_I_newA, q_J_newA, q_R_newA, q_L_newA, q_AI_newA, q_AJ_newA, q_AR_newA, q_sz_newA, q_su_newA, q_K_skip, q_I_skip, q_J_skip, q_R_skip, q_L_skip, q_AI_skip, q_AJ_skip, q_AR_skip, q_sz_skip, q_su_skip, q_up2, q_up, ri_0 r2, ri_37 r2, ri_38 r2, ri_39 r2, ri_10 r2, ri_11 r2, ri_12 r2, u1, u6, nn, x_in, dlt_T, dle_T]
  have mb : MB P T hn lng [] 0 σ4 (lx_pos T 0) := by
    have ea : σ4.AI = σ3.AI := n2.2.2.2.2.1
    refine ⟨tx3.fl n2, n3, ?_, ?_, ⟨?_, Or.inl (by omega)⟩, by simp [DX], fun k m hm => by simp at hm⟩
    · rw [n2.2.2.2.2.2.2.2.2.2 1141 _ (by omega), eσ3]; unfold s52; simp [q_K_setI, q_I_setI, q_J_setI, q_R_setI, q_L_setI, q_AI_setI, q_AJ_setI, q_AR_setI, q_sz_setI, q_su_setI, q_K_setJ, q_I_setJ, q_J_setJ, q_R_setJ, q_L_setJ, q_AI_setJ, q_AJ_setJ, q_AR_setJ, q_sz_setJ, q_su_setJ, q_K_setR, q_I_setR, q_J_setR, q_R_setR, q_L_setR, q_AI_setR, q_AJ_setR, q_AR_setR, q_sz_setR, q_su_setR, q_K_setAI, q_I_setAI, q_J_setAI, q_R_setAI, q_L_setAI, q_AI_setAI, q_AJ_setAI, q_AR_setAI, q_sz_setAI, q_su_setAI, q_K_setAJ, q_I_setAJ, q_J_setAJ, q_R_setAJ, q_L_setAJ, q_AI_setAJ, q_AJ_setAJ, q_AR_setAJ, q_sz_setAJ, q_su_setAJ, q_K_setAR, q_I_setAR, q_J_setAR, q_R_setAR, q_L_setAR, q_AI_setAR, q_AJ_setAR, q_AR_setAR, q_sz_setAR, q_su_setAR, q_K_newO, q_I_newO, q_J_newO, q_R_newO, q_L_newO, q_AI_newO, q_AJ_newO, q_AR_newO, q_sz_newO, q_su_newO, q_K_newA, q_I_newA, q_J_newA, q_R_newA, q_L_newA, q_AI_newA, q_AJ_newA, q_AR_newA, q_sz_newA, q_su_newA, q_K_skip, q_I_skip, q_J_skip, q_R_skip, q_L_skip, q_AI_skip, q_AJ_skip, q_AR_skip, q_sz_skip, q_su_skip, q_up2, q_up]
    · rw [ea, eσ3]; unfold s52; simp [q_K_setI, q_I_setI, q_J_setI, q_R_setI, q_L_setI, q_AI_setI, q_AJ_setI, q_AR_setI, q_sz_setI, q_su_setI, q_K_setJ, q_I_setJ, q_J_setJ, q_R_setJ, q_L_setJ, q_AI_setJ, q_AJ_setJ, q_AR_setJ, q_sz_setJ, q_su_setJ, q_K_setR, q_I_setR, q_J_setR, q_R_setR, q_L_setR, q_AI_setR, q_AJ_setR, q_AR_setR, q_sz_setR, q_su_setR, q_K_setAI, q_I_setAI, q_J_setAI, q_R_setAI, q_L_setAI, q_AI_setAI, q_AJ_setAI, q_AR_setAI, q_sz_setAI, q_su_setAI, q_K_setAJ, q_I_setAJ, q_J_setAJ, q_R_setAJ, q_L_setAJ, q_AI_setAJ, q_AJ_setAJ, q_AR_setAJ, q_sz_setAJ, q_su_setAJ, q_K_setAR, q_I_setAR, q_J_setAR, q_R_setAR, q_L_setAR, q_AI_setAR, q_AJ_setAR, q_AR_setAR, q_sz_setAR, q_su_setAR, q_K_newO, q_I_newO, q_J_newO, q_R_newO, q_L_newO, q_AI_newO, q_AJ_newO, q_AR_newO, q_sz_newO, q_su_newO, q_K_newA, q_I_newA, q_J_newA, q_R_newA, q_L_newA, q_AI_newA, q_AJ_newA, q_AR_newA, q_sz_newA, q_su_newA, q_K_skip, q_I_skip, q_J_skip, q_R_skip, q_L_skip, q_AI_skip, q_AJ_skip, q_AR_skip, q_sz_skip, q_su_skip, q_up2, q_up]
    · rw [ea, eσ3]; unfold s52; simp [q_K_setI, q_I_setI, q_J_setI, q_R_setI, q_L_setI, q_AI_setI, q_AJ_setI, q_AR_setI, q_sz_setI, q_su_setI, q_K_setJ, q_I_setJ, q_J_setJ, q_R_setJ, q_L_setJ, q_AI_setJ, q_AJ_setJ, q_AR_setJ, q_sz_setJ, q_su_setJ, q_K_setR, q_I_setR, q_J_setR, q_R_setR, q_L_setR, q_AI_setR, q_AJ_setR, q_AR_setR, q_sz_setR, q_su_setR, q_K_setAI, q_I_setAI, q_J_setAI, q_R_setAI, q_L_setAI, q_AI_setAI, q_AJ_setAI, q_AR_setAI, q_sz_setAI, q_su_setAI, q_K_setAJ, q_I_setAJ, q_J_setAJ, q_R_setAJ, q_L_setAJ, q_AI_setAJ, q_AJ_setAJ, q_AR_setAJ, q_sz_setAJ, q_su_setAJ, q_K_setAR, q_I_setAR, q_J_setAR, q_R_setAR, q_L_setAR, q_AI_setAR, q_AJ_setAR, q_AR_setAR, q_sz_setAR, q_su_setAR, q_K_newO, q_I_newO, q_J_newO, q_R_newO, q_L_newO, q_AI_newO, q_AJ_newO, q_AR_newO, q_sz_newO, q_su_newO, q_K_newA, q_I_newA, q_J_newA, q_R_newA, q_L_newA, q_AI_newA, q_AJ_newA, q_AR_newA, q_sz_newA, q_su_newA, q_K_skip, q_I_skip, q_J_skip, q_R_skip, q_L_skip, q_AI_skip, q_AJ_skip, q_AR_skip, q_sz_skip, q_su_skip, q_up2, q_up]
  obtain ⟨s, l1, l2, l3⟩ := rw_L131 1001 [] σ4 (lx_pos T 0) P.N 0 (by omega) (by omega) (by omega) (KX.start T lng (pos_le T 0)) mb
  obtain ⟨s', v, p1, p2⟩ := rw_p186 l3
  have ev : nI (if lng = true then 0 else 1) = if lng = true then nI 0 else nI 1 := by cases lng <;> rfl
  rw [← ev] at l1
  have all : dm_X12_read P (P.base + 11) (nI (if lng = true then 0 else 1)) σ = some (.inl v, s') := by rw [e1, c1, e3, l1, p1]
  have fr4 : FR P hn σ3 s := (n2.fr).trans l2
  have fe4 : FE P σ s := (((fe1.trans c3).trans fe3).trans fr4.fe)
  obtain ⟨y1, y2, y3, y4⟩ := p2
  have w0 : s.I 1100 (P.base + 11) = nI 0 := by
    rw [fr4.2.1 1100 _ (by omega), eσ3]; unfold s52; simp [q_K_setI, q_I_setI, q_J_setI, q_R_setI, q_L_setI, q_AI_setI, q_AJ_setI, q_AR_setI, q_sz_setI, q_su_setI, q_K_setJ, q_I_setJ, q_J_setJ, q_R_setJ, q_L_setJ, q_AI_setJ, q_AJ_setJ, q_AR_setJ, q_sz_setJ, q_su_setJ, q_K_setR, q_I_setR, q_J_setR, q_R_setR, q_L_setR, q_AI_setR, q_AJ_setR, q_AR_setR, q_sz_setR, q_su_setR, q_K_setAI, q_I_setAI, q_J_setAI, q_R_setAI, q_L_setAI, q_AI_setAI, q_AJ_setAI, q_AR_setAI, q_sz_setAI, q_su_setAI, q_K_setAJ, q_I_setAJ, q_J_setAJ, q_R_setAJ, q_L_setAJ, q_AI_setAJ, q_AJ_setAJ, q_AR_setAJ, q_sz_setAJ, q_su_setAJ, q_K_setAR, q_I_setAR, q_J_setAR, q_R_setAR, q_L_setAR, q_AI_setAR, q_AJ_setAR, q_AR_setAR, q_sz_setAR, q_su_setAR, q_K_newO, q_I_newO, q_J_newO, q_R_newO, q_L_newO, q_AI_newO, q_AJ_newO, q_AR_newO, q_sz_newO, q_su_newO, q_K_newA, q_I_newA, q_J_newA, q_R_newA, q_L_newA, q_AI_newA, q_AJ_newA, q_AR_newA, q_sz_newA, q_su_newA, q_K_skip, q_I_skip, q_J_skip, q_R_skip, q_L_skip, q_AI_skip, q_AJ_skip, q_AR_skip, q_sz_skip, q_su_skip, q_up2, q_up]; rw [c4]; exact z1
  have w2 : s.I 1102 (P.base + 11) = nI 0 := by
    rw [fr4.2.1 1102 _ (by omega), eσ3]; unfold s52; simp [q_K_setI, q_I_setI, q_J_setI, q_R_setI, q_L_setI, q_AI_setI, q_AJ_setI, q_AR_setI, q_sz_setI, q_su_setI, q_K_setJ, q_I_setJ, q_J_setJ, q_R_setJ, q_L_setJ, q_AI_setJ, q_AJ_setJ, q_AR_setJ, q_sz_setJ, q_su_setJ, q_K_setR, q_I_setR, q_J_setR, q_R_setR, q_L_setR, q_AI_setR, q_AJ_setR, q_AR_setR, q_sz_setR, q_su_setR, q_K_setAI, q_I_setAI, q_J_setAI, q_R_setAI, q_L_setAI, q_AI_setAI, q_AJ_setAI, q_AR_setAI, q_sz_setAI, q_su_setAI, q_K_setAJ, q_I_setAJ, q_J_setAJ, q_R_setAJ, q_L_setAJ, q_AI_setAJ, q_AJ_setAJ, q_AR_setAJ, q_sz_setAJ, q_su_setAJ, q_K_setAR, q_I_setAR, q_J_setAR, q_R_setAR, q_L_setAR, q_AI_setAR, q_AJ_setAR, q_AR_setAR, q_sz_setAR, q_su_setAR, q_K_newO, q_I_newO, q_J_newO, q_R_newO, q_L_newO, q_AI_newO, q_AJ_newO, q_AR_newO, q_sz_newO, q_su_newO, q_K_newA, q_I_newA, q_J_newA, q_R_newA, q_L_newA, q_AI_newA, q_AJ_newA, q_AR_newA, q_sz_newA, q_su_newA, q_K_skip, q_I_skip, q_J_skip, q_R_skip, q_L_skip, q_AI_skip, q_AJ_skip, q_AR_skip, q_sz_skip, q_su_skip, q_up2, q_up]
  have w3 : s.I 1103 (P.base + 11) = nI hv := by
    rw [fr4.2.1 1103 _ (by omega), eσ3]; unfold s52; simp [q_K_setI, q_I_setI, q_J_setI, q_R_setI, q_L_setI, q_AI_setI, q_AJ_setI, q_AR_setI, q_sz_setI, q_su_setI, q_K_setJ, q_I_setJ, q_J_setJ, q_R_setJ, q_L_setJ, q_AI_setJ, q_AJ_setJ, q_AR_setJ, q_sz_setJ, q_su_setJ, q_K_setR, q_I_setR, q_J_setR, q_R_setR, q_L_setR, q_AI_setR, q_AJ_setR, q_AR_setR, q_sz_setR, q_su_setR, q_K_setAI, q_I_setAI, q_J_setAI, q_R_setAI, q_L_setAI, q_AI_setAI, q_AJ_setAI, q_AR_setAI, q_sz_setAI, q_su_setAI, q_K_setAJ, q_I_setAJ, q_J_setAJ, q_R_setAJ, q_L_setAJ, q_AI_setAJ, q_AJ_setAJ, q_AR_setAJ, q_sz_setAJ, q_su_setAJ, q_K_setAR, q_I_setAR, q_J_setAR, q_R_setAR, q_L_setAR, q_AI_setAR, q_AJ_setAR, q_AR_setAR, q_sz_setAR, q_su_setAR, q_K_newO, q_I_newO, q_J_newO, q_R_newO, q_L_newO, q_AI_newO, q_AJ_newO, q_AR_newO, q_sz_newO, q_su_newO, q_K_newA, q_I_newA, q_J_newA, q_R_newA, q_L_newA, q_AI_newA, q_AJ_newA, q_AR_newA, q_sz_newA, q_su_newA, q_K_skip, q_I_skip, q_J_skip, q_R_skip, q_L_skip, q_AI_skip, q_AJ_skip, q_AR_skip, q_sz_skip, q_su_skip, q_up2, q_up]; rw [c4]; exact z3
  have fe := fe4.trans y1
  have tq : TQ P (T.1, 0) s' := ⟨⟨Nat.zero_le _, fun i hi => by simp at hi⟩, y3.trans w2, fun i hi => by simp at hi⟩
  refine ⟨s', v, all, fe, y2.trans w0, ?_⟩
  unfold sp_read
  cases ez : (eb (sp_text T lng 1001 ([], none, lx_pos T 0)) fun ms => if sp_whole ms = 1001 then .ok ms else .error (sp_whole ms)) with
  | error f =>
    rw [ez] at y4
    obtain ⟨v1, v2, v3⟩ := y4
    have oh5 : OH P hv s s' := v2.oh hn1 hv1 hne
    have oh4 : OH P hv σ3 s := fr4.oh hn1 hv1 hne
    exact ⟨v1, fe.ri r0, hN, tq, hv, T', lng', n', (v2.2.1 1103 _ (by omega)).trans w3, rg.oh ((((oh1.trans oh2).trans oh3).trans oh4).trans oh5)⟩
  | ok ms' =>
    rw [ez] at y4
    obtain ⟨v1, ⟨n, v2⟩, v3⟩ := y4
    exact ⟨v1, fe.ri r0, hN, tq, hn, T, lng, n, v3, v2⟩
/-- read refuses -/
theorem rw_readNo {P : xP} {σ : xS} {v : Int32} (h : RI P σ) (h0 : v ≠ nI 0) (h1 : v ≠ nI 1) : dm_X12_read P (P.base + 11) v σ = some (.inl (nI 0), σ.setI 1100 (P.base + 11) (nI 1)) := by
  unfold dm_X12_read dm_X12_read_p15
  simp (disch := first | assumption | omega) [ck_T, sm_s, bd_l, bd_r, lt_e, eq_self, and_self, if_true, true_and, and_true, lit_nI, nI_add, nI_mul, nI_sub, nI_clamp, nI_eq, nI_ltI, nI_leI, nN_e, nI_nN, nN_nI, bI_0, bI_1, bI_n, bool_0, bool_1, in_T, lg_cmp0, ofN_nI, q_K_setI, q_I_setI, q_J_setI, q_R_setI, q_L_setI, q_AI_setI, q_AJ_setI, q_AR_setI, q_sz_setI, q_su_setI, q_K_setJ, q_I_setJ, q_J_setJ, q_R_setJ, q_L_setJ, q_AI_setJ, q_AJ_setJ, q_AR_setJ, q_sz_setJ, q_su_setJ, q_K_setR, q_I_setR, q_J_setR, q_R_setR, q_L_setR, q_AI_setR, q_AJ_setR, q_AR_setR, q_sz_setR, q_su_setR, q_K_setAI, q_I_setAI, q_J_setAI, q_R_setAI, q_L_setAI, q_AI_setAI, q_AJ_setAI, q_AR_setAI, q_sz_setAI, q_su_setAI, q_K_setAJ, q_I_setAJ, q_J_setAJ, q_R_setAJ, q_L_setAJ, q_AI_setAJ, q_AJ_setAJ, q_AR_setAJ, q_sz_setAJ, q_su_setAJ, q_K_setAR, q_I_setAR, q_J_setAR, q_R_setAR, q_L_setAR, q_AI_setAR, q_AJ_setAR, q_AR_setAR, q_sz_setAR, q_su_setAR, q_K_newO, q_I_newO, q_J_newO, q_R_newO, q_L_newO, q_AI_newO, q_AJ_newO, q_AR_newO, q_sz_newO, q_su_newO, q_K_newA, q_I_newA, q_J_newA, q_R_newA, q_L_newA, q_AI_newA, q_AJ_newA, q_AR_newA, q_sz_newA, q_su_newA, q_K_skip, q_I_skip, q_J_skip, q_R_skip, q_L_skip, q_AI_skip, q_AJ_skip, q_AR_skip, q_sz_skip, q_su_skip, q_up2, q_up, ri_0 h, h0, h1]
