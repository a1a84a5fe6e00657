/-! ===== the reference: misfits ===== -/
theorem RMc.aj {P : xP} {T : xT} {hv n M ni : Nat} {σ σ' : xS} {m : xMod} (h : RMc P σ T hv n M m ni) (e : ∀ k i, 16 ≤ k → k ≤ 41 → k ≠ 22 → k ≠ 37 → σ'.AI (P.base + k) i = σ.AI (P.base + k) i) : RMc P σ' T hv n M m ni := by
  obtain ⟨⟨h1, h2, h3, h4, h5, h6⟩, h7, h8, h9⟩ := h
  have e' : ∀ k i, (16 ≤ k ∧ k ≤ 41 ∧ k ≠ 22 ∧ k ≠ 37) → σ'.AI (P.base + k) i = σ.AI (P.base + k) i := fun k i z => e k i z.1 z.2.1 z.2.2.1 z.2.2.2
  have rr : ∀ r x, RRef P σ T hv n m.nets r x → RRef P σ' T hv n m.nets r x := fun r x hr => hr.nm (fun c _ _ => e' c r (by omega)) (fun _ _ z => z)
  refine ⟨⟨(e' _ _ (by omega)).trans h1, h2, (e' _ _ (by omega)).trans h3, (e' _ _ (by omega)).trans h4, (e' _ _ (by omega)).trans h5, (e' _ _ (by omega)).trans h6⟩, fun j x hx => ?_, fun j a ha => ?_, fun j i hi => ?_⟩
  · obtain ⟨⟨q, a1, a2⟩, a3, a4, a5⟩ := h7 j x hx
    exact ⟨⟨q, (e' _ _ (by omega)).trans a1, a2⟩, (e' _ _ (by omega)).trans a3, (e' _ _ (by omega)).trans a4, (e' _ _ (by omega)).trans a5⟩
  · obtain ⟨r1, r2, a1, a2, a3, a4⟩ := h8 j a ha
    exact ⟨r1, r2, (e' _ _ (by omega)).trans a1, (e' _ _ (by omega)).trans a2, rr _ _ a3, rr _ _ a4⟩
  · obtain ⟨⟨q, a1, a2⟩, a3, a4, a5, a6, a7⟩ := h9 j i hi
    refine ⟨⟨q, (e' _ _ (by omega)).trans a1, a2⟩, (e' _ _ (by omega)).trans a3, a4, (e' _ _ (by omega)).trans a5, (e' _ _ (by omega)).trans a6, fun t l hl => ?_⟩
    exact (a7 t l hl).ag (fun k hk => e' _ _ (by omega)) (fun r x _ => rr r x)
/-- only what the checks write has changed -/
def FQc (P : xP) (hv : Nat) (σ σ' : xS) : Prop := (σ'.K = σ.K ∧ σ'.L = σ.L ∧ σ'.J = σ.J ∧ σ'.R = σ.R ∧ σ'.AJ = σ.AJ ∧ σ'.AR = σ.AR ∧ σ'.sz = σ.sz ∧ σ'.su = σ.su) ∧ (∀ f a, ¬ (a = P.base + 11 ∧ f = 1139) → σ'.I f a = σ.I f a) ∧ ∀ a i, (∀ k, a = P.base + k → ¬ ((k = 22 ∧ 128 * hv ≤ i ∧ i < 128 * hv + 128) ∨ (k = 37 ∧ 96 * hv ≤ i ∧ i < 96 * hv + 96) ∨ (k = 42 ∧ 8 * hv ≤ i ∧ i < 8 * hv + 8))) → σ'.AI a i = σ.AI a i
theorem FQc.refl (P : xP) (hv : Nat) (σ : xS) : FQc P hv σ σ := ⟨⟨rfl, rfl, rfl, rfl, rfl, rfl, rfl, rfl⟩, fun _ _ _ => rfl, fun _ _ _ => rfl⟩
theorem FQc.trans {P : xP} {hv : Nat} {σ σ' σ'' : xS} (h : FQc P hv σ σ') (k : FQc P hv σ' σ'') : FQc P hv σ σ'' := by
  obtain ⟨⟨a1, a2, a3, a4, a5, a6, a7, a8⟩, a9, a10⟩ := h
  obtain ⟨⟨b1, b2, b3, b4, b5, b6, b7, b8⟩, b9, b10⟩ := k
  exact ⟨⟨b1.trans a1, b2.trans a2, b3.trans a3, b4.trans a4, b5.trans a5, b6.trans a6, b7.trans a7, b8.trans a8⟩, fun f a hf => (b9 f a hf).trans (a9 f a hf), fun a i ha => (b10 a i ha).trans (a10 a i ha)⟩
theorem FQc.fr {P : xP} {hv : Nat} {σ σ' : xS} (h : FQc P hv σ σ') : FR P hv σ σ' := by
  refine ⟨h.1, fun f a hf => h.2.1 f a (fun z => hf ⟨z.1, Or.inl (by omega)⟩), fun a i ha => h.2.2 a i (fun k hk z => ha k hk ?_)⟩
  rcases z with z | z | z
  · exact Or.inl ⟨i / 16, by omega, by omega, Or.inr (Or.inl (by omega))⟩
  · exact Or.inl ⟨i / 12, by omega, by omega, Or.inr (Or.inr (Or.inr (Or.inl (by omega))))⟩
  · exact Or.inr (Or.inr (Or.inr z))
theorem FQc.ai {P : xP} {hv k i : Nat} {σ σ' : xS} (h : FQc P hv σ σ') (hk : k ≠ 22 ∧ k ≠ 37 ∧ k ≠ 42) : σ'.AI (P.base + k) i = σ.AI (P.base + k) i := h.2.2 _ _ (fun k' e z => by omega)
theorem FQc.ri {P : xP} {hv : Nat} {σ σ' : xS} (h : FQc P hv σ σ') (r : RI P σ) : RI P σ' := by
  unfold RI at r ⊢
  rw [h.1.1, h.1.2.1, h.1.2.2.2.1]
  exact r
theorem CV.fq {P : xP} {T : xT} {hv : Nat} {lng : Bool} {ms : List xMod} {n : Nat} {σ σ' : xS} (h : CV P T hv lng ms n σ) (f : FQc P hv σ σ') : CV P T hv lng ms n σ' := by
  obtain ⟨⟨⟨t1, t2, t3, t4, t5, t6⟩, h2, h3, h4, h5⟩, h6, h7⟩ := h
  exact ⟨⟨⟨f.ri t1, t2, t3, (f.ai (by omega)).trans t4, fun i hi => (f.ai (by omega)).trans (t5 i hi), t6⟩, (f.ai (by omega)).trans h2, h3, h4, fun k m' e => (h5 k m' e).aj (fun k i _ _ _ _ => f.ai (by omega))⟩, (f.2.1 1140 _ (by omega)).trans h6, (f.2.1 1141 _ (by omega)).trans h7⟩
theorem ft_FQc {P : xP} {hv f : Nat} {σ : xS} : FQc P hv σ (ft P σ f) := ⟨⟨rfl, rfl, rfl, rfl, rfl, rfl, rfl, rfl⟩, fun f a hf => up2_ne (fun z => hf ⟨z.2, z.1⟩), fun _ _ _ => rfl⟩
theorem CV.wx {P : xP} {T : xT} {hv : Nat} {lng : Bool} {ms : List xMod} {n k : Nat} {σ : xS} {m : xMod} (h : CV P T hv lng ms n σ) (hm : ms[k]? = some m) : WX lng m T.2 := (h.1.2.2.1.2.2.1 m (List.mem_of_getElem? hm)).1
/-- of which module the instances are -/
def OF (P : xP) (σ : xS) (ms : List xMod) (M : Nat) (is : List xIns) : Prop := ∀ j i, is[j]? = some i → σ.AI (P.base + 37) (12 * M + j) = mIx ms i.1
theorem rw_ca27 {P : xP} {T : xT} {hv : Nat} {lng : Bool} {ms : List xMod} {n k : Nat} {m : xMod} (hm : ms[k]? = some m) (k2 : Int32 → xS → xO Unit) : ∀ (r j F : Nat) (σ : xS), j + r = m.ins.length → r < F → CV P T hv lng ms n σ → (∀ j' i, j' < j → m.ins[j']? = some i → σ.AI (P.base + 37) (12 * (8 * hv + k) + j') = mIx ms i.1) → ∃ σ', dm_X12_checkAll_L27 P k2 (P.base + 11) F (nI k) (nI (8 * hv + k)) (nI j) σ = k2 (nI (k + 1)) σ' ∧ FQc P hv σ σ' ∧ (∀ i, ¬ (12 * (8 * hv + k) ≤ i ∧ i < 12 * (8 * hv + k) + 12) → σ'.AI (P.base + 37) i = σ.AI (P.base + 37) i) ∧ OF P σ' ms (8 * hv + k) m.ins ∧ σ'.I = σ.I := by
  intro r
  induction r with
  | zero =>
    intro j F σ hj hF h ho
    obtain ⟨F, rfl⟩ : ∃ m, F = m + 1 := ⟨F - 1, by omega⟩
    have r0 := h.1.1.1
    have hv1 := h.1.1.2.2.1
    have l8 := h.1.2.2.1.1
    have kl := get_lt hm
    have w3 := (h.wx hm).2.2.2.1.2.2
    have a6 := (h.1.2.2.2.2 k m hm).1.2.2.2.2.2
    have e1 : m.ins.length ≤ j := by omega
    refine ⟨σ, ?_, FQc.refl _ _ _, fun _ _ => rfl, fun j' i hi => ho j' i (by have := get_lt hi; omega) hi, rfl⟩
    unfold dm_X12_checkAll_L27
    simp (disch := first | assumption | omega) [ck_T, sm_s, bd_l, bd_r, lt_e, eq_self, and_self, if_true, true_and, and_true, lit_nI, nI_add, nI_mul, nI_sub, nI_clamp, nI_eq, nI_ltI, nI_leI, nN_e, nI_nN, nN_nI, bI_0, bI_1, bI_n, bool_0, bool_1, in_T, lg_cmp0, ofN_nI, ri_0 r0, ri_64 r0, ri_65 r0, ri_66 r0, a6, e1, x_in, dlt_T, dle_T]
  | succ r ih =>
    intro j F σ hj hF h ho
    obtain ⟨F, rfl⟩ : ∃ m, F = m + 1 := ⟨F - 1, by omega⟩
    have r0 := h.1.1.1
    have hv1 := h.1.1.2.2.1
    have l8 := h.1.2.2.1.1
    have kl := get_lt hm
    have w3 := (h.wx hm).2.2.2.1.2.2
    obtain ⟨⟨-, -, -, -, -, a6⟩, -, -, a9⟩ := h.1.2.2.2.2 k m hm
    obtain ⟨i, hi⟩ : ∃ i, m.ins[j]? = some i := ⟨_, List.getElem?_eq_getElem (by omega)⟩
    obtain ⟨⟨q, b1, b2⟩, -⟩ := a9 j i hi
    have mn := rw_moduleNamed h b2
    have e1 : ¬ m.ins.length ≤ j := by omega
    have f1 : FQc P hv σ (σ.setAI (P.base + 37) (12 * (8 * hv + k) + j) (mIx ms i.1)) := by
      refine ⟨⟨rfl, rfl, rfl, rfl, rfl, rfl, rfl, rfl⟩, fun _ _ _ => rfl, fun a i' ha => up2_ne (fun z => ha 37 z.1 (Or.inr (Or.inl (by omega))))⟩
    have o1 : ∀ i', i' ≠ 12 * (8 * hv + k) + j → (σ.setAI (P.base + 37) (12 * (8 * hv + k) + j) (mIx ms i.1)).AI (P.base + 37) i' = σ.AI (P.base + 37) i' := fun i' hi' => up2_ne (fun z => hi' z.2)
    have o2 : (σ.setAI (P.base + 37) (12 * (8 * hv + k) + j) (mIx ms i.1)).AI (P.base + 37) (12 * (8 * hv + k) + j) = mIx ms i.1 := by simp [q_K_setI, q_I_setI, q_J_setI, q_R_setI, q_L_setI, q_AI_setI, q_AJ_setI, q_AR_setI, q_sz_setI, q_su_setI, q_K_setJ, q_I_setJ, q_J_setJ, q_R_setJ, q_L_setJ, q_AI_setJ, q_AJ_setJ, q_AR_setJ, q_sz_setJ, q_su_setJ, q_K_setR, q_I_setR, q_J_setR, q_R_setR, q_L_setR, q_AI_setR, q_AJ_setR, q_AR_setR, q_sz_setR, q_su_setR, q_K_setAI, q_I_setAI, q_J_setAI, q_R_setAI, q_L_setAI, q_AI_setAI, q_AJ_setAI, q_AR_setAI, q_sz_setAI, q_su_setAI, q_K_setAJ, q_I_setAJ, q_J_setAJ, q_R_setAJ, q_L_setAJ, q_AI_setAJ, q_AJ_setAJ, q_AR_setAJ, q_sz_setAJ, q_su_setAJ, q_K_setAR, q_I_setAR, q_J_setAR, q_R_setAR, q_L_setAR, q_AI_setAR, q_AJ_setAR, q_AR_setAR, q_sz_setAR, q_su_setAR, q_K_newO, q_I_newO, q_J_newO, q_R_newO, q_L_newO, q_AI_newO, q_AJ_newO, q_AR_newO, q_sz_newO, q_su_newO, q_K_newA, q_I_newA, q_J_newA, q_R_newA, q_L_newA, q_AI_newA, q_AJ_newA, q_AR_newA, q_sz_newA, q_su_newA, q_K_skip, q_I_skip, q_J_skip, q_R_skip, q_L_skip, q_AI_skip, q_AJ_skip, q_AR_skip, q_sz_skip, q_su_skip, q_up2, q_up]
    obtain ⟨σ', g1, g2, g3, g4, g5⟩ := ih (j + 1) F _ (by omega) (by omega) (h.fq f1) (by
      intro j' i' hj' hi'
      by_cases z : j' = j
      · subst z
        rw [hi] at hi'
        cases hi'
        exact o2
      · rw [o1 _ (by omega)]
        exact ho j' i' (by omega) hi')
    refine ⟨σ', ?_, f1.trans g2, fun i' hi' => (g3 i' hi').trans (o1 _ (by omega)), g4, g5⟩
    rw [← g1]
    conv => lhs; unfold dm_X12_checkAll_L27
    simp (disch := first | assumption | omega) [ck_T, sm_s, bd_l, bd_r, lt_e, eq_self, and_self, if_true, true_and, and_true, lit_nI, nI_add, nI_mul, nI_sub, nI_clamp, nI_eq, nI_ltI, nI_leI, nN_e, nI_nN, nN_nI, bI_0, bI_1, bI_n, bool_0, bool_1, in_T, lg_cmp0, ofN_nI, ri_0 r0, ri_64 r0, ri_65 r0, ri_66 r0, ri_67 r0, ri_68 r0, ri_69 r0, ri_76 r0, ri_77 r0, ri_78 r0, a6, b1, mn, e1, x_in, dlt_T, dle_T]
theorem rw_ca2 {P : xP} {T : xT} {hv : Nat} {lng : Bool} {ms : List xMod} {n : Nat} : ∀ (r k F : Nat) (σ : xS), k + r = ms.length → r < F → CV P T hv lng ms n σ → (∀ k' m, k' < k → ms[k']? = some m → OF P σ ms (8 * hv + k') m.ins) → ∃ σ', dm_X12_checkAll_L2 P (P.base + 11) F (nI k) σ = dm_X12_checkAll_L77 P (P.base + 11) P.N (nI 0) σ' ∧ FQc P hv σ σ' ∧ (∀ k' m, ms[k']? = some m → OF P σ' ms (8 * hv + k') m.ins) ∧ σ'.I = σ.I := by
  intro r
  induction r with
  | zero =>
    intro k F σ hj hF h ho
    obtain ⟨F, rfl⟩ : ∃ m, F = m + 1 := ⟨F - 1, by omega⟩
    obtain ⟨⟨⟨r0, -, hv1, -⟩, h2, h3, -⟩, h6, -⟩ := id h
    have l8 := h3.1
    have e1 : ms.length ≤ k := by omega
    refine ⟨σ, ?_, FQc.refl _ _ _, fun k' m hm => ho k' m (by have := get_lt hm; omega) hm, rfl⟩
    unfold dm_X12_checkAll_L2
    simp (disch := first | assumption | omega) [ck_T, sm_s, bd_l, bd_r, lt_e, eq_self, and_self, if_true, true_and, and_true, lit_nI, nI_add, nI_mul, nI_sub, nI_clamp, nI_eq, nI_ltI, nI_leI, nN_e, nI_nN, nN_nI, bI_0, bI_1, bI_n, bool_0, bool_1, in_T, lg_cmp0, ofN_nI, ri_0 r0, ri_10 r0, ri_11 r0, ri_12 r0, h6, h2, e1, x_in, dlt_T, dle_T]
  | succ r ih =>
    intro k F σ hj hF h ho
    obtain ⟨F, rfl⟩ : ∃ m, F = m + 1 := ⟨F - 1, by omega⟩
    obtain ⟨⟨⟨r0, -, hv1, -⟩, h2, h3, -⟩, h6, -⟩ := id h
    have l8 := h3.1
    have hN := h.tx.2.2.2.2.2.2
    obtain ⟨m, hm⟩ : ∃ m, ms[k]? = some m := ⟨_, List.getElem?_eq_getElem (by omega)⟩
    have w3 := (h.wx hm).2.2.2.1.2.2
    have e1 : ¬ ms.length ≤ k := by omega
    obtain ⟨σ1, g1, g2, g3, g4, g5⟩ := rw_ca27 hm (dm_X12_checkAll_L2 P (P.base + 11) F) m.ins.length 0 P.N σ (by omega) (by omega) h (fun j' i hj' => by omega)
    obtain ⟨σ', s1, s2, s3, s4⟩ := ih (k + 1) F σ1 (by omega) (by omega) (h.fq g2) (by
      intro k' m' hk' hm'
      by_cases z : k' = k
      · subst z
        rw [hm] at hm'
        cases hm'
        exact g4
      · intro j i hi
        have jl := get_lt hi
        have w4 := (h.wx hm').2.2.2.1.2.2
        rw [g3 _ (by omega)]
        exact ho k' m' (by omega) hm' j i hi)
    refine ⟨σ', ?_, g2.trans s2, s3, s4.trans g5⟩
    rw [← s1, ← g1]
    conv => lhs; unfold dm_X12_checkAll_L2
    simp (disch := first | assumption | omega) [ck_T, sm_s, bd_l, bd_r, lt_e, eq_self, and_self, if_true, true_and, and_true, lit_nI, nI_add, nI_mul, nI_sub, nI_clamp, nI_eq, nI_ltI, nI_leI, nN_e, nI_nN, nN_nI, bI_0, bI_1, bI_n, bool_0, bool_1, in_T, lg_cmp0, ofN_nI, ri_0 r0, ri_10 r0, ri_11 r0, ri_12 r0, h6, h2, e1, x_in, dlt_T, dle_T]
/-- where a port is, and which -/
theorem gIx_find {ns : List xNet} {nm : List Nat} : (sp_find ns nm = none ∧ gIx (fun x : xNet => x.1) ns nm = nN) ∨ ∃ p x, sp_find ns nm = some x ∧ gIx (fun x : xNet => x.1) ns nm = nI p ∧ ns[p]? = some x := by
  unfold gIx
  cases e : ns.findIdx? (fun x : xNet => decide (x.1 = nm)) with
  | none =>
    left
    refine ⟨?_, rfl⟩
    rw [List.findIdx?_eq_none_iff] at e
    unfold sp_find
    rw [List.find?_eq_none]
    intro x hx
    simpa using e x hx
  | some p =>
    right
    obtain ⟨h1, h2, h3⟩ := List.findIdx?_eq_some_iff_getElem.mp e
    refine ⟨p, ns[p], ?_, rfl, List.getElem?_eq_getElem h1⟩
    unfold sp_find
    rw [List.find?_eq_some_iff_getElem]
    refine ⟨h2, p, h1, rfl, fun j hj => ?_⟩
    simpa using h3 j hj
theorem rw_p133 {P : xP} {T : xT} {hv : Nat} {lng : Bool} {ms : List xMod} {n k c t kk : Nat} {σ : xS} {m o : xMod} {i : xIns} {l : xLnk} {f : Nat} {s0 : Int32} {po : Option xNet} (k72 : Int32 → Int32 → Int32 → Int32 → xS → xO Unit) (h : CV P T hv lng ms n σ) (hm : ms[k]? = some m) (ho : ms[kk]? = some o) (him : i ∈ m.ins) (hi : RIn P σ T hv n m.nets c i) (hc : c < 192) (hl : i.2.2.2.2[t]? = some l) (hf : f ≤ 1001) (hs : (po = none ∧ s0 = nN) ∨ ∃ p x, po = some x ∧ s0 = nI p ∧ o.ports[p]? = some x) : dm_X12_checkInstance_p133 P k72 (P.base + 11) (nI (8 * hv + k)) (nI c) (nI (8 * hv + kk)) (nI t) (nI (16 * c + t)) s0 (ft P σ f) = k72 (nI (8 * hv + k)) (nI c) (nI (8 * hv + kk)) (nI (t + 1)) (ft P σ (min f (sp_lmis po l))) := by
  have r0 := h.1.1.1
  have hv1 := h.1.1.2.2.1
  have hT := h.1.1.2.1
  have n5 := h.1.2.2.2.1
  have l8 := h.1.2.2.1.1
  have kl := get_lt hm
  have kkl := get_lt ho
  have tl := get_lt hl
  have wm := h.wx hm
  have wo := h.wx ho
  have ix := (wm.2.2.2.2.1.2.2 i him).2
  have i16 := ix.2.1
  have lm := List.mem_of_getElem? hl
  have lp := ix.1.1 l lm
  have h1000 := hT.1
  obtain ⟨-, -, -, q4, q5, q6⟩ := hi
  obtain ⟨y1, y2, y3⟩ := q6 t l hl
  have q4' : (ft P σ f).AI (P.base + 36) c = bI i.2.2.2.1 := q4
  have rf := (ft_FQc (P := P) (hv := hv) (f := f) (σ := σ)).ri r0
  have g6 : (ft P σ f).I 1140 (P.base + 11) = nI hv := (h.fq (ft_FQc (f := f))).2.1
  rcases hs with ⟨rfl, rfl⟩ | ⟨p, x, rfl, rfl, hp⟩
  · have la := rw_late (p := l.2.1) r0 hf (by omega)
    have el : sp_lmis none l = l.2.1 := rfl
    rw [el]
    cases eb : i.2.2.2.1 with
    | true =>
      rw [eb] at q4'
      have y2' : (ft P σ f).AI (P.base + 40) (16 * c + t) = nI l.2.1 := (y2 eb).1
      unfold dm_X12_checkInstance_p133 dm_X12_checkInstance_p168 dm_X12_checkInstance_p232
      simp (disch := first | assumption | omega) [ck_T, sm_s, bd_l, bd_r, lt_e, eq_self, and_self, if_true, true_and, and_true, lit_nI, nI_add, nI_mul, nI_sub, nI_clamp, nI_eq, nI_ltI, nI_leI, nN_e, nI_nN, nN_nI, bI_0, bI_1, bI_n, bool_0, bool_1, in_T, lg_cmp0, ofN_nI, ri_0 rf, ri_73 rf, ri_74 rf, ri_75 rf, ri_85 rf, ri_86 rf, ri_87 rf, ri_88 rf, ri_89 rf, ri_90 rf, q4', y2', bI_tt, la, x_in, dlt_T, dle_T]
    | false =>
      rw [eb] at q4'
      have y3' : (ft P σ f).AI (P.base + 41) (16 * c + t) = nI l.2.1 := y3 eb
      unfold dm_X12_checkInstance_p133 dm_X12_checkInstance_p168 dm_X12_checkInstance_p232
      simp (disch := first | assumption | omega) [ck_T, sm_s, bd_l, bd_r, lt_e, eq_self, and_self, if_true, true_and, and_true, lit_nI, nI_add, nI_mul, nI_sub, nI_clamp, nI_eq, nI_ltI, nI_leI, nN_e, nI_nN, nN_nI, bI_0, bI_1, bI_n, bool_0, bool_1, in_T, lg_cmp0, ofN_nI, ri_0 rf, ri_73 rf, ri_74 rf, ri_75 rf, ri_85 rf, ri_86 rf, ri_87 rf, ri_88 rf, ri_89 rf, ri_90 rf, q4', y3', bI_ff, la, x_in, dlt_T, dle_T]
  · have pl := get_lt hp
    have pn : o.ports.length ≤ o.nets.length := by unfold xMod.nets; simp
    have o16 := wo.2.2.2.1.1
    have hp' : o.nets[p]? = some x := by unfold xMod.nets; rw [List.getElem?_append_left (by omega)]; exact hp
    have xw := (wo.2.1.1 x (List.mem_of_getElem? hp')).2.2.1
    have wd : (ft P σ f).AI (P.base + 21) (16 * (8 * hv + kk) + p) = nI x.2.2 := ((h.1.2.2.2.2 kk o ho).2.1 p x hp').2.2.1
    have pN : ¬ nI p = nN := by rw [nI_nN (by omega)]; simp
    cases el : l.2.2 with
    | none =>
      rw [el] at y1
      have y1' : (ft P σ f).AI (P.base + 39) (16 * c + t) = nN := y1
      have e1 : sp_lmis (some x) l = 1001 := by unfold sp_lmis; simp only [el]
      rw [e1, Nat.min_eq_left hf]
      unfold dm_X12_checkInstance_p133 dm_X12_checkInstance_p232
      simp (disch := first | assumption | omega) [ck_T, sm_s, bd_l, bd_r, lt_e, eq_self, and_self, if_true, true_and, and_true, lit_nI, nI_add, nI_mul, nI_sub, nI_clamp, nI_eq, nI_ltI, nI_leI, nN_e, nI_nN, nN_nI, bI_0, bI_1, bI_n, bool_0, bool_1, in_T, lg_cmp0, ofN_nI, ri_0 rf, ri_82 rf, ri_83 rf, ri_84 rf, pN, y1', x_in, dlt_T, dle_T]
    | some z =>
      rw [el] at y1
      obtain ⟨r, z1, z2⟩ := y1
      have z1' : (ft P σ f).AI (P.base + 39) (16 * c + t) = nI r := z1
      have pw := wm.1.2.1 i him l lm z el
      have zp := (lp.2.2 z el).2
      have rb := z2.1
      have rN : ¬ nI r = nN := by rw [nI_nN (by omega)]; simp
      have z2' : RRef P (ft P σ f) T hv n m.nets r z := z2
      have pl' : (ft P σ f).AI (P.base + 25) r = nI z.2.1 := z2.2.2.1
      have ns' : RNs P (ft P σ f) T (8 * hv + k) m.nets := (h.1.2.2.2.2 k m hm).2.1
      obtain ⟨rw1, rw2⟩ := rw_refWidth (v1 := nI hv) rf hv1 (M := 8 * hv + k) (by omega) (by omega) z2' pw ns' wm.1.2.2.2.2 wm.2.1.1 wm.2.2.2.1.1
      have la := rw_late (p := z.2.1) r0 hf (by omega)
      have e1 : sp_lmis (some x) l = if sp_w z = x.2.2 then 1001 else z.2.1 := by unfold sp_lmis; simp only [el]
      rw [e1]
      unfold dm_X12_checkInstance_p133 dm_X12_checkInstance_p232
      by_cases e : sp_w z = x.2.2
      · rw [if_pos e, Nat.min_eq_left hf]
        rw [e] at rw1
        simp (disch := first | assumption | omega) [ck_T, sm_s, bd_l, bd_r, lt_e, eq_self, and_self, if_true, true_and, and_true, lit_nI, nI_add, nI_mul, nI_sub, nI_clamp, nI_eq, nI_ltI, nI_leI, nN_e, nI_nN, nN_nI, bI_0, bI_1, bI_n, bool_0, bool_1, in_T, lg_cmp0, ofN_nI, ri_0 rf, ri_82 rf, ri_83 rf, ri_84 rf, ri_28 rf, ri_29 rf, ri_30 rf, pN, rN, z1', g6, rw1, wd, x_in, dlt_T, dle_T]
      · rw [if_neg e]
        simp (disch := first | assumption | omega) [ck_T, sm_s, bd_l, bd_r, lt_e, eq_self, and_self, if_true, true_and, and_true, lit_nI, nI_add, nI_mul, nI_sub, nI_clamp, nI_eq, nI_ltI, nI_leI, nN_e, nI_nN, nN_nI, bI_0, bI_1, bI_n, bool_0, bool_1, in_T, lg_cmp0, ofN_nI, ri_0 rf, ri_82 rf, ri_83 rf, ri_84 rf, ri_28 rf, ri_29 rf, ri_30 rf, ri_40 rf, ri_41 rf, ri_42 rf, pN, rN, z1', g6, rw1, wd, e, pl', la, x_in, dlt_T, dle_T]
theorem rw_L72 {P : xP} {T : xT} {hv : Nat} {lng : Bool} {ms : List xMod} {n k c kk : Nat} {σ : xS} {m o : xMod} {i : xIns} (h : CV P T hv lng ms n σ) (hm : ms[k]? = some m) (ho : ms[kk]? = some o) (him : i ∈ m.ins) (hi : RIn P σ T hv n m.nets c i) (hc : c < 192) : ∀ (r t F f : Nat), t + r = i.2.2.2.2.length → r < F → f ≤ 1001 → dm_X12_checkInstance_L72 P (P.base + 11) F (nI (8 * hv + k)) (nI c) (nI (8 * hv + kk)) (nI t) (ft P σ f) = some (.inl (), ft P σ (min f (sp_imisM o i.2.2.2.1 t (i.2.2.2.2.drop t)))) := by
  have r0 := h.1.1.1
  have hv1 := h.1.1.2.2.1
  have hT := h.1.1.2.1
  have l8 := h.1.2.2.1.1
  have kl := get_lt hm
  have kkl := get_lt ho
  have wm := h.wx hm
  have wo := h.wx ho
  have ix := (wm.2.2.2.2.1.2.2 i him).2
  have i16 := ix.2.1
  have o16 := wo.2.2.2.1.1
  have pn : o.ports.length ≤ o.nets.length := by unfold xMod.nets; simp
  have q4 := hi.2.2.2.1
  have q5 := hi.2.2.2.2.1
  intro r
  induction r with
  | zero =>
    intro t F f ht hF hf
    obtain ⟨F, rfl⟩ : ∃ m, F = m + 1 := ⟨F - 1, by omega⟩
    have rf := (ft_FQc (P := P) (hv := hv) (f := f) (σ := σ)).ri r0
    have q5' : (ft P σ f).AI (P.base + 38) c = nI i.2.2.2.2.length := q5
    have e : i.2.2.2.2.drop t = [] := List.drop_eq_nil_of_le (by omega)
    have e1 : i.2.2.2.2.length ≤ t := by omega
    rw [e]
    simp only [sp_imisM, Nat.min_eq_left hf]
    unfold dm_X12_checkInstance_L72
    simp (disch := first | assumption | omega) [ck_T, sm_s, bd_l, bd_r, lt_e, eq_self, and_self, if_true, true_and, and_true, lit_nI, nI_add, nI_mul, nI_sub, nI_clamp, nI_eq, nI_ltI, nI_leI, nN_e, nI_nN, nN_nI, bI_0, bI_1, bI_n, bool_0, bool_1, in_T, lg_cmp0, ofN_nI, ri_0 rf, ri_79 rf, ri_80 rf, ri_81 rf, q5', e1, x_in, dlt_T, dle_T]
  | succ r ih =>
    intro t F f ht hF hf
    obtain ⟨F, rfl⟩ : ∃ m, F = m + 1 := ⟨F - 1, by omega⟩
    have rf := (ft_FQc (P := P) (hv := hv) (f := f) (σ := σ)).ri r0
    have q4' : (ft P σ f).AI (P.base + 36) c = bI i.2.2.2.1 := q4
    have q5' : (ft P σ f).AI (P.base + 38) c = nI i.2.2.2.2.length := q5
    have po' : (ft P σ f).AI (P.base + 17) (8 * hv + kk) = nI o.ports.length := (h.1.2.2.2.2 kk o ho).1.2.2.1
    obtain ⟨l, hl⟩ : ∃ l, i.2.2.2.2[t]? = some l := ⟨_, List.getElem?_eq_getElem (by omega)⟩
    have ed : i.2.2.2.2.drop t = l :: i.2.2.2.2.drop (t + 1) := by
      obtain ⟨hlt, hx3⟩ := List.getElem?_eq_some_iff.mp hl
      rw [List.drop_eq_getElem_cons hlt, hx3]
    have e1 : ¬ i.2.2.2.2.length ≤ t := by omega
    rw [ed]
    simp only [sp_imisM]
    rw [← Nat.min_assoc]
    cases eb : i.2.2.2.1 with
    | true =>
      rw [eb] at q4'
      simp only [if_true]
      have hs := gIx_find (ns := o.ports) (nm := l.1)
      rw [eb] at ih
      have lb : sp_lmis (sp_find o.ports l.1) l ≤ 1001 := lmis_le _ _ T.2 (by have := hT.1; omega) ⟨(ix.1.1 l (List.mem_of_getElem? hl)).2.1, fun r hr => ((ix.1.1 l (List.mem_of_getElem? hl)).2.2 r hr).2⟩
      rw [← ih (t + 1) F _ (by omega) (by omega) (by omega)]
      have key := rw_p133 (f := f) (po := sp_find o.ports l.1) (s0 := gIx (fun x : xNet => x.1) o.ports l.1) (dm_X12_checkInstance_L72 P (P.base + 11) F) h hm ho him hi hc hl hf hs
      rw [← key]
      have y2 := (hi.2.2.2.2.2 t l hl).2.1 eb
      have y2' : (ft P σ f).AI (P.base + 40) (16 * c + t) = nI l.2.1 := y2.1
      have pn := rw_portNamed (M := 8 * hv + kk) (m := o) (h.fq (ft_FQc (f := f))).tx (by omega) po' ((h.fq (ft_FQc (f := f))).1.2.2.2.2 kk o ho).2.1 wo.1.2.2.2.2 o16 y2.2
      conv => lhs; unfold dm_X12_checkInstance_L72
      simp (disch := first | assumption | omega) [ck_T, sm_s, bd_l, bd_r, lt_e, eq_self, and_self, if_true, true_and, and_true, lit_nI, nI_add, nI_mul, nI_sub, nI_clamp, nI_eq, nI_ltI, nI_leI, nN_e, nI_nN, nN_nI, bI_0, bI_1, bI_n, bool_0, bool_1, in_T, lg_cmp0, ofN_nI, ri_0 rf, ri_73 rf, ri_74 rf, ri_75 rf, ri_79 rf, ri_80 rf, ri_81 rf, ri_85 rf, ri_86 rf, ri_87 rf, q4', q5', y2', bI_tt, e1, pn, x_in, dlt_T, dle_T]
    | false =>
      rw [eb] at q4'
      simp only [Bool.false_eq_true, if_false]
      rw [eb] at ih
      have lb : sp_lmis o.ports[t]? l ≤ 1001 := lmis_le _ _ T.2 (by have := hT.1; omega) ⟨(ix.1.1 l (List.mem_of_getElem? hl)).2.1, fun r hr => ((ix.1.1 l (List.mem_of_getElem? hl)).2.2 r hr).2⟩
      rw [← ih (t + 1) F _ (by omega) (by omega) (by omega)]
      by_cases e2 : o.ports.length ≤ t
      · have hs : (o.ports[t]? = none ∧ nN = nN) ∨ ∃ p x, o.ports[t]? = some x ∧ nN = nI p ∧ o.ports[p]? = some x := Or.inl ⟨List.getElem?_eq_none e2, rfl⟩
        have key := rw_p133 (f := f) (dm_X12_checkInstance_L72 P (P.base + 11) F) h hm ho him hi hc hl hf hs
        rw [← key]
        conv => lhs; unfold dm_X12_checkInstance_L72
        simp (disch := first | assumption | omega) [ck_T, sm_s, bd_l, bd_r, lt_e, eq_self, and_self, if_true, true_and, and_true, lit_nI, nI_add, nI_mul, nI_sub, nI_clamp, nI_eq, nI_ltI, nI_leI, nN_e, nI_nN, nN_nI, bI_0, bI_1, bI_n, bool_0, bool_1, in_T, lg_cmp0, ofN_nI, ri_0 rf, ri_73 rf, ri_74 rf, ri_75 rf, ri_79 rf, ri_80 rf, ri_81 rf, ri_16 rf, ri_17 rf, ri_18 rf, q4', q5', po', bI_ff, e1, e2, x_in, dlt_T, dle_T]
      · have hs : (o.ports[t]? = none ∧ nI t = nN) ∨ ∃ p x, o.ports[t]? = some x ∧ nI t = nI p ∧ o.ports[p]? = some x := Or.inr ⟨t, _, List.getElem?_eq_getElem (by omega), rfl, List.getElem?_eq_getElem (by omega)⟩
        have key := rw_p133 (f := f) (dm_X12_checkInstance_L72 P (P.base + 11) F) h hm ho him hi hc hl hf hs
        rw [← key]
        conv => lhs; unfold dm_X12_checkInstance_L72
        simp (disch := first | assumption | omega) [ck_T, sm_s, bd_l, bd_r, lt_e, eq_self, and_self, if_true, true_and, and_true, lit_nI, nI_add, nI_mul, nI_sub, nI_clamp, nI_eq, nI_ltI, nI_leI, nN_e, nI_nN, nN_nI, bI_0, bI_1, bI_n, bool_0, bool_1, in_T, lg_cmp0, ofN_nI, ri_0 rf, ri_73 rf, ri_74 rf, ri_75 rf, ri_79 rf, ri_80 rf, ri_81 rf, ri_16 rf, ri_17 rf, ri_18 rf, q4', q5', po', bI_ff, e1, e2, x_in, dlt_T, dle_T]
theorem rw_checkInstance {P : xP} {T : xT} {hv : Nat} {lng : Bool} {ms : List xMod} {n k j f : Nat} {σ : xS} {m : xMod} {i : xIns} (h : CV P T hv lng ms n σ) (hm : ms[k]? = some m) (hi : m.ins[j]? = some i) (ho : OF P σ ms (8 * hv + k) m.ins) (hf : f ≤ 1001) : dm_X12_checkInstance P (P.base + 11) (nI (8 * hv + k)) (nI (12 * (8 * hv + k) + j)) (ft P σ f) = some (.inl (), ft P σ (min f (sp_imis ms i))) := by
  have r0 := h.1.1.1
  have hv1 := h.1.1.2.2.1
  have hT := h.1.1.2.1
  have l8 := h.1.2.2.1.1
  have hN := h.tx.2.2.2.2.2.2
  have kl := get_lt hm
  have jl := get_lt hi
  have wm := h.wx hm
  have w3 := wm.2.2.2.1.2.2
  have im := List.mem_of_getElem? hi
  have ix := (wm.2.2.2.2.1.2.2 i im).2
  have i16 := ix.2.1
  have h1000 := hT.1
  have hin := (h.1.2.2.2.2 k m hm).2.2.2 j i hi
  have o1 : (ft P σ f).AI (P.base + 37) (12 * (8 * hv + k) + j) = mIx ms i.1 := ho j i hi
  have rf := (ft_FQc (P := P) (hv := hv) (f := f) (σ := σ)).ri r0
  have g6 : (ft P σ f).I 1140 (P.base + 11) = nI hv := (h.fq (ft_FQc (f := f))).2.1
  cases ek : sp_kind ms i.1 with
  | none =>
    rw [mIx_N ek] at o1
    have e1 : sp_imis ms i = 1001 := by unfold sp_imis; rw [ek]
    rw [e1, Nat.min_eq_left hf]
    unfold dm_X12_checkInstance dm_X12_checkInstance_p28
    simp (disch := first | assumption | omega) [ck_T, sm_s, bd_l, bd_r, lt_e, eq_self, and_self, if_true, true_and, and_true, lit_nI, nI_add, nI_mul, nI_sub, nI_clamp, nI_eq, nI_ltI, nI_leI, nN_e, nI_nN, nN_nI, bI_0, bI_1, bI_n, bool_0, bool_1, in_T, lg_cmp0, ofN_nI, ri_0 rf, ri_76 rf, ri_77 rf, ri_78 rf, o1, x_in, dlt_T, dle_T]
  | some kk =>
    rw [mIx_S ek] at o1
    have kkl : kk < ms.length := (List.findIdx?_eq_some_iff_getElem.mp ek).1
    obtain ⟨o, hoo⟩ : ∃ o, ms[kk]? = some o := ⟨_, List.getElem?_eq_getElem kkl⟩
    have wo := h.wx hoo
    have o16 := wo.2.2.2.1.1
    have pn : o.ports.length ≤ o.nets.length := by unfold xMod.nets; simp
    rw [imis_2 (p := T.2) (by omega) ix ek hoo]
    have po' : (ft P σ f).AI (P.base + 17) (8 * hv + kk) = nI o.ports.length := (h.1.2.2.2.2 kk o hoo).1.2.2.1
    have q3 : (ft P σ f).AI (P.base + 35) (12 * (8 * hv + k) + j) = nI i.2.2.1 := hin.2.1
    have q4 : (ft P σ f).AI (P.base + 36) (12 * (8 * hv + k) + j) = bI i.2.2.2.1 := hin.2.2.2.1
    have q5 : (ft P σ f).AI (P.base + 38) (12 * (8 * hv + k) + j) = nI i.2.2.2.2.length := hin.2.2.2.2.1
    have nk : ¬ nI kk = nN := by rw [nI_nN (by omega)]; simp
    have nk2 : ¬ nI (8 * hv + kk) = nN := by rw [nI_nN (by omega)]; simp
    have l72 := fun f hf => rw_L72 (f := f) h hm hoo im hin (by omega) i.2.2.2.2.length 0 P.N (by omega) (by omega) hf
    simp only [List.drop_zero] at l72
    unfold sp_imis2
    rw [← Nat.min_assoc]
    cases eb : i.2.2.2.1 with
    | true =>
      rw [eb] at q4 l72
      rw [if_neg (by simp), Nat.min_eq_left hf]
      unfold dm_X12_checkInstance dm_X12_checkInstance_p28 dm_X12_checkInstance_p69
      simp (disch := first | assumption | omega) [ck_T, sm_s, bd_l, bd_r, lt_e, eq_self, and_self, if_true, true_and, and_true, lit_nI, nI_add, nI_mul, nI_sub, nI_clamp, nI_eq, nI_ltI, nI_leI, nN_e, nI_nN, nN_nI, bI_0, bI_1, bI_n, bool_0, bool_1, in_T, lg_cmp0, ofN_nI, ri_0 rf, ri_76 rf, ri_77 rf, ri_78 rf, ri_73 rf, ri_74 rf, ri_75 rf, o1, g6, nk, nk2, q4, bI_tt, l72 f hf, x_in, dlt_T, dle_T]
    | false =>
      rw [eb] at q4 l72
      by_cases e2 : o.ports.length ≤ i.2.2.2.2.length
      · rw [if_neg (by omega), Nat.min_eq_left hf]
        unfold dm_X12_checkInstance dm_X12_checkInstance_p28 dm_X12_checkInstance_p69
        simp (disch := first | assumption | omega) [ck_T, sm_s, bd_l, bd_r, lt_e, eq_self, and_self, if_true, true_and, and_true, lit_nI, nI_add, nI_mul, nI_sub, nI_clamp, nI_eq, nI_ltI, nI_leI, nN_e, nI_nN, nN_nI, bI_0, bI_1, bI_n, bool_0, bool_1, in_T, lg_cmp0, ofN_nI, ri_0 rf, ri_76 rf, ri_77 rf, ri_78 rf, ri_73 rf, ri_74 rf, ri_75 rf, ri_79 rf, ri_80 rf, ri_81 rf, ri_16 rf, ri_17 rf, ri_18 rf, o1, g6, nk, nk2, q4, q5, po', e2, bI_ff, l72 f hf, x_in, dlt_T, dle_T]
      · rw [if_pos (by constructor; rfl; omega)]
        have la := rw_late (p := i.2.2.1) r0 hf (by have := ix.2.2.2; omega)
        unfold dm_X12_checkInstance dm_X12_checkInstance_p28 dm_X12_checkInstance_p69
        simp (disch := first | assumption | omega) [ck_T, sm_s, bd_l, bd_r, lt_e, eq_self, and_self, if_true, true_and, and_true, lit_nI, nI_add, nI_mul, nI_sub, nI_clamp, nI_eq, nI_ltI, nI_leI, nN_e, nI_nN, nN_nI, bI_0, bI_1, bI_n, bool_0, bool_1, in_T, lg_cmp0, ofN_nI, ri_0 rf, ri_76 rf, ri_77 rf, ri_78 rf, ri_73 rf, ri_74 rf, ri_75 rf, ri_79 rf, ri_80 rf, ri_81 rf, ri_16 rf, ri_17 rf, ri_18 rf, ri_70 rf, ri_71 rf, ri_72 rf, o1, g6, nk, nk2, q3, q4, q5, po', e2, bI_ff, la, l72 (min f i.2.2.1) (by omega), x_in, dlt_T, dle_T]
