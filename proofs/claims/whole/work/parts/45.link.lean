/-! ===== the class: links ===== -/
theorem cw_linkToL {P : xP} {σ : xS} {g : List Nat → Nat} {kd : List Nat → Option Nat} {lo hi a : Nat} {i : xIns} (h : InsR σ g kd lo hi a i) (hn : ∀ l ∈ i.2.2.2.2, nm_ok l.1) {nm : List Nat} (ho : nm_ok nm) : ∀ (r j n : Nat), j + r = i.2.2.2.2.length → r < n → ∃ v, dm_X1_linkTo_L2 P a n (pk nm) (nI j) σ = some (.inl v, σ) ∧ match (i.2.2.2.2.drop j).find? (fun l => decide (l.1 = nm)) with
    | none => v = none
    | some l => ∃ b, v = some b ∧ LinkR σ g (a + 2) hi b l := by
  obtain ⟨h1, h2, h3, h4, h5, h6, h7, h8, h9, h10, h11, h12, h13, h14⟩ := h
  generalize i.2.2.2.2 = ls at *
  intro r
  induction r with
  | zero =>
    intro j n hj hn
    obtain ⟨n, rfl⟩ : ∃ m, n = m + 1 := ⟨n - 1, by omega⟩
    have e : ls.drop j = [] := List.drop_eq_nil_of_le (by omega)
    rw [e]
    refine ⟨none, ?_, rfl⟩
    unfold dm_X1_linkTo_L2
    simp (disch := first | assumption | omega) [x_chk, x_some, x_bind, x_let, lit_nI, nI_add, nI_mul, nI_sub, nI_clamp, nI_eq, nI_ltI, nI_leI, nN_e, nI_nN, nN_nI, bI_0, bI_1, bI_n, bool_0, bool_1, in_T, lg_cmp0, ofN_nI, h3, h11, dle_T]
  | succ r ih =>
    intro j n hj hn'
    obtain ⟨n, rfl⟩ : ∃ m, n = m + 1 := ⟨n - 1, by omega⟩
    obtain ⟨x, hx⟩ : ∃ x, ls[j]? = some x := ⟨_, List.getElem?_eq_getElem (by omega)⟩
    have ed : ls.drop j = x :: ls.drop (j + 1) := by
      obtain ⟨hlt, hx3⟩ := List.getElem?_eq_some_iff.mp hx
      rw [List.drop_eq_getElem_cons hlt, hx3]
    obtain ⟨b, q1, q2⟩ := h14 j x hx
    obtain ⟨l1, l2, l3, l4, l5, l6⟩ := id q2
    have no := hn x (List.mem_of_getElem? hx)
    have i2 : ¬ ls.length ≤ j := by omega
    by_cases e : x.1 = nm
    · subst e
      refine ⟨some b, ?_, ?_⟩
      · unfold dm_X1_linkTo_L2
        simp (disch := first | assumption | omega) [x_chk, x_some, x_bind, x_let, lit_nI, nI_add, nI_mul, nI_sub, nI_clamp, nI_eq, nI_ltI, nI_leI, nN_e, nI_nN, nN_nI, bI_0, bI_1, bI_n, bool_0, bool_1, in_T, lg_cmp0, ofN_nI, i2, h3, h8, h9, h10, h11, q1, l3, l4, dlt_T]
      · rw [ed]
        simp [List.find?_cons]
        exact q2
    · obtain ⟨v, w1, w2⟩ := ih (j + 1) n (by omega) (by omega)
      refine ⟨v, ?_, ?_⟩
      · unfold dm_X1_linkTo_L2
        simp (disch := first | assumption | omega) [x_chk, x_some, x_bind, x_let, lit_nI, nI_add, nI_mul, nI_sub, nI_clamp, nI_eq, nI_ltI, nI_leI, nN_e, nI_nN, nN_nI, bI_0, bI_1, bI_n, bool_0, bool_1, in_T, lg_cmp0, ofN_nI, i2, h3, h8, h9, h10, h11, q1, l3, l4, dlt_T, pk_iff', e, w1]
      · rw [ed]
        simp only [List.find?_cons, e, decide_false]
        exact w2
theorem cw_linkTo {P : xP} {σ : xS} {g : List Nat → Nat} {kd : List Nat → Option Nat} {lo hi a : Nat} {i : xIns} (C : CI P σ) (h : InsR σ g kd lo hi a i) (hn : ∀ l ∈ i.2.2.2.2, nm_ok l.1) {nm : List Nat} (ho : nm_ok nm) : ∃ v, dm_X1_linkTo P a (pk nm) σ = some (.inl v, σ) ∧ match i.2.2.2.2.find? (fun l => decide (l.1 = nm)) with
    | none => v = none
    | some l => ∃ b, v = some b ∧ LinkR σ g (a + 2) hi b l := by
  have q := cw_linkToL (P := P) h hn ho i.2.2.2.2.length 0 P.N (by omega) (by have := C.N; have := h.2.2.2.2.2.2.2.2.2.2.2.2.1; omega)
  exact q
/-- a new link at the end of the instance -/
theorem cw_addLink {P : xP} {T : xT} {lng : Bool} {g : List Nat → Nat} {ix M a b : Nat} {m : xMod} {f nm : List Nat} {pl : Nat} {bn : Bool} {ls : List xLnk} {l : xLnk} {σ : xS} {p : Nat} (h : IB P T lng g ix M m a (f, nm, pl, bn, ls) σ p) (hl : LinkR σ g (a + 2) σ.sz b l) (hn : ls.length < 16) (ho : nm_ok l.1) : ∃ σ', dm_X1_addLink P a (some b) σ = some (.inl (), σ') ∧ Fr P a 0 σ σ' ∧ IB P T lng g ix M m a (f, nm, pl, bn, ls ++ [l]) σ' p := by
  obtain ⟨C, hcur, hM, hw, hm, h6, h7, hi⟩ := h
  obtain ⟨i1, i2, i3, i4, i5, i6, i7, i8, i9, i10, i11, i12, i13, i14⟩ := hi
  have hMa := hm.1.1
  have kb := hl.2.2.1
  have rn := rd_ne P lng
  have s : Sms σ ((σ.setAR (a + 1) ls.length (some b)).setI 105 a (nI (ls.length + 1))) (a + 2) σ.sz := ((Sms.refl σ _ _).tAR (by omega)).tI (by omega)
  have s2 : Sms σ ((σ.setAR (a + 1) ls.length (some b)).setI 105 a (nI (ls.length + 1))) M a := ((Sms.refl σ _ _).tAR (by omega)).tI (by omega)
  have fr : Fr P a 0 σ ((σ.setAR (a + 1) ls.length (some b)).setI 105 a (nI (ls.length + 1))) := ((Fr.refl P a σ).thenAR (by omega) (by omega)).thenI (by omega) (by omega)
  refine ⟨(σ.setAR (a + 1) ls.length (some b)).setI 105 a (nI (ls.length + 1)), ?_, fr, ?_⟩
  · unfold dm_X1_addLink dm_X1_addLink_p29
    simp only [] at i11
    have n8 : ¬ 16 ≤ ls.length := by omega
    simp (disch := first | assumption | omega) [x_chk, x_some, x_bind, x_let, lit_nI, nI_add, nI_mul, nI_sub, nI_clamp, nI_eq, nI_ltI, nI_leI, nN_e, nI_nN, nN_nI, bI_0, bI_1, bI_n, bool_0, bool_1, in_T, lg_cmp0, ofN_nI, q_K_setI, q_I_setI, q_J_setI, q_R_setI, q_L_setI, q_AI_setI, q_AJ_setI, q_AR_setI, q_sz_setI, q_su_setI, q_K_setJ, q_I_setJ, q_J_setJ, q_R_setJ, q_L_setJ, q_AI_setJ, q_AJ_setJ, q_AR_setJ, q_sz_setJ, q_su_setJ, q_K_setR, q_I_setR, q_J_setR, q_R_setR, q_L_setR, q_AI_setR, q_AJ_setR, q_AR_setR, q_sz_setR, q_su_setR, q_K_setAI, q_I_setAI, q_J_setAI, q_R_setAI, q_L_setAI, q_AI_setAI, q_AJ_setAI, q_AR_setAI, q_sz_setAI, q_su_setAI, q_K_setAJ, q_I_setAJ, q_J_setAJ, q_R_setAJ, q_L_setAJ, q_AI_setAJ, q_AJ_setAJ, q_AR_setAJ, q_sz_setAJ, q_su_setAJ, q_K_setAR, q_I_setAR, q_J_setAR, q_R_setAR, q_L_setAR, q_AI_setAR, q_AJ_setAR, q_AR_setAR, q_sz_setAR, q_su_setAR, q_K_newO, q_I_newO, q_J_newO, q_R_newO, q_L_newO, q_AI_newO, q_AJ_newO, q_AR_newO, q_sz_newO, q_su_newO, q_K_newA, q_I_newA, q_J_newA, q_R_newA, q_L_newA, q_AI_newA, q_AJ_newA, q_AR_newA, q_sz_newA, q_su_newA, q_K_skip, q_I_skip, q_J_skip, q_R_skip, q_L_skip, q_AI_skip, q_AJ_skip, q_AR_skip, q_sz_skip, q_su_skip, i3, i8, i9, i10, i11, n8, x_kind, x_kb, kb, dlt_T, dle_T]
  · refine ⟨C.fr fr (by simp [q_K_setI, q_I_setI, q_J_setI, q_R_setI, q_L_setI, q_AI_setI, q_AJ_setI, q_AR_setI, q_sz_setI, q_su_setI, q_K_setJ, q_I_setJ, q_J_setJ, q_R_setJ, q_L_setJ, q_AI_setJ, q_AJ_setJ, q_AR_setJ, q_sz_setJ, q_su_setJ, q_K_setR, q_I_setR, q_J_setR, q_R_setR, q_L_setR, q_AI_setR, q_AJ_setR, q_AR_setR, q_sz_setR, q_su_setR, q_K_setAI, q_I_setAI, q_J_setAI, q_R_setAI, q_L_setAI, q_AI_setAI, q_AJ_setAI, q_AR_setAI, q_sz_setAI, q_su_setAI, q_K_setAJ, q_I_setAJ, q_J_setAJ, q_R_setAJ, q_L_setAJ, q_AI_setAJ, q_AJ_setAJ, q_AR_setAJ, q_sz_setAJ, q_su_setAJ, q_K_setAR, q_I_setAR, q_J_setAR, q_R_setAR, q_L_setAR, q_AI_setAR, q_AJ_setAR, q_AR_setAR, q_sz_setAR, q_su_setAR, q_K_newO, q_I_newO, q_J_newO, q_R_newO, q_L_newO, q_AI_newO, q_AJ_newO, q_AR_newO, q_sz_newO, q_su_newO, q_K_newA, q_I_newA, q_J_newA, q_R_newA, q_L_newA, q_AI_newA, q_AJ_newA, q_AR_newA, q_sz_newA, q_su_newA, q_K_skip, q_I_skip, q_J_skip, q_R_skip, q_L_skip, q_AI_skip, q_AJ_skip, q_AR_skip, q_sz_skip, q_su_skip, q_up2, q_up]) (by omega), hcur, hM, ?_, hm.sm s2 (Nat.le_refl _), h6, ?_, ?_⟩
    · obtain ⟨w1, w2⟩ := hw
      refine ⟨w1, fun x hx => ?_⟩
      have hx' : x ∈ m.ins ++ [(f, nm, pl, bn, ls ++ [l])] := hx
      rcases List.mem_append.mp hx' with z | z
      · exact w2 x (List.mem_append_left _ z)
      · rw [List.mem_singleton.mp z]
        obtain ⟨u1, u2, u3⟩ := w2 (f, nm, pl, bn, ls) (List.mem_append_right _ (List.mem_singleton.mpr rfl))
        refine ⟨u1, u2, fun y hy => ?_⟩
        rcases List.mem_append.mp hy with t | t
        · exact u3 y t
        · rw [List.mem_singleton.mp t]; exact ho
    · have : ¬ M + 4 = a + 1 := by omega
      simp [q_K_setI, q_I_setI, q_J_setI, q_R_setI, q_L_setI, q_AI_setI, q_AJ_setI, q_AR_setI, q_sz_setI, q_su_setI, q_K_setJ, q_I_setJ, q_J_setJ, q_R_setJ, q_L_setJ, q_AI_setJ, q_AJ_setJ, q_AR_setJ, q_sz_setJ, q_su_setJ, q_K_setR, q_I_setR, q_J_setR, q_R_setR, q_L_setR, q_AI_setR, q_AJ_setR, q_AR_setR, q_sz_setR, q_su_setR, q_K_setAI, q_I_setAI, q_J_setAI, q_R_setAI, q_L_setAI, q_AI_setAI, q_AJ_setAI, q_AR_setAI, q_sz_setAI, q_su_setAI, q_K_setAJ, q_I_setAJ, q_J_setAJ, q_R_setAJ, q_L_setAJ, q_AI_setAJ, q_AJ_setAJ, q_AR_setAJ, q_sz_setAJ, q_su_setAJ, q_K_setAR, q_I_setAR, q_J_setAR, q_R_setAR, q_L_setAR, q_AI_setAR, q_AJ_setAR, q_AR_setAR, q_sz_setAR, q_su_setAR, q_K_newO, q_I_newO, q_J_newO, q_R_newO, q_L_newO, q_AI_newO, q_AJ_newO, q_AR_newO, q_sz_newO, q_su_newO, q_K_newA, q_I_newA, q_J_newA, q_R_newA, q_L_newA, q_AI_newA, q_AJ_newA, q_AR_newA, q_sz_newA, q_su_newA, q_K_skip, q_I_skip, q_J_skip, q_R_skip, q_L_skip, q_AI_skip, q_AJ_skip, q_AR_skip, q_sz_skip, q_su_skip, q_up2, q_up, this, h7]
    · refine ⟨i1, i2, i3, i4, i5, ?_, ?_, i8, i9, i10, ?_, i12, ?_, fun k y hy => ?_⟩
      · simp [q_K_setI, q_I_setI, q_J_setI, q_R_setI, q_L_setI, q_AI_setI, q_AJ_setI, q_AR_setI, q_sz_setI, q_su_setI, q_K_setJ, q_I_setJ, q_J_setJ, q_R_setJ, q_L_setJ, q_AI_setJ, q_AJ_setJ, q_AR_setJ, q_sz_setJ, q_su_setJ, q_K_setR, q_I_setR, q_J_setR, q_R_setR, q_L_setR, q_AI_setR, q_AJ_setR, q_AR_setR, q_sz_setR, q_su_setR, q_K_setAI, q_I_setAI, q_J_setAI, q_R_setAI, q_L_setAI, q_AI_setAI, q_AJ_setAI, q_AR_setAI, q_sz_setAI, q_su_setAI, q_K_setAJ, q_I_setAJ, q_J_setAJ, q_R_setAJ, q_L_setAJ, q_AI_setAJ, q_AJ_setAJ, q_AR_setAJ, q_sz_setAJ, q_su_setAJ, q_K_setAR, q_I_setAR, q_J_setAR, q_R_setAR, q_L_setAR, q_AI_setAR, q_AJ_setAR, q_AR_setAR, q_sz_setAR, q_su_setAR, q_K_newO, q_I_newO, q_J_newO, q_R_newO, q_L_newO, q_AI_newO, q_AJ_newO, q_AR_newO, q_sz_newO, q_su_newO, q_K_newA, q_I_newA, q_J_newA, q_R_newA, q_L_newA, q_AI_newA, q_AJ_newA, q_AR_newA, q_sz_newA, q_su_newA, q_K_skip, q_I_skip, q_J_skip, q_R_skip, q_L_skip, q_AI_skip, q_AJ_skip, q_AR_skip, q_sz_skip, q_su_skip, q_up2, q_up, i6]
      · simp [q_K_setI, q_I_setI, q_J_setI, q_R_setI, q_L_setI, q_AI_setI, q_AJ_setI, q_AR_setI, q_sz_setI, q_su_setI, q_K_setJ, q_I_setJ, q_J_setJ, q_R_setJ, q_L_setJ, q_AI_setJ, q_AJ_setJ, q_AR_setJ, q_sz_setJ, q_su_setJ, q_K_setR, q_I_setR, q_J_setR, q_R_setR, q_L_setR, q_AI_setR, q_AJ_setR, q_AR_setR, q_sz_setR, q_su_setR, q_K_setAI, q_I_setAI, q_J_setAI, q_R_setAI, q_L_setAI, q_AI_setAI, q_AJ_setAI, q_AR_setAI, q_sz_setAI, q_su_setAI, q_K_setAJ, q_I_setAJ, q_J_setAJ, q_R_setAJ, q_L_setAJ, q_AI_setAJ, q_AJ_setAJ, q_AR_setAJ, q_sz_setAJ, q_su_setAJ, q_K_setAR, q_I_setAR, q_J_setAR, q_R_setAR, q_L_setAR, q_AI_setAR, q_AJ_setAR, q_AR_setAR, q_sz_setAR, q_su_setAR, q_K_newO, q_I_newO, q_J_newO, q_R_newO, q_L_newO, q_AI_newO, q_AJ_newO, q_AR_newO, q_sz_newO, q_su_newO, q_K_newA, q_I_newA, q_J_newA, q_R_newA, q_L_newA, q_AI_newA, q_AJ_newA, q_AR_newA, q_sz_newA, q_su_newA, q_K_skip, q_I_skip, q_J_skip, q_R_skip, q_L_skip, q_AI_skip, q_AJ_skip, q_AR_skip, q_sz_skip, q_su_skip, q_up2, q_up, i7]
      · simp [q_K_setI, q_I_setI, q_J_setI, q_R_setI, q_L_setI, q_AI_setI, q_AJ_setI, q_AR_setI, q_sz_setI, q_su_setI, q_K_setJ, q_I_setJ, q_J_setJ, q_R_setJ, q_L_setJ, q_AI_setJ, q_AJ_setJ, q_AR_setJ, q_sz_setJ, q_su_setJ, q_K_setR, q_I_setR, q_J_setR, q_R_setR, q_L_setR, q_AI_setR, q_AJ_setR, q_AR_setR, q_sz_setR, q_su_setR, q_K_setAI, q_I_setAI, q_J_setAI, q_R_setAI, q_L_setAI, q_AI_setAI, q_AJ_setAI, q_AR_setAI, q_sz_setAI, q_su_setAI, q_K_setAJ, q_I_setAJ, q_J_setAJ, q_R_setAJ, q_L_setAJ, q_AI_setAJ, q_AJ_setAJ, q_AR_setAJ, q_sz_setAJ, q_su_setAJ, q_K_setAR, q_I_setAR, q_J_setAR, q_R_setAR, q_L_setAR, q_AI_setAR, q_AJ_setAR, q_AR_setAR, q_sz_setAR, q_su_setAR, q_K_newO, q_I_newO, q_J_newO, q_R_newO, q_L_newO, q_AI_newO, q_AJ_newO, q_AR_newO, q_sz_newO, q_su_newO, q_K_newA, q_I_newA, q_J_newA, q_R_newA, q_L_newA, q_AI_newA, q_AJ_newA, q_AR_newA, q_sz_newA, q_su_newA, q_K_skip, q_I_skip, q_J_skip, q_R_skip, q_L_skip, q_AI_skip, q_AJ_skip, q_AR_skip, q_sz_skip, q_su_skip, q_up2, q_up]
      · simp; omega
      · rcases app_get hy with ⟨z0, z⟩ | ⟨z0, z⟩
        · obtain ⟨b', q1, q2⟩ := i14 k y z
          have : ¬ k = ls.length := by omega
          refine ⟨b', ?_, q2.sm s (Nat.le_refl _)⟩
          simp [q_K_setI, q_I_setI, q_J_setI, q_R_setI, q_L_setI, q_AI_setI, q_AJ_setI, q_AR_setI, q_sz_setI, q_su_setI, q_K_setJ, q_I_setJ, q_J_setJ, q_R_setJ, q_L_setJ, q_AI_setJ, q_AJ_setJ, q_AR_setJ, q_sz_setJ, q_su_setJ, q_K_setR, q_I_setR, q_J_setR, q_R_setR, q_L_setR, q_AI_setR, q_AJ_setR, q_AR_setR, q_sz_setR, q_su_setR, q_K_setAI, q_I_setAI, q_J_setAI, q_R_setAI, q_L_setAI, q_AI_setAI, q_AJ_setAI, q_AR_setAI, q_sz_setAI, q_su_setAI, q_K_setAJ, q_I_setAJ, q_J_setAJ, q_R_setAJ, q_L_setAJ, q_AI_setAJ, q_AJ_setAJ, q_AR_setAJ, q_sz_setAJ, q_su_setAJ, q_K_setAR, q_I_setAR, q_J_setAR, q_R_setAR, q_L_setAR, q_AI_setAR, q_AJ_setAR, q_AR_setAR, q_sz_setAR, q_su_setAR, q_K_newO, q_I_newO, q_J_newO, q_R_newO, q_L_newO, q_AI_newO, q_AJ_newO, q_AR_newO, q_sz_newO, q_su_newO, q_K_newA, q_I_newA, q_J_newA, q_R_newA, q_L_newA, q_AI_newA, q_AJ_newA, q_AR_newA, q_sz_newA, q_su_newA, q_K_skip, q_I_skip, q_J_skip, q_R_skip, q_L_skip, q_AI_skip, q_AJ_skip, q_AR_skip, q_sz_skip, q_su_skip, q_up2, q_up, this, q1]
        · subst z z0
          refine ⟨b, ?_, hl.sm s (Nat.le_refl _)⟩
          simp [q_K_setI, q_I_setI, q_J_setI, q_R_setI, q_L_setI, q_AI_setI, q_AJ_setI, q_AR_setI, q_sz_setI, q_su_setI, q_K_setJ, q_I_setJ, q_J_setJ, q_R_setJ, q_L_setJ, q_AI_setJ, q_AJ_setJ, q_AR_setJ, q_sz_setJ, q_su_setJ, q_K_setR, q_I_setR, q_J_setR, q_R_setR, q_L_setR, q_AI_setR, q_AJ_setR, q_AR_setR, q_sz_setR, q_su_setR, q_K_setAI, q_I_setAI, q_J_setAI, q_R_setAI, q_L_setAI, q_AI_setAI, q_AJ_setAI, q_AR_setAI, q_sz_setAI, q_su_setAI, q_K_setAJ, q_I_setAJ, q_J_setAJ, q_R_setAJ, q_L_setAJ, q_AI_setAJ, q_AJ_setAJ, q_AR_setAJ, q_sz_setAJ, q_su_setAJ, q_K_setAR, q_I_setAR, q_J_setAR, q_R_setAR, q_L_setAR, q_AI_setAR, q_AJ_setAR, q_AR_setAR, q_sz_setAR, q_su_setAR, q_K_newO, q_I_newO, q_J_newO, q_R_newO, q_L_newO, q_AI_newO, q_AJ_newO, q_AR_newO, q_sz_newO, q_su_newO, q_K_newA, q_I_newA, q_J_newA, q_R_newA, q_L_newA, q_AI_newA, q_AJ_newA, q_AR_newA, q_sz_newA, q_su_newA, q_K_skip, q_I_skip, q_J_skip, q_R_skip, q_L_skip, q_AI_skip, q_AJ_skip, q_AR_skip, q_sz_skip, q_su_skip, q_up2, q_up]
theorem cw_initL {P : xP} {σ : xS} (hs : P.base + 44 ≤ σ.sz) {g : List Nat → Nat} {nm : List Nat} {pl lo : Nat} {v : Option Nat} {x : Option xPart} (hlo0 : P.base + 44 ≤ lo) (hlo : lo ≤ σ.sz) (hx : OPartR σ g lo σ.sz v x) : ∃ σ', dm_X2_init P σ.sz (pk nm) (nI pl) v (σ.newO 3 3) = some (.inl (), σ') ∧ Fr P σ.sz 1 σ σ' ∧ σ'.I 906 (P.base + 1) = σ.I 906 (P.base + 1) ∧ σ'.sz = σ.sz + 1 ∧ LinkR σ' g lo (σ.sz + 1) σ.sz (nm, pl, x) := by
  have fr : Fr P σ.sz 1 σ ((((σ.newO 3 3).setJ 200 σ.sz (pk nm)).setI 201 σ.sz (nI pl)).setR 202 σ.sz v) := (((Fr.newO P (Nat.le_refl _) (by omega) (by omega)).thenJ (Nat.le_refl _) (by omega)).thenI (Nat.le_refl _) (by omega)).thenR (Nat.le_refl _) (by omega)
  refine ⟨(((σ.newO 3 3).setJ 200 σ.sz (pk nm)).setI 201 σ.sz (nI pl)).setR 202 σ.sz v, ?_, fr, ?_, rfl, ?_⟩
  · unfold dm_X2_init
    simp (disch := first | assumption | omega) [x_chk, x_some, x_bind, x_let, lit_nI, nI_add, nI_mul, nI_sub, nI_clamp, nI_eq, nI_ltI, nI_leI, nN_e, nI_nN, nN_nI, bI_0, bI_1, bI_n, bool_0, bool_1, in_T, lg_cmp0, ofN_nI, q_K_setI, q_I_setI, q_J_setI, q_R_setI, q_L_setI, q_AI_setI, q_AJ_setI, q_AR_setI, q_sz_setI, q_su_setI, q_K_setJ, q_I_setJ, q_J_setJ, q_R_setJ, q_L_setJ, q_AI_setJ, q_AJ_setJ, q_AR_setJ, q_sz_setJ, q_su_setJ, q_K_setR, q_I_setR, q_J_setR, q_R_setR, q_L_setR, q_AI_setR, q_AJ_setR, q_AR_setR, q_sz_setR, q_su_setR, q_K_setAI, q_I_setAI, q_J_setAI, q_R_setAI, q_L_setAI, q_AI_setAI, q_AJ_setAI, q_AR_setAI, q_sz_setAI, q_su_setAI, q_K_setAJ, q_I_setAJ, q_J_setAJ, q_R_setAJ, q_L_setAJ, q_AI_setAJ, q_AJ_setAJ, q_AR_setAJ, q_sz_setAJ, q_su_setAJ, q_K_setAR, q_I_setAR, q_J_setAR, q_R_setAR, q_L_setAR, q_AI_setAR, q_AJ_setAR, q_AR_setAR, q_sz_setAR, q_su_setAR, q_K_newO, q_I_newO, q_J_newO, q_R_newO, q_L_newO, q_AI_newO, q_AJ_newO, q_AR_newO, q_sz_newO, q_su_newO, q_K_newA, q_I_newA, q_J_newA, q_R_newA, q_L_newA, q_AI_newA, q_AJ_newA, q_AR_newA, q_sz_newA, q_su_newA, q_K_skip, q_I_skip, q_J_skip, q_R_skip, q_L_skip, q_AI_skip, q_AJ_skip, q_AR_skip, q_sz_skip, q_su_skip, q_up2, q_up, dle_T]
  · have : ¬ P.base + 1 = σ.sz := by omega
    simp [q_K_setI, q_I_setI, q_J_setI, q_R_setI, q_L_setI, q_AI_setI, q_AJ_setI, q_AR_setI, q_sz_setI, q_su_setI, q_K_setJ, q_I_setJ, q_J_setJ, q_R_setJ, q_L_setJ, q_AI_setJ, q_AJ_setJ, q_AR_setJ, q_sz_setJ, q_su_setJ, q_K_setR, q_I_setR, q_J_setR, q_R_setR, q_L_setR, q_AI_setR, q_AJ_setR, q_AR_setR, q_sz_setR, q_su_setR, q_K_setAI, q_I_setAI, q_J_setAI, q_R_setAI, q_L_setAI, q_AI_setAI, q_AJ_setAI, q_AR_setAI, q_sz_setAI, q_su_setAI, q_K_setAJ, q_I_setAJ, q_J_setAJ, q_R_setAJ, q_L_setAJ, q_AI_setAJ, q_AJ_setAJ, q_AR_setAJ, q_sz_setAJ, q_su_setAJ, q_K_setAR, q_I_setAR, q_J_setAR, q_R_setAR, q_L_setAR, q_AI_setAR, q_AJ_setAR, q_AR_setAR, q_sz_setAR, q_su_setAR, q_K_newO, q_I_newO, q_J_newO, q_R_newO, q_L_newO, q_AI_newO, q_AJ_newO, q_AR_newO, q_sz_newO, q_su_newO, q_K_newA, q_I_newA, q_J_newA, q_R_newA, q_L_newA, q_AI_newA, q_AJ_newA, q_AR_newA, q_sz_newA, q_su_newA, q_K_skip, q_I_skip, q_J_skip, q_R_skip, q_L_skip, q_AI_skip, q_AJ_skip, q_AR_skip, q_sz_skip, q_su_skip, q_up2, q_up, this]
  · refine ⟨hlo, by omega, ?_, ?_, ?_, ?_⟩
    · simp [q_K_setI, q_I_setI, q_J_setI, q_R_setI, q_L_setI, q_AI_setI, q_AJ_setI, q_AR_setI, q_sz_setI, q_su_setI, q_K_setJ, q_I_setJ, q_J_setJ, q_R_setJ, q_L_setJ, q_AI_setJ, q_AJ_setJ, q_AR_setJ, q_sz_setJ, q_su_setJ, q_K_setR, q_I_setR, q_J_setR, q_R_setR, q_L_setR, q_AI_setR, q_AJ_setR, q_AR_setR, q_sz_setR, q_su_setR, q_K_setAI, q_I_setAI, q_J_setAI, q_R_setAI, q_L_setAI, q_AI_setAI, q_AJ_setAI, q_AR_setAI, q_sz_setAI, q_su_setAI, q_K_setAJ, q_I_setAJ, q_J_setAJ, q_R_setAJ, q_L_setAJ, q_AI_setAJ, q_AJ_setAJ, q_AR_setAJ, q_sz_setAJ, q_su_setAJ, q_K_setAR, q_I_setAR, q_J_setAR, q_R_setAR, q_L_setAR, q_AI_setAR, q_AJ_setAR, q_AR_setAR, q_sz_setAR, q_su_setAR, q_K_newO, q_I_newO, q_J_newO, q_R_newO, q_L_newO, q_AI_newO, q_AJ_newO, q_AR_newO, q_sz_newO, q_su_newO, q_K_newA, q_I_newA, q_J_newA, q_R_newA, q_L_newA, q_AI_newA, q_AJ_newA, q_AR_newA, q_sz_newA, q_su_newA, q_K_skip, q_I_skip, q_J_skip, q_R_skip, q_L_skip, q_AI_skip, q_AJ_skip, q_AR_skip, q_sz_skip, q_su_skip, q_up2, q_up]
    · simp [q_K_setI, q_I_setI, q_J_setI, q_R_setI, q_L_setI, q_AI_setI, q_AJ_setI, q_AR_setI, q_sz_setI, q_su_setI, q_K_setJ, q_I_setJ, q_J_setJ, q_R_setJ, q_L_setJ, q_AI_setJ, q_AJ_setJ, q_AR_setJ, q_sz_setJ, q_su_setJ, q_K_setR, q_I_setR, q_J_setR, q_R_setR, q_L_setR, q_AI_setR, q_AJ_setR, q_AR_setR, q_sz_setR, q_su_setR, q_K_setAI, q_I_setAI, q_J_setAI, q_R_setAI, q_L_setAI, q_AI_setAI, q_AJ_setAI, q_AR_setAI, q_sz_setAI, q_su_setAI, q_K_setAJ, q_I_setAJ, q_J_setAJ, q_R_setAJ, q_L_setAJ, q_AI_setAJ, q_AJ_setAJ, q_AR_setAJ, q_sz_setAJ, q_su_setAJ, q_K_setAR, q_I_setAR, q_J_setAR, q_R_setAR, q_L_setAR, q_AI_setAR, q_AJ_setAR, q_AR_setAR, q_sz_setAR, q_su_setAR, q_K_newO, q_I_newO, q_J_newO, q_R_newO, q_L_newO, q_AI_newO, q_AJ_newO, q_AR_newO, q_sz_newO, q_su_newO, q_K_newA, q_I_newA, q_J_newA, q_R_newA, q_L_newA, q_AI_newA, q_AJ_newA, q_AR_newA, q_sz_newA, q_su_newA, q_K_skip, q_I_skip, q_J_skip, q_R_skip, q_L_skip, q_AI_skip, q_AJ_skip, q_AR_skip, q_sz_skip, q_su_skip, q_up2, q_up]
    · simp [q_K_setI, q_I_setI, q_J_setI, q_R_setI, q_L_setI, q_AI_setI, q_AJ_setI, q_AR_setI, q_sz_setI, q_su_setI, q_K_setJ, q_I_setJ, q_J_setJ, q_R_setJ, q_L_setJ, q_AI_setJ, q_AJ_setJ, q_AR_setJ, q_sz_setJ, q_su_setJ, q_K_setR, q_I_setR, q_J_setR, q_R_setR, q_L_setR, q_AI_setR, q_AJ_setR, q_AR_setR, q_sz_setR, q_su_setR, q_K_setAI, q_I_setAI, q_J_setAI, q_R_setAI, q_L_setAI, q_AI_setAI, q_AJ_setAI, q_AR_setAI, q_sz_setAI, q_su_setAI, q_K_setAJ, q_I_setAJ, q_J_setAJ, q_R_setAJ, q_L_setAJ, q_AI_setAJ, q_AJ_setAJ, q_AR_setAJ, q_sz_setAJ, q_su_setAJ, q_K_setAR, q_I_setAR, q_J_setAR, q_R_setAR, q_L_setAR, q_AI_setAR, q_AJ_setAR, q_AR_setAR, q_sz_setAR, q_su_setAR, q_K_newO, q_I_newO, q_J_newO, q_R_newO, q_L_newO, q_AI_newO, q_AJ_newO, q_AR_newO, q_sz_newO, q_su_newO, q_K_newA, q_I_newA, q_J_newA, q_R_newA, q_L_newA, q_AI_newA, q_AJ_newA, q_AR_newA, q_sz_newA, q_su_newA, q_K_skip, q_I_skip, q_J_skip, q_R_skip, q_L_skip, q_AI_skip, q_AJ_skip, q_AR_skip, q_sz_skip, q_su_skip, q_up2, q_up]
    · have e : ((((σ.newO 3 3).setJ 200 σ.sz (pk nm)).setI 201 σ.sz (nI pl)).setR 202 σ.sz v).R 202 σ.sz = v := by simp [q_K_setI, q_I_setI, q_J_setI, q_R_setI, q_L_setI, q_AI_setI, q_AJ_setI, q_AR_setI, q_sz_setI, q_su_setI, q_K_setJ, q_I_setJ, q_J_setJ, q_R_setJ, q_L_setJ, q_AI_setJ, q_AJ_setJ, q_AR_setJ, q_sz_setJ, q_su_setJ, q_K_setR, q_I_setR, q_J_setR, q_R_setR, q_L_setR, q_AI_setR, q_AJ_setR, q_AR_setR, q_sz_setR, q_su_setR, q_K_setAI, q_I_setAI, q_J_setAI, q_R_setAI, q_L_setAI, q_AI_setAI, q_AJ_setAI, q_AR_setAI, q_sz_setAI, q_su_setAI, q_K_setAJ, q_I_setAJ, q_J_setAJ, q_R_setAJ, q_L_setAJ, q_AI_setAJ, q_AJ_setAJ, q_AR_setAJ, q_sz_setAJ, q_su_setAJ, q_K_setAR, q_I_setAR, q_J_setAR, q_R_setAR, q_L_setAR, q_AI_setAR, q_AJ_setAR, q_AR_setAR, q_sz_setAR, q_su_setAR, q_K_newO, q_I_newO, q_J_newO, q_R_newO, q_L_newO, q_AI_newO, q_AJ_newO, q_AR_newO, q_sz_newO, q_su_newO, q_K_newA, q_I_newA, q_J_newA, q_R_newA, q_L_newA, q_AI_newA, q_AJ_newA, q_AR_newA, q_sz_newA, q_su_newA, q_K_skip, q_I_skip, q_J_skip, q_R_skip, q_L_skip, q_AI_skip, q_AJ_skip, q_AR_skip, q_sz_skip, q_su_skip, q_up2, q_up]
      rw [e]
      cases v <;> cases x
      · trivial
      · exact hx.elim
      · exact hx.elim
      · exact PartR.sm hx (fr.sms hlo0 (Nat.le_refl _)) (by omega)
/-- a new link, and it is added -/
theorem cw_newLink {P : xP} {T : xT} {lng : Bool} {g : List Nat → Nat} {ix M a : Nat} {m : xMod} {f nm : List Nat} {pl : Nat} {bn : Bool} {ls : List xLnk} {σ : xS} {p : Nat} (h : IB P T lng g ix M m a (f, nm, pl, bn, ls) σ p) (hR : Rm P σ 1) (hn : ls.length < 16) {ln : List Nat} {lp : Nat} {v : Option Nat} {x : Option xPart} (ho : nm_ok ln) (hx : OPartR σ g (a + 2) σ.sz v x) : ∃ σ1 σ', (σ.sz + 1 ≤ P.lim ∧ σ.su + 3 ≤ P.slim) ∧ dm_X2_init P σ.sz (pk ln) (nI lp) v (σ.newO 3 3) = some (.inl (), σ1) ∧ σ1.K a = 2 ∧ dm_X1_addLink P a (some σ.sz) σ1 = some (.inl (), σ') ∧ Fr P a 1 σ σ' ∧ IB P T lng g ix M m a (f, nm, pl, bn, ls ++ [(ln, lp, x)]) σ' p := by
  have sz := h.1.sz
  have ha := h.2.2.2.2.2.2.2
  have hMa := h.2.2.2.2.1.1.1
  have hM := h.2.2.1
  have ha2 := ha.2.1
  obtain ⟨σ1, q1, q2, q3, q4, q5⟩ := cw_initL (P := P) (σ := σ) (nm := ln) (pl := lp) sz (lo := a + 2) (by omega) (by omega) hx
  have C1 : CP P T σ1 p := h.1.fr q2 q3 (by omega)
  have h1 := h.fr q2 C1
  obtain ⟨σ', t1, t2, t3⟩ := cw_addLink (P := P) (b := σ.sz) h1 (by rw [q4]; exact q5) hn ho
  exact ⟨σ1, σ', of_eq_true (Rm.chk hR 1 3 (by omega) (by omega)), q1, h1.2.2.2.2.2.2.2.2.2.1, t1, (q2.mono (h' := a) (by omega) (e := 1) (by omega)).trans t2, t3⟩
theorem cw_isFull {P : xP} {σ : xS} {g : List Nat → Nat} {kd : List Nat → Option Nat} {lo hi a : Nat} {i : xIns} (h : InsR σ g kd lo hi a i) : dm_X1_isFull P a σ = some (.inl (bI (decide (16 ≤ i.2.2.2.2.length))), σ) := by
  obtain ⟨h1, h2, h3, h4, h5, h6, h7, h8, h9, h10, h11, h12, h13, h14⟩ := h
  unfold dm_X1_isFull dm_X1_isFull_p14
  by_cases e : 16 ≤ i.2.2.2.2.length
  · have e2 : ¬ i.2.2.2.2.length < 16 := by omega
    simp (disch := first | assumption | omega) [x_chk, x_some, x_bind, x_let, lit_nI, nI_add, nI_mul, nI_sub, nI_clamp, nI_eq, nI_ltI, nI_leI, nN_e, nI_nN, nN_nI, bI_0, bI_1, bI_n, bool_0, bool_1, in_T, lg_cmp0, ofN_nI, h3, h11, e, e2, bI_tt]
  · have e2 : i.2.2.2.2.length < 16 := by omega
    simp (disch := first | assumption | omega) [x_chk, x_some, x_bind, x_let, lit_nI, nI_add, nI_mul, nI_sub, nI_clamp, nI_eq, nI_ltI, nI_leI, nN_e, nI_nN, nN_nI, bI_0, bI_1, bI_n, bool_0, bool_1, in_T, lg_cmp0, ofN_nI, h3, h11, e, e2, bI_ff]
/-- what a link leaves -/
def LQ (P : xP) (T : xT) (lng : Bool) (g : List Nat → Nat) (ix M : Nat) (m : xMod) (a : Nat) (f nm : List Nat) (pl : Nat) (bn : Bool) (σ : xS) (c : Nat) (_ : Unit) (σ' : xS) (q : List xLnk × Nat) : Prop := IB P T lng g ix M m a (f, nm, pl, bn, q.1) σ' q.2 ∧ Fr P a c σ σ'
theorem nm_ok_nil : nm_ok [] := ⟨by simp, by simp⟩
theorem cw_olink {P : xP} {T : xT} {lng : Bool} {g : List Nat → Nat} {ix M a : Nat} {m : xMod} {f nm : List Nat} {pl : Nat} {bn : Bool} {ls : List xLnk} {σ : xS} {p : Nat} (h : IB P T lng g ix M m a (f, nm, pl, bn, ls) σ p) (hR : Rm P σ 4) : Rf (dm_X8_readOrderedLink P (rdA P lng) (some a) σ) (sp_olink T lng m.nets ls p) (LQ P T lng g ix M m a f nm pl bn σ 2) (PE P T a σ 2) := by
  have C := h.1
  have ci := C.ci
  have hi := h.2.2.2.2.2.2.2
  have ha2 := hi.2.1
  have ka := hi.2.2.1
  have fu := cw_isFull (P := P) hi
  have qp := cw_place C
  have rt := cw_refuseIf (P := P) (a := P.base + 1) (b := true) (σ := σ) hR.mono
  have rf := cw_refuseIf (P := P) (a := P.base + 1) (b := false) (σ := σ) hR.mono
  simp only [if_true] at rt
  simp only [Bool.false_eq_true, if_false] at rf
  simp only [] at fu
  unfold dm_X8_readOrderedLink sp_olink
  by_cases e : 16 ≤ ls.length
  · rw [if_pos e]
    rw [decide_eq_true e] at fu
    refine Rf.er (σ' := σ.skip 6) ?_ ((PE.skip C).mono)
    simp (disch := first | assumption | omega) [x_chk, x_some, x_bind, x_let, lit_nI, nI_add, nI_mul, nI_sub, nI_clamp, nI_eq, nI_ltI, nI_leI, nN_e, nI_nN, nN_nI, bI_0, bI_1, bI_n, bool_0, bool_1, in_T, lg_cmp0, ofN_nI, ci_0 ci, ci_1 ci, ci_2 ci, ci_3 ci, ci_4 ci, ci_5 ci, ci_6 ci, ci_7 ci, ci_8 ci, ci_9 ci, ci_10 ci, ci_11 ci, ci_12 ci, ci_13 ci, ci_14 ci, ci_15 ci, ci_16 ci, ci_17 ci, ci_18 ci, ci_19 ci, ci_20 ci, ci_21 ci, ci_22 ci, rd_K ci, rd_R ci, ka, fu, rt]
  · rw [if_neg e]
    rw [decide_eq_false e] at fu
    have sk := cw_skips C (c := 45) (by omega)
    by_cases e2 : sp_is T 45 p = true
    · rw [if_pos e2]
      simp only [e2, if_true] at sk
      have f1 := cst_fr P σ.sz σ
      have C1 := C.step (is_lt e2)
      have ci1 := C1.ci
      have h1 := h.fr f1 C1
      obtain ⟨s1, s2, r0, q1, q2, q3, q4, q5⟩ := cw_newLink (P := P) (ln := []) (lp := p) (v := none) (x := none) h1 (hR.us f1.2.2) (by omega) nm_ok_nil trivial
      have es : (cst P σ).sz = σ.sz := rfl
      rw [pk_nil] at q1
      refine Rf.ok (v := ()) (σ' := s2) ?_ ⟨q5, (f1.mono (h' := a) (by omega) (e := 0) (by omega)).trans q4⟩
      unfold dm_X8_readOrderedLink_p39
      simp (disch := first | assumption | omega) [ck_T, sm_s, bd_l, bd_r, lt_e, eq_self, and_self, if_true, true_and, and_true, lit_nI, nI_add, nI_mul, nI_sub, nI_clamp, nI_eq, nI_ltI, nI_leI, nN_e, nI_nN, nN_nI, bI_0, bI_1, bI_n, bool_0, bool_1, in_T, lg_cmp0, ofN_nI, ci_0 ci, ci_1 ci, ci_2 ci, ci_3 ci, ci_4 ci, ci_5 ci, ci_6 ci, ci_7 ci, ci_8 ci, ci_9 ci, ci_10 ci, ci_11 ci, ci_12 ci, ci_13 ci, ci_14 ci, ci_15 ci, ci_16 ci, ci_17 ci, ci_18 ci, ci_19 ci, ci_20 ci, ci_21 ci, ci_22 ci, ci_0 ci1, ci_1 ci1, ci_2 ci1, ci_3 ci1, ci_4 ci1, ci_5 ci1, ci_6 ci1, ci_7 ci1, ci_8 ci1, ci_9 ci1, ci_10 ci1, ci_11 ci1, ci_12 ci1, ci_13 ci1, ci_14 ci1, ci_15 ci1, ci_16 ci1, ci_17 ci1, ci_18 ci1, ci_19 ci1, ci_20 ci1, ci_21 ci1, ci_22 ci1, rd_K ci, rd_R ci, ka, fu, rf, qp, sk, r0, q1, q2, q3]
    · rw [if_neg e2]
      simp only [e2] at sk
      simp (disch := first | assumption | omega) [ck_T, sm_s, bd_l, bd_r, lt_e, eq_self, and_self, if_true, true_and, and_true, lit_nI, nI_add, nI_mul, nI_sub, nI_clamp, nI_eq, nI_ltI, nI_leI, nN_e, nI_nN, nN_nI, bI_0, bI_1, bI_n, bool_0, bool_1, in_T, lg_cmp0, ofN_nI, ci_0 ci, ci_1 ci, ci_2 ci, ci_3 ci, ci_4 ci, ci_5 ci, ci_6 ci, ci_7 ci, ci_8 ci, ci_9 ci, ci_10 ci, ci_11 ci, ci_12 ci, ci_13 ci, ci_14 ci, ci_15 ci, ci_16 ci, ci_17 ci, ci_18 ci, ci_19 ci, ci_20 ci, ci_21 ci, ci_22 ci, rd_K ci, rd_R ci, ka, fu, rf, qp, sk, bI_0]
      have cp := cw_part h.px (hR.mono (d := 3))
      refine Rf.bind (e := sp_part T lng m.nets p) cp ?_ ?_
      · rintro v s ⟨x, p2⟩ ⟨b, rfl, f2, C2, hx⟩
        have h2 := h.fr f2 C2
        obtain ⟨s1, s2, r0, q1, q2, q3, q4, q5⟩ := cw_newLink (P := P) (ln := []) (lp := p) (v := some b) (x := some x) h2 (hR.us f2.2.2) (by omega) nm_ok_nil (hx.lo (by omega) (Nat.le_refl _))
        rw [pk_nil] at q1
        refine Rf.ok (v := ()) (σ' := s2) ?_ ⟨q5, (f2.mono (h' := a) (by omega) (e := 1) (by omega)).trans q4⟩
        unfold dm_X8_readOrderedLink_p39
        simp (disch := first | assumption | omega) [ck_T, sm_s, bd_l, bd_r, lt_e, eq_self, and_self, if_true, true_and, and_true, r0, q1, q2, q3]
      · intro f5 s5 hq
        exact ⟨rfl, hq.mono⟩
theorem find_none {ls : List xLnk} {nm : List Nat} : ls.find? (fun l => decide (l.1 = nm)) = none ↔ nm ∉ ls.map fun x => x.1 := by
  rw [List.find?_eq_none]
  constructor
  · intro h hm
    obtain ⟨x, hx, rfl⟩ := List.mem_map.mp hm
    have := h x hx
    simp at this
  · intro h x hx
    simp only [decide_eq_true_eq]
    intro e
    exact h (List.mem_map.mpr ⟨x, hx, e⟩)
theorem cw_nlink {P : xP} {T : xT} {g : List Nat → Nat} {ix M a : Nat} {m : xMod} {f nm : List Nat} {pl : Nat} {bn : Bool} {ls : List xLnk} {σ : xS} {p : Nat} (h : IB P T true g ix M m a (f, nm, pl, bn, ls) σ p) (hR : Rm P σ 4) : Rf (dm_X3_readNamedLink P (P.base + 6) (some a) σ) (sp_nlink T m.nets ls p) (LQ P T true g ix M m a f nm pl bn σ 2) (PE P T a σ 3) := by
  have C := h.1
  have ci := C.ci
  have hi := h.2.2.2.2.2.2.2
  have ha2 := hi.2.1
  have ka := hi.2.2.1
  have fu := cw_isFull (P := P) hi
  have rt := cw_refuseIf (P := P) (a := P.base + 1) (b := true) (σ := σ) hR.mono
  have rf := cw_refuseIf (P := P) (a := P.base + 1) (b := false) (σ := σ) hR.mono
  simp only [if_true] at rt
  simp only [Bool.false_eq_true, if_false] at rf
  simp only [] at fu
  unfold dm_X3_readNamedLink sp_nlink
  by_cases e : 16 ≤ ls.length
  · rw [if_pos e]
    rw [decide_eq_true e] at fu
    refine Rf.er (σ' := σ.skip 6) ?_ ((PE.skip C).mono)
    simp (disch := first | assumption | omega) [x_chk, x_some, x_bind, x_let, lit_nI, nI_add, nI_mul, nI_sub, nI_clamp, nI_eq, nI_ltI, nI_leI, nN_e, nI_nN, nN_nI, bI_0, bI_1, bI_n, bool_0, bool_1, in_T, lg_cmp0, ofN_nI, ci_0 ci, ci_1 ci, ci_2 ci, ci_3 ci, ci_4 ci, ci_5 ci, ci_6 ci, ci_7 ci, ci_8 ci, ci_9 ci, ci_10 ci, ci_11 ci, ci_12 ci, ci_13 ci, ci_14 ci, ci_15 ci, ci_16 ci, ci_17 ci, ci_18 ci, ci_19 ci, ci_20 ci, ci_21 ci, ci_22 ci, ka, fu, rt]
  · rw [if_neg e]
    rw [decide_eq_false e] at fu
    simp (disch := first | assumption | omega) [ck_T, sm_s, bd_l, bd_r, lt_e, eq_self, and_self, if_true, true_and, and_true, lit_nI, nI_add, nI_mul, nI_sub, nI_clamp, nI_eq, nI_ltI, nI_leI, nN_e, nI_nN, nN_nI, bI_0, bI_1, bI_n, bool_0, bool_1, in_T, lg_cmp0, ofN_nI, ci_0 ci, ci_1 ci, ci_2 ci, ci_3 ci, ci_4 ci, ci_5 ci, ci_6 ci, ci_7 ci, ci_8 ci, ci_9 ci, ci_10 ci, ci_11 ci, ci_12 ci, ci_13 ci, ci_14 ci, ci_15 ci, ci_16 ci, ci_17 ci, ci_18 ci, ci_19 ci, ci_20 ci, ci_21 ci, ci_22 ci, ka, fu, rf]
    refine Rf.bind (rf_sign C (c := 46) (by omega) hR.mono) ?_ ?_
    · rintro _ s p1 ⟨rfl, C1⟩
      have ci1 := C1.ci
      have f1 := cst_fr P σ.sz σ
      have h1 := h.fr f1 C1
      have hR1 : Rm P (cst P σ) 4 := hR.us f1.2.2
      have ka1 : (cst P σ).K a = 2 := ka
      simp (disch := first | assumption | omega) [ck_T, sm_s, bd_l, bd_r, lt_e, eq_self, and_self, if_true, true_and, and_true, ci_0 ci1, ci_1 ci1, ci_2 ci1, ci_3 ci1, ci_4 ci1, ci_5 ci1, ci_6 ci1, ci_7 ci1, ci_8 ci1, ci_9 ci1, ci_10 ci1, ci_11 ci1, ci_12 ci1, ci_13 ci1, ci_14 ci1, ci_15 ci1, ci_16 ci1, ci_17 ci1, ci_18 ci1, ci_19 ci1, ci_20 ci1, ci_21 ci1, ci_22 ci1]
      refine Rf.bind (rf_name C1 hR1.mono) ?_ ?_
      · rintro _ s ln ⟨rfl, rfl, hln, hp1⟩
        have hw1 := h1.2.2.2.1
        obtain ⟨v, l1, l2⟩ := cw_linkTo (P := P) ci1 h1.2.2.2.2.2.2.2 (fun l hl => (hw1.2 (f, nm, pl, bn, ls) (List.mem_append_right _ (List.mem_singleton.mpr rfl))).2.2 l hl) hln
        have rt1 := cw_refuseIf (P := P) (a := P.base + 1) (b := true) (σ := cst P σ) hR1.mono
        have rf1 := cw_refuseIf (P := P) (a := P.base + 1) (b := false) (σ := cst P σ) hR1.mono
        simp only [bI_tt, bI_ff, if_true] at rt1 rf1
        simp only [] at l2
        by_cases e3 : ln ∈ ls.map fun x => x.1
        · rw [if_pos e3]
          have v1 : ¬ v = none := by
            intro z
            cases hf : ls.find? (fun l => decide (l.1 = ln)) with
            | none => exact find_none.mp hf e3
            | some l => rw [hf] at l2; obtain ⟨b, hb, _⟩ := l2; rw [z] at hb; cases hb
          refine Rf.er (σ' := (cst P σ).skip 6) ?_ ((PE.aft f1 (PE.skip C1) (Nat.le_refl _) (e := 1)).mono)
          unfold dm_X3_readNamedLink_p45
          simp (disch := first | assumption | omega) [ck_T, sm_s, bd_l, bd_r, lt_e, eq_self, and_self, if_true, true_and, and_true, lit_nI, nI_add, nI_mul, nI_sub, nI_clamp, nI_eq, nI_ltI, nI_leI, nN_e, nI_nN, nN_nI, bI_0, bI_1, bI_n, bool_0, bool_1, in_T, lg_cmp0, ofN_nI, ci_0 ci1, ci_1 ci1, ci_2 ci1, ci_3 ci1, ci_4 ci1, ci_5 ci1, ci_6 ci1, ci_7 ci1, ci_8 ci1, ci_9 ci1, ci_10 ci1, ci_11 ci1, ci_12 ci1, ci_13 ci1, ci_14 ci1, ci_15 ci1, ci_16 ci1, ci_17 ci1, ci_18 ci1, ci_19 ci1, ci_20 ci1, ci_21 ci1, ci_22 ci1, ka1, l1, v1, rt1]
        · rw [if_neg e3]
          have v1 : v = none := by
            rw [find_none.mpr e3] at l2
            exact l2
          have qp1 := cw_place C1
          have st1 := cw_step C1 hp1
          have C2 := C1.step hp1
          have ci2 := C2.ci
          have f2 : Fr P σ.sz 0 σ (cst P (cst P σ)) := f1.t0 (cst_fr P σ.sz _) (Nat.le_refl _)
          have h2 := h.fr f2 C2
          have hR2 : Rm P (cst P (cst P σ)) 4 := hR.us f2.2.2
          unfold dm_X3_readNamedLink_p45
          simp (disch := first | assumption | omega) [ck_T, sm_s, bd_l, bd_r, lt_e, eq_self, and_self, if_true, true_and, and_true, lit_nI, nI_add, nI_mul, nI_sub, nI_clamp, nI_eq, nI_ltI, nI_leI, nN_e, nI_nN, nN_nI, bI_0, bI_1, bI_n, bool_0, bool_1, in_T, lg_cmp0, ofN_nI, ci_0 ci1, ci_1 ci1, ci_2 ci1, ci_3 ci1, ci_4 ci1, ci_5 ci1, ci_6 ci1, ci_7 ci1, ci_8 ci1, ci_9 ci1, ci_10 ci1, ci_11 ci1, ci_12 ci1, ci_13 ci1, ci_14 ci1, ci_15 ci1, ci_16 ci1, ci_17 ci1, ci_18 ci1, ci_19 ci1, ci_20 ci1, ci_21 ci1, ci_22 ci1, ci_0 ci2, ci_1 ci2, ci_2 ci2, ci_3 ci2, ci_4 ci2, ci_5 ci2, ci_6 ci2, ci_7 ci2, ci_8 ci2, ci_9 ci2, ci_10 ci2, ci_11 ci2, ci_12 ci2, ci_13 ci2, ci_14 ci2, ci_15 ci2, ci_16 ci2, ci_17 ci2, ci_18 ci2, ci_19 ci2, ci_20 ci2, ci_21 ci2, ci_22 ci2, ka1, l1, v1, rf1, qp1, st1]
          refine Rf.bind (rf_sign C2 (c := 40) (by omega) hR2.mono) ?_ ?_
          · rintro _ s p3 ⟨rfl, C3⟩
            have ci3 := C3.ci
            have f3 : Fr P σ.sz 0 σ (cst P (cst P (cst P σ))) := f2.t0 (cst_fr P σ.sz _) (Nat.le_refl _)
            have h3 := h.fr f3 C3
            have hR3 : Rm P (cst P (cst P (cst P σ))) 4 := hR.us f3.2.2
            have is3 := cw_isSign C3 (c := 41) (by omega)
            -- the ) and the adding
            have tail : ∀ (s : xS) (p4 c : Nat) (v : Option Nat) (x : Option xPart), IB P T true g ix M m a (f, nm, pl, bn, ls) s p4 → Fr P σ.sz c σ s → c ≤ 1 → OPartR s g (a + 2) s.sz v x → Rf (dm_X3_readNamedLink_p93 P (P.base + 6) (some a) (pk ln) (nI p1) v s) (eb (sp_sign T 41 p4) fun p5 => .ok (ls ++ [(ln, p1, x)], p5)) (LQ P T true g ix M m a f nm pl bn σ 2) (PE P T a σ 3) := by
              intro s p4 c v x hs fs hc hx
              have cis := hs.1.ci
              unfold dm_X3_readNamedLink_p93
              simp (disch := first | assumption | omega) [ck_T, sm_s, bd_l, bd_r, lt_e, eq_self, and_self, if_true, true_and, and_true, lit_nI, nI_add, nI_mul, nI_sub, nI_clamp, nI_eq, nI_ltI, nI_leI, nN_e, nI_nN, nN_nI, bI_0, bI_1, bI_n, bool_0, bool_1, in_T, lg_cmp0, ofN_nI, ci_0 cis, ci_1 cis, ci_2 cis, ci_3 cis, ci_4 cis, ci_5 cis, ci_6 cis, ci_7 cis, ci_8 cis, ci_9 cis, ci_10 cis, ci_11 cis, ci_12 cis, ci_13 cis, ci_14 cis, ci_15 cis, ci_16 cis, ci_17 cis, ci_18 cis, ci_19 cis, ci_20 cis, ci_21 cis, ci_22 cis]
              refine Rf.bind (rf_sign hs.1 (c := 41) (by omega) (hR.us fs.2.2)) ?_ ?_
              · rintro _ s' p5 ⟨rfl, C5⟩
                have f5 := cst_fr P s.sz s
                have h5 := hs.fr f5 C5
                have szs := hs.2.2.2.2.2.2.2.2.1
                obtain ⟨s1, s2, r0, q1, q2, q3, q4, q5⟩ := cw_newLink (P := P) (ln := ln) (lp := p1) (v := v) (x := x) h5 ((hR.us fs.2.2 (d := 1)).us f5.2.2) (by omega) hln (hx.sm (f5.sms (by have := h.2.2.1; have := h.2.2.2.2.1.1.1; omega) (Nat.le_refl _)) (Nat.le_refl _))
                refine Rf.ok (v := ()) (σ' := s2) ?_ ⟨q5, ((fs.trans f5 (by have := fs.2.2.1; omega) (e := 1)).mono (h' := a) (by omega) (e := 1) (by omega)).trans q4⟩
                simp (disch := first | assumption | omega) [ck_T, sm_s, bd_l, bd_r, lt_e, eq_self, and_self, if_true, true_and, and_true, r0, q1, q2, q3]
              · intro g5 s5 hq
                exact ⟨rfl, (PE.aft fs hq (by have := fs.2.2.1; omega) (e := 2)).mono⟩
            simp (disch := first | assumption | omega) [ck_T, sm_s, bd_l, bd_r, lt_e, eq_self, and_self, if_true, true_and, and_true, lit_nI, nI_add, nI_mul, nI_sub, nI_clamp, nI_eq, nI_ltI, nI_leI, nN_e, nI_nN, nN_nI, bI_0, bI_1, bI_n, bool_0, bool_1, in_T, lg_cmp0, ofN_nI, ci_0 ci3, ci_1 ci3, ci_2 ci3, ci_3 ci3, ci_4 ci3, ci_5 ci3, ci_6 ci3, ci_7 ci3, ci_8 ci3, ci_9 ci3, ci_10 ci3, ci_11 ci3, ci_12 ci3, ci_13 ci3, ci_14 ci3, ci_15 ci3, ci_16 ci3, ci_17 ci3, ci_18 ci3, ci_19 ci3, ci_20 ci3, ci_21 ci3, ci_22 ci3, is3]
            by_cases e4 : sp_is T 41 p3 = true
            · have en : sp_sign T 41 p3 = .ok (lx_nx T p3) := by unfold sp_sign; rw [if_pos e4]
              have tl := tail _ p3 0 none none h3 f3 (by omega) trivial
              rw [en, eb_ok] at tl
              simp only [e4, if_true, Bool.true_eq_false, if_false]
              exact tl
            · simp only [e4, Bool.false_eq_true, if_false]
              have cp := cw_longPart h3.px (hR3.mono (d := 3))
              refine Rf.bind (e := sp_longPart T m.nets p3) cp ?_ ?_
              · rintro v s ⟨x, p4⟩ ⟨b, rfl, f4, C4, hx⟩
                have h4 := h3.fr f4 C4
                exact tail s p4 1 (some b) (some x) h4 (f3.t0 f4 (Nat.le_refl _)) (by omega) (hx.lo (by show a + 2 ≤ σ.sz; omega) (Nat.le_refl _))
              · intro g5 s5 hq
                exact ⟨rfl, (PE.aft f3 hq (Nat.le_refl _) (e := 2)).mono⟩
          · intro g5 s5 hq
            exact ⟨rfl, (PE.aft f2 hq (Nat.le_refl _) (e := 1)).mono⟩
      · intro g5 s5 hq
        exact ⟨rfl, (PE.aft f1 hq (Nat.le_refl _) (e := 1)).mono⟩
    · intro g5 s5 hq
      exact ⟨rfl, hq.mono⟩
