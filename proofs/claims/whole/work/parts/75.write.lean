/-! ===== the class: write ===== -/
theorem snoc_ind {α : Type} {p : List α → Prop} (h0 : p []) (h1 : ∀ l a, p l → p (l ++ [a])) : ∀ l, p l := by
  have key : ∀ n (l : List α), l.length = n → p l := by
    intro n
    induction n with
    | zero =>
      intro l hl
      rw [List.length_eq_zero_iff.mp hl]
      exact h0
    | succ n ih =>
      intro l hl
      rcases List.eq_nil_or_concat l with e | ⟨l', a, e⟩
      · subst e; simp at hl
      · subst e
        rw [List.concat_eq_append] at hl ⊢
        exact h1 l' a (ih l' (by simpa using hl))
  exact fun l => key l.length l rfl
theorem nI_sub0 {a b : Nat} (ha : a < 2 ^ 31) (hb : b < 2 ^ 31) : (nI a - nI b = nI 0) = (a = b) := by
  apply propext
  constructor
  · intro z
    have z2 : nI a = nI b := by
      have := congrArg (· + nI b) z
      simpa [nI_add] using this
    exact (nI_eq ha hb).mp z2
  · intro z
    subst z
    rw [nI_sub (Nat.le_refl _), Nat.sub_self]
theorem nI_sub1 (a b : Nat) : nI a - nI b - nI 1 = nI a - nI (b + 1) := by
  have : nI (b + 1) = nI b + nI 1 := by rw [nI_add]
  rw [this]
  apply Int32.toBitVec_inj.mp
  simp only [Int32.toBitVec_sub, Int32.toBitVec_add]
  generalize (nI a).toBitVec = x
  generalize (nI b).toBitVec = y
  generalize (nI 1).toBitVec = z
  apply BitVec.eq_of_toInt_eq
  simp only [BitVec.toInt_sub, BitVec.toInt_add]
  simp
  congr 1
  omega
theorem pst_val {w : Nat} (hw : w < 2 ^ 31) : ∀ l : List Nat, l.length < 2 ^ 31 → (pst w l).1 = nI w - nI l.length ∧ (pst w l).2 = match l[w]? with
    | none => nN
    | some c => nI c := by
  refine snoc_ind ?_ ?_
  · intro _
    refine ⟨?_, by simp [pst]⟩
    show nI w = nI w - nI 0
    rw [nI_sub (by omega)]
    rfl
  · intro l a ih hl
    simp only [List.length_append, List.length_cons, List.length_nil] at hl
    obtain ⟨h1, h2⟩ := ih (by omega)
    rw [pst_snoc]
    simp only
    refine ⟨?_, ?_⟩
    · rw [h1, nI_sub1]
      congr 2
      simp
    · have nz := nI_sub0 hw (show l.length < 2 ^ 31 by omega)
      rw [h1, h2]
      by_cases e : w = l.length
      · rw [if_pos (Eq.mpr nz e), e, List.getElem?_append_right (Nat.le_refl _)]
        simp
      · rw [if_neg (fun z => e (Eq.mp nz z))]
        by_cases e2 : w < l.length
        · rw [List.getElem?_append_left e2]
        · rw [List.getElem?_eq_none (by omega), List.getElem?_eq_none (by simp; omega)]
theorem pst_keep {w : Nat} (hw : w < 2 ^ 31) {l t : List Nat} (hl : (l ++ t).length < 2 ^ 31) (h : ¬ (pst w l).2 = nN) : (pst w (l ++ t)).2 = (pst w l).2 := by
  have hl' : l.length < 2 ^ 31 := by
    rw [List.length_append] at hl
    omega
  rw [(pst_val hw _ hl).2, (pst_val hw l hl').2]
  rw [(pst_val hw l hl').2] at h
  cases e : l[w]? with
  | none => rw [e] at h; exact absurd rfl h
  | some c =>
    have := get_lt e
    rw [List.getElem?_append_left this, e]
theorem cw_pickL {P : xP} {σ0 : xS} {D : Nat} {A H : Nat → Nat} {G : Nat → List Nat → Nat} {ms : List xMod} {top : Nat} (C : CI P σ0) (hd : DD P σ0 D A H G ms top) (hmis : sp_mis ms = 1001) (lng : Bool) {w : Nat} (hw : w < 2 ^ 31) {full : List Nat} (hf : full.length < 2 ^ 31) : ∀ (r j n : Nat) (l : List Nat), j + r = ms.length → r < n → l ++ (ms.drop j).flatMap (pr_mod ms lng) = full → ∃ l', dm_X7_pick_L26 P (P.base + 8) n (some D) (nI j) (pS P σ0 lng w l) = some (.inl (pst w full).2, pS P σ0 lng w l') := by
  have k8 := ci_22 C
  obtain ⟨lg, -, dr, hc, hx⟩ := hd.1
  obtain ⟨a1, a2, a3, a4, a5, a6, a7⟩ := dr.1
  intro r
  induction r with
  | zero =>
    intro j n l hj hn hfull
    obtain ⟨n, rfl⟩ : ∃ m, n = m + 1 := ⟨n - 1, by omega⟩
    have e : ms.drop j = [] := List.drop_eq_nil_of_le (by omega)
    have e1 : ms.length ≤ j := by omega
    rw [e, List.flatMap_nil, List.append_nil] at hfull
    subst hfull
    refine ⟨l, ?_⟩
    unfold dm_X7_pick_L26 dm_X7_pick_p81
    simp (disch := first | assumption | omega) [ck_T, sm_s, bd_l, bd_r, lt_e, eq_self, and_self, if_true, true_and, and_true, lit_nI, nI_add, nI_mul, nI_sub, nI_clamp, nI_eq, nI_ltI, nI_leI, nN_e, nI_nN, nN_nI, bI_0, bI_1, bI_n, bool_0, bool_1, in_T, lg_cmp0, ofN_nI, pS_K, pS_I, pS_2, k8, a3, hc, e1]
  | succ r ih =>
    intro j n l hj hn hfull
    obtain ⟨n, rfl⟩ : ∃ m, n = m + 1 := ⟨n - 1, by omega⟩
    obtain ⟨m, hm⟩ : ∃ m, ms[j]? = some m := ⟨_, List.getElem?_eq_getElem (by omega)⟩
    have e1 : ¬ ms.length ≤ j := by omega
    have j8 : j < 8 := by omega
    have q1 := (dr.2 j m hm).1
    have ok : MOK P σ0 D A H G ms top j m := ⟨C, hd, hmis, hm⟩
    unfold dm_X7_pick_L26 dm_X7_pick_p81 dm_X7_pick_p75
    by_cases e : (pst w l).2 = nN
    · rw [drop_get hm, List.flatMap_cons, ← List.append_assoc] at hfull
      obtain ⟨l', t1⟩ := ih (j + 1) n (l ++ pr_mod ms lng m) (by omega) (by omega) hfull
      refine ⟨l', ?_⟩
      rw [← t1]
      cases lng with
      | true =>
        have pl := pt_long w ok l
        simp (disch := first | assumption | omega) [ck_T, sm_s, bd_l, bd_r, lt_e, eq_self, and_self, if_true, true_and, and_true, lit_nI, nI_add, nI_mul, nI_sub, nI_clamp, nI_eq, nI_ltI, nI_leI, nN_e, nI_nN, nN_nI, bI_0, bI_1, bI_n, bool_0, bool_1, in_T, lg_cmp0, ofN_nI, pS_K, pS_I, pS_R, pS_L, pS_AR, pS_0, pS_2, bI_tt, k8, a3, a4, a5, a6, hc, e1, e, q1, pl, x_in, dlt_T]
      | false =>
        have pl := pt_short w ok l
        simp (disch := first | assumption | omega) [ck_T, sm_s, bd_l, bd_r, lt_e, eq_self, and_self, if_true, true_and, and_true, lit_nI, nI_add, nI_mul, nI_sub, nI_clamp, nI_eq, nI_ltI, nI_leI, nN_e, nI_nN, nN_nI, bI_0, bI_1, bI_n, bool_0, bool_1, in_T, lg_cmp0, ofN_nI, pS_K, pS_I, pS_R, pS_L, pS_AR, pS_0, pS_2, bI_ff, k8, a3, a4, a5, a6, hc, e1, e, q1, pl, x_in, dlt_T]
    · have kp := pst_keep hw (t := (ms.drop j).flatMap (pr_mod ms lng)) (by rw [hfull]; exact hf) e
      rw [hfull] at kp
      refine ⟨l, ?_⟩
      rw [kp]
      simp (disch := first | assumption | omega) [ck_T, sm_s, bd_l, bd_r, lt_e, eq_self, and_self, if_true, true_and, and_true, lit_nI, nI_add, nI_mul, nI_sub, nI_clamp, nI_eq, nI_ltI, nI_leI, nN_e, nI_nN, nN_nI, bI_0, bI_1, bI_n, bool_0, bool_1, in_T, lg_cmp0, ofN_nI, pS_K, pS_I, pS_2, k8, a3, hc, e1, e]
def aq_write (ms : List xMod) (f i : Int32) : Option Int32 := if f = nI 0 ∨ f = nI 1 then (match aI i with
  | none => none
  | some w => some (match (pr_text ms (decide (f = nI 0)))[w]? with
    | none => nN
    | some c => nI c)) else none
theorem cw_pick {P : xP} {σ : xS} {D : Nat} {A H : Nat → Nat} {G : Nat → List Nat → Nat} {ms : List xMod} {top : Nat} (C : CI P σ) (hd : DD P σ D A H G ms top) (hmis : sp_mis ms = 1001) (lng : Bool) {w : Nat} (hw : w < 2 ^ 31) : ∃ l', dm_X7_pick P (P.base + 8) (some D) (nI (if lng = true then 0 else 1)) (nI w) σ = some (.inl (match (pr_text ms lng)[w]? with
    | none => nN
    | some c => nI c), pS P σ lng w l') := by
  have k8 := ci_22 C
  obtain ⟨lg, -, dr, hc, hx⟩ := hd.1
  have tl := text_le hx lng
  have hN := C.N
  obtain ⟨l', q⟩ := cw_pickL C hd hmis lng hw (full := pr_text ms lng) (by omega) ms.length 0 P.N [] (by omega) (by have := hx.1; omega) (by rw [List.drop_zero]; rfl)
  rw [(pst_val hw _ (by omega)).2] at q
  refine ⟨l', ?_⟩
  rw [← q]
  have e0 : pS P σ lng w [] = ((σ.setI 700 (P.base + 8) (bI lng)).setI 701 (P.base + 8) (nI w)).setI 702 (P.base + 8) nN := rfl
  rw [e0]
  unfold dm_X7_pick dm_X7_pick_p10
  cases lng with
  | true => simp (disch := first | assumption | omega) [ck_T, sm_s, bd_l, bd_r, lt_e, eq_self, and_self, if_true, true_and, and_true, lit_nI, nI_add, nI_mul, nI_sub, nI_clamp, nI_eq, nI_ltI, nI_leI, nN_e, nI_nN, nN_nI, bI_0, bI_1, bI_n, bool_0, bool_1, in_T, lg_cmp0, ofN_nI, q_K_setI, q_I_setI, q_J_setI, q_R_setI, q_L_setI, q_AI_setI, q_AJ_setI, q_AR_setI, q_sz_setI, q_su_setI, q_K_setJ, q_I_setJ, q_J_setJ, q_R_setJ, q_L_setJ, q_AI_setJ, q_AJ_setJ, q_AR_setJ, q_sz_setJ, q_su_setJ, q_K_setR, q_I_setR, q_J_setR, q_R_setR, q_L_setR, q_AI_setR, q_AJ_setR, q_AR_setR, q_sz_setR, q_su_setR, q_K_setAI, q_I_setAI, q_J_setAI, q_R_setAI, q_L_setAI, q_AI_setAI, q_AJ_setAI, q_AR_setAI, q_sz_setAI, q_su_setAI, q_K_setAJ, q_I_setAJ, q_J_setAJ, q_R_setAJ, q_L_setAJ, q_AI_setAJ, q_AJ_setAJ, q_AR_setAJ, q_sz_setAJ, q_su_setAJ, q_K_setAR, q_I_setAR, q_J_setAR, q_R_setAR, q_L_setAR, q_AI_setAR, q_AJ_setAR, q_AR_setAR, q_sz_setAR, q_su_setAR, q_K_newO, q_I_newO, q_J_newO, q_R_newO, q_L_newO, q_AI_newO, q_AJ_newO, q_AR_newO, q_sz_newO, q_su_newO, q_K_newA, q_I_newA, q_J_newA, q_R_newA, q_L_newA, q_AI_newA, q_AJ_newA, q_AR_newA, q_sz_newA, q_su_newA, q_K_skip, q_I_skip, q_J_skip, q_R_skip, q_L_skip, q_AI_skip, q_AJ_skip, q_AR_skip, q_sz_skip, q_su_skip, k8, dle_T, bI_tt]
  | false => simp (disch := first | assumption | omega) [ck_T, sm_s, bd_l, bd_r, lt_e, eq_self, and_self, if_true, true_and, and_true, lit_nI, nI_add, nI_mul, nI_sub, nI_clamp, nI_eq, nI_ltI, nI_leI, nN_e, nI_nN, nN_nI, bI_0, bI_1, bI_n, bool_0, bool_1, in_T, lg_cmp0, ofN_nI, q_K_setI, q_I_setI, q_J_setI, q_R_setI, q_L_setI, q_AI_setI, q_AJ_setI, q_AR_setI, q_sz_setI, q_su_setI, q_K_setJ, q_I_setJ, q_J_setJ, q_R_setJ, q_L_setJ, q_AI_setJ, q_AJ_setJ, q_AR_setJ, q_sz_setJ, q_su_setJ, q_K_setR, q_I_setR, q_J_setR, q_R_setR, q_L_setR, q_AI_setR, q_AJ_setR, q_AR_setR, q_sz_setR, q_su_setR, q_K_setAI, q_I_setAI, q_J_setAI, q_R_setAI, q_L_setAI, q_AI_setAI, q_AJ_setAI, q_AR_setAI, q_sz_setAI, q_su_setAI, q_K_setAJ, q_I_setAJ, q_J_setAJ, q_R_setAJ, q_L_setAJ, q_AI_setAJ, q_AJ_setAJ, q_AR_setAJ, q_sz_setAJ, q_su_setAJ, q_K_setAR, q_I_setAR, q_J_setAR, q_R_setAR, q_L_setAR, q_AI_setAR, q_AJ_setAR, q_AR_setAR, q_sz_setAR, q_su_setAR, q_K_newO, q_I_newO, q_J_newO, q_R_newO, q_L_newO, q_AI_newO, q_AJ_newO, q_AR_newO, q_sz_newO, q_su_newO, q_K_newA, q_I_newA, q_J_newA, q_R_newA, q_L_newA, q_AI_newA, q_AJ_newA, q_AR_newA, q_sz_newA, q_su_newA, q_K_skip, q_I_skip, q_J_skip, q_R_skip, q_L_skip, q_AI_skip, q_AJ_skip, q_AR_skip, q_sz_skip, q_su_skip, k8, dle_T, bI_ff]
theorem CL.skip {P : xP} {T : xT} {ms : List xMod} {σ : xS} (h : CL P T ms σ) : CL P T ms (σ.skip 6) ∧ FC P 1 σ (σ.skip 6) := by
  obtain ⟨c1, c2, c3, c4, D, A, H, G, top, g1, g2, g3, g4⟩ := h
  have f := Fr.skip P (h := σ.sz) (σ := σ) (Nat.le_refl _) (by omega) (n := 6) (by omega)
  have C := c1.fr (by omega) f
  obtain ⟨lg, -, dr, -⟩ := g4.1
  have d1 := dr.1.1
  refine ⟨⟨C, c2, c3.fr f (by omega), ?_, D, A, H, G, top, ((f.1 _ (by omega) (by omega)).2.2.2.2.1 1004).trans g1, ?_, g3, g4.sm C (f.sms2 (by omega) g2)⟩, ⟨fun a ha => f.1 a (by omega) (by omega), f.2.2⟩⟩
  · show P.base + 44 ≤ σ.sz + 1; omega
  · show top ≤ σ.sz + 1; omega
theorem CL.pt {P : xP} {T : xT} {ms : List xMod} {σ : xS} (h : CL P T ms σ) (lng : Bool) (w : Nat) (l : List Nat) : CL P T ms (pS P σ lng w l) ∧ FC P 0 σ (pS P σ lng w l) := by
  obtain ⟨c1, c2, c3, c4, D, A, H, G, top, g1, g2, g3, g4⟩ := h
  have C := pS_ci c1 lng w l
  obtain ⟨lg, -, dr, -⟩ := g4.1
  have d1 := dr.1.1
  refine ⟨⟨C, c2, ⟨?_, fun i hi => ?_⟩, c4, D, A, H, G, top, ?_, g2, g3, g4.sm C (pS_sms lng w l (by omega))⟩, ⟨fun a ha => ?_, Us.refl _⟩⟩
  · rw [pS_I _ _ _ _ _ (by omega) (by omega) (by omega)]; exact c3.1
  · rw [pS_AI]; exact c3.2 i hi
  · rw [pS_R]; exact g1
  · have s := pS_sms (P := P) (σ0 := σ) lng w l (lo := P.base + 9) (hi := P.base + 44) (by omega)
    by_cases z : a < P.base
    · refine ⟨by rw [pS_K], by rw [pS_L], fun f => ?_, fun f => by rw [pS_J], fun f => by rw [pS_R], fun i => by rw [pS_AI], fun i => rfl, fun i => by rw [pS_AR]⟩
      have : ¬ a = P.base + 8 := by omega
      unfold pS
      simp [q_K_setI, q_I_setI, q_J_setI, q_R_setI, q_L_setI, q_AI_setI, q_AJ_setI, q_AR_setI, q_sz_setI, q_su_setI, q_K_setJ, q_I_setJ, q_J_setJ, q_R_setJ, q_L_setJ, q_AI_setJ, q_AJ_setJ, q_AR_setJ, q_sz_setJ, q_su_setJ, q_K_setR, q_I_setR, q_J_setR, q_R_setR, q_L_setR, q_AI_setR, q_AJ_setR, q_AR_setR, q_sz_setR, q_su_setR, q_K_setAI, q_I_setAI, q_J_setAI, q_R_setAI, q_L_setAI, q_AI_setAI, q_AJ_setAI, q_AR_setAI, q_sz_setAI, q_su_setAI, q_K_setAJ, q_I_setAJ, q_J_setAJ, q_R_setAJ, q_L_setAJ, q_AI_setAJ, q_AJ_setAJ, q_AR_setAJ, q_sz_setAJ, q_su_setAJ, q_K_setAR, q_I_setAR, q_J_setAR, q_R_setAR, q_L_setAR, q_AI_setAR, q_AJ_setAR, q_AR_setAR, q_sz_setAR, q_su_setAR, q_K_newO, q_I_newO, q_J_newO, q_R_newO, q_L_newO, q_AI_newO, q_AJ_newO, q_AR_newO, q_sz_newO, q_su_newO, q_K_newA, q_I_newA, q_J_newA, q_R_newA, q_L_newA, q_AI_newA, q_AJ_newA, q_AR_newA, q_sz_newA, q_su_newA, q_K_skip, q_I_skip, q_J_skip, q_R_skip, q_L_skip, q_AI_skip, q_AJ_skip, q_AR_skip, q_sz_skip, q_su_skip, q_up2, q_up, this]
    · exact s a (by omega) (by omega)
/-- a call that answers a number: none if it throws; T and ms stay -/
def CAns (P : xP) (T : xT) (ms : List xMod) (σ : xS) (o : xO Int32) (r : Option Int32) : Prop := ∃ σ', CL P T ms σ' ∧ FC P 1 σ σ' ∧ o = match r with
  | none => some (.inr IOE, σ')
  | some v => some (.inl v, σ')
theorem FC.refl (P : xP) (σ : xS) : FC P 0 σ σ := ⟨fun a _ => Sm.refl σ a, Us.refl σ⟩
theorem FC.up {P : xP} {c d : Nat} {σ σ' : xS} (h : FC P c σ σ') (hd : c ≤ d) : FC P d σ σ' := ⟨h.1, h.2.1, by have := h.2.2.1; omega, by have := h.2.2.2; omega⟩
theorem Ans.c {P : xP} {T : xT} {ms : List xMod} {σ : xS} {o : xO Int32} {r : Option Int32} (h : CL P T ms σ) (ha : Ans σ o r) : CAns P T ms σ o r := by
  cases r with
  | none =>
    obtain ⟨h1, h2⟩ := h.skip
    exact ⟨σ.skip 6, h1, h2, ha⟩
  | some v => exact ⟨σ, h, (FC.refl P σ).up (by omega), ha⟩
theorem cw_write {P : xP} {T : xT} {ms : List xMod} {σ : xS} (h : CL P T ms σ) (hmis : sp_mis ms = 1001) (hR : Rm P σ 1) (f i : Int32) : CAns P T ms σ (dm_X11_write P P.base f i σ) (aq_write ms f i) := by
  obtain ⟨C, hT, ht, hs, D, A, H, G, top, g1, g2, g3, g4⟩ := id h
  obtain ⟨k1, k2⟩ := h.skip
  have kB := ci_0 C
  have r3 := ci_4 C
  have k8 := ci_22 C
  obtain ⟨r1, r2⟩ := hR
  unfold aq_write dm_X11_write dm_X11_write_p9 dm_X11_write_p14 dm_X11_write_p26 dm_X11_refuseUnless
  have thr : ∀ lng : Bool, f = nI (if lng = true then 0 else 1) → i < nI 0 → (dm_X11_write P P.base f i σ = some (.inr IOE, σ.skip 6)) := by
    intro lng hf hi
    unfold dm_X11_write dm_X11_write_p9 dm_X11_write_p14 dm_X11_write_p26 dm_X11_refuseUnless
    subst hf
    cases lng <;> simp (disch := first | assumption | omega) [ck_T, sm_s, bd_l, bd_r, lt_e, eq_self, and_self, if_true, true_and, and_true, lit_nI, nI_add, nI_mul, nI_sub, nI_clamp, nI_eq, nI_ltI, nI_leI, nN_e, nI_nN, nN_nI, bI_0, bI_1, bI_n, bool_0, bool_1, in_T, lg_cmp0, ofN_nI, hi, dle_T, IOE]
  have ok : ∀ (lng : Bool) (w : Nat), w < 2 ^ 31 → f = nI (if lng = true then 0 else 1) → i = nI w → ∃ l', dm_X11_write P P.base f i σ = some (.inl (match (pr_text ms lng)[w]? with
      | none => nN
      | some c => nI c), pS P σ lng w l') := by
    intro lng w hw hf hi
    obtain ⟨l', q⟩ := cw_pick C g4 hmis lng hw
    refine ⟨l', ?_⟩
    subst hf hi
    unfold dm_X11_write dm_X11_write_p9 dm_X11_write_p14 dm_X11_write_p26 dm_X11_refuseUnless
    cases lng
    · simp only [Bool.false_eq_true, if_false] at q ⊢
      simp (disch := first | assumption | omega) [ck_T, sm_s, bd_l, bd_r, lt_e, eq_self, and_self, if_true, true_and, and_true, lit_nI, nI_add, nI_mul, nI_sub, nI_clamp, nI_eq, nI_ltI, nI_leI, nN_e, nI_nN, nN_nI, bI_0, bI_1, bI_n, bool_0, bool_1, in_T, lg_cmp0, ofN_nI, kB, r3, k8, g1, q]
    · simp only [if_true] at q ⊢
      simp (disch := first | assumption | omega) [ck_T, sm_s, bd_l, bd_r, lt_e, eq_self, and_self, if_true, true_and, and_true, lit_nI, nI_add, nI_mul, nI_sub, nI_clamp, nI_eq, nI_ltI, nI_leI, nN_e, nI_nN, nN_nI, bI_0, bI_1, bI_n, bool_0, bool_1, in_T, lg_cmp0, ofN_nI, kB, r3, k8, g1, q]
  have fin : ∀ lng : Bool, f = nI (if lng = true then 0 else 1) → CAns P T ms σ (dm_X11_write P P.base f i σ) (match aI i with
      | none => none
      | some w => some (match (pr_text ms lng)[w]? with
        | none => nN
        | some c => nI c)) := by
    intro lng hf
    rcases i32_cases i with ⟨h1, h2⟩ | ⟨w, h1, h2, h3⟩
    · rw [h2]
      exact ⟨σ.skip 6, k1, k2, thr lng hf h1⟩
    · rw [h3]
      obtain ⟨l', q⟩ := ok lng w h1 hf h2
      obtain ⟨u1, u2⟩ := h.pt lng w l'
      exact ⟨_, u1, u2.up (by omega), q⟩
  by_cases f0 : f = nI 0
  · rw [if_pos (Or.inl f0), decide_eq_true f0]
    exact fin true f0
  · by_cases f1 : f = nI 1
    · rw [if_pos (Or.inr f1), decide_eq_false f0]
      exact fin false f1
    · have n : ¬ (f = nI 0 ∨ f = nI 1) := by simp only [f0, f1, or_self, not_false_eq_true]
      rw [if_neg n]
      refine ⟨σ.skip 6, k1, k2, ?_⟩
      simp (disch := first | assumption | omega) [ck_T, sm_s, bd_l, bd_r, lt_e, eq_self, and_self, if_true, true_and, and_true, lit_nI, nI_add, nI_mul, nI_sub, nI_clamp, nI_eq, nI_ltI, nI_leI, nN_e, nI_nN, nN_nI, bI_0, bI_1, bI_n, bool_0, bool_1, in_T, lg_cmp0, ofN_nI, f0, f1, dle_T, IOE]
