/-! ===== the class's words ===== -/
def WR (P : xP) (T : xT) (σ : xS) (wc : Nat) : Prop := wc ≤ 1000 ∧ σ.I 905 (P.base + 1) = nI wc ∧ (∀ k, k ≤ wc → σ.AI (P.base + 3) k = nI (lx_pos T k) ∧ σ.AI (P.base + 4) k = nI (lx_kind T (lx_pos T k)) ∧ σ.AJ (P.base + 5) k = lx_val T (lx_pos T k)) ∧ lx_pos T wc = T.2 ∧ ∀ k, k < wc → lx_pos T k < T.2
/-- the cursor stands on the word at the place p -/
def CP (P : xP) (T : xT) (σ : xS) (p : Nat) : Prop := CI P σ ∧ TV T ∧ P.base + 44 ≤ σ.sz ∧ ∃ wc k, WR P T σ wc ∧ k ≤ wc ∧ σ.I 906 (P.base + 1) = nI k ∧ lx_pos T k = p
theorem WR.fr {P : xP} {T : xT} {h c wc : Nat} {σ σ' : xS} (hh : P.base + 9 ≤ h) (f : Fr P h c σ σ') (w : WR P T σ wc) : WR P T σ' wc := by
  obtain ⟨h1, h2, h3, h4, h5⟩ := w
  refine ⟨h1, (f.2.1.2.1 905 (by omega)).trans h2, fun k hk => ?_, h4, h5⟩
  obtain ⟨a1, a2, a3⟩ := h3 k hk
  exact ⟨((f.1 _ (by omega) (by omega)).2.2.2.2.2.1 k).trans a1, ((f.1 _ (by omega) (by omega)).2.2.2.2.2.1 k).trans a2, ((f.1 _ (by omega) (by omega)).2.2.2.2.2.2.1 k).trans a3⟩
theorem CP.fr {P : xP} {T : xT} {h c p : Nat} {σ σ' : xS} (C : CP P T σ p) (f : Fr P h c σ σ') (he : σ'.I 906 (P.base + 1) = σ.I 906 (P.base + 1)) (hh : P.base + 9 ≤ h := by omega) : CP P T σ' p := by
  obtain ⟨h1, h2, h3, wc, k, h4, h5, h6, h7⟩ := C
  exact ⟨h1.fr hh f, h2, by have := f.2.2.1; omega, wc, k, h4.fr hh f, h5, he.trans h6, h7⟩
/-- one word on -/
def cst (P : xP) (σ : xS) : xS := σ.setI 906 (P.base + 1) (σ.I 906 (P.base + 1) + nI 1)
theorem cst_fr (P : xP) (h : Nat) (σ : xS) : Fr P h 0 σ (cst P σ) := Fr.set906 P h σ _
theorem CP.step {P : xP} {T : xT} {p : Nat} {σ : xS} (C : CP P T σ p) (hp : p < T.2) : CP P T (cst P σ) (lx_nx T p) := by
  obtain ⟨h1, h2, h3, wc, k, h4, h5, h6, h7⟩ := C
  have f := cst_fr P (P.base + 9) σ
  refine ⟨h1.fr (Nat.le_refl _) f, h2, h3, wc, k + 1, h4.fr (Nat.le_refl _) f, ?_, ?_, ?_⟩
  · have : k ≠ wc := by
      intro e; subst e
      have := h4.2.2.2.1
      omega
    omega
  · show (σ.setI 906 (P.base + 1) _).I 906 (P.base + 1) = _
    rw [I_setI, x_up2_self, h6, nI_add]
  · rw [← h7]; rfl
theorem CP.skip {P : xP} {T : xT} {p : Nat} {σ : xS} (C : CP P T σ p) {n : Nat} (hn : n ≤ 20) : CP P T (σ.skip n) p := by
  have h3 := C.2.2.1
  exact C.fr (Fr.skip P (h := P.base + 9) (by omega) (by omega) hn) rfl (Nat.le_refl _)
theorem CP.ci {P : xP} {T : xT} {p : Nat} {σ : xS} (C : CP P T σ p) : CI P σ := C.1
theorem CP.tv {P : xP} {T : xT} {p : Nat} {σ : xS} (C : CP P T σ p) : TV T := C.2.1
theorem CP.sz {P : xP} {T : xT} {p : Nat} {σ : xS} (C : CP P T σ p) : P.base + 44 ≤ σ.sz := C.2.2.1
/-- what is read at the cursor -/
theorem CP.get {P : xP} {T : xT} {p : Nat} {σ : xS} (C : CP P T σ p) : ∃ wc k, σ.I 905 (P.base + 1) = nI wc ∧ σ.I 906 (P.base + 1) = nI k ∧ k ≤ wc ∧ wc ≤ 1000 ∧ p ≤ T.2 ∧ T.2 ≤ 1000 ∧ (k = wc ↔ T.2 ≤ p) ∧ σ.AI (P.base + 3) k = nI p ∧ σ.AI (P.base + 4) k = nI (lx_kind T p) ∧ σ.AJ (P.base + 5) k = lx_val T p := by
  obtain ⟨h1, h2, h3, wc, k, h4, h5, h6, h7⟩ := C
  obtain ⟨a1, a2, a3, a4, a5⟩ := h4
  obtain ⟨b1, b2, b3⟩ := a3 k h5
  rw [h7] at b1 b2 b3
  refine ⟨wc, k, a2, h6, h5, a1, ?_, h2.1, ⟨fun e => ?_, fun e => ?_⟩, b1, b2, b3⟩
  · rw [← h7]; exact pos_le T k
  · subst e; omega
  · by_cases q : k < wc
    · have := a5 k q; omega
    · omega
theorem cw_place {P : xP} {T : xT} {p : Nat} {σ : xS} (C : CP P T σ p) : dm_X10_place P (P.base + 1) σ = some (.inl (nI p), σ) := by
  have ci := C.ci
  obtain ⟨wc, k, h1, h2, h3, h4, h5, h6, h7, h8, h9, h10⟩ := C.get
  unfold dm_X10_place
  simp (disch := first | assumption | omega) [x_chk, x_some, x_bind, x_let, lit_nI, nI_add, nI_mul, nI_sub, nI_clamp, nI_eq, nI_ltI, nI_leI, nN_e, nI_nN, nN_nI, bI_0, bI_1, bI_n, bool_0, bool_1, in_T, lg_cmp0, ci_0, ci_1, ci_2, ci_3, ci_4, ci_5, ci_6, ci_7, ci_8, ci_9, ci_10, ci_11, ci_12, ci_13, ci_14, ci_15, ci_16, ci_17, ci_18, ci_19, ci_20, ci_21, ci_22, dlt_T, dlt_F, dle_T, dle_F, h2, h8]
theorem cw_isAtEnd {P : xP} {T : xT} {p : Nat} {σ : xS} (C : CP P T σ p) : dm_X10_isAtEnd P (P.base + 1) σ = some (.inl (bI (decide (T.2 ≤ p))), σ) := by
  have ci := C.ci
  obtain ⟨wc, k, h1, h2, h3, h4, h5, h6, h7, h8, h9, h10⟩ := C.get
  unfold dm_X10_isAtEnd dm_X10_isAtEnd_p16
  by_cases e : T.2 ≤ p
  · have := h7.mpr e
    simp (disch := first | assumption | omega) [x_chk, x_some, x_bind, x_let, lit_nI, nI_add, nI_mul, nI_sub, nI_clamp, nI_eq, nI_ltI, nI_leI, nN_e, nI_nN, nN_nI, bI_0, bI_1, bI_n, bool_0, bool_1, in_T, lg_cmp0, ci_0, ci_1, ci_2, ci_3, ci_4, ci_5, ci_6, ci_7, ci_8, ci_9, ci_10, ci_11, ci_12, ci_13, ci_14, ci_15, ci_16, ci_17, ci_18, ci_19, ci_20, ci_21, ci_22, dlt_T, dlt_F, dle_T, dle_F, h1, h2, e, this]
    simp [bI]
  · have : k < wc := by omega
    simp (disch := first | assumption | omega) [x_chk, x_some, x_bind, x_let, lit_nI, nI_add, nI_mul, nI_sub, nI_clamp, nI_eq, nI_ltI, nI_leI, nN_e, nI_nN, nN_nI, bI_0, bI_1, bI_n, bool_0, bool_1, in_T, lg_cmp0, ci_0, ci_1, ci_2, ci_3, ci_4, ci_5, ci_6, ci_7, ci_8, ci_9, ci_10, ci_11, ci_12, ci_13, ci_14, ci_15, ci_16, ci_17, ci_18, ci_19, ci_20, ci_21, ci_22, dlt_T, dlt_F, dle_T, dle_F, h1, h2, e, this]
    simp [bI]
theorem cw_isNumber {P : xP} {T : xT} {p : Nat} {σ : xS} (C : CP P T σ p) : dm_X10_isNumber P (P.base + 1) σ = some (.inl (bI (decide (lx_kind T p = 2))), σ) := by
  have ci := C.ci
  have kb := kind_b T p
  obtain ⟨wc, k, h1, h2, h3, h4, h5, h6, h7, h8, h9, h10⟩ := C.get
  unfold dm_X10_isNumber dm_X10_isNumber_p18
  by_cases e : lx_kind T p = 2
  · simp (disch := first | assumption | omega) [x_chk, x_some, x_bind, x_let, lit_nI, nI_add, nI_mul, nI_sub, nI_clamp, nI_eq, nI_ltI, nI_leI, nN_e, nI_nN, nN_nI, bI_0, bI_1, bI_n, bool_0, bool_1, in_T, lg_cmp0, ci_0, ci_1, ci_2, ci_3, ci_4, ci_5, ci_6, ci_7, ci_8, ci_9, ci_10, ci_11, ci_12, ci_13, ci_14, ci_15, ci_16, ci_17, ci_18, ci_19, ci_20, ci_21, ci_22, dlt_T, dlt_F, dle_T, dle_F, h1, h2, h9, e, bI_tt]
  · simp (disch := first | assumption | omega) [x_chk, x_some, x_bind, x_let, lit_nI, nI_add, nI_mul, nI_sub, nI_clamp, nI_eq, nI_ltI, nI_leI, nN_e, nI_nN, nN_nI, bI_0, bI_1, bI_n, bool_0, bool_1, in_T, lg_cmp0, ci_0, ci_1, ci_2, ci_3, ci_4, ci_5, ci_6, ci_7, ci_8, ci_9, ci_10, ci_11, ci_12, ci_13, ci_14, ci_15, ci_16, ci_17, ci_18, ci_19, ci_20, ci_21, ci_22, dlt_T, dlt_F, dle_T, dle_F, h1, h2, h9, e, bI_ff]
theorem val_c {T : xT} {p c : Nat} (hT : TV T) (h : lx_kind T p = 3) (hc : c < 2 ^ 31) : (lx_val T p = (nI c).toInt64) = (T.1 p = c) := by
  rw [val_sign h, nI_l hc]
  have := hT.c (kind_sign h).1
  exact propext (lN_eq (by omega) hc)
theorem cw_isSign {P : xP} {T : xT} {p c : Nat} {σ : xS} (C : CP P T σ p) (hc : c < 2 ^ 31) : dm_X10_isSign P (P.base + 1) (nI c) σ = some (.inl (bI (sp_is T c p)), σ) := by
  have ci := C.ci
  have tv := C.tv
  have kb := kind_b T p
  obtain ⟨wc, k, h1, h2, h3, h4, h5, h6, h7, h8, h9, h10⟩ := C.get
  unfold dm_X10_isSign dm_X10_isSign_p33 dm_X10_isSign_p32 dm_X10_isSign_p33
  by_cases e : lx_kind T p = 3
  · by_cases e2 : T.1 p = c
    · simp (disch := first | assumption | omega) [x_chk, x_some, x_bind, x_let, lit_nI, nI_add, nI_mul, nI_sub, nI_clamp, nI_eq, nI_ltI, nI_leI, nN_e, nI_nN, nN_nI, bI_0, bI_1, bI_n, bool_0, bool_1, in_T, lg_cmp0, ci_0, ci_1, ci_2, ci_3, ci_4, ci_5, ci_6, ci_7, ci_8, ci_9, ci_10, ci_11, ci_12, ci_13, ci_14, ci_15, ci_16, ci_17, ci_18, ci_19, ci_20, ci_21, ci_22, dlt_T, dlt_F, dle_T, dle_F, h2, h9, h10, e, val_c, e2, sp_is, bI_tt]
    · simp (disch := first | assumption | omega) [x_chk, x_some, x_bind, x_let, lit_nI, nI_add, nI_mul, nI_sub, nI_clamp, nI_eq, nI_ltI, nI_leI, nN_e, nI_nN, nN_nI, bI_0, bI_1, bI_n, bool_0, bool_1, in_T, lg_cmp0, ci_0, ci_1, ci_2, ci_3, ci_4, ci_5, ci_6, ci_7, ci_8, ci_9, ci_10, ci_11, ci_12, ci_13, ci_14, ci_15, ci_16, ci_17, ci_18, ci_19, ci_20, ci_21, ci_22, dlt_T, dlt_F, dle_T, dle_F, h2, h9, h10, e, val_c, e2, sp_is, bI_ff]
  · simp (disch := first | assumption | omega) [x_chk, x_some, x_bind, x_let, lit_nI, nI_add, nI_mul, nI_sub, nI_clamp, nI_eq, nI_ltI, nI_leI, nN_e, nI_nN, nN_nI, bI_0, bI_1, bI_n, bool_0, bool_1, in_T, lg_cmp0, ci_0, ci_1, ci_2, ci_3, ci_4, ci_5, ci_6, ci_7, ci_8, ci_9, ci_10, ci_11, ci_12, ci_13, ci_14, ci_15, ci_16, ci_17, ci_18, ci_19, ci_20, ci_21, ci_22, dlt_T, dlt_F, dle_T, dle_F, h2, h9, h10, e, sp_is, bI_ff]
theorem cw_skips {P : xP} {T : xT} {p c : Nat} {σ : xS} (C : CP P T σ p) (hc : c < 2 ^ 31) : dm_X10_skips P (P.base + 1) (nI c) σ = some (.inl (bI (sp_is T c p)), if sp_is T c p = true then cst P σ else σ) := by
  have ci := C.ci
  have tv := C.tv
  have kb := kind_b T p
  obtain ⟨wc, k, h1, h2, h3, h4, h5, h6, h7, h8, h9, h10⟩ := C.get
  unfold dm_X10_skips dm_X10_skips_p32 dm_X10_skips_p33 dm_X10_skips_p48
  by_cases e : lx_kind T p = 3
  · by_cases e2 : T.1 p = c
    · simp (disch := first | assumption | omega) [x_chk, x_some, x_bind, x_let, lit_nI, nI_add, nI_mul, nI_sub, nI_clamp, nI_eq, nI_ltI, nI_leI, nN_e, nI_nN, nN_nI, bI_0, bI_1, bI_n, bool_0, bool_1, in_T, lg_cmp0, ci_0, ci_1, ci_2, ci_3, ci_4, ci_5, ci_6, ci_7, ci_8, ci_9, ci_10, ci_11, ci_12, ci_13, ci_14, ci_15, ci_16, ci_17, ci_18, ci_19, ci_20, ci_21, ci_22, dlt_T, dlt_F, dle_T, dle_F, h2, h9, h10, e, val_c, e2, sp_is, bI_tt, cst]
    · simp (disch := first | assumption | omega) [x_chk, x_some, x_bind, x_let, lit_nI, nI_add, nI_mul, nI_sub, nI_clamp, nI_eq, nI_ltI, nI_leI, nN_e, nI_nN, nN_nI, bI_0, bI_1, bI_n, bool_0, bool_1, in_T, lg_cmp0, ci_0, ci_1, ci_2, ci_3, ci_4, ci_5, ci_6, ci_7, ci_8, ci_9, ci_10, ci_11, ci_12, ci_13, ci_14, ci_15, ci_16, ci_17, ci_18, ci_19, ci_20, ci_21, ci_22, dlt_T, dlt_F, dle_T, dle_F, h2, h9, h10, e, val_c, e2, sp_is, bI_ff]
  · simp (disch := first | assumption | omega) [x_chk, x_some, x_bind, x_let, lit_nI, nI_add, nI_mul, nI_sub, nI_clamp, nI_eq, nI_ltI, nI_leI, nN_e, nI_nN, nN_nI, bI_0, bI_1, bI_n, bool_0, bool_1, in_T, lg_cmp0, ci_0, ci_1, ci_2, ci_3, ci_4, ci_5, ci_6, ci_7, ci_8, ci_9, ci_10, ci_11, ci_12, ci_13, ci_14, ci_15, ci_16, ci_17, ci_18, ci_19, ci_20, ci_21, ci_22, dlt_T, dlt_F, dle_T, dle_F, h2, h9, h10, e, sp_is, bI_ff]
def ISE : String := "java/lang/IllegalStateException"
theorem cw_takeSign {P : xP} {T : xT} {p c : Nat} {σ : xS} (C : CP P T σ p) (hc : c < 2 ^ 31) (hR : Rm P σ 1) : dm_X10_takeSign P (P.base + 1) (nI c) σ = if sp_is T c p = true then some (.inl (), cst P σ) else some (.inr ISE, σ.skip 6) := by
  have ci := C.ci
  have tv := C.tv
  have kb := kind_b T p
  obtain ⟨r1, r2⟩ := hR
  obtain ⟨wc, k, h1, h2, h3, h4, h5, h6, h7, h8, h9, h10⟩ := C.get
  unfold dm_X10_takeSign dm_X10_takeSign_p28
  by_cases e : lx_kind T p = 3
  · by_cases e2 : T.1 p = c
    · simp (disch := first | assumption | omega) [x_chk, x_some, x_bind, x_let, lit_nI, nI_add, nI_mul, nI_sub, nI_clamp, nI_eq, nI_ltI, nI_leI, nN_e, nI_nN, nN_nI, bI_0, bI_1, bI_n, bool_0, bool_1, in_T, lg_cmp0, ci_0, ci_1, ci_2, ci_3, ci_4, ci_5, ci_6, ci_7, ci_8, ci_9, ci_10, ci_11, ci_12, ci_13, ci_14, ci_15, ci_16, ci_17, ci_18, ci_19, ci_20, ci_21, ci_22, dlt_T, dlt_F, dle_T, dle_F, h2, h9, h10, e, val_c, e2, sp_is, cst]
    · simp (disch := first | assumption | omega) [x_chk, x_some, x_bind, x_let, lit_nI, nI_add, nI_mul, nI_sub, nI_clamp, nI_eq, nI_ltI, nI_leI, nN_e, nI_nN, nN_nI, bI_0, bI_1, bI_n, bool_0, bool_1, in_T, lg_cmp0, ci_0, ci_1, ci_2, ci_3, ci_4, ci_5, ci_6, ci_7, ci_8, ci_9, ci_10, ci_11, ci_12, ci_13, ci_14, ci_15, ci_16, ci_17, ci_18, ci_19, ci_20, ci_21, ci_22, dlt_T, dlt_F, dle_T, dle_F, h2, h9, h10, e, val_c, e2, sp_is, ISE]
  · simp (disch := first | assumption | omega) [x_chk, x_some, x_bind, x_let, lit_nI, nI_add, nI_mul, nI_sub, nI_clamp, nI_eq, nI_ltI, nI_leI, nN_e, nI_nN, nN_nI, bI_0, bI_1, bI_n, bool_0, bool_1, in_T, lg_cmp0, ci_0, ci_1, ci_2, ci_3, ci_4, ci_5, ci_6, ci_7, ci_8, ci_9, ci_10, ci_11, ci_12, ci_13, ci_14, ci_15, ci_16, ci_17, ci_18, ci_19, ci_20, ci_21, ci_22, dlt_T, dlt_F, dle_T, dle_F, h2, h9, h10, e, sp_is, ISE]
theorem cw_name {P : xP} {T : xT} {p : Nat} {σ : xS} (C : CP P T σ p) (hR : Rm P σ 1) : dm_X10_name P (P.base + 1) σ = if lx_kind T p = 0 then some (.inl (pk (lx_nm T p)), σ) else some (.inr ISE, σ.skip 6) := by
  have ci := C.ci
  have kb := kind_b T p
  obtain ⟨r1, r2⟩ := hR
  obtain ⟨wc, k, h1, h2, h3, h4, h5, h6, h7, h8, h9, h10⟩ := C.get
  unfold dm_X10_name
  by_cases e : lx_kind T p = 0
  · have v := val_nm (Or.inl e)
    simp (disch := first | assumption | omega) [x_chk, x_some, x_bind, x_let, lit_nI, nI_add, nI_mul, nI_sub, nI_clamp, nI_eq, nI_ltI, nI_leI, nN_e, nI_nN, nN_nI, bI_0, bI_1, bI_n, bool_0, bool_1, in_T, lg_cmp0, ci_0, ci_1, ci_2, ci_3, ci_4, ci_5, ci_6, ci_7, ci_8, ci_9, ci_10, ci_11, ci_12, ci_13, ci_14, ci_15, ci_16, ci_17, ci_18, ci_19, ci_20, ci_21, ci_22, dlt_T, dlt_F, dle_T, dle_F, h2, h9, h10, e, v]
  · simp (disch := first | assumption | omega) [x_chk, x_some, x_bind, x_let, lit_nI, nI_add, nI_mul, nI_sub, nI_clamp, nI_eq, nI_ltI, nI_leI, nN_e, nI_nN, nN_nI, bI_0, bI_1, bI_n, bool_0, bool_1, in_T, lg_cmp0, ci_0, ci_1, ci_2, ci_3, ci_4, ci_5, ci_6, ci_7, ci_8, ci_9, ci_10, ci_11, ci_12, ci_13, ci_14, ci_15, ci_16, ci_17, ci_18, ci_19, ci_20, ci_21, ci_22, dlt_T, dlt_F, dle_T, dle_F, h2, h9, h10, e, ISE]
theorem lg_cmpL {a b : Nat} (ha : a < 2 ^ 31) (hb : b < 2 ^ 31) : (lg_cmp (lN a) (lN b) < nI 0) = (a < b) := by
  unfold lg_cmp
  by_cases h : b < a
  · rw [if_pos ((lN_lt hb ha).mpr h)]
    exact propext ⟨fun q => absurd q (by decide), fun q => by omega⟩
  · rw [if_neg (fun q => h ((lN_lt hb ha).mp q))]
    by_cases e : a = b
    · subst e; rw [if_pos rfl]
      exact propext ⟨fun q => absurd q (by decide), fun q => by omega⟩
    · rw [if_neg (fun q => e ((lN_eq ha hb).mp q))]
      exact propext ⟨fun q => by omega, fun _ => by decide⟩
theorem lg_cmpG {a b : Nat} (ha : a < 2 ^ 31) (hb : b < 2 ^ 31) : (lg_cmp (lN a) (lN b) ≤ nI 0) = (a ≤ b) := by
  unfold lg_cmp
  by_cases h : b < a
  · rw [if_pos ((lN_lt hb ha).mpr h)]
    exact propext ⟨fun q => absurd q (by decide), fun q => by omega⟩
  · rw [if_neg (fun q => h ((lN_lt hb ha).mp q))]
    by_cases e : a = b
    · subst e; rw [if_pos rfl]
      exact propext ⟨fun q => by omega, fun _ => by decide⟩
    · rw [if_neg (fun q => e ((lN_eq ha hb).mp q))]
      exact propext ⟨fun q => by omega, fun _ => by decide⟩
theorem cw_takeNumber {P : xP} {T : xT} {p lo hi : Nat} {σ : xS} (C : CP P T σ p) (hlo : lo < 2 ^ 31) (hhi : hi < 2 ^ 31) (hR : Rm P σ 1) : dm_X10_takeNumber P (P.base + 1) (nI lo) (nI hi) σ = if lx_kind T p = 2 ∧ lo ≤ lx_num T p ∧ lx_num T p ≤ hi then some (.inl (nI (lx_num T p)), cst P σ) else some (.inr ISE, σ.skip 6) := by
  have ci := C.ci
  have kb := kind_b T p
  obtain ⟨r1, r2⟩ := hR
  obtain ⟨wc, k, h1, h2, h3, h4, h5, h6, h7, h8, h9, h10⟩ := C.get
  unfold dm_X10_takeNumber dm_X10_takeNumber_p43
  by_cases e : lx_kind T p = 2
  · have v := val_num e
    have nl := num_le e
    by_cases e2 : lx_num T p < lo
    · have e3 : ¬ lo ≤ lx_num T p := by omega
      simp (disch := first | assumption | omega) [x_chk, x_some, x_bind, x_let, lit_nI, nI_add, nI_mul, nI_sub, nI_clamp, nI_eq, nI_ltI, nI_leI, nN_e, nI_nN, nN_nI, bI_0, bI_1, bI_n, bool_0, bool_1, in_T, lg_cmp0, ci_0, ci_1, ci_2, ci_3, ci_4, ci_5, ci_6, ci_7, ci_8, ci_9, ci_10, ci_11, ci_12, ci_13, ci_14, ci_15, ci_16, ci_17, ci_18, ci_19, ci_20, ci_21, ci_22, dlt_T, dlt_F, dle_T, dle_F, h2, h9, h10, e, v, nI_l, lg_cmpL, lg_cmpG, e2, e3, dle_T, ISE]
    · have e3 : lo ≤ lx_num T p := by omega
      by_cases e4 : lx_num T p ≤ hi
      · simp (disch := first | assumption | omega) [x_chk, x_some, x_bind, x_let, lit_nI, nI_add, nI_mul, nI_sub, nI_clamp, nI_eq, nI_ltI, nI_leI, nN_e, nI_nN, nN_nI, bI_0, bI_1, bI_n, bool_0, bool_1, in_T, lg_cmp0, ci_0, ci_1, ci_2, ci_3, ci_4, ci_5, ci_6, ci_7, ci_8, ci_9, ci_10, ci_11, ci_12, ci_13, ci_14, ci_15, ci_16, ci_17, ci_18, ci_19, ci_20, ci_21, ci_22, dlt_T, dlt_F, dle_T, dle_F, h2, h9, h10, e, v, nI_l, lg_cmpL, lg_cmpG, e2, e3, e4, lN_i, cst]
      · simp (disch := first | assumption | omega) [x_chk, x_some, x_bind, x_let, lit_nI, nI_add, nI_mul, nI_sub, nI_clamp, nI_eq, nI_ltI, nI_leI, nN_e, nI_nN, nN_nI, bI_0, bI_1, bI_n, bool_0, bool_1, in_T, lg_cmp0, ci_0, ci_1, ci_2, ci_3, ci_4, ci_5, ci_6, ci_7, ci_8, ci_9, ci_10, ci_11, ci_12, ci_13, ci_14, ci_15, ci_16, ci_17, ci_18, ci_19, ci_20, ci_21, ci_22, dlt_T, dlt_F, dle_T, dle_F, h2, h9, h10, e, v, nI_l, lg_cmpL, lg_cmpG, e2, e3, e4, dle_T, ISE]
  · simp (disch := first | assumption | omega) [x_chk, x_some, x_bind, x_let, lit_nI, nI_add, nI_mul, nI_sub, nI_clamp, nI_eq, nI_ltI, nI_leI, nN_e, nI_nN, nN_nI, bI_0, bI_1, bI_n, bool_0, bool_1, in_T, lg_cmp0, ci_0, ci_1, ci_2, ci_3, ci_4, ci_5, ci_6, ci_7, ci_8, ci_9, ci_10, ci_11, ci_12, ci_13, ci_14, ci_15, ci_16, ci_17, ci_18, ci_19, ci_20, ci_21, ci_22, dlt_T, dlt_F, dle_T, dle_F, h2, h9, h10, e, ISE]
theorem cw_step {P : xP} {T : xT} {p : Nat} {σ : xS} (C : CP P T σ p) (hp : p < T.2) : dm_X10_step P (P.base + 1) σ = some (.inl (), cst P σ) := by
  have ci := C.ci
  obtain ⟨wc, k, h1, h2, h3, h4, h5, h6, h7, h8, h9, h10⟩ := C.get
  have : k < wc := by omega
  unfold dm_X10_step dm_X10_step_p21
  simp (disch := first | assumption | omega) [x_chk, x_some, x_bind, x_let, lit_nI, nI_add, nI_mul, nI_sub, nI_clamp, nI_eq, nI_ltI, nI_leI, nN_e, nI_nN, nN_nI, bI_0, bI_1, bI_n, bool_0, bool_1, in_T, lg_cmp0, ci_0, ci_1, ci_2, ci_3, ci_4, ci_5, ci_6, ci_7, ci_8, ci_9, ci_10, ci_11, ci_12, ci_13, ci_14, ci_15, ci_16, ci_17, ci_18, ci_19, ci_20, ci_21, ci_22, dlt_T, dlt_F, dle_T, dle_F, h1, h2, cst]
theorem cw_refuseIf {P : xP} {a : Nat} {b : Bool} {σ : xS} (hR : Rm P σ 1) : dm_X10_refuseIf P a (bI b) σ = if b = true then some (.inr ISE, σ.skip 6) else some (.inl (), σ) := by
  obtain ⟨r1, r2⟩ := hR
  unfold dm_X10_refuseIf
  cases b
  · simp [bI_ff, lit_nI]
  · simp (disch := first | assumption | omega) [x_chk, x_some, x_bind, x_let, lit_nI, nI_add, nI_mul, nI_sub, nI_clamp, nI_eq, nI_ltI, nI_leI, nN_e, nI_nN, nN_nI, bI_0, bI_1, bI_n, bool_0, bool_1, in_T, lg_cmp0, bI_tt, dle_T, ISE]
