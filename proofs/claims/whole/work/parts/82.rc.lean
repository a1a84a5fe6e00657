/-! ===== the reference: what it asks of a word ===== -/
/-- a fault stands -/
def DE (P : xP) (σ : xS) (f : Nat) : Prop := RI P σ ∧ σ.I 1139 (P.base + 11) = nI f ∧ f ≤ 1000
theorem RC.at {P : xP} {T : xT} {hv : Nat} {σ : xS} {p : Nat} (h : TX P T hv σ) (c : RC P T σ p) (hk : lx_kind T p = 4) : DE P σ p := by
  obtain ⟨c1, c2, c3, c4, c5, c6, c7, c8⟩ := c
  rw [if_pos hk] at c6
  have := h.2.1.1
  exact ⟨h.1, c6, by omega⟩
theorem RC.ok {P : xP} {T : xT} {σ : xS} {p : Nat} (c : RC P T σ p) (hk : lx_kind T p ≠ 4) : σ.I 1139 (P.base + 11) = nN := by
  obtain ⟨c1, c2, c3, c4, c5, c6, c7, c8⟩ := c
  rw [if_neg hk] at c6
  exact c6
theorem rEnd_le {T : xT} {p : Nat} (hp : p ≤ T.2) : p ≤ rEnd T p ∧ rEnd T p ≤ T.2 := by
  unfold rEnd
  split
  · rename_i q; have := end_le q; omega
  · omega
theorem rw_next {P : xP} {T : xT} {hv : Nat} {σ : xS} {p : Nat} (h : TX P T hv σ) (c : RC P T σ p) (hk : lx_kind T p ≠ 4) : ∃ σ', dm_X12_next P (P.base + 11) σ = some (.inl (), σ') ∧ FL P σ σ' ∧ RC P T σ' (lx_nx T p) := by
  have re := rEnd_le c.1
  obtain ⟨σ', u1, u2, u3⟩ := rw_nextAt (r := T.2 - rEnd T p) h (by omega) (by rw [c.2.2.1]; congr 1; omega) (c.ok hk)
  refine ⟨σ', u1, u2, ?_⟩
  have e : lx_skip T (T.2 - rEnd T p) false = lx_nx T p := by
    unfold lx_nx rEnd
    split
    · rfl
    · rw [Nat.sub_self]; rfl
  rw [← e]
  exact u3
theorem rd_next {P : xP} {σ : xS} {f : Nat} (h : DE P σ f) : dm_X12_next P (P.base + 11) σ = some (.inl (), σ) := by
  have ok := rd_ok h.1 (by have := h.2.2; omega) h.2.1
  have a0 := ri_0 h.1
  unfold dm_X12_next
  simp (disch := first | assumption | omega) [ck_T, sm_s, bd_l, bd_r, lt_e, eq_self, and_self, if_true, true_and, and_true, lit_nI, nI_add, nI_mul, nI_sub, nI_clamp, nI_eq, nI_ltI, nI_leI, nN_e, nI_nN, nN_nI, bI_0, bI_1, bI_n, bool_0, bool_1, in_T, lg_cmp0, ofN_nI, a0, ok]
theorem rd_fail {P : xP} {σ : xS} {f : Nat} (h : DE P σ f) (v : Int32) : dm_X12_fail P (P.base + 11) v σ = some (.inl (), σ) := by
  have a0 := ri_0 h.1
  have e : σ.setI 1139 (P.base + 11) (σ.I 1139 (P.base + 11)) = σ := setI_id σ _ _
  have hf := h.2.2
  have h2 := h.2.1
  unfold dm_X12_fail dm_X12_fail_p17
  rw [h2] at e
  simp (disch := first | assumption | omega) [ck_T, sm_s, bd_l, bd_r, lt_e, eq_self, and_self, if_true, true_and, and_true, lit_nI, nI_add, nI_mul, nI_sub, nI_clamp, nI_eq, nI_ltI, nI_leI, nN_e, nI_nN, nN_nI, bI_0, bI_1, bI_n, bool_0, bool_1, in_T, lg_cmp0, ofN_nI, a0, h2, dle_T, e]
theorem rKd_3 {T : xT} {p : Nat} : rKd T p = 3 ↔ lx_kind T p = 3 := by
  unfold rKd lx_kind
  by_cases e0 : T.2 ≤ p
  · simp [e0]
  · simp only [e0, if_false]
    cases eL : lx_L (T.1 p) with
    | true =>
      have nd := LD_not eL
      simp only [nd, Bool.false_eq_true, if_false, if_true]
      constructor
      · intro z; omega
      · intro z; split at z <;> (try split at z) <;> omega
    | false =>
      cases eD : lx_D (T.1 p) with
      | true =>
        simp only [Bool.false_eq_true, if_false, if_true]
        constructor
        · intro z; omega
        · intro z; split at z <;> omega
      | false => simp
theorem rKd_2 {T : xT} {p : Nat} (h4 : lx_kind T p ≠ 4) : rKd T p = 2 ↔ lx_kind T p = 2 := by
  unfold rKd lx_kind at *
  by_cases e0 : T.2 ≤ p
  · simp [e0]
  · simp only [e0, if_false] at h4 ⊢
    cases eL : lx_L (T.1 p) with
    | true =>
      have nd := LD_not eL
      simp only [nd, Bool.false_eq_true, if_false, if_true]
      constructor
      · intro z; omega
      · intro z; split at z <;> (try split at z) <;> omega
    | false =>
      cases eD : lx_D (T.1 p) with
      | true =>
        simp only [eL, eD, Bool.false_eq_true, if_false, if_true] at h4 ⊢
        constructor
        · intro z
          split
          · rename_i q; rw [if_pos q] at h4; exact absurd rfl h4
          · rfl
        · intro _; trivial
      | false => simp
theorem rKd_1 {T : xT} {p : Nat} (h4 : lx_kind T p ≠ 4) : rKd T p = 1 ↔ (lx_kind T p = 0 ∨ lx_kind T p = 1) := by
  unfold rKd lx_kind at *
  by_cases e0 : T.2 ≤ p
  · simp [e0]
  · simp only [e0, if_false] at h4 ⊢
    cases eL : lx_L (T.1 p) with
    | true =>
      have nd := LD_not eL
      simp only [nd, eL, Bool.false_eq_true, if_false, if_true] at h4 ⊢
      constructor
      · intro _
        split
        · rename_i q; rw [if_pos q] at h4; exact absurd rfl h4
        · split
          · exact Or.inr rfl
          · exact Or.inl rfl
      · intro _; trivial
    | false =>
      cases eD : lx_D (T.1 p) with
      | true =>
        simp only [Bool.false_eq_true, if_false, if_true]
        constructor
        · intro z; omega
        · intro z; split at z <;> omega
      | false => simp
theorem rw_isSign {P : xP} {T : xT} {hv : Nat} {σ : xS} {p : Nat} (h : TX P T hv σ) (c : RC P T σ p) (hk : lx_kind T p ≠ 4) {s : Nat} (hs : s < 2 ^ 31) : dm_X12_isSign P (P.base + 11) (nI s) σ = some (.inl (bI (sp_is T s p)), σ) := by
  have ok := rw_ok h.1 (c.ok hk)
  have a0 := ri_0 h.1
  obtain ⟨c1, c2, c3, c4, c5, c6, c7, c8⟩ := c
  have rb : rKd T p < 10 := by unfold rKd; split <;> (try split) <;> (try split) <;> omega
  unfold dm_X12_isSign dm_X12_isSign_p27 dm_X12_isSign_p28 sp_is
  by_cases e : lx_kind T p = 3
  · have e3 := rKd_3.mpr e
    rw [e3] at c5
    have v := c8 e
    have tc := (h.2.1.c (kind_sign e).1).2
    by_cases e2 : T.1 p = s
    · simp (disch := first | assumption | omega) [ck_T, sm_s, bd_l, bd_r, lt_e, eq_self, and_self, if_true, true_and, and_true, lit_nI, nI_add, nI_mul, nI_sub, nI_clamp, nI_eq, nI_ltI, nI_leI, nN_e, nI_nN, nN_nI, bI_0, bI_1, bI_n, bool_0, bool_1, in_T, lg_cmp0, ofN_nI, a0, ok, c5, v, e2, e, bI_tt]
    · simp (disch := first | assumption | omega) [ck_T, sm_s, bd_l, bd_r, lt_e, eq_self, and_self, if_true, true_and, and_true, lit_nI, nI_add, nI_mul, nI_sub, nI_clamp, nI_eq, nI_ltI, nI_leI, nN_e, nI_nN, nN_nI, bI_0, bI_1, bI_n, bool_0, bool_1, in_T, lg_cmp0, ofN_nI, a0, ok, c5, v, e2, e, bI_ff]
  · have e3 : ¬ rKd T p = 3 := fun z => e (rKd_3.mp z)
    simp (disch := first | assumption | omega) [ck_T, sm_s, bd_l, bd_r, lt_e, eq_self, and_self, if_true, true_and, and_true, lit_nI, nI_add, nI_mul, nI_sub, nI_clamp, nI_eq, nI_ltI, nI_leI, nN_e, nI_nN, nN_nI, bI_0, bI_1, bI_n, bool_0, bool_1, in_T, lg_cmp0, ofN_nI, a0, ok, c5, e3, e, bI_ff]
theorem rd_isSign {P : xP} {σ : xS} {f : Nat} (h : DE P σ f) (v : Int32) : dm_X12_isSign P (P.base + 11) v σ = some (.inl (nI 0), σ) := by
  have ok := rd_ok h.1 (by have := h.2.2; omega) h.2.1
  have a0 := ri_0 h.1
  unfold dm_X12_isSign dm_X12_isSign_p27 dm_X12_isSign_p28
  simp (disch := first | assumption | omega) [ck_T, sm_s, bd_l, bd_r, lt_e, eq_self, and_self, if_true, true_and, and_true, lit_nI, nI_add, nI_mul, nI_sub, nI_clamp, nI_eq, nI_ltI, nI_leI, nN_e, nI_nN, nN_nI, bI_0, bI_1, bI_n, bool_0, bool_1, in_T, lg_cmp0, ofN_nI, a0, ok]
/-- what a step of the reference does: it never throws -/
def Rr {α β : Type} (o : xO α) (e : Except Nat β) (Q : α → xS → β → Prop) (QE : Nat → xS → Prop) : Prop := ∃ v σ', o = some (.inl v, σ') ∧ match e with
  | .ok b => Q v σ' b
  | .error f => QE f σ'
theorem Rr.bind {α β γ δ : Type} {o : xO α} {e : Except Nat β} {Q : α → xS → β → Prop} {QE QE' : Nat → xS → Prop} {k : α → xS → xO γ} {kx : String → xS → xO γ} {F : β → Except Nat δ} {Q' : γ → xS → δ → Prop} (T : xT) (pos : β → Nat)
    (h : Rr o e Q QE) (h1 : ∀ v s b, e = .ok b → Q v s b → lx_kind T (pos b) ≠ 4 → Rr (k v s) (F b) Q' QE') (h2 : ∀ v f s, QE f s → ∃ w, k v s = some (.inl w, s) ∧ QE' f s) (h3 : ∀ v s b, Q v s b → lx_kind T (pos b) = 4 → QE (pos b) s) (h4 : ∀ b, lx_kind T (pos b) = 4 → F b = .error (pos b)) : Rr (x_bind o k kx) (eb e F) Q' QE' := by
  obtain ⟨v, s, q1, q2⟩ := h
  rw [q1, bd_l]
  cases e with
  | ok b =>
    have q2 : Q v s b := q2
    rw [eb_ok]
    by_cases e4 : lx_kind T (pos b) = 4
    · obtain ⟨w, w1, w2⟩ := h2 v _ s (h3 v s b q2 e4)
      rw [h4 b e4]
      exact ⟨w, s, w1, w2⟩
    · exact h1 v s b rfl q2 e4
  | error f =>
    have q2 : QE f s := q2
    obtain ⟨w, w1, w2⟩ := h2 v f s q2
    exact ⟨w, s, w1, w2⟩
theorem Rr.mono {α β : Type} {o : xO α} {e : Except Nat β} {Q Q' : α → xS → β → Prop} {QE QE' : Nat → xS → Prop} (h : Rr o e Q QE) (h1 : ∀ v s b, e = .ok b → Q v s b → Q' v s b) (h2 : ∀ f s, QE f s → QE' f s) : Rr o e Q' QE' := by
  obtain ⟨v, s, q1, q2⟩ := h
  refine ⟨v, s, q1, ?_⟩
  cases e with
  | ok b => exact h1 v s b rfl q2
  | error f => exact h2 f s q2
theorem Rr.ok {α β : Type} {o : xO α} {b : β} {Q : α → xS → β → Prop} {QE : Nat → xS → Prop} {v : α} {σ' : xS} (h : o = some (.inl v, σ')) (q : Q v σ' b) : Rr o (.ok b) Q QE := ⟨v, σ', h, q⟩
theorem Rr.er {α β : Type} {o : xO α} {f : Nat} {Q : α → xS → β → Prop} {QE : Nat → xS → Prop} {v : α} {σ' : xS} (h : o = some (.inl v, σ')) (q : QE f σ') : Rr o (.error f : Except Nat β) Q QE := ⟨v, σ', h, q⟩
/-- the fault p was told -/
def fl (P : xP) (σ : xS) (p : Nat) : xS := σ.setI 1139 (P.base + 11) (nI p)
theorem fl_DE {P : xP} {σ : xS} {p : Nat} (h : RI P σ) (hp : p ≤ 1000) : DE P (fl P σ p) p := ⟨h, by unfold fl; simp [q_K_setI, q_I_setI, q_J_setI, q_R_setI, q_L_setI, q_AI_setI, q_AJ_setI, q_AR_setI, q_sz_setI, q_su_setI, q_K_setJ, q_I_setJ, q_J_setJ, q_R_setJ, q_L_setJ, q_AI_setJ, q_AJ_setJ, q_AR_setJ, q_sz_setJ, q_su_setJ, q_K_setR, q_I_setR, q_J_setR, q_R_setR, q_L_setR, q_AI_setR, q_AJ_setR, q_AR_setR, q_sz_setR, q_su_setR, q_K_setAI, q_I_setAI, q_J_setAI, q_R_setAI, q_L_setAI, q_AI_setAI, q_AJ_setAI, q_AR_setAI, q_sz_setAI, q_su_setAI, q_K_setAJ, q_I_setAJ, q_J_setAJ, q_R_setAJ, q_L_setAJ, q_AI_setAJ, q_AJ_setAJ, q_AR_setAJ, q_sz_setAJ, q_su_setAJ, q_K_setAR, q_I_setAR, q_J_setAR, q_R_setAR, q_L_setAR, q_AI_setAR, q_AJ_setAR, q_AR_setAR, q_sz_setAR, q_su_setAR, q_K_newO, q_I_newO, q_J_newO, q_R_newO, q_L_newO, q_AI_newO, q_AJ_newO, q_AR_newO, q_sz_newO, q_su_newO, q_K_newA, q_I_newA, q_J_newA, q_R_newA, q_L_newA, q_AI_newA, q_AJ_newA, q_AR_newA, q_sz_newA, q_su_newA, q_K_skip, q_I_skip, q_J_skip, q_R_skip, q_L_skip, q_AI_skip, q_AJ_skip, q_AR_skip, q_sz_skip, q_su_skip, q_up2, q_up], hp⟩
theorem fl_FL {P : xP} {σ : xS} {p : Nat} : FL P σ (fl P σ p) := FL.set (by omega) (by omega)
/-- a sign is taken -/
theorem rw_needSign {P : xP} {T : xT} {hv : Nat} {σ : xS} {p : Nat} (h : TX P T hv σ) (c : RC P T σ p) (hk : lx_kind T p ≠ 4) {s : Nat} (hs : s < 2 ^ 31) : Rr (dm_X12_needSign P (P.base + 11) (nI s) σ) (sp_sign T s p) (fun _ σ' p' => FL P σ σ' ∧ RC P T σ' p') (fun f σ' => FL P σ σ' ∧ DE P σ' f) := by
  have ok := rw_ok h.1 (c.ok hk)
  have a0 := ri_0 h.1
  have is := rw_isSign h c hk hs
  have fr := c.2.1
  have t1 := h.2.1.1
  have hp := c.1
  unfold dm_X12_needSign dm_X12_needSign_p23 sp_sign
  by_cases e : sp_is T s p = true
  · rw [if_pos e]
    rw [e] at is
    obtain ⟨σ', u1, u2, u3⟩ := rw_next h c hk
    refine Rr.ok (v := ()) (σ' := σ') ?_ ⟨u2, u3⟩
    simp (disch := first | assumption | omega) [ck_T, sm_s, bd_l, bd_r, lt_e, eq_self, and_self, if_true, true_and, and_true, lit_nI, nI_add, nI_mul, nI_sub, nI_clamp, nI_eq, nI_ltI, nI_leI, nN_e, nI_nN, nN_nI, bI_0, bI_1, bI_n, bool_0, bool_1, in_T, lg_cmp0, ofN_nI, a0, ok, is, bI_tt, u1]
  · rw [if_neg e]
    have e' : sp_is T s p = false := by simpa using e
    rw [e'] at is
    have ff := rw_fail h.1 (c.ok hk) (nI p)
    have de := fl_DE (P := P) (σ := σ) (p := p) h.1 (by omega)
    have nx := rd_next de
    have ff' : dm_X12_fail P (P.base + 11) (nI p) σ = some (.inl (), fl P σ p) := ff
    have a1 := ri_0 de.1
    refine Rr.er (v := ()) (σ' := fl P σ p) ?_ ⟨fl_FL, de⟩
    simp (disch := first | assumption | omega) [ck_T, sm_s, bd_l, bd_r, lt_e, eq_self, and_self, if_true, true_and, and_true, lit_nI, nI_add, nI_mul, nI_sub, nI_clamp, nI_eq, nI_ltI, nI_leI, nN_e, nI_nN, nN_nI, bI_0, bI_1, bI_n, bool_0, bool_1, in_T, lg_cmp0, ofN_nI, a0, ok, is, bI_ff, fr, ff', a1, nx]
theorem rd_needSign {P : xP} {σ : xS} {f : Nat} (h : DE P σ f) (v : Int32) : dm_X12_needSign P (P.base + 11) v σ = some (.inl (), σ) := by
  have ok := rd_ok h.1 (by have := h.2.2; omega) h.2.1
  have a0 := ri_0 h.1
  have nx := rd_next h
  unfold dm_X12_needSign dm_X12_needSign_p23
  simp (disch := first | assumption | omega) [ck_T, sm_s, bd_l, bd_r, lt_e, eq_self, and_self, if_true, true_and, and_true, lit_nI, nI_add, nI_mul, nI_sub, nI_clamp, nI_eq, nI_ltI, nI_leI, nN_e, nI_nN, nN_nI, bI_0, bI_1, bI_n, bool_0, bool_1, in_T, lg_cmp0, ofN_nI, a0, ok, nx]
/-- a number must stand here -/
theorem rw_needNumber {P : xP} {T : xT} {hv : Nat} {σ : xS} {p : Nat} (h : TX P T hv σ) (c : RC P T σ p) (hk : lx_kind T p ≠ 4) {lo hi : Nat} (hlo : lo < 2 ^ 31) (hhi : hi < 2 ^ 31) : dm_X12_needNumber P (P.base + 11) (nI lo) (nI hi) σ = some (.inl (), if lx_kind T p = 2 ∧ lo ≤ lx_num T p ∧ lx_num T p ≤ hi then σ else fl P σ p) := by
  have ok := rw_ok h.1 (c.ok hk)
  have a0 := ri_0 h.1
  have fr := c.2.1
  have ff : dm_X12_fail P (P.base + 11) (nI p) σ = some (.inl (), fl P σ p) := rw_fail h.1 (c.ok hk) (nI p)
  obtain ⟨c1, c2, c3, c4, c5, c6, c7, c8⟩ := c
  have rb : rKd T p < 10 := by unfold rKd; split <;> (try split) <;> (try split) <;> omega
  unfold dm_X12_needNumber dm_X12_needNumber_p31 dm_X12_needNumber_p39
  by_cases e : lx_kind T p = 2
  · have e2 := (rKd_2 hk).mpr e
    rw [e2] at c5
    have v := c7 e
    have nl := num_le e
    by_cases z1 : lx_num T p < lo
    · have z2 : ¬ lo ≤ lx_num T p := by omega
      simp (disch := first | assumption | omega) [ck_T, sm_s, bd_l, bd_r, lt_e, eq_self, and_self, if_true, true_and, and_true, lit_nI, nI_add, nI_mul, nI_sub, nI_clamp, nI_eq, nI_ltI, nI_leI, nN_e, nI_nN, nN_nI, bI_0, bI_1, bI_n, bool_0, bool_1, in_T, lg_cmp0, ofN_nI, a0, ok, c5, v, fr, ff, z1, z2]
    · have z2 : lo ≤ lx_num T p := by omega
      by_cases z3 : lx_num T p ≤ hi
      · simp (disch := first | assumption | omega) [ck_T, sm_s, bd_l, bd_r, lt_e, eq_self, and_self, if_true, true_and, and_true, lit_nI, nI_add, nI_mul, nI_sub, nI_clamp, nI_eq, nI_ltI, nI_leI, nN_e, nI_nN, nN_nI, bI_0, bI_1, bI_n, bool_0, bool_1, in_T, lg_cmp0, ofN_nI, a0, ok, c5, v, fr, ff, z1, z2, z3, e]
      · simp (disch := first | assumption | omega) [ck_T, sm_s, bd_l, bd_r, lt_e, eq_self, and_self, if_true, true_and, and_true, lit_nI, nI_add, nI_mul, nI_sub, nI_clamp, nI_eq, nI_ltI, nI_leI, nN_e, nI_nN, nN_nI, bI_0, bI_1, bI_n, bool_0, bool_1, in_T, lg_cmp0, ofN_nI, a0, ok, c5, v, fr, ff, z1, z2, z3]
  · have e2 : ¬ rKd T p = 2 := fun z => e ((rKd_2 hk).mp z)
    simp (disch := first | assumption | omega) [ck_T, sm_s, bd_l, bd_r, lt_e, eq_self, and_self, if_true, true_and, and_true, lit_nI, nI_add, nI_mul, nI_sub, nI_clamp, nI_eq, nI_ltI, nI_leI, nN_e, nI_nN, nN_nI, bI_0, bI_1, bI_n, bool_0, bool_1, in_T, lg_cmp0, ofN_nI, a0, ok, c5, fr, ff, e, e2]
theorem rd_needNumber {P : xP} {σ : xS} {f : Nat} (h : DE P σ f) (v w : Int32) : dm_X12_needNumber P (P.base + 11) v w σ = some (.inl (), σ) := by
  have ok := rd_ok h.1 (by have := h.2.2; omega) h.2.1
  have a0 := ri_0 h.1
  unfold dm_X12_needNumber dm_X12_needNumber_p31 dm_X12_needNumber_p39
  simp (disch := first | assumption | omega) [ck_T, sm_s, bd_l, bd_r, lt_e, eq_self, and_self, if_true, true_and, and_true, lit_nI, nI_add, nI_mul, nI_sub, nI_clamp, nI_eq, nI_ltI, nI_leI, nN_e, nI_nN, nN_nI, bI_0, bI_1, bI_n, bool_0, bool_1, in_T, lg_cmp0, ofN_nI, a0, ok]
