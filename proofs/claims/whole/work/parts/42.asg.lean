/-! ===== the class: readPart, readAssign ===== -/
theorem sm_s {α : Type} (a : Nat) (k : Nat → xO α) : x_some (some a) k = k a := rfl
theorem bd_l {α β : Type} (v : α) (σ : xS) (k : α → xS → xO β) (kx : String → xS → xO β) : x_bind (some (.inl v, σ)) k kx = k v σ := rfl
theorem bd_r {α β : Type} (E : String) (σ : xS) (k : α → xS → xO β) (kx : String → xS → xO β) : x_bind (some (.inr E, σ)) k kx = kx E σ := rfl
theorem ck_T {α : Type} {i : Decidable True} (k : xO α) : @x_chk α True i k = k := if_pos trivial
theorem lt_e {α β : Type} (a : α) (k : α → β) : x_let a k = k a := rfl
theorem eb_id {α : Type} (e : Except Nat α) : eb e Except.ok = e := by cases e <;> rfl
theorem PE.mono {P : xP} {T : xT} {h h' c c' f : Nat} {σ σ' : xS} (q : PE P T h σ c f σ') (hh : h' ≤ h := by omega) (hc : c ≤ c' := by omega) : PE P T h' σ c' f σ' := ⟨q.1.mono hh hc, q.2⟩
theorem PE.aft {P : xP} {T : xT} {h h' c d e f : Nat} {σ σ1 σ' : xS} (g : Fr P h d σ σ1) (q : PE P T h' σ1 c f σ') (hh : h ≤ h' := by omega) (hc : d + c ≤ e := by omega) : PE P T h σ e f σ' := ⟨g.trans q.1 hh hc, q.2⟩
theorem PartR.lo {σ : xS} {g : List Nat → Nat} {lo lo' hi hi' a : Nat} {x : xPart} (h : PartR σ g lo hi a x) (hl : lo' ≤ lo := by omega) (hh : hi ≤ hi' := by omega) : PartR σ g lo' hi' a x := ⟨by have := h.1; omega, by have := h.2.1; omega, h.2.2⟩
theorem PQ.aft {P : xP} {T : xT} {g : List Nat → Nat} {c d e : Nat} {σ σ1 σ' : xS} {v : Option Nat} {q : xPart × Nat} (f : Fr P σ.sz d σ σ1) (h : PQ P T g σ1 c v σ' q) (he : d + c ≤ e := by omega) : PQ P T g σ e v σ' q := by
  obtain ⟨a, h1, h2, h3, h4⟩ := h
  have := f.2.2.1
  exact ⟨a, h1, f.trans h2 (by omega) he, h3, h4.lo⟩
theorem Rf.res {α β : Type} {o : xO α} {e : Except Nat β} {Q : α → xS → β → Prop} {QE : Nat → xS → Prop} (h : Rf o e Q QE) : Rf o e (fun v s b => Q v s b ∧ e = .ok b) QE := by
  cases e with
  | ok b => obtain ⟨v, s, q1, q2⟩ := h; exact ⟨v, s, q1, q2, rfl⟩
  | error f => exact h
theorem eb_eq {α β : Type} {e : Except Nat α} {f : α → Except Nat β} {b : β} (h : eb e f = .ok b) : ∃ a, e = .ok a ∧ f a = .ok b := by
  cases e with
  | ok a => exact ⟨a, rfl, h⟩
  | error x => cases h
theorem sp_name_ok {T : xT} {p : Nat} {l : List Nat} (h : sp_name T p = .ok l) : lx_kind T p = 0 ∧ l = lx_nm T p := by
  unfold sp_name at h
  split at h
  · rename_i q; cases h; exact ⟨q, rfl⟩
  · cases h
theorem sp_num_ok {T : xT} {lo hi p : Nat} {q : Nat × Nat} (h : sp_num T lo hi p = .ok q) : lx_kind T p = 2 ∧ q.1 = lx_num T p ∧ lo ≤ q.1 ∧ q.1 ≤ hi ∧ q.2 = lx_nx T p := by
  unfold sp_num at h
  split at h
  · rename_i z; cases h; exact ⟨z.1, rfl, z.2.1, z.2.2, rfl⟩
  · cases h
theorem sp_sign_ok {T : xT} {c p q : Nat} (h : sp_sign T c p = .ok q) : sp_is T c p = true ∧ q = lx_nx T p := by
  unfold sp_sign at h
  split at h
  · rename_i z; cases h; exact ⟨z, rfl⟩
  · cases h
/-- a part that may stand -/
def PW (ns : List xNet) (x : xPart) : Prop := (x.1 = 3 ∧ x.2.2.1 = [] ∧ 1 ≤ x.2.2.2.2.2.length ∧ x.2.2.2.2.2.length ≤ 7 ∧ (∀ c ∈ x.2.2.2.2.2, c = 48 ∨ c = 49) ∧ x.2.2.2.1 + 1 = x.2.2.2.2.2.length ∧ x.2.2.2.2.1 = 0) ∨
  (x.1 ≤ 2 ∧ x.2.2.2.2.2 = [] ∧ ∃ y, sp_find ns x.2.2.1 = some y ∧ y.2.1 ≠ 3 ∧ x.2.2.2.1 ≤ y.2.2 - 1 ∧ x.2.2.2.2.1 ≤ x.2.2.2.1 ∧ (x.1 = 0 → x.2.2.2.1 = y.2.2 - 1 ∧ x.2.2.2.2.1 = 0) ∧ (x.1 = 1 → x.2.2.2.2.1 = x.2.2.2.1))
theorem sp_netPart_ok {T : xT} {c1 c2 p : Nat} {ns : List xNet} {q : xPart × Nat} (h : sp_netPart T c1 c2 ns p = .ok q) : PW ns q.1 ∧ q.1.1 ≤ 2 ∧ q.1.2.1 = p ∧ p < T.2 := by
  unfold sp_netPart at h
  obtain ⟨l, h1, h2⟩ := eb_eq h
  have hn := sp_name_ok h1
  have hp := (kind_nm (Or.inl hn.1)).1
  split at h2
  · cases h2
  · rename_i x hx
    split at h2
    · cases h2
    · rename_i hs
      split at h2
      · obtain ⟨a, h3, h4⟩ := eb_eq h2
        have hn2 := sp_num_ok h3
        split at h4
        · obtain ⟨b, h5, h6⟩ := eb_eq h4
          have hn3 := sp_num_ok h5
          cases h6
          exact ⟨Or.inr ⟨by simp, rfl, x, hx, hs, hn2.2.2.2.1, hn3.2.2.2.1, by simp, by simp⟩, by simp, rfl, hp⟩
        · cases h4
          exact ⟨Or.inr ⟨by simp, rfl, x, hx, hs, hn2.2.2.2.1, Nat.le_refl _, by simp, by simp⟩, by simp, rfl, hp⟩
      · cases h2
        exact ⟨Or.inr ⟨by simp, rfl, x, hx, hs, Nat.le_refl _, Nat.zero_le _, by simp, by simp⟩, by simp, rfl, hp⟩
theorem sp_digits_ok {T : xT} {pl lo hi p : Nat} (hT : TV T) (hlo : 1 ≤ lo) {ns : List xNet} {q : xPart × Nat} (h : sp_digits T pl lo hi p = .ok q) : PW ns q.1 ∧ q.1.1 = 3 ∧ q.1.2.1 = pl ∧ p < T.2 ∧ lx_nm T p = 98 :: q.1.2.2.2.2.2 ∧ q.2 = lx_nx T p := by
  unfold sp_digits at h
  obtain ⟨l, h1, h2⟩ := eb_eq h
  have hn := sp_name_ok h1
  have hl := kind_nm_ok hT (Or.inl hn.1)
  have hp := (kind_nm (Or.inl hn.1)).1
  rw [← hn.2] at hl
  split at h2
  · rename_i z
    cases h2
    have h8 := hl.1
    have ht : l.tail.length = l.length - 1 := List.length_tail
    refine ⟨Or.inl ⟨rfl, rfl, ?_, ?_, z.2.1, ?_, rfl⟩, rfl, rfl, hp, ?_, rfl⟩
    · show 1 ≤ l.tail.length
      omega
    · show l.tail.length ≤ 7
      omega
    · show l.tail.length - 1 + 1 = l.tail.length
      omega
    · rw [← hn.2]
      cases l with
      | nil => simp at z
      | cons c l => simp at z; simp [z.1]
  · cases h2
/-- words: as steps -/
theorem rf_sign {P : xP} {T : xT} {p c : Nat} {σ : xS} (C : CP P T σ p) (hc : c < 2 ^ 31) (hR : Rm P σ 1) : Rf (dm_X10_takeSign P (P.base + 1) (nI c) σ) (sp_sign T c p) (fun _ s p' => s = cst P σ ∧ CP P T s p') (PE P T σ.sz σ 1) := by
  have q := cw_takeSign C hc hR
  unfold sp_sign
  by_cases e : sp_is T c p = true
  · rw [if_pos e] at q ⊢
    exact Rf.ok q ⟨rfl, C.step (is_lt e)⟩
  · rw [if_neg e] at q ⊢
    exact Rf.er q (PE.skip C)
theorem rf_num {P : xP} {T : xT} {p lo hi : Nat} {σ : xS} (C : CP P T σ p) (hlo : lo < 2 ^ 31) (hhi : hi < 2 ^ 31) (hR : Rm P σ 1) : Rf (dm_X10_takeNumber P (P.base + 1) (nI lo) (nI hi) σ) (sp_num T lo hi p) (fun v s q => v = nI q.1 ∧ s = cst P σ ∧ CP P T s q.2 ∧ lo ≤ q.1 ∧ q.1 ≤ hi) (PE P T σ.sz σ 1) := by
  have q := cw_takeNumber C hlo hhi hR
  unfold sp_num
  by_cases e : lx_kind T p = 2 ∧ lo ≤ lx_num T p ∧ lx_num T p ≤ hi
  · rw [if_pos e] at q ⊢
    exact Rf.ok q ⟨rfl, rfl, C.step (kind_num e.1).1, e.2.1, e.2.2⟩
  · rw [if_neg e] at q ⊢
    exact Rf.er q (PE.skip C)
theorem rf_name {P : xP} {T : xT} {p : Nat} {σ : xS} (C : CP P T σ p) (hR : Rm P σ 1) : Rf (dm_X10_name P (P.base + 1) σ) (sp_name T p) (fun v s l => v = pk l ∧ s = σ ∧ nm_ok l ∧ p < T.2) (PE P T σ.sz σ 1) := by
  have q := cw_name C hR
  unfold sp_name
  by_cases e : lx_kind T p = 0
  · rw [if_pos e] at q ⊢
    exact Rf.ok q ⟨rfl, rfl, kind_nm_ok C.tv (Or.inl e), (kind_nm (Or.inl e)).1⟩
  · rw [if_neg e] at q ⊢
    exact Rf.er q (PE.skip C)
theorem cw_longPart {P : xP} {T : xT} {g : List Nat → Nat} {ix M : Nat} {m : xMod} {σ : xS} {p : Nat} (h : PX P T true g ix M m σ p) (hR : Rm P σ 3) : Rf (dm_X3_readPart P (P.base + 6) σ) (sp_longPart T m.nets p) (PQ P T g σ 1) (PE P T σ.sz σ 2) := by
  have C := h.1
  have ci := C.ci
  have sz := C.sz
  have qi := cw_isNumber C
  have qp := cw_place C
  unfold dm_X3_readPart sp_longPart
  by_cases e : lx_kind T p = 2
  · rw [if_pos e]
    simp (disch := first | assumption | omega) [ck_T, sm_s, bd_l, bd_r, lt_e, eq_self, and_self, if_true, true_and, and_true, lit_nI, nI_add, nI_mul, nI_sub, nI_clamp, nI_eq, nI_ltI, nI_leI, nN_e, nI_nN, nN_nI, bI_0, bI_1, bI_n, bool_0, bool_1, in_T, lg_cmp0, ofN_nI, ci_0 ci, ci_1 ci, ci_2 ci, ci_3 ci, ci_4 ci, ci_5 ci, ci_6 ci, ci_7 ci, ci_8 ci, ci_9 ci, ci_10 ci, ci_11 ci, ci_12 ci, ci_13 ci, ci_14 ci, ci_15 ci, ci_16 ci, ci_17 ci, ci_18 ci, ci_19 ci, ci_20 ci, ci_21 ci, ci_22 ci, qi, qp, e]
    refine Rf.bind (rf_num C (by omega) (by omega) hR.mono) ?_ ?_
    · rintro v s ⟨n, p2⟩ ⟨rfl, rfl, C2, hn1, hn2⟩
      have ci2 := C2.ci
      have f2 := cst_fr P σ.sz σ
      simp (disch := first | assumption | omega) [ck_T, sm_s, bd_l, bd_r, lt_e, eq_self, and_self, if_true, true_and, and_true, lit_nI, nI_add, nI_mul, nI_sub, nI_clamp, nI_eq, nI_ltI, nI_leI, nN_e, nI_nN, nN_nI, bI_0, bI_1, bI_n, bool_0, bool_1, in_T, lg_cmp0, ofN_nI, ci_0 ci2, ci_1 ci2, ci_2 ci2, ci_3 ci2, ci_4 ci2, ci_5 ci2, ci_6 ci2, ci_7 ci2, ci_8 ci2, ci_9 ci2, ci_10 ci2, ci_11 ci2, ci_12 ci2, ci_13 ci2, ci_14 ci2, ci_15 ci2, ci_16 ci2, ci_17 ci2, ci_18 ci2, ci_19 ci2, ci_20 ci2, ci_21 ci2, ci_22 ci2]
      refine Rf.bind (rf_sign C2 (by omega) (hR.us f2.2.2)) ?_ ?_
      · rintro _ s p3 ⟨rfl, C3⟩
        have ci3 := C3.ci
        have f3 : Fr P σ.sz 0 σ (cst P (cst P σ)) := f2.t0 (cst_fr P σ.sz _) (Nat.le_refl _)
        simp (disch := first | assumption | omega) [ck_T, sm_s, bd_l, bd_r, lt_e, eq_self, and_self, if_true, true_and, and_true, lit_nI, nI_add, nI_mul, nI_sub, nI_clamp, nI_eq, nI_ltI, nI_leI, nN_e, nI_nN, nN_nI, bI_0, bI_1, bI_n, bool_0, bool_1, in_T, lg_cmp0, ofN_nI, ci_0 ci3, ci_1 ci3, ci_2 ci3, ci_3 ci3, ci_4 ci3, ci_5 ci3, ci_6 ci3, ci_7 ci3, ci_8 ci3, ci_9 ci3, ci_10 ci3, ci_11 ci3, ci_12 ci3, ci_13 ci3, ci_14 ci3, ci_15 ci3, ci_16 ci3, ci_17 ci3, ci_18 ci3, ci_19 ci3, ci_20 ci3, ci_21 ci3, ci_22 ci3]
        rw [← eb_id (sp_digits T p n n p3)]
        refine Rf.bind (cw_readDigits C3 (hR.us f3.2.2) true g (pl := p) (lo := n) (hi := n) hn1 (by omega) (by omega)) ?_ ?_
        · intro v s q hq
          exact Rf.ok rfl (PQ.aft f3 hq)
        · intro f s hq
          exact ⟨rfl, PE.aft f3 hq (Nat.le_refl _)⟩
      · intro f s hq
        exact ⟨rfl, PE.aft f2 hq (Nat.le_refl _)⟩
    · intro f s hq
      exact ⟨rfl, hq.mono⟩
  · rw [if_neg e]
    simp (disch := first | assumption | omega) [ck_T, sm_s, bd_l, bd_r, lt_e, eq_self, and_self, if_true, true_and, and_true, lit_nI, nI_add, nI_mul, nI_sub, nI_clamp, nI_eq, nI_ltI, nI_leI, nN_e, nI_nN, nN_nI, bI_0, bI_1, bI_n, bool_0, bool_1, in_T, lg_cmp0, ofN_nI, ci_0 ci, ci_1 ci, ci_2 ci, ci_3 ci, ci_4 ci, ci_5 ci, ci_6 ci, ci_7 ci, ci_8 ci, ci_9 ci, ci_10 ci, ci_11 ci, ci_12 ci, ci_13 ci, ci_14 ci, ci_15 ci, ci_16 ci, ci_17 ci, ci_18 ci, ci_19 ci, ci_20 ci, ci_21 ci, ci_22 ci, qi, e]
    refine Rf.bind (cw_readNetPart h (hR.mono) (by omega) (by omega)).res ?_ ?_
    · rintro v s ⟨x, p2⟩ ⟨⟨a, rfl, f, C2, hpr⟩, hok⟩
      have hsh := (sp_netPart_ok hok).2.1
      simp only [] at hsh
      have ci2 := C2.ci
      obtain ⟨r1, r2, r3, r4, r5, r6⟩ := id hpr
      simp (disch := first | assumption | omega) [ck_T, sm_s, bd_l, bd_r, lt_e, eq_self, and_self, if_true, true_and, and_true, lit_nI, nI_add, nI_mul, nI_sub, nI_clamp, nI_eq, nI_ltI, nI_leI, nN_e, nI_nN, nN_nI, bI_0, bI_1, bI_n, bool_0, bool_1, in_T, lg_cmp0, ofN_nI, ci_0 ci2, ci_1 ci2, ci_2 ci2, ci_3 ci2, ci_4 ci2, ci_5 ci2, ci_6 ci2, ci_7 ci2, ci_8 ci2, ci_9 ci2, ci_10 ci2, ci_11 ci2, ci_12 ci2, ci_13 ci2, ci_14 ci2, ci_15 ci2, ci_16 ci2, ci_17 ci2, ci_18 ci2, ci_19 ci2, ci_20 ci2, ci_21 ci2, ci_22 ci2, r3, r4]
      by_cases e2 : x.1 = 0
      · have e3 : (nI x.1 = nI 0) = True := by rw [e2]; exact eq_true rfl
        simp only [e2, e3, if_true, dm_X3_readPart_p71]
        exact Rf.ok rfl ⟨a, rfl, f, C2, hpr⟩
      · have e3 : (nI x.1 = nI 0) = False := by
          exact eq_false (fun z => e2 ((nI_eq (by omega) (by omega)).mp z))
        simp only [e2, e3, if_false, dm_X3_readPart_p71]
        refine Rf.bind (rf_sign C2 (by omega) (hR.us f.2.2)) ?_ ?_
        · rintro _ s p3 ⟨rfl, C3⟩
          have f3 := cst_fr P s.sz s
          exact Rf.ok rfl ⟨a, rfl, f.trans f3, C3, hpr⟩
        · intro f2 s hq
          exact ⟨rfl, PE.aft f hq⟩
    · intro f s hq
      exact ⟨rfl, hq.mono⟩
theorem cw_shortPart {P : xP} {T : xT} {g : List Nat → Nat} {ix M : Nat} {m : xMod} {σ : xS} {p : Nat} (h : PX P T false g ix M m σ p) (hR : Rm P σ 3) : Rf (dm_X9_readPart P (P.base + 7) σ) (sp_shortPart T m.nets p) (PQ P T g σ 1) (PE P T σ.sz σ 2) := by
  have C := h.1
  have ci := C.ci
  have sz := C.sz
  have qs := cw_skips C (c := 39) (by omega)
  have qp := cw_place C
  unfold dm_X9_readPart sp_shortPart
  by_cases e : sp_is T 39 p = true
  · rw [if_pos e]
    simp only [e, if_true] at qs
    have C2 := C.step (is_lt e)
    have ci2 := C2.ci
    have f2 := cst_fr P σ.sz σ
    simp (disch := first | assumption | omega) [ck_T, sm_s, bd_l, bd_r, lt_e, eq_self, and_self, if_true, true_and, and_true, lit_nI, nI_add, nI_mul, nI_sub, nI_clamp, nI_eq, nI_ltI, nI_leI, nN_e, nI_nN, nN_nI, bI_0, bI_1, bI_n, bool_0, bool_1, in_T, lg_cmp0, ofN_nI, ci_0 ci, ci_1 ci, ci_2 ci, ci_3 ci, ci_4 ci, ci_5 ci, ci_6 ci, ci_7 ci, ci_8 ci, ci_9 ci, ci_10 ci, ci_11 ci, ci_12 ci, ci_13 ci, ci_14 ci, ci_15 ci, ci_16 ci, ci_17 ci, ci_18 ci, ci_19 ci, ci_20 ci, ci_21 ci, ci_22 ci, ci_0 ci2, ci_1 ci2, ci_2 ci2, ci_3 ci2, ci_4 ci2, ci_5 ci2, ci_6 ci2, ci_7 ci2, ci_8 ci2, ci_9 ci2, ci_10 ci2, ci_11 ci2, ci_12 ci2, ci_13 ci2, ci_14 ci2, ci_15 ci2, ci_16 ci2, ci_17 ci2, ci_18 ci2, ci_19 ci2, ci_20 ci2, ci_21 ci2, ci_22 ci2, qs, qp]
    rw [← eb_id (sp_digits T p 1 7 _)]
    refine Rf.bind (cw_readDigits C2 (hR.us f2.2.2) false g (pl := p) (lo := 1) (hi := 7) (by omega) (by omega) (by omega)) ?_ ?_
    · intro v s q hq
      exact Rf.ok rfl (PQ.aft f2 hq)
    · intro f s hq
      exact ⟨rfl, PE.aft f2 hq (Nat.le_refl _)⟩
  · rw [if_neg e]
    simp only [e] at qs
    simp (disch := first | assumption | omega) [ck_T, sm_s, bd_l, bd_r, lt_e, eq_self, and_self, if_true, true_and, and_true, lit_nI, nI_add, nI_mul, nI_sub, nI_clamp, nI_eq, nI_ltI, nI_leI, nN_e, nI_nN, nN_nI, bI_0, bI_1, bI_n, bool_0, bool_1, in_T, lg_cmp0, ofN_nI, ci_0 ci, ci_1 ci, ci_2 ci, ci_3 ci, ci_4 ci, ci_5 ci, ci_6 ci, ci_7 ci, ci_8 ci, ci_9 ci, ci_10 ci, ci_11 ci, ci_12 ci, ci_13 ci, ci_14 ci, ci_15 ci, ci_16 ci, ci_17 ci, ci_18 ci, ci_19 ci, ci_20 ci, ci_21 ci, ci_22 ci, qs, qp]
    rw [← eb_id (sp_netPart T 46 46 m.nets p)]
    refine Rf.bind (cw_readNetPart h (hR.mono) (by omega) (by omega)) ?_ ?_
    · intro v s q hq
      exact Rf.ok rfl hq
    · intro f s hq
      exact ⟨rfl, hq.mono⟩
/-- readPart of the reader at hand -/
theorem cw_part {P : xP} {T : xT} {lng : Bool} {g : List Nat → Nat} {ix M : Nat} {m : xMod} {σ : xS} {p : Nat} (h : PX P T lng g ix M m σ p) (hR : Rm P σ 3) : Rf (if σ.K (rdA P lng) = 4 then dm_X3_readPart P (rdA P lng) σ else dm_X9_readPart P (rdA P lng) σ) (sp_part T lng m.nets p) (PQ P T g σ 1) (PE P T σ.sz σ 2) := by
  have ci := h.1.ci
  cases lng with
  | true =>
    have e : σ.K (rdA P true) = 4 := ci_18 ci
    rw [if_pos e]
    exact cw_longPart h hR
  | false =>
    have e : ¬ σ.K (rdA P false) = 4 := by
      have : σ.K (rdA P false) = 9 := ci_20 ci
      omega
    rw [if_neg e]
    exact cw_shortPart h hR
