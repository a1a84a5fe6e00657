/-! ===== the class: rings ===== -/
theorem nI_or (a b : Nat) : nI a ||| nI b = nI (a ||| b) := by
  unfold nI
  apply Int32.toBitVec_inj.mp
  simp [Int32.toBitVec_or, BitVec.ofNat_or]
theorem bt_shl : ∀ j : Fin 8, nI 1 <<< (nI j.1 &&& nI 31) = nI (2 ^ j.1) := by decide +kernel
theorem bt_get : ∀ (a : Fin 256) (j : Fin 8), ((nI a.1 >>> (nI j.1 &&& nI 31)) &&& nI 1 = nI 1) ↔ Nat.testBit a.1 j.1 = true := by decide +kernel
theorem bt_sh {j : Nat} (h : j < 8) : nI 1 <<< (nI j &&& nI 31) = nI (2 ^ j) := bt_shl ⟨j, h⟩
theorem bt_g {a j : Nat} (ha : a < 256) (h : j < 8) : ((nI a >>> (nI j &&& nI 31)) &&& nI 1 = nI 1) = (Nat.testBit a j = true) := propext (bt_get ⟨a, ha⟩ ⟨j, h⟩)
theorem bt_lt {a b : Nat} (ha : a < 256) (hb : b < 256) : a ||| b < 256 := Nat.or_lt_two_pow (n := 8) ha hb
theorem bt_2 {j : Nat} (h : j < 8) : 2 ^ j < 256 := Nat.pow_lt_pow_right (a := 2) (n := 8) (by omega) h
theorem DK.fr {P : xP} {lng : Bool} {σ σ' : xS} {D : Nat} {A H : Nat → Nat} {G : Nat → List Nat → Nat} {ms : List xMod} {top c : Nat} (h : DK P lng σ D A H G ms top) (f : Fr P top c σ σ') : DK P lng σ' D A H G ms top := by
  obtain ⟨h1, h2, h3, h4⟩ := h
  have d1 := h2.1.1
  have d2 := h2.1.2.1
  have s := f.sms2 (lo := D) (hi := top) (by omega) (Nat.le_refl _)
  exact ⟨h1.fr (by omega) f, h2.sm s (Nat.le_refl _), ((s D (by omega) (by omega)).2.2.1 1).trans h3, h4⟩
theorem Fr.setAI {P : xP} {h a : Nat} (σ : xS) (ha : h ≤ a) (hb : P.base + 1 < a) (k : Nat) (v : Int32) : Fr P h 0 σ (σ.setAI a k v) := by
  refine ⟨fun b hb' _ => ⟨rfl, rfl, fun _ => rfl, fun _ => rfl, fun f => rfl, fun i => ?_, fun _ => rfl, fun i => rfl⟩, ⟨rfl, fun f hf => rfl, fun f => rfl⟩, Us.refl _⟩
  exact x_up2_k (by omega)
theorem cw_kwL {P : xP} {lng : Bool} {σ : xS} {D : Nat} {A H : Nat → Nat} {G : Nat → List Nat → Nat} {ms : List xMod} {top : Nat} (h : DK P lng σ D A H G ms top) {m : xMod} {ix M hi : Nat} {g : List Nat → Nat} (hr : MR σ g (fun f => (sp_kind ms f).map A) ix M hi m) : ∀ (r j n acc : Nat), j + r = m.ins.length → r < n → acc < 256 → ∃ acc', dm_X5_kindsWithin_L4 P M n (nI acc) (nI j) σ = some (.inl (nI acc'), σ) ∧ acc' < 256 ∧ ∀ t, acc'.testBit t = (acc.testBit t || (m.ins.drop j).any fun x => decide (sp_kind ms x.1 = some t)) := by
  obtain ⟨⟨a1, a2, a3, a4, a5⟩, -, -, ⟨d1, d2, d3, d4, d5⟩, -, -, e3⟩ := hr
  have l8 := h.2.2.2.1
  intro r
  induction r with
  | zero =>
    intro j n acc hj hn ha
    obtain ⟨n, rfl⟩ : ∃ m, n = m + 1 := ⟨n - 1, by omega⟩
    have e : m.ins.drop j = [] := List.drop_eq_nil_of_le (by omega)
    rw [e]
    refine ⟨acc, ?_, ha, fun t => by simp⟩
    unfold dm_X5_kindsWithin_L4
    simp (disch := first | assumption | omega) [x_chk, x_some, x_bind, x_let, lit_nI, nI_add, nI_mul, nI_sub, nI_clamp, nI_eq, nI_ltI, nI_leI, nN_e, nI_nN, nN_nI, bI_0, bI_1, bI_n, bool_0, bool_1, in_T, lg_cmp0, ofN_nI, a2, d4, dle_T]
  | succ r ih =>
    intro j n acc hj hn' ha
    obtain ⟨n, rfl⟩ : ∃ m, n = m + 1 := ⟨n - 1, by omega⟩
    obtain ⟨x, hx⟩ : ∃ x, m.ins[j]? = some x := ⟨_, List.getElem?_eq_getElem (by omega)⟩
    have ed : m.ins.drop j = x :: m.ins.drop (j + 1) := by
      obtain ⟨hlt, hx3⟩ := List.getElem?_eq_some_iff.mp hx
      rw [List.drop_eq_getElem_cons hlt, hx3]
    obtain ⟨a, q1, q2⟩ := e3 j x hx
    have ka := q2.2.2.1
    have r6 := q2.2.2.2.2.2.2.2.2.2.2.2.1
    have i2 : ¬ m.ins.length ≤ j := by omega
    rw [ed]
    unfold dm_X5_kindsWithin_L4 dm_X5_kindsWithin_p43
    cases e : sp_kind ms x.1 with
    | none =>
      simp only [e, Option.map_none] at r6
      obtain ⟨acc', t1, t2, t3⟩ := ih (j + 1) n acc (by omega) (by omega) ha
      refine ⟨acc', ?_, t2, fun t => ?_⟩
      · rw [← t1]
        simp (disch := first | assumption | omega) [ck_T, sm_s, bd_l, bd_r, lt_e, eq_self, and_self, if_true, true_and, and_true, lit_nI, nI_add, nI_mul, nI_sub, nI_clamp, nI_eq, nI_ltI, nI_leI, nN_e, nI_nN, nN_nI, bI_0, bI_1, bI_n, bool_0, bool_1, in_T, lg_cmp0, ofN_nI, i2, a2, d1, d2, d3, d4, q1, ka, r6, x_in, dlt_T, nI_or]
      · rw [t3]; simp [e]
    | some t0 =>
      obtain ⟨k, hk, hk2, hk3⟩ := kind_get e
      have t8 : t0 < 8 := by omega
      simp only [e, Option.map_some] at r6
      have km := (h.2.1.2 t0 k hk).2.2.2.2.2.1
      have kk := km.1.2.1
      have ki := km.1.2.2.1
      obtain ⟨acc', t1, t2, t3⟩ := ih (j + 1) n (acc ||| 2 ^ t0) (by omega) (by omega) (bt_lt ha (bt_2 t8))
      refine ⟨acc', ?_, t2, fun t => ?_⟩
      · rw [← t1]
        simp (disch := first | assumption | omega) [ck_T, sm_s, bd_l, bd_r, lt_e, eq_self, and_self, if_true, true_and, and_true, lit_nI, nI_add, nI_mul, nI_sub, nI_clamp, nI_eq, nI_ltI, nI_leI, nN_e, nI_nN, nN_nI, bI_0, bI_1, bI_n, bool_0, bool_1, in_T, lg_cmp0, ofN_nI, i2, a2, d1, d2, d3, d4, q1, ka, r6, kk, ki, x_in, dlt_T, bt_sh, nI_or]
      · rw [t3, Nat.testBit_or, Nat.testBit_two_pow]
        simp only [List.any_cons, e, Option.some.injEq]
        rw [Bool.or_assoc]
theorem cw_kindsWithin {P : xP} {lng : Bool} {σ : xS} {D : Nat} {A H : Nat → Nat} {G : Nat → List Nat → Nat} {ms : List xMod} {top : Nat} (h : DK P lng σ D A H G ms top) {m : xMod} {i : Nat} (hm : ms[i]? = some m) : ∃ a, dm_X5_kindsWithin P (A i) σ = some (.inl (nI a), σ) ∧ a < 256 ∧ ∀ t, a.testBit t = sp_has ms i t := by
  have hr := (h.2.1.2 i m hm).2.2.2.2.2.1
  obtain ⟨a, t1, t2, t3⟩ := cw_kwL h hr m.ins.length 0 P.N 0 (by omega) (by have := h.1.N; have := hr.2.2.2.1.2.2.2.2; omega) (by omega)
  refine ⟨a, t1, t2, fun t => ?_⟩
  rw [t3]
  simp [sp_has, hm]
/-- the rows of bits at ρ -/
def RM (σ : xS) (ρ n : Nat) (f : Nat → Nat → Bool) : Prop := σ.K ρ = 21 ∧ σ.L ρ = 8 ∧ ∀ k, k < n → ∃ a, σ.AI ρ k = nI a ∧ a < 256 ∧ ∀ t, a.testBit t = f k t
theorem RM.set {σ : xS} {ρ n j a : Nat} {f f' : Nat → Nat → Bool} (h : RM σ ρ n f) (ha : a < 256) (h1 : ∀ t, a.testBit t = f' j t) (h2 : ∀ k, k < n → k ≠ j → f' k = f k) : RM (σ.setAI ρ j (nI a)) ρ n f' := by
  refine ⟨h.1, h.2.1, fun k hk => ?_⟩
  by_cases e : k = j
  · subst e
    exact ⟨a, by simp [q_K_setI, q_I_setI, q_J_setI, q_R_setI, q_L_setI, q_AI_setI, q_AJ_setI, q_AR_setI, q_sz_setI, q_su_setI, q_K_setJ, q_I_setJ, q_J_setJ, q_R_setJ, q_L_setJ, q_AI_setJ, q_AJ_setJ, q_AR_setJ, q_sz_setJ, q_su_setJ, q_K_setR, q_I_setR, q_J_setR, q_R_setR, q_L_setR, q_AI_setR, q_AJ_setR, q_AR_setR, q_sz_setR, q_su_setR, q_K_setAI, q_I_setAI, q_J_setAI, q_R_setAI, q_L_setAI, q_AI_setAI, q_AJ_setAI, q_AR_setAI, q_sz_setAI, q_su_setAI, q_K_setAJ, q_I_setAJ, q_J_setAJ, q_R_setAJ, q_L_setAJ, q_AI_setAJ, q_AJ_setAJ, q_AR_setAJ, q_sz_setAJ, q_su_setAJ, q_K_setAR, q_I_setAR, q_J_setAR, q_R_setAR, q_L_setAR, q_AI_setAR, q_AJ_setAR, q_AR_setAR, q_sz_setAR, q_su_setAR, q_K_newO, q_I_newO, q_J_newO, q_R_newO, q_L_newO, q_AI_newO, q_AJ_newO, q_AR_newO, q_sz_newO, q_su_newO, q_K_newA, q_I_newA, q_J_newA, q_R_newA, q_L_newA, q_AI_newA, q_AJ_newA, q_AR_newA, q_sz_newA, q_su_newA, q_K_skip, q_I_skip, q_J_skip, q_R_skip, q_L_skip, q_AI_skip, q_AJ_skip, q_AR_skip, q_sz_skip, q_su_skip, q_up2, q_up], ha, h1⟩
  · obtain ⟨b, b1, b2, b3⟩ := h.2.2 k hk
    refine ⟨b, by simp [q_K_setI, q_I_setI, q_J_setI, q_R_setI, q_L_setI, q_AI_setI, q_AJ_setI, q_AR_setI, q_sz_setI, q_su_setI, q_K_setJ, q_I_setJ, q_J_setJ, q_R_setJ, q_L_setJ, q_AI_setJ, q_AJ_setJ, q_AR_setJ, q_sz_setJ, q_su_setJ, q_K_setR, q_I_setR, q_J_setR, q_R_setR, q_L_setR, q_AI_setR, q_AJ_setR, q_AR_setR, q_sz_setR, q_su_setR, q_K_setAI, q_I_setAI, q_J_setAI, q_R_setAI, q_L_setAI, q_AI_setAI, q_AJ_setAI, q_AR_setAI, q_sz_setAI, q_su_setAI, q_K_setAJ, q_I_setAJ, q_J_setAJ, q_R_setAJ, q_L_setAJ, q_AI_setAJ, q_AJ_setAJ, q_AR_setAJ, q_sz_setAJ, q_su_setAJ, q_K_setAR, q_I_setAR, q_J_setAR, q_R_setAR, q_L_setAR, q_AI_setAR, q_AJ_setAR, q_AR_setAR, q_sz_setAR, q_su_setAR, q_K_newO, q_I_newO, q_J_newO, q_R_newO, q_L_newO, q_AI_newO, q_AJ_newO, q_AR_newO, q_sz_newO, q_su_newO, q_K_newA, q_I_newA, q_J_newA, q_R_newA, q_L_newA, q_AI_newA, q_AJ_newA, q_AR_newA, q_sz_newA, q_su_newA, q_K_skip, q_I_skip, q_J_skip, q_R_skip, q_L_skip, q_AI_skip, q_AJ_skip, q_AR_skip, q_sz_skip, q_su_skip, q_up2, q_up, e, b1], b2, fun t => ?_⟩
    rw [b3, h2 k hk e]
theorem RM.cg {σ : xS} {ρ n : Nat} {f f' : Nat → Nat → Bool} (h : RM σ ρ n f) (h2 : ∀ k, k < n → f' k = f k) : RM σ ρ n f' := by
  refine ⟨h.1, h.2.1, fun k hk => ?_⟩
  obtain ⟨b, b1, b2, b3⟩ := h.2.2 k hk
  refine ⟨b, b1, b2, fun t => ?_⟩
  rw [b3, h2 k hk]
theorem cw_ring7 {P : xP} {lng : Bool} {D ρ : Nat} {A H : Nat → Nat} {G : Nat → List Nat → Nat} {ms : List xMod} {top : Nat} (hρ : P.base + 44 ≤ ρ) (htop : top ≤ ρ) : ∀ (r j n : Nat) (σ : xS), j + r = ms.length → r < n → DK P lng σ D A H G ms top → RM σ ρ j (sp_has ms) → ∃ σ', dm_X0_firstInRing_L7 P D n (some ρ) (nI j) σ = dm_X0_firstInRing_L35 P D P.N (some ρ) (nI 0) σ' ∧ Fr P ρ 0 σ σ' ∧ RM σ' ρ ms.length (sp_has ms) := by
  intro r
  induction r with
  | zero =>
    intro j n σ hj hn h hm
    obtain ⟨n, rfl⟩ : ∃ m, n = m + 1 := ⟨n - 1, by omega⟩
    have a3 := h.2.1.1.2.2.1
    have hc := h.2.2.1
    have l8 := h.2.2.2.1
    refine ⟨σ, ?_, Fr.refl P ρ σ, (show j = ms.length by omega) ▸ hm⟩
    unfold dm_X0_firstInRing_L7
    simp (disch := first | assumption | omega) [ck_T, sm_s, bd_l, bd_r, lt_e, eq_self, and_self, if_true, true_and, and_true, lit_nI, nI_add, nI_mul, nI_sub, nI_clamp, nI_eq, nI_ltI, nI_leI, nN_e, nI_nN, nN_nI, bI_0, bI_1, bI_n, bool_0, bool_1, in_T, lg_cmp0, ofN_nI, a3, hc]
    intro z; omega
  | succ r ih =>
    intro j n σ hj hn h hm
    obtain ⟨n, rfl⟩ : ∃ m, n = m + 1 := ⟨n - 1, by omega⟩
    obtain ⟨x, hx⟩ : ∃ x, ms[j]? = some x := ⟨_, List.getElem?_eq_getElem (by omega)⟩
    obtain ⟨⟨a1, a2, a3, a4, a5, a6, a7⟩, h2⟩ := h.2.1
    have hc := h.2.2.1
    obtain ⟨q1, q2, q3, q4, q5, q6, q7⟩ := h2 j x hx
    have kA := q6.1.2.1
    obtain ⟨a, t1, t2, t3⟩ := cw_kindsWithin h hx
    have f1 := Fr.setAI (P := P) (h := ρ) σ (a := ρ) (Nat.le_refl _) (by omega) j (nI a)
    have m1 : RM (σ.setAI ρ j (nI a)) ρ (j + 1) (sp_has ms) := by
      refine ⟨hm.1, hm.2.1, fun k hk => ?_⟩
      by_cases e : k = j
      · subst e
        exact ⟨a, by simp [q_K_setI, q_I_setI, q_J_setI, q_R_setI, q_L_setI, q_AI_setI, q_AJ_setI, q_AR_setI, q_sz_setI, q_su_setI, q_K_setJ, q_I_setJ, q_J_setJ, q_R_setJ, q_L_setJ, q_AI_setJ, q_AJ_setJ, q_AR_setJ, q_sz_setJ, q_su_setJ, q_K_setR, q_I_setR, q_J_setR, q_R_setR, q_L_setR, q_AI_setR, q_AJ_setR, q_AR_setR, q_sz_setR, q_su_setR, q_K_setAI, q_I_setAI, q_J_setAI, q_R_setAI, q_L_setAI, q_AI_setAI, q_AJ_setAI, q_AR_setAI, q_sz_setAI, q_su_setAI, q_K_setAJ, q_I_setAJ, q_J_setAJ, q_R_setAJ, q_L_setAJ, q_AI_setAJ, q_AJ_setAJ, q_AR_setAJ, q_sz_setAJ, q_su_setAJ, q_K_setAR, q_I_setAR, q_J_setAR, q_R_setAR, q_L_setAR, q_AI_setAR, q_AJ_setAR, q_AR_setAR, q_sz_setAR, q_su_setAR, q_K_newO, q_I_newO, q_J_newO, q_R_newO, q_L_newO, q_AI_newO, q_AJ_newO, q_AR_newO, q_sz_newO, q_su_newO, q_K_newA, q_I_newA, q_J_newA, q_R_newA, q_L_newA, q_AI_newA, q_AJ_newA, q_AR_newA, q_sz_newA, q_su_newA, q_K_skip, q_I_skip, q_J_skip, q_R_skip, q_L_skip, q_AI_skip, q_AJ_skip, q_AR_skip, q_sz_skip, q_su_skip, q_up2, q_up], t2, t3⟩
      · obtain ⟨b, b1, b2, b3⟩ := hm.2.2 k (by omega)
        exact ⟨b, by simp [q_K_setI, q_I_setI, q_J_setI, q_R_setI, q_L_setI, q_AI_setI, q_AJ_setI, q_AR_setI, q_sz_setI, q_su_setI, q_K_setJ, q_I_setJ, q_J_setJ, q_R_setJ, q_L_setJ, q_AI_setJ, q_AJ_setJ, q_AR_setJ, q_sz_setJ, q_su_setJ, q_K_setR, q_I_setR, q_J_setR, q_R_setR, q_L_setR, q_AI_setR, q_AJ_setR, q_AR_setR, q_sz_setR, q_su_setR, q_K_setAI, q_I_setAI, q_J_setAI, q_R_setAI, q_L_setAI, q_AI_setAI, q_AJ_setAI, q_AR_setAI, q_sz_setAI, q_su_setAI, q_K_setAJ, q_I_setAJ, q_J_setAJ, q_R_setAJ, q_L_setAJ, q_AI_setAJ, q_AJ_setAJ, q_AR_setAJ, q_sz_setAJ, q_su_setAJ, q_K_setAR, q_I_setAR, q_J_setAR, q_R_setAR, q_L_setAR, q_AI_setAR, q_AJ_setAR, q_AR_setAR, q_sz_setAR, q_su_setAR, q_K_newO, q_I_newO, q_J_newO, q_R_newO, q_L_newO, q_AI_newO, q_AJ_newO, q_AR_newO, q_sz_newO, q_su_newO, q_K_newA, q_I_newA, q_J_newA, q_R_newA, q_L_newA, q_AI_newA, q_AJ_newA, q_AR_newA, q_sz_newA, q_su_newA, q_K_skip, q_I_skip, q_J_skip, q_R_skip, q_L_skip, q_AI_skip, q_AJ_skip, q_AR_skip, q_sz_skip, q_su_skip, q_up2, q_up, e, b1], b2, b3⟩
    obtain ⟨σ', s1, s2, s3⟩ := ih (j + 1) n (σ.setAI ρ j (nI a)) (by omega) (by omega) (h.fr (f1.mono (h' := top) (e := 0))) m1
    refine ⟨σ', ?_, f1.trans s2, s3⟩
    unfold dm_X0_firstInRing_L7
    rw [← s1]
    have i2 : ¬ ms.length ≤ j := by omega
    have k1 := hm.1
    have k2 := hm.2.1
    simp (disch := first | assumption | omega) [ck_T, sm_s, bd_l, bd_r, lt_e, eq_self, and_self, if_true, true_and, and_true, lit_nI, nI_add, nI_mul, nI_sub, nI_clamp, nI_eq, nI_ltI, nI_leI, nN_e, nI_nN, nN_nI, bI_0, bI_1, bI_n, bool_0, bool_1, in_T, lg_cmp0, ofN_nI, i2, a3, a4, a5, a6, hc, q1, kA, t1, k1, k2, x_in, dlt_T, dle_T]
theorem W_self (E : Nat → Nat → Bool) (t x : Nat) : gr_W E (t + 1) t x = gr_W E t t x := by
  rw [Bool.eq_iff_iff, W_succ]
  constructor
  · rintro (q | q)
    · exact q
    · exact q.2
  · exact Or.inl
theorem cw_ring45 {P : xP} {lng : Bool} {D ρ : Nat} {A H : Nat → Nat} {G : Nat → List Nat → Nat} {ms : List xMod} {top t : Nat} {k35 : Option Nat → Int32 → xS → xO Int32} (hρ : P.base + 44 ≤ ρ) (htop : top ≤ ρ) (ht : t < ms.length) : ∀ (r j n : Nat) (σ : xS), j + r = ms.length → r < n → DK P lng σ D A H G ms top → RM σ ρ ms.length (fun k => if k < j then gr_W (sp_has ms) (t + 1) k else gr_W (sp_has ms) t k) → ∃ σ', dm_X0_firstInRing_L45 P k35 D n (some ρ) (nI t) (nI j) σ = k35 (some ρ) (nI (t + 1)) σ' ∧ Fr P ρ 0 σ σ' ∧ RM σ' ρ ms.length (gr_W (sp_has ms) (t + 1)) := by
  intro r
  induction r with
  | zero =>
    intro j n σ hj hn h hm
    obtain ⟨n, rfl⟩ : ∃ m, n = m + 1 := ⟨n - 1, by omega⟩
    have a3 := h.2.1.1.2.2.1
    have hc := h.2.2.1
    have l8 := h.2.2.2.1
    refine ⟨σ, ?_, Fr.refl P ρ σ, hm.cg (fun k hk => ?_)⟩
    · unfold dm_X0_firstInRing_L45
      have i1 : ms.length ≤ j := by omega
      simp (disch := first | assumption | omega) [ck_T, sm_s, bd_l, bd_r, lt_e, eq_self, and_self, if_true, true_and, and_true, lit_nI, nI_add, nI_mul, nI_sub, nI_clamp, nI_eq, nI_ltI, nI_leI, nN_e, nI_nN, nN_nI, bI_0, bI_1, bI_n, bool_0, bool_1, in_T, lg_cmp0, ofN_nI, a3, hc, i1]
    · simp only [show k < j by omega, if_true]
  | succ r ih =>
    intro j n σ hj hn h hm
    obtain ⟨n, rfl⟩ : ∃ m, n = m + 1 := ⟨n - 1, by omega⟩
    have a3 := h.2.1.1.2.2.1
    have hc := h.2.2.1
    have l8 := h.2.2.2.1
    have i2 : ¬ ms.length ≤ j := by omega
    have k1 := hm.1
    have k2 := hm.2.1
    obtain ⟨a, b1, b2, b3⟩ := hm.2.2 j (by omega)
    obtain ⟨c, c1, c2, c3⟩ := hm.2.2 t ht
    simp only [show ¬ j < j by omega, if_false] at b3
    have c3' : ∀ x, c.testBit x = gr_W (sp_has ms) t t x := by
      intro x
      rw [c3]
      by_cases z : t < j
      · simp only [z, if_true]; exact W_self _ _ _
      · simp only [z, if_false]
    have bg := bt_g b2 (show t < 8 by omega)
    rw [b3] at bg
    by_cases e : gr_W (sp_has ms) t j t = true
    · have f1 := Fr.setAI (P := P) (h := ρ) σ (a := ρ) (Nat.le_refl _) (by omega) j (nI (a ||| c))
      have m1 : RM (σ.setAI ρ j (nI (a ||| c))) ρ ms.length (fun k => if k < j + 1 then gr_W (sp_has ms) (t + 1) k else gr_W (sp_has ms) t k) := by
        refine hm.set (bt_lt b2 c2) (fun x => ?_) (fun k hk ne => ?_)
        · rw [Nat.testBit_or, b3, c3']
          simp only [show j < j + 1 by omega, if_true]
          rw [Bool.eq_iff_iff, W_succ, Bool.or_eq_true]
          simp [e]
        · by_cases z : k < j
          · simp only [z, show k < j + 1 by omega, if_true]
          · simp only [z, show ¬ k < j + 1 by omega, if_false]
      obtain ⟨σ', s1, s2, s3⟩ := ih (j + 1) n (σ.setAI ρ j (nI (a ||| c))) (by omega) (by omega) (h.fr (f1.mono (h' := top) (e := 0))) m1
      refine ⟨σ', ?_, f1.trans s2, s3⟩
      unfold dm_X0_firstInRing_L45 dm_X0_firstInRing_p73
      rw [← s1]
      simp (disch := first | assumption | omega) [ck_T, sm_s, bd_l, bd_r, lt_e, eq_self, and_self, if_true, true_and, and_true, lit_nI, nI_add, nI_mul, nI_sub, nI_clamp, nI_eq, nI_ltI, nI_leI, nN_e, nI_nN, nN_nI, bI_0, bI_1, bI_n, bool_0, bool_1, in_T, lg_cmp0, ofN_nI, i2, a3, hc, k1, k2, x_in, dlt_T, dle_T, b1, c1, bg, e, nI_or]
    · have m1 : RM σ ρ ms.length (fun k => if k < j + 1 then gr_W (sp_has ms) (t + 1) k else gr_W (sp_has ms) t k) := by
        refine hm.cg (fun k hk => ?_)
        by_cases z : k < j
        · simp only [z, show k < j + 1 by omega, if_true]
        · by_cases z2 : k = j
          · subst z2
            simp only [show k < k + 1 by omega, show ¬ k < k by omega, if_true, if_false]
            funext x
            rw [Bool.eq_iff_iff, W_succ]
            simp [e]
          · simp only [z, show ¬ k < j + 1 by omega, if_false]
      obtain ⟨σ', s1, s2, s3⟩ := ih (j + 1) n σ (by omega) (by omega) h m1
      refine ⟨σ', ?_, s2, s3⟩
      unfold dm_X0_firstInRing_L45 dm_X0_firstInRing_p73
      rw [← s1]
      simp (disch := first | assumption | omega) [ck_T, sm_s, bd_l, bd_r, lt_e, eq_self, and_self, if_true, true_and, and_true, lit_nI, nI_add, nI_mul, nI_sub, nI_clamp, nI_eq, nI_ltI, nI_leI, nN_e, nI_nN, nN_nI, bI_0, bI_1, bI_n, bool_0, bool_1, in_T, lg_cmp0, ofN_nI, i2, a3, hc, k1, k2, x_in, dlt_T, dle_T, b1, bg, e]
theorem cw_ring35 {P : xP} {lng : Bool} {D ρ : Nat} {A H : Nat → Nat} {G : Nat → List Nat → Nat} {ms : List xMod} {top : Nat} (hρ : P.base + 44 ≤ ρ) (htop : top ≤ ρ) : ∀ (r t n : Nat) (σ : xS), t + r = ms.length → r < n → DK P lng σ D A H G ms top → RM σ ρ ms.length (gr_W (sp_has ms) t) → ∃ σ', dm_X0_firstInRing_L35 P D n (some ρ) (nI t) σ = dm_X0_firstInRing_L87 P D P.N (some ρ) (nI 0) σ' ∧ Fr P ρ 0 σ σ' ∧ RM σ' ρ ms.length (gr_W (sp_has ms) ms.length) := by
  intro r
  induction r with
  | zero =>
    intro t n σ hj hn h hm
    obtain ⟨n, rfl⟩ : ∃ m, n = m + 1 := ⟨n - 1, by omega⟩
    have a3 := h.2.1.1.2.2.1
    have hc := h.2.2.1
    have l8 := h.2.2.2.1
    have et : t = ms.length := by omega
    subst et
    refine ⟨σ, ?_, Fr.refl P ρ σ, hm⟩
    unfold dm_X0_firstInRing_L35
    simp (disch := first | assumption | omega) [ck_T, sm_s, bd_l, bd_r, lt_e, eq_self, and_self, if_true, true_and, and_true, lit_nI, nI_add, nI_mul, nI_sub, nI_clamp, nI_eq, nI_ltI, nI_leI, nN_e, nI_nN, nN_nI, bI_0, bI_1, bI_n, bool_0, bool_1, in_T, lg_cmp0, ofN_nI, a3, hc]
  | succ r ih =>
    intro t n σ hj hn h hm
    obtain ⟨n, rfl⟩ : ∃ m, n = m + 1 := ⟨n - 1, by omega⟩
    have a3 := h.2.1.1.2.2.1
    have hc := h.2.2.1
    have l8 := h.2.2.2.1
    have i2 : ¬ ms.length ≤ t := by omega
    obtain ⟨σ1, t1, t2, t3⟩ := cw_ring45 (P := P) (lng := lng) (D := D) (A := A) (H := H) (G := G) (top := top) (k35 := dm_X0_firstInRing_L35 P D n) hρ htop (show t < ms.length by omega) ms.length 0 P.N σ (by omega) (by have := h.1.N; omega) h (hm.cg (fun k hk => by simp only [show ¬ k < 0 by omega, if_false]))
    obtain ⟨σ', s1, s2, s3⟩ := ih (t + 1) n σ1 (by omega) (by omega) (h.fr (t2.mono (h' := top) (e := 0))) t3
    refine ⟨σ', ?_, t2.trans s2, s3⟩
    unfold dm_X0_firstInRing_L35
    rw [← s1, ← t1]
    simp (disch := first | assumption | omega) [ck_T, sm_s, bd_l, bd_r, lt_e, eq_self, and_self, if_true, true_and, and_true, lit_nI, nI_add, nI_mul, nI_sub, nI_clamp, nI_eq, nI_ltI, nI_leI, nN_e, nI_nN, nN_nI, bI_0, bI_1, bI_n, bool_0, bool_1, in_T, lg_cmp0, ofN_nI, i2, a3, hc]
/-- the place of the first module for which R says so -/
def sp_rg (R : Nat → Bool) : Nat → List xMod → Nat
  | _, [] => 1001
  | k, m :: t => if R k = true then m.pl else sp_rg R (k + 1) t
theorem cw_ring87 {P : xP} {lng : Bool} {D ρ : Nat} {A H : Nat → Nat} {G : Nat → List Nat → Nat} {ms : List xMod} {top : Nat} {σ : xS} {f : Nat → Nat → Bool} (h : DK P lng σ D A H G ms top) (hm : RM σ ρ ms.length f) : ∀ (r j n : Nat), j + r = ms.length → r < n → dm_X0_firstInRing_L87 P D n (some ρ) (nI j) σ = some (.inl (nI (sp_rg (fun k => f k k) j (ms.drop j))), σ) := by
  obtain ⟨⟨a1, a2, a3, a4, a5, a6, a7⟩, h2⟩ := h.2.1
  have hc := h.2.2.1
  have l8 := h.2.2.2.1
  have k1 := hm.1
  have k2 := hm.2.1
  intro r
  induction r with
  | zero =>
    intro j n hj hn
    obtain ⟨n, rfl⟩ : ∃ m, n = m + 1 := ⟨n - 1, by omega⟩
    have e : ms.drop j = [] := List.drop_eq_nil_of_le (by omega)
    have i1 : ms.length ≤ j := by omega
    rw [e]
    unfold dm_X0_firstInRing_L87
    simp (disch := first | assumption | omega) [x_chk, x_some, x_bind, x_let, lit_nI, nI_add, nI_mul, nI_sub, nI_clamp, nI_eq, nI_ltI, nI_leI, nN_e, nI_nN, nN_nI, bI_0, bI_1, bI_n, bool_0, bool_1, in_T, lg_cmp0, ofN_nI, a3, hc, i1, sp_rg]
  | succ r ih =>
    intro j n hj hn'
    obtain ⟨n, rfl⟩ : ∃ m, n = m + 1 := ⟨n - 1, by omega⟩
    obtain ⟨x, hx⟩ : ∃ x, ms[j]? = some x := ⟨_, List.getElem?_eq_getElem (by omega)⟩
    have ed : ms.drop j = x :: ms.drop (j + 1) := by
      obtain ⟨hlt, hx3⟩ := List.getElem?_eq_some_iff.mp hx
      rw [List.drop_eq_getElem_cons hlt, hx3]
    obtain ⟨q1, q2, q3, q4, q5, q6, q7⟩ := h2 j x hx
    have kA := q6.1.2.1
    have pA := q6.1.2.2.2.2
    obtain ⟨a, b1, b2, b3⟩ := hm.2.2 j (by omega)
    have bg := bt_g b2 (show j < 8 by omega)
    rw [b3] at bg
    have ihh := ih (j + 1) n (by omega) (by omega)
    have i2 : ¬ ms.length ≤ j := by omega
    rw [ed]
    simp only [sp_rg]
    unfold dm_X0_firstInRing_L87
    by_cases e : f j j = true
    · rw [if_pos e]
      simp (disch := first | assumption | omega) [ck_T, sm_s, bd_l, bd_r, lt_e, eq_self, and_self, if_true, true_and, and_true, lit_nI, nI_add, nI_mul, nI_sub, nI_clamp, nI_eq, nI_ltI, nI_leI, nN_e, nI_nN, nN_nI, bI_0, bI_1, bI_n, bool_0, bool_1, in_T, lg_cmp0, ofN_nI, i2, a3, a4, a5, a6, hc, k1, k2, x_in, dlt_T, b1, bg, e, q1, kA, pA]
    · rw [if_neg e]
      simp (disch := first | assumption | omega) [ck_T, sm_s, bd_l, bd_r, lt_e, eq_self, and_self, if_true, true_and, and_true, lit_nI, nI_add, nI_mul, nI_sub, nI_clamp, nI_eq, nI_ltI, nI_leI, nN_e, nI_nN, nN_nI, bI_0, bI_1, bI_n, bool_0, bool_1, in_T, lg_cmp0, ofN_nI, i2, a3, hc, k1, k2, x_in, dlt_T, b1, bg, e, ihh]
theorem cw_firstInRing {P : xP} {lng : Bool} {D : Nat} {A H : Nat → Nat} {G : Nat → List Nat → Nat} {ms : List xMod} {σ : xS} (h : DK P lng σ D A H G ms σ.sz) (hs : P.base + 44 ≤ σ.sz) (hR : Rm P σ 1) : ∃ σ', dm_X0_firstInRing P D σ = some (.inl (nI (sp_rg (fun k => gr_W (sp_has ms) ms.length k k) 0 ms)), σ') ∧ Fr P σ.sz 1 σ σ' := by
  have hN := h.1.N
  have l8 := h.2.2.2.1
  have f0 := Fr.newA P (h := σ.sz) (σ := σ) (k := 21) (n := 8) (Nat.le_refl _) (by omega) (by omega)
  have h0 := h.fr f0
  obtain ⟨s1, t1, t2, t3⟩ := cw_ring7 (P := P) (lng := lng) (D := D) (ρ := σ.sz) (A := A) (H := H) (G := G) (ms := ms) (top := σ.sz) hs (Nat.le_refl _) ms.length 0 P.N (σ.newA 21 8) (by omega) (by omega) h0 ⟨by simp [q_K_setI, q_I_setI, q_J_setI, q_R_setI, q_L_setI, q_AI_setI, q_AJ_setI, q_AR_setI, q_sz_setI, q_su_setI, q_K_setJ, q_I_setJ, q_J_setJ, q_R_setJ, q_L_setJ, q_AI_setJ, q_AJ_setJ, q_AR_setJ, q_sz_setJ, q_su_setJ, q_K_setR, q_I_setR, q_J_setR, q_R_setR, q_L_setR, q_AI_setR, q_AJ_setR, q_AR_setR, q_sz_setR, q_su_setR, q_K_setAI, q_I_setAI, q_J_setAI, q_R_setAI, q_L_setAI, q_AI_setAI, q_AJ_setAI, q_AR_setAI, q_sz_setAI, q_su_setAI, q_K_setAJ, q_I_setAJ, q_J_setAJ, q_R_setAJ, q_L_setAJ, q_AI_setAJ, q_AJ_setAJ, q_AR_setAJ, q_sz_setAJ, q_su_setAJ, q_K_setAR, q_I_setAR, q_J_setAR, q_R_setAR, q_L_setAR, q_AI_setAR, q_AJ_setAR, q_AR_setAR, q_sz_setAR, q_su_setAR, q_K_newO, q_I_newO, q_J_newO, q_R_newO, q_L_newO, q_AI_newO, q_AJ_newO, q_AR_newO, q_sz_newO, q_su_newO, q_K_newA, q_I_newA, q_J_newA, q_R_newA, q_L_newA, q_AI_newA, q_AJ_newA, q_AR_newA, q_sz_newA, q_su_newA, q_K_skip, q_I_skip, q_J_skip, q_R_skip, q_L_skip, q_AI_skip, q_AJ_skip, q_AR_skip, q_sz_skip, q_su_skip, q_up2, q_up], by simp [q_K_setI, q_I_setI, q_J_setI, q_R_setI, q_L_setI, q_AI_setI, q_AJ_setI, q_AR_setI, q_sz_setI, q_su_setI, q_K_setJ, q_I_setJ, q_J_setJ, q_R_setJ, q_L_setJ, q_AI_setJ, q_AJ_setJ, q_AR_setJ, q_sz_setJ, q_su_setJ, q_K_setR, q_I_setR, q_J_setR, q_R_setR, q_L_setR, q_AI_setR, q_AJ_setR, q_AR_setR, q_sz_setR, q_su_setR, q_K_setAI, q_I_setAI, q_J_setAI, q_R_setAI, q_L_setAI, q_AI_setAI, q_AJ_setAI, q_AR_setAI, q_sz_setAI, q_su_setAI, q_K_setAJ, q_I_setAJ, q_J_setAJ, q_R_setAJ, q_L_setAJ, q_AI_setAJ, q_AJ_setAJ, q_AR_setAJ, q_sz_setAJ, q_su_setAJ, q_K_setAR, q_I_setAR, q_J_setAR, q_R_setAR, q_L_setAR, q_AI_setAR, q_AJ_setAR, q_AR_setAR, q_sz_setAR, q_su_setAR, q_K_newO, q_I_newO, q_J_newO, q_R_newO, q_L_newO, q_AI_newO, q_AJ_newO, q_AR_newO, q_sz_newO, q_su_newO, q_K_newA, q_I_newA, q_J_newA, q_R_newA, q_L_newA, q_AI_newA, q_AJ_newA, q_AR_newA, q_sz_newA, q_su_newA, q_K_skip, q_I_skip, q_J_skip, q_R_skip, q_L_skip, q_AI_skip, q_AJ_skip, q_AR_skip, q_sz_skip, q_su_skip, q_up2, q_up], fun k hk => by omega⟩
  have h1 := h0.fr t2
  obtain ⟨s2, u1, u2, u3⟩ := cw_ring35 (P := P) (lng := lng) (D := D) (ρ := σ.sz) (A := A) (H := H) (G := G) (ms := ms) (top := σ.sz) hs (Nat.le_refl _) ms.length 0 P.N s1 (by omega) (by omega) h1 (t3.cg (fun k hk => rfl))
  have h2 := h1.fr u2
  have w := cw_ring87 h2 u3 ms.length 0 P.N (by omega) (by omega)
  rw [List.drop_zero] at w
  have fa : Fr P σ.sz 1 σ s2 := (f0.trans t2 (Nat.le_refl _) (e := 1)).trans u2
  refine ⟨s2, ?_, fa⟩
  obtain ⟨r1, r2⟩ := hR
  have n2 : ¬ nI 8 < nI 0 := by decide
  unfold dm_X0_firstInRing
  simp (disch := first | assumption | omega) [ck_T, sm_s, bd_l, bd_r, lt_e, eq_self, and_self, if_true, true_and, and_true, lit_nI, nI_add, nI_mul, nI_sub, nI_clamp, nI_eq, nI_ltI, nI_leI, nN_e, nI_nN, nN_nI, bI_0, bI_1, bI_n, bool_0, bool_1, in_T, lg_cmp0, ofN_nI, n2, dle_T]
  rw [t1, u1, w]
