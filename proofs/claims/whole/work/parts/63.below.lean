/-! ===== the class: how deep ===== -/
/-- only depths of modules have changed -/
def FZ (lo : Nat) (σ σ' : xS) : Prop := σ'.K = σ.K ∧ σ'.L = σ.L ∧ σ'.J = σ.J ∧ σ'.R = σ.R ∧ σ'.AI = σ.AI ∧ σ'.AJ = σ.AJ ∧ σ'.AR = σ.AR ∧ σ'.sz = σ.sz ∧ σ'.su = σ.su ∧ (∀ f x, f ≠ 512 → σ'.I f x = σ.I f x) ∧ (∀ f x, x < lo → σ'.I f x = σ.I f x)
theorem FZ.refl (lo : Nat) (σ : xS) : FZ lo σ σ := ⟨rfl, rfl, rfl, rfl, rfl, rfl, rfl, rfl, rfl, fun _ _ _ => rfl, fun _ _ _ => rfl⟩
theorem FZ.trans {lo : Nat} {σ σ1 σ2 : xS} (h : FZ lo σ σ1) (k : FZ lo σ1 σ2) : FZ lo σ σ2 := by
  obtain ⟨a1, a2, a3, a4, a5, a6, a7, a8, a9, a10, a11⟩ := h
  obtain ⟨b1, b2, b3, b4, b5, b6, b7, b8, b9, b10, b11⟩ := k
  exact ⟨b1.trans a1, b2.trans a2, b3.trans a3, b4.trans a4, b5.trans a5, b6.trans a6, b7.trans a7, b8.trans a8, b9.trans a9, fun f x h1 => (b10 f x h1).trans (a10 f x h1), fun f x h1 => (b11 f x h1).trans (a11 f x h1)⟩
theorem FZ.fr {lo : Nat} {σ σ' : xS} {P : xP} (h : FZ lo σ σ') (hM : P.base + 2 ≤ lo) : Fr P lo 0 σ σ' := by
  obtain ⟨a1, a2, a3, a4, a5, a6, a7, a8, a9, a10, a11⟩ := h
  refine ⟨fun b hb _ => ⟨by rw [a1], by rw [a2], fun f => a11 f b hb, fun f => by rw [a3], fun f => by rw [a4], fun i => by rw [a5], fun i => by rw [a6], fun i => by rw [a7]⟩, ⟨by rw [a1], fun f _ => a11 f _ (by omega), fun f => by rw [a4]⟩, ?_⟩
  exact ⟨by omega, by omega, by omega⟩
theorem DK.fz {P : xP} {lng : Bool} {σ σ' : xS} {D : Nat} {A H : Nat → Nat} {G : Nat → List Nat → Nat} {ms : List xMod} {top : Nat} (h : DK P lng σ D A H G ms top) (f : FZ (D + 2) σ σ') : DK P lng σ' D A H G ms top := by
  obtain ⟨h1, ⟨⟨a1, a2, a3, a4, a5, a6, a7⟩, h2⟩, h3, h4⟩ := h
  have c := h1.fr (h := D + 2) (by omega) (f.fr (by omega))
  obtain ⟨f1, f2, f3, f4, f5, f6, f7, f8, f9, f10, f11⟩ := f
  refine ⟨c, ⟨⟨a1, a2, by rw [f1]; exact a3, by rw [f4]; exact a4, by rw [f1]; exact a5, by rw [f2]; exact a6, a7⟩, fun i m hm => ?_⟩, (f10 1 D (by omega)).trans h3, h4⟩
  obtain ⟨q1, q2, q3, q4, q5, q6, q7⟩ := h2 i m hm
  exact ⟨by rw [f7]; exact q1, q2, q3, q4, q5, MRc.ix q6 f1 f2 f3 f4 f7 (fun f x _ _ z => f10 f x z), (f10 506 _ (by omega)).trans q7.1, fun k x hx => (f10 403 _ (by omega)).trans (q7.2 k x hx)⟩
/-- the most of b t + 1 over the kinds t -/
def sp_bl (ms : List xMod) (b : Nat → Nat) (l : List xIns) (acc : Nat) : Nat := l.foldl (fun a x => match sp_kind ms x.1 with
  | none => a
  | some t => max a (b t + 1)) acc
theorem max_nI {a v : Nat} (ha : a < 2 ^ 31) (hv : v < 2 ^ 31) : (if nI a < nI v then nI v else nI a) = nI (max a v) := by
  by_cases e : a < v
  · rw [if_pos ((nI_ltI ha hv).mpr e), show max a v = v by omega]
  · rw [if_neg (fun z => e ((nI_ltI ha hv).mp z)), show max a v = a by omega]
theorem cw_blL {P : xP} {lng : Bool} {σ : xS} {D : Nat} {A H : Nat → Nat} {G : Nat → List Nat → Nat} {ms : List xMod} {top : Nat} (h : DK P lng σ D A H G ms top) {m : xMod} {ix M hi : Nat} {g : List Nat → Nat} (hr : MR σ g (fun f => (sp_kind ms f).map A) ix M hi m) (b : Nat → Nat) (hb : ∀ t, b t < 100) : ∀ (r j n : Nat) (acc : Int32), j + r = m.ins.length → r < n → ∃ v, dm_X5_belowByKinds_L4 P M n acc (nI j) σ = some (.inl v, σ) ∧ ((∀ x ∈ m.ins.drop j, ∀ t, sp_kind ms x.1 = some t → σ.I 512 (A t) = nI (b t)) → ∀ an, acc = nI an → an ≤ 100 → v = nI (sp_bl ms b (m.ins.drop j) an)) := by
  obtain ⟨⟨a1, a2, a3, a4, a5⟩, -, -, ⟨d1, d2, d3, d4, d5⟩, -, -, e3⟩ := hr
  intro r
  induction r with
  | zero =>
    intro j n acc hj hn
    obtain ⟨n, rfl⟩ : ∃ m, n = m + 1 := ⟨n - 1, by omega⟩
    have e : m.ins.drop j = [] := List.drop_eq_nil_of_le (by omega)
    rw [e]
    refine ⟨acc, ?_, fun _ an ha _ => ha⟩
    unfold dm_X5_belowByKinds_L4
    simp (disch := first | assumption | omega) [x_chk, x_some, x_bind, x_let, lit_nI, nI_add, nI_mul, nI_sub, nI_clamp, nI_eq, nI_ltI, nI_leI, nN_e, nI_nN, nN_nI, bI_0, bI_1, bI_n, bool_0, bool_1, in_T, lg_cmp0, ofN_nI, a2, d4, dle_T]
  | succ r ih =>
    intro j n acc hj hn'
    obtain ⟨n, rfl⟩ : ∃ m, n = m + 1 := ⟨n - 1, by omega⟩
    obtain ⟨x, hx⟩ : ∃ x, m.ins[j]? = some x := ⟨_, List.getElem?_eq_getElem (by omega)⟩
    have ed : m.ins.drop j = x :: m.ins.drop (j + 1) := by
      obtain ⟨hlt, hx3⟩ := List.getElem?_eq_some_iff.mp hx
      rw [List.drop_eq_getElem_cons hlt, hx3]
    obtain ⟨a, q1, q2⟩ := e3 j x hx
    have ka := q2.2.2.1
    have r6 := q2.2.2.2.2.2.2.2.2.2.2.2.1
    have i2 : ¬ m.ins.length ≤ j := by omega
    rw [ed]
    unfold dm_X5_belowByKinds_L4 dm_X5_belowByKinds_p43
    cases e : sp_kind ms x.1 with
    | none =>
      simp only [e, Option.map_none] at r6
      obtain ⟨v, t1, t2⟩ := ih (j + 1) n (if acc < nI 0 then nI 0 else acc) (by omega) (by omega)
      refine ⟨v, ?_, fun hx an ha hle => ?_⟩
      · rw [← t1]
        simp (disch := first | assumption | omega) [ck_T, sm_s, bd_l, bd_r, lt_e, eq_self, and_self, if_true, true_and, and_true, lit_nI, nI_add, nI_mul, nI_sub, nI_clamp, nI_eq, nI_ltI, nI_leI, nN_e, nI_nN, nN_nI, bI_0, bI_1, bI_n, bool_0, bool_1, in_T, lg_cmp0, ofN_nI, i2, a2, d1, d2, d3, d4, q1, ka, r6, x_in, dlt_T]
        rfl
      · have := t2 (fun y hy => hx y (List.mem_cons_of_mem _ hy)) an (by rw [ha, max_nI (by omega) (by omega), show max an 0 = an by omega]) hle
        rw [this]
        simp only [sp_bl, List.foldl_cons, e]
    | some t0 =>
      obtain ⟨k, hk, hk2, hk3⟩ := kind_get e
      simp only [e, Option.map_some] at r6
      have km := (h.2.1.2 t0 k hk).2.2.2.2.2.1
      have kk := km.1.2.1
      obtain ⟨v, t1, t2⟩ := ih (j + 1) n (if acc < σ.I 512 (A t0) + nI 1 then σ.I 512 (A t0) + nI 1 else acc) (by omega) (by omega)
      refine ⟨v, ?_, fun hx an ha hle => ?_⟩
      · rw [← t1]
        simp (disch := first | assumption | omega) [ck_T, sm_s, bd_l, bd_r, lt_e, eq_self, and_self, if_true, true_and, and_true, lit_nI, nI_add, nI_mul, nI_sub, nI_clamp, nI_eq, nI_ltI, nI_leI, nN_e, nI_nN, nN_nI, bI_0, bI_1, bI_n, bool_0, bool_1, in_T, lg_cmp0, ofN_nI, i2, a2, d1, d2, d3, d4, q1, ka, r6, kk, x_in, dlt_T]
        rfl
      · have b0 := hx x List.mem_cons_self t0 e
        have bt := hb t0
        have := t2 (fun y hy => hx y (List.mem_cons_of_mem _ hy)) (max an (b t0 + 1)) (by rw [ha, b0, nI_add, max_nI (by omega) (by omega)]) (by omega)
        rw [this]
        simp only [sp_bl, List.foldl_cons, e]
theorem bl_ge {ms : List xMod} {b : Nat → Nat} : ∀ (l : List xIns) (acc : Nat), acc ≤ sp_bl ms b l acc
  | [], acc => Nat.le_refl _
  | x :: l, acc => by
    simp only [sp_bl, List.foldl_cons]
    cases e : sp_kind ms x.1 with
    | none => exact bl_ge l acc
    | some t =>
      have := bl_ge (ms := ms) (b := b) l (max acc (b t + 1))
      simp only [sp_bl] at this
      exact Nat.le_trans (by omega) this
theorem bl_M {ms : List xMod} {b : Nat → Nat} : ∀ (l : List xIns) (acc : Nat), (∀ x ∈ l, ∀ t, sp_kind ms x.1 = some t → b t + 1 ≤ sp_bl ms b l acc) ∧ (sp_bl ms b l acc = acc ∨ ∃ x ∈ l, ∃ t, sp_kind ms x.1 = some t ∧ sp_bl ms b l acc = b t + 1)
  | [], acc => ⟨fun x hx => by simp at hx, Or.inl rfl⟩
  | x :: l, acc => by
    cases e : sp_kind ms x.1 with
    | none =>
      have eq : sp_bl ms b (x :: l) acc = sp_bl ms b l acc := by simp only [sp_bl, List.foldl_cons, e]
      obtain ⟨h1, h2⟩ := bl_M (ms := ms) (b := b) l acc
      rw [eq]
      refine ⟨fun y hy t ht => ?_, ?_⟩
      · rcases List.mem_cons.mp hy with q | q
        · rw [q, e] at ht; cases ht
        · exact h1 y q t ht
      · rcases h2 with q | ⟨y, hy, t, q1, q2⟩
        · exact Or.inl q
        · exact Or.inr ⟨y, List.mem_cons_of_mem _ hy, t, q1, q2⟩
    | some t0 =>
      have eq : sp_bl ms b (x :: l) acc = sp_bl ms b l (max acc (b t0 + 1)) := by simp only [sp_bl, List.foldl_cons, e]
      obtain ⟨h1, h2⟩ := bl_M (ms := ms) (b := b) l (max acc (b t0 + 1))
      have ge := bl_ge (ms := ms) (b := b) l (max acc (b t0 + 1))
      rw [eq]
      refine ⟨fun y hy t ht => ?_, ?_⟩
      · rcases List.mem_cons.mp hy with q | q
        · rw [q, e] at ht; cases ht; omega
        · exact h1 y q t ht
      · rcases h2 with q | ⟨y, hy, t, q1, q2⟩
        · by_cases z : acc ≤ b t0 + 1
          · exact Or.inr ⟨x, List.mem_cons_self, t0, e, by rw [q]; omega⟩
          · exact Or.inl (by rw [q]; omega)
        · exact Or.inr ⟨y, List.mem_cons_of_mem _ hy, t, q1, q2⟩
theorem bl_gr {ms : List xMod} {b : Nat → Nat} {i : Nat} {m : xMod} (hm : ms[i]? = some m) : gr_M (sp_has ms) ms.length b i (sp_bl ms b m.ins 0) := by
  obtain ⟨h1, h2⟩ := bl_M (ms := ms) (b := b) m.ins 0
  refine ⟨fun j hj he => ?_, ?_⟩
  · simp only [sp_has, hm, List.any_eq_true, decide_eq_true_eq] at he
    obtain ⟨x, hx, hk⟩ := he
    exact h1 x hx j hk
  · rcases h2 with q | ⟨x, hx, t, q1, q2⟩
    · exact Or.inl q
    · refine Or.inr ⟨t, (kind_get q1).choose_spec.2.2, ?_, q2⟩
      simp only [sp_has, hm, List.any_eq_true, decide_eq_true_eq]
      exact ⟨x, hx, q1⟩
theorem cw_below {P : xP} {lng : Bool} {σ : xS} {D : Nat} {A H : Nat → Nat} {G : Nat → List Nat → Nat} {ms : List xMod} {top : Nat} (h : DK P lng σ D A H G ms top) {m : xMod} {i : Nat} (hm : ms[i]? = some m) (b : Nat → Nat) (hb : ∀ t, b t < 100) : ∃ v, dm_X5_belowByKinds P (A i) σ = some (.inl v, σ) ∧ ((∀ t, t < ms.length → sp_has ms i t = true → σ.I 512 (A t) = nI (b t)) → ∃ w, v = nI w ∧ gr_M (sp_has ms) ms.length b i w) := by
  have hr := (h.2.1.2 i m hm).2.2.2.2.2.1
  obtain ⟨v, t1, t2⟩ := cw_blL h hr b hb m.ins.length 0 P.N (nI 0) (by omega) (by have := h.1.N; have := hr.2.2.2.1.2.2.2.2; omega)
  refine ⟨v, t1, fun hx => ⟨_, t2 (fun x hx' t ht => hx t (kind_get ht).choose_spec.2.2 ?_) 0 rfl (by omega), by rw [List.drop_zero]; exact bl_gr hm⟩⟩
  simp only [sp_has, hm, List.any_eq_true, decide_eq_true_eq]
  exact ⟨x, hx', ht⟩
/-- depths that are told already -/
def BD (σ : xS) (A : Nat → Nat) (d : Nat → Nat) (n : Nat) (S : Nat → Prop) : Prop := ∀ i, i < n → S i → σ.I 512 (A i) = nI (d i)
theorem A_inj {P : xP} {σ : xS} {kd : Nat → List Nat → Option Nat} {D : Nat} {A H : Nat → Nat} {G : Nat → List Nat → Nat} {ms : List xMod} {top : Nat} (h : DR P σ kd D A H G ms top) {i j : Nat} (hi : i < ms.length) (hj : j < ms.length) (hne : i ≠ j) : A i ≠ A j := by
  obtain ⟨x, hx⟩ : ∃ x, ms[i]? = some x := ⟨_, List.getElem?_eq_getElem hi⟩
  obtain ⟨y, hy⟩ : ∃ y, ms[j]? = some y := ⟨_, List.getElem?_eq_getElem hj⟩
  obtain ⟨p1, p2, p3, p4, p5, p6, p7⟩ := h.2 i x hx
  obtain ⟨q1, q2, q3, q4, q5, q6, q7⟩ := h.2 j y hy
  have a1 := p6.1.1
  have a2 := q6.1.1
  by_cases e : i < j
  · have := q5 i e; omega
  · have := p5 j (by omega); omega
theorem cw_mb12 {P : xP} {lng : Bool} {D : Nat} {A H : Nat → Nat} {G : Nat → List Nat → Nat} {ms : List xMod} {top rd : Nat} {d : Nat → Nat} {k2 : Int32 → xS → xO Unit} (hD : P.base + 9 ≤ D) (hd : ∀ k, k < ms.length → gr_M (sp_has ms) ms.length d k (d k)) (hd2 : ∀ k, d k < 100) : ∀ (r j n : Nat) (σ : xS), j + r = ms.length → r < n → DK P lng σ D A H G ms top → BD σ A d ms.length (fun i => d i < rd ∨ (i < j ∧ d i < rd + 1)) → ∃ σ', dm_X0_measureBelow_L12 P k2 D n (nI rd) (nI j) σ = k2 (nI (rd + 1)) σ' ∧ FZ (D + 2) σ σ' ∧ BD σ' A d ms.length (fun i => d i < rd + 1) := by
  intro r
  induction r with
  | zero =>
    intro j n σ hj hn h hb
    obtain ⟨n, rfl⟩ : ∃ m, n = m + 1 := ⟨n - 1, by omega⟩
    have a3 := h.2.1.1.2.2.1
    have hc := h.2.2.1
    have l8 := h.2.2.2.1
    refine ⟨σ, ?_, FZ.refl _ σ, fun i hi hs => hb i hi (Or.inr ⟨by omega, hs⟩)⟩
    unfold dm_X0_measureBelow_L12
    have i1 : ms.length ≤ j := by omega
    simp (disch := first | assumption | omega) [ck_T, sm_s, bd_l, bd_r, lt_e, eq_self, and_self, if_true, true_and, and_true, lit_nI, nI_add, nI_mul, nI_sub, nI_clamp, nI_eq, nI_ltI, nI_leI, nN_e, nI_nN, nN_nI, bI_0, bI_1, bI_n, bool_0, bool_1, in_T, lg_cmp0, ofN_nI, a3, hc, i1]
  | succ r ih =>
    intro j n σ hj hn h hb
    obtain ⟨n, rfl⟩ : ∃ m, n = m + 1 := ⟨n - 1, by omega⟩
    obtain ⟨x, hx⟩ : ∃ x, ms[j]? = some x := ⟨_, List.getElem?_eq_getElem (by omega)⟩
    obtain ⟨⟨a1, a2, a3, a4, a5, a6, a7⟩, h2⟩ := h.2.1
    have hc := h.2.2.1
    have l8 := h.2.2.2.1
    obtain ⟨q1, q2, q3, q4, q5, q6, q7⟩ := h2 j x hx
    have kA := q6.1.2.1
    obtain ⟨v, t1, t2⟩ := cw_below h hx d hd2
    have f1 : FZ (D + 2) σ (σ.setI 512 (A j) v) := by
      refine ⟨rfl, rfl, rfl, rfl, rfl, rfl, rfl, rfl, rfl, fun f y hf => ?_, fun f y hy => ?_⟩
      · simp [q_K_setI, q_I_setI, q_J_setI, q_R_setI, q_L_setI, q_AI_setI, q_AJ_setI, q_AR_setI, q_sz_setI, q_su_setI, q_K_setJ, q_I_setJ, q_J_setJ, q_R_setJ, q_L_setJ, q_AI_setJ, q_AJ_setJ, q_AR_setJ, q_sz_setJ, q_su_setJ, q_K_setR, q_I_setR, q_J_setR, q_R_setR, q_L_setR, q_AI_setR, q_AJ_setR, q_AR_setR, q_sz_setR, q_su_setR, q_K_setAI, q_I_setAI, q_J_setAI, q_R_setAI, q_L_setAI, q_AI_setAI, q_AJ_setAI, q_AR_setAI, q_sz_setAI, q_su_setAI, q_K_setAJ, q_I_setAJ, q_J_setAJ, q_R_setAJ, q_L_setAJ, q_AI_setAJ, q_AJ_setAJ, q_AR_setAJ, q_sz_setAJ, q_su_setAJ, q_K_setAR, q_I_setAR, q_J_setAR, q_R_setAR, q_L_setAR, q_AI_setAR, q_AJ_setAR, q_AR_setAR, q_sz_setAR, q_su_setAR, q_K_newO, q_I_newO, q_J_newO, q_R_newO, q_L_newO, q_AI_newO, q_AJ_newO, q_AR_newO, q_sz_newO, q_su_newO, q_K_newA, q_I_newA, q_J_newA, q_R_newA, q_L_newA, q_AI_newA, q_AJ_newA, q_AR_newA, q_sz_newA, q_su_newA, q_K_skip, q_I_skip, q_J_skip, q_R_skip, q_L_skip, q_AI_skip, q_AJ_skip, q_AR_skip, q_sz_skip, q_su_skip, q_up2, q_up, hf]
      · have : ¬ y = A j := by omega
        simp [q_K_setI, q_I_setI, q_J_setI, q_R_setI, q_L_setI, q_AI_setI, q_AJ_setI, q_AR_setI, q_sz_setI, q_su_setI, q_K_setJ, q_I_setJ, q_J_setJ, q_R_setJ, q_L_setJ, q_AI_setJ, q_AJ_setJ, q_AR_setJ, q_sz_setJ, q_su_setJ, q_K_setR, q_I_setR, q_J_setR, q_R_setR, q_L_setR, q_AI_setR, q_AJ_setR, q_AR_setR, q_sz_setR, q_su_setR, q_K_setAI, q_I_setAI, q_J_setAI, q_R_setAI, q_L_setAI, q_AI_setAI, q_AJ_setAI, q_AR_setAI, q_sz_setAI, q_su_setAI, q_K_setAJ, q_I_setAJ, q_J_setAJ, q_R_setAJ, q_L_setAJ, q_AI_setAJ, q_AJ_setAJ, q_AR_setAJ, q_sz_setAJ, q_su_setAJ, q_K_setAR, q_I_setAR, q_J_setAR, q_R_setAR, q_L_setAR, q_AI_setAR, q_AJ_setAR, q_AR_setAR, q_sz_setAR, q_su_setAR, q_K_newO, q_I_newO, q_J_newO, q_R_newO, q_L_newO, q_AI_newO, q_AJ_newO, q_AR_newO, q_sz_newO, q_su_newO, q_K_newA, q_I_newA, q_J_newA, q_R_newA, q_L_newA, q_AI_newA, q_AJ_newA, q_AR_newA, q_sz_newA, q_su_newA, q_K_skip, q_I_skip, q_J_skip, q_R_skip, q_L_skip, q_AI_skip, q_AJ_skip, q_AR_skip, q_sz_skip, q_su_skip, q_up2, q_up, this]
    have hb1 : BD (σ.setI 512 (A j) v) A d ms.length (fun i => d i < rd ∨ (i < j + 1 ∧ d i < rd + 1)) := by
      intro i hi hs
      by_cases e : i = j
      · subst e
        have hlt : d i < rd + 1 := by omega
        obtain ⟨w, w1, w2⟩ := t2 (fun t ht he => hb t ht (Or.inl (by have := (hd i hi).1 t ht he; omega)))
        have := w2.uniq (hd i hi) (fun _ _ _ => rfl)
        rw [this] at w1
        simp [q_K_setI, q_I_setI, q_J_setI, q_R_setI, q_L_setI, q_AI_setI, q_AJ_setI, q_AR_setI, q_sz_setI, q_su_setI, q_K_setJ, q_I_setJ, q_J_setJ, q_R_setJ, q_L_setJ, q_AI_setJ, q_AJ_setJ, q_AR_setJ, q_sz_setJ, q_su_setJ, q_K_setR, q_I_setR, q_J_setR, q_R_setR, q_L_setR, q_AI_setR, q_AJ_setR, q_AR_setR, q_sz_setR, q_su_setR, q_K_setAI, q_I_setAI, q_J_setAI, q_R_setAI, q_L_setAI, q_AI_setAI, q_AJ_setAI, q_AR_setAI, q_sz_setAI, q_su_setAI, q_K_setAJ, q_I_setAJ, q_J_setAJ, q_R_setAJ, q_L_setAJ, q_AI_setAJ, q_AJ_setAJ, q_AR_setAJ, q_sz_setAJ, q_su_setAJ, q_K_setAR, q_I_setAR, q_J_setAR, q_R_setAR, q_L_setAR, q_AI_setAR, q_AJ_setAR, q_AR_setAR, q_sz_setAR, q_su_setAR, q_K_newO, q_I_newO, q_J_newO, q_R_newO, q_L_newO, q_AI_newO, q_AJ_newO, q_AR_newO, q_sz_newO, q_su_newO, q_K_newA, q_I_newA, q_J_newA, q_R_newA, q_L_newA, q_AI_newA, q_AJ_newA, q_AR_newA, q_sz_newA, q_su_newA, q_K_skip, q_I_skip, q_J_skip, q_R_skip, q_L_skip, q_AI_skip, q_AJ_skip, q_AR_skip, q_sz_skip, q_su_skip, q_up2, q_up, w1]
      · have := A_inj h.2.1 hi (show j < ms.length by omega) e
        have hs' : d i < rd ∨ (i < j ∧ d i < rd + 1) := by omega
        simp [q_K_setI, q_I_setI, q_J_setI, q_R_setI, q_L_setI, q_AI_setI, q_AJ_setI, q_AR_setI, q_sz_setI, q_su_setI, q_K_setJ, q_I_setJ, q_J_setJ, q_R_setJ, q_L_setJ, q_AI_setJ, q_AJ_setJ, q_AR_setJ, q_sz_setJ, q_su_setJ, q_K_setR, q_I_setR, q_J_setR, q_R_setR, q_L_setR, q_AI_setR, q_AJ_setR, q_AR_setR, q_sz_setR, q_su_setR, q_K_setAI, q_I_setAI, q_J_setAI, q_R_setAI, q_L_setAI, q_AI_setAI, q_AJ_setAI, q_AR_setAI, q_sz_setAI, q_su_setAI, q_K_setAJ, q_I_setAJ, q_J_setAJ, q_R_setAJ, q_L_setAJ, q_AI_setAJ, q_AJ_setAJ, q_AR_setAJ, q_sz_setAJ, q_su_setAJ, q_K_setAR, q_I_setAR, q_J_setAR, q_R_setAR, q_L_setAR, q_AI_setAR, q_AJ_setAR, q_AR_setAR, q_sz_setAR, q_su_setAR, q_K_newO, q_I_newO, q_J_newO, q_R_newO, q_L_newO, q_AI_newO, q_AJ_newO, q_AR_newO, q_sz_newO, q_su_newO, q_K_newA, q_I_newA, q_J_newA, q_R_newA, q_L_newA, q_AI_newA, q_AJ_newA, q_AR_newA, q_sz_newA, q_su_newA, q_K_skip, q_I_skip, q_J_skip, q_R_skip, q_L_skip, q_AI_skip, q_AJ_skip, q_AR_skip, q_sz_skip, q_su_skip, q_up2, q_up, this]
        exact hb i hi hs'
    obtain ⟨σ', s1, s2, s3⟩ := ih (j + 1) n (σ.setI 512 (A j) v) (by omega) (by omega) (h.fz f1) hb1
    refine ⟨σ', ?_, f1.trans s2, s3⟩
    unfold dm_X0_measureBelow_L12
    rw [← s1]
    have i2 : ¬ ms.length ≤ j := by omega
    simp (disch := first | assumption | omega) [ck_T, sm_s, bd_l, bd_r, lt_e, eq_self, and_self, if_true, true_and, and_true, lit_nI, nI_add, nI_mul, nI_sub, nI_clamp, nI_eq, nI_ltI, nI_leI, nN_e, nI_nN, nN_nI, bI_0, bI_1, bI_n, bool_0, bool_1, in_T, lg_cmp0, ofN_nI, i2, a3, a4, a5, a6, hc, q1, kA, t1, x_in, dlt_T, dle_T]
theorem cw_mb2 {P : xP} {lng : Bool} {D : Nat} {A H : Nat → Nat} {G : Nat → List Nat → Nat} {ms : List xMod} {top : Nat} {d : Nat → Nat} (hD : P.base + 9 ≤ D) (hd : ∀ k, k < ms.length → gr_M (sp_has ms) ms.length d k (d k)) (hd2 : ∀ k, d k < 100) : ∀ (r rd n : Nat) (σ : xS), rd + r = ms.length → r < n → DK P lng σ D A H G ms top → BD σ A d ms.length (fun i => d i < rd) → ∃ σ', dm_X0_measureBelow_L2 P D n (nI rd) σ = some (.inl (), σ') ∧ FZ (D + 2) σ σ' ∧ BD σ' A d ms.length (fun i => d i < ms.length) := by
  intro r
  induction r with
  | zero =>
    intro rd n σ hj hn h hb
    obtain ⟨n, rfl⟩ : ∃ m, n = m + 1 := ⟨n - 1, by omega⟩
    have a3 := h.2.1.1.2.2.1
    have hc := h.2.2.1
    have l8 := h.2.2.2.1
    refine ⟨σ, ?_, FZ.refl _ σ, fun i hi hs => hb i hi (by omega)⟩
    unfold dm_X0_measureBelow_L2
    have i1 : ms.length ≤ rd := by omega
    simp (disch := first | assumption | omega) [ck_T, sm_s, bd_l, bd_r, lt_e, eq_self, and_self, if_true, true_and, and_true, lit_nI, nI_add, nI_mul, nI_sub, nI_clamp, nI_eq, nI_ltI, nI_leI, nN_e, nI_nN, nN_nI, bI_0, bI_1, bI_n, bool_0, bool_1, in_T, lg_cmp0, ofN_nI, a3, hc, i1]
  | succ r ih =>
    intro rd n σ hj hn h hb
    obtain ⟨n, rfl⟩ : ∃ m, n = m + 1 := ⟨n - 1, by omega⟩
    have a3 := h.2.1.1.2.2.1
    have hc := h.2.2.1
    have l8 := h.2.2.2.1
    have i2 : ¬ ms.length ≤ rd := by omega
    obtain ⟨σ1, t1, t2, t3⟩ := cw_mb12 (P := P) (lng := lng) (A := A) (H := H) (G := G) (top := top) (rd := rd) (k2 := dm_X0_measureBelow_L2 P D n) hD hd hd2 ms.length 0 P.N σ (by omega) (by have := h.1.N; omega) h (fun i hi hs => hb i hi (by omega))
    obtain ⟨σ', s1, s2, s3⟩ := ih (rd + 1) n σ1 (by omega) (by omega) (h.fz t2) t3
    refine ⟨σ', ?_, t2.trans s2, s3⟩
    unfold dm_X0_measureBelow_L2
    rw [← s1, ← t1]
    simp (disch := first | assumption | omega) [ck_T, sm_s, bd_l, bd_r, lt_e, eq_self, and_self, if_true, true_and, and_true, lit_nI, nI_add, nI_mul, nI_sub, nI_clamp, nI_eq, nI_ltI, nI_leI, nN_e, nI_nN, nN_nI, bI_0, bI_1, bI_n, bool_0, bool_1, in_T, lg_cmp0, ofN_nI, i2, a3, hc]
