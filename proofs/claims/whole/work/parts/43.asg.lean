/-! ===== the class: assigns ===== -/
theorem Sms.refl (σ : xS) (lo hi : Nat) : Sms σ σ lo hi := fun b _ _ => Sm.refl σ b
theorem Sms.trans {σ σ' σ'' : xS} {lo hi : Nat} (f : Sms σ σ' lo hi) (g : Sms σ' σ'' lo hi) : Sms σ σ'' lo hi := fun b h1 h2 => (f b h1 h2).trans (g b h1 h2)
theorem Sms.mono {σ σ' : xS} {lo hi lo' hi' : Nat} (f : Sms σ σ' lo hi) (h1 : lo ≤ lo' := by omega) (h2 : hi' ≤ hi := by omega) : Sms σ σ' lo' hi' := fun b q1 q2 => f b (by omega) (by omega)
theorem Sms.tI {σ σ1 : xS} {lo hi k a : Nat} {v : Int32} (f : Sms σ σ1 lo hi) (h : a < lo ∨ hi ≤ a) : Sms σ (σ1.setI k a v) lo hi := fun b h1 h2 => (f b h1 h2).trans ⟨rfl, rfl, fun _ => x_up2_a (by omega), fun _ => rfl, fun _ => rfl, fun _ => rfl, fun _ => rfl, fun _ => rfl⟩
theorem Sms.tJ {σ σ1 : xS} {lo hi k a : Nat} {v : Int64} (f : Sms σ σ1 lo hi) (h : a < lo ∨ hi ≤ a) : Sms σ (σ1.setJ k a v) lo hi := fun b h1 h2 => (f b h1 h2).trans ⟨rfl, rfl, fun _ => rfl, fun _ => x_up2_a (by omega), fun _ => rfl, fun _ => rfl, fun _ => rfl, fun _ => rfl⟩
theorem Sms.tR {σ σ1 : xS} {lo hi k a : Nat} {v : Option Nat} (f : Sms σ σ1 lo hi) (h : a < lo ∨ hi ≤ a) : Sms σ (σ1.setR k a v) lo hi := fun b h1 h2 => (f b h1 h2).trans ⟨rfl, rfl, fun _ => rfl, fun _ => rfl, fun _ => x_up2_a (by omega), fun _ => rfl, fun _ => rfl, fun _ => rfl⟩
theorem Sms.tAR {σ σ1 : xS} {lo hi a i : Nat} {v : Option Nat} (f : Sms σ σ1 lo hi) (h : a < lo ∨ hi ≤ a) : Sms σ (σ1.setAR a i v) lo hi := fun b h1 h2 => (f b h1 h2).trans ⟨rfl, rfl, fun _ => rfl, fun _ => rfl, fun _ => rfl, fun _ => rfl, fun _ => rfl, fun _ => x_up2_k (by omega)⟩
theorem app_get {α : Type} {l : List α} {y x : α} {k : Nat} (h : (l ++ [y])[k]? = some x) : (k < l.length ∧ l[k]? = some x) ∨ (k = l.length ∧ x = y) := by
  by_cases e : k < l.length
  · left
    rw [List.getElem?_append_left e] at h
    exact ⟨e, h⟩
  · right
    rw [List.getElem?_append_right (by omega)] at h
    by_cases e2 : k - l.length = 0
    · rw [e2] at h
      simp at h
      exact ⟨by omega, h.symm⟩
    · rw [List.getElem?_eq_none (by simp; omega)] at h
      cases h
theorem get_lt {α : Type} {l : List α} {x : α} {k : Nat} (h : l[k]? = some x) : k < l.length := (List.getElem?_eq_some_iff.mp h).1
def xMod.wAsg (m : xMod) (a : xPart × xPart) : xMod := (m.nm, m.pl, m.ports, m.wires, m.asg ++ [a], m.ins)
theorem cw_addAssign {P : xP} {σ : xS} {g : List Nat → Nat} {kd : List Nat → Option Nat} {ix M hi a b : Nat} {m : xMod} {x y : xPart} (h : MR σ g kd ix M hi m) (hM : P.base + 44 ≤ M) (ha : PartR σ g (M + 5) hi a x) (hb : PartR σ g (M + 5) hi b y) (hn : m.asg.length < 8) : ∃ σ', dm_X5_addAssign P M (some a) (some b) σ = some (.inl (), σ') ∧ Fr P M 0 σ σ' ∧ σ'.I 906 (P.base + 1) = σ.I 906 (P.base + 1) ∧ σ'.sz = σ.sz ∧ MR σ' g kd ix M hi (m.wAsg (x, y)) := by
  obtain ⟨⟨a1, a2, a3, a4, a5⟩, ⟨b1, b2, b3, b4, b5, b6⟩, ⟨c1, c2, c3, c4, c5, c6, c7, c8⟩, ⟨d1, d2, d3, d4, d5⟩, e1, e2, e3⟩ := h
  have ka := ha.2.2.1
  have kb := hb.2.2.1
  refine ⟨((σ.setAR (M + 2) m.asg.length (some a)).setAR (M + 3) m.asg.length (some b)).setI 509 M (nI (m.asg.length + 1)), ?_, ?_, ?_, rfl, ?_⟩
  · unfold dm_X5_addAssign dm_X5_addAssign_p39
    have n8 : ¬ 8 ≤ m.asg.length := by omega
    simp (disch := first | assumption | omega) [x_chk, x_some, x_bind, x_let, lit_nI, nI_add, nI_mul, nI_sub, nI_clamp, nI_eq, nI_ltI, nI_leI, nN_e, nI_nN, nN_nI, bI_0, bI_1, bI_n, bool_0, bool_1, in_T, lg_cmp0, ofN_nI, q_K_setI, q_I_setI, q_J_setI, q_R_setI, q_L_setI, q_AI_setI, q_AJ_setI, q_AR_setI, q_sz_setI, q_su_setI, q_K_setJ, q_I_setJ, q_J_setJ, q_R_setJ, q_L_setJ, q_AI_setJ, q_AJ_setJ, q_AR_setJ, q_sz_setJ, q_su_setJ, q_K_setR, q_I_setR, q_J_setR, q_R_setR, q_L_setR, q_AI_setR, q_AJ_setR, q_AR_setR, q_sz_setR, q_su_setR, q_K_setAI, q_I_setAI, q_J_setAI, q_R_setAI, q_L_setAI, q_AI_setAI, q_AJ_setAI, q_AR_setAI, q_sz_setAI, q_su_setAI, q_K_setAJ, q_I_setAJ, q_J_setAJ, q_R_setAJ, q_L_setAJ, q_AI_setAJ, q_AJ_setAJ, q_AR_setAJ, q_sz_setAJ, q_su_setAJ, q_K_setAR, q_I_setAR, q_J_setAR, q_R_setAR, q_L_setAR, q_AI_setAR, q_AJ_setAR, q_AR_setAR, q_sz_setAR, q_su_setAR, q_K_newO, q_I_newO, q_J_newO, q_R_newO, q_L_newO, q_AI_newO, q_AJ_newO, q_AR_newO, q_sz_newO, q_su_newO, q_K_newA, q_I_newA, q_J_newA, q_R_newA, q_L_newA, q_AI_newA, q_AJ_newA, q_AR_newA, q_sz_newA, q_su_newA, q_K_skip, q_I_skip, q_J_skip, q_R_skip, q_L_skip, q_AI_skip, q_AJ_skip, q_AR_skip, q_sz_skip, q_su_skip, a2, c1, c2, c3, c4, c5, c6, c7, n8, x_kind, x_kb, ka, kb, dlt_T, dle_T]
  · exact ((Fr.refl P M σ).thenAR (by omega) (by omega)).thenAR (by omega) (by omega) |>.thenI (by omega) (by omega)
  · simp [q_K_setI, q_I_setI, q_J_setI, q_R_setI, q_L_setI, q_AI_setI, q_AJ_setI, q_AR_setI, q_sz_setI, q_su_setI, q_K_setJ, q_I_setJ, q_J_setJ, q_R_setJ, q_L_setJ, q_AI_setJ, q_AJ_setJ, q_AR_setJ, q_sz_setJ, q_su_setJ, q_K_setR, q_I_setR, q_J_setR, q_R_setR, q_L_setR, q_AI_setR, q_AJ_setR, q_AR_setR, q_sz_setR, q_su_setR, q_K_setAI, q_I_setAI, q_J_setAI, q_R_setAI, q_L_setAI, q_AI_setAI, q_AJ_setAI, q_AR_setAI, q_sz_setAI, q_su_setAI, q_K_setAJ, q_I_setAJ, q_J_setAJ, q_R_setAJ, q_L_setAJ, q_AI_setAJ, q_AJ_setAJ, q_AR_setAJ, q_sz_setAJ, q_su_setAJ, q_K_setAR, q_I_setAR, q_J_setAR, q_R_setAR, q_L_setAR, q_AI_setAR, q_AJ_setAR, q_AR_setAR, q_sz_setAR, q_su_setAR, q_K_newO, q_I_newO, q_J_newO, q_R_newO, q_L_newO, q_AI_newO, q_AJ_newO, q_AR_newO, q_sz_newO, q_su_newO, q_K_newA, q_I_newA, q_J_newA, q_R_newA, q_L_newA, q_AI_newA, q_AJ_newA, q_AR_newA, q_sz_newA, q_su_newA, q_K_skip, q_I_skip, q_J_skip, q_R_skip, q_L_skip, q_AI_skip, q_AJ_skip, q_AR_skip, q_sz_skip, q_su_skip, q_up2, q_up]
  · have s : Sms σ (((σ.setAR (M + 2) m.asg.length (some a)).setAR (M + 3) m.asg.length (some b)).setI 509 M (nI (m.asg.length + 1))) (M + 5) hi := (((Sms.refl σ _ _).tAR (by omega)).tAR (by omega)).tI (by omega)
    refine ⟨⟨a1, a2, ?_, a4, ?_⟩, ⟨b1, b2, b3, ?_, ?_, b6⟩, ⟨c1, c2, c3, c4, c5, c6, ?_, ?_⟩, ⟨d1, d2, d3, ?_, d5⟩, fun k z hz => ?_, fun k z hz => ?_, fun k z hz => ?_⟩
    · simp [q_K_setI, q_I_setI, q_J_setI, q_R_setI, q_L_setI, q_AI_setI, q_AJ_setI, q_AR_setI, q_sz_setI, q_su_setI, q_K_setJ, q_I_setJ, q_J_setJ, q_R_setJ, q_L_setJ, q_AI_setJ, q_AJ_setJ, q_AR_setJ, q_sz_setJ, q_su_setJ, q_K_setR, q_I_setR, q_J_setR, q_R_setR, q_L_setR, q_AI_setR, q_AJ_setR, q_AR_setR, q_sz_setR, q_su_setR, q_K_setAI, q_I_setAI, q_J_setAI, q_R_setAI, q_L_setAI, q_AI_setAI, q_AJ_setAI, q_AR_setAI, q_sz_setAI, q_su_setAI, q_K_setAJ, q_I_setAJ, q_J_setAJ, q_R_setAJ, q_L_setAJ, q_AI_setAJ, q_AJ_setAJ, q_AR_setAJ, q_sz_setAJ, q_su_setAJ, q_K_setAR, q_I_setAR, q_J_setAR, q_R_setAR, q_L_setAR, q_AI_setAR, q_AJ_setAR, q_AR_setAR, q_sz_setAR, q_su_setAR, q_K_newO, q_I_newO, q_J_newO, q_R_newO, q_L_newO, q_AI_newO, q_AJ_newO, q_AR_newO, q_sz_newO, q_su_newO, q_K_newA, q_I_newA, q_J_newA, q_R_newA, q_L_newA, q_AI_newA, q_AJ_newA, q_AR_newA, q_sz_newA, q_su_newA, q_K_skip, q_I_skip, q_J_skip, q_R_skip, q_L_skip, q_AI_skip, q_AJ_skip, q_AR_skip, q_sz_skip, q_su_skip, q_up2, q_up, a3]
    · simp [q_K_setI, q_I_setI, q_J_setI, q_R_setI, q_L_setI, q_AI_setI, q_AJ_setI, q_AR_setI, q_sz_setI, q_su_setI, q_K_setJ, q_I_setJ, q_J_setJ, q_R_setJ, q_L_setJ, q_AI_setJ, q_AJ_setJ, q_AR_setJ, q_sz_setJ, q_su_setJ, q_K_setR, q_I_setR, q_J_setR, q_R_setR, q_L_setR, q_AI_setR, q_AJ_setR, q_AR_setR, q_sz_setR, q_su_setR, q_K_setAI, q_I_setAI, q_J_setAI, q_R_setAI, q_L_setAI, q_AI_setAI, q_AJ_setAI, q_AR_setAI, q_sz_setAI, q_su_setAI, q_K_setAJ, q_I_setAJ, q_J_setAJ, q_R_setAJ, q_L_setAJ, q_AI_setAJ, q_AJ_setAJ, q_AR_setAJ, q_sz_setAJ, q_su_setAJ, q_K_setAR, q_I_setAR, q_J_setAR, q_R_setAR, q_L_setAR, q_AI_setAR, q_AJ_setAR, q_AR_setAR, q_sz_setAR, q_su_setAR, q_K_newO, q_I_newO, q_J_newO, q_R_newO, q_L_newO, q_AI_newO, q_AJ_newO, q_AR_newO, q_sz_newO, q_su_newO, q_K_newA, q_I_newA, q_J_newA, q_R_newA, q_L_newA, q_AI_newA, q_AJ_newA, q_AR_newA, q_sz_newA, q_su_newA, q_K_skip, q_I_skip, q_J_skip, q_R_skip, q_L_skip, q_AI_skip, q_AJ_skip, q_AR_skip, q_sz_skip, q_su_skip, q_up2, q_up]; exact a5
    · simp [q_K_setI, q_I_setI, q_J_setI, q_R_setI, q_L_setI, q_AI_setI, q_AJ_setI, q_AR_setI, q_sz_setI, q_su_setI, q_K_setJ, q_I_setJ, q_J_setJ, q_R_setJ, q_L_setJ, q_AI_setJ, q_AJ_setJ, q_AR_setJ, q_sz_setJ, q_su_setJ, q_K_setR, q_I_setR, q_J_setR, q_R_setR, q_L_setR, q_AI_setR, q_AJ_setR, q_AR_setR, q_sz_setR, q_su_setR, q_K_setAI, q_I_setAI, q_J_setAI, q_R_setAI, q_L_setAI, q_AI_setAI, q_AJ_setAI, q_AR_setAI, q_sz_setAI, q_su_setAI, q_K_setAJ, q_I_setAJ, q_J_setAJ, q_R_setAJ, q_L_setAJ, q_AI_setAJ, q_AJ_setAJ, q_AR_setAJ, q_sz_setAJ, q_su_setAJ, q_K_setAR, q_I_setAR, q_J_setAR, q_R_setAR, q_L_setAR, q_AI_setAR, q_AJ_setAR, q_AR_setAR, q_sz_setAR, q_su_setAR, q_K_newO, q_I_newO, q_J_newO, q_R_newO, q_L_newO, q_AI_newO, q_AJ_newO, q_AR_newO, q_sz_newO, q_su_newO, q_K_newA, q_I_newA, q_J_newA, q_R_newA, q_L_newA, q_AI_newA, q_AJ_newA, q_AR_newA, q_sz_newA, q_su_newA, q_K_skip, q_I_skip, q_J_skip, q_R_skip, q_L_skip, q_AI_skip, q_AJ_skip, q_AR_skip, q_sz_skip, q_su_skip, q_up2, q_up]; exact b4
    · simp [q_K_setI, q_I_setI, q_J_setI, q_R_setI, q_L_setI, q_AI_setI, q_AJ_setI, q_AR_setI, q_sz_setI, q_su_setI, q_K_setJ, q_I_setJ, q_J_setJ, q_R_setJ, q_L_setJ, q_AI_setJ, q_AJ_setJ, q_AR_setJ, q_sz_setJ, q_su_setJ, q_K_setR, q_I_setR, q_J_setR, q_R_setR, q_L_setR, q_AI_setR, q_AJ_setR, q_AR_setR, q_sz_setR, q_su_setR, q_K_setAI, q_I_setAI, q_J_setAI, q_R_setAI, q_L_setAI, q_AI_setAI, q_AJ_setAI, q_AR_setAI, q_sz_setAI, q_su_setAI, q_K_setAJ, q_I_setAJ, q_J_setAJ, q_R_setAJ, q_L_setAJ, q_AI_setAJ, q_AJ_setAJ, q_AR_setAJ, q_sz_setAJ, q_su_setAJ, q_K_setAR, q_I_setAR, q_J_setAR, q_R_setAR, q_L_setAR, q_AI_setAR, q_AJ_setAR, q_AR_setAR, q_sz_setAR, q_su_setAR, q_K_newO, q_I_newO, q_J_newO, q_R_newO, q_L_newO, q_AI_newO, q_AJ_newO, q_AR_newO, q_sz_newO, q_su_newO, q_K_newA, q_I_newA, q_J_newA, q_R_newA, q_L_newA, q_AI_newA, q_AJ_newA, q_AR_newA, q_sz_newA, q_su_newA, q_K_skip, q_I_skip, q_J_skip, q_R_skip, q_L_skip, q_AI_skip, q_AJ_skip, q_AR_skip, q_sz_skip, q_su_skip, q_up2, q_up]; exact b5
    · simp [q_K_setI, q_I_setI, q_J_setI, q_R_setI, q_L_setI, q_AI_setI, q_AJ_setI, q_AR_setI, q_sz_setI, q_su_setI, q_K_setJ, q_I_setJ, q_J_setJ, q_R_setJ, q_L_setJ, q_AI_setJ, q_AJ_setJ, q_AR_setJ, q_sz_setJ, q_su_setJ, q_K_setR, q_I_setR, q_J_setR, q_R_setR, q_L_setR, q_AI_setR, q_AJ_setR, q_AR_setR, q_sz_setR, q_su_setR, q_K_setAI, q_I_setAI, q_J_setAI, q_R_setAI, q_L_setAI, q_AI_setAI, q_AJ_setAI, q_AR_setAI, q_sz_setAI, q_su_setAI, q_K_setAJ, q_I_setAJ, q_J_setAJ, q_R_setAJ, q_L_setAJ, q_AI_setAJ, q_AJ_setAJ, q_AR_setAJ, q_sz_setAJ, q_su_setAJ, q_K_setAR, q_I_setAR, q_J_setAR, q_R_setAR, q_L_setAR, q_AI_setAR, q_AJ_setAR, q_AR_setAR, q_sz_setAR, q_su_setAR, q_K_newO, q_I_newO, q_J_newO, q_R_newO, q_L_newO, q_AI_newO, q_AJ_newO, q_AR_newO, q_sz_newO, q_su_newO, q_K_newA, q_I_newA, q_J_newA, q_R_newA, q_L_newA, q_AI_newA, q_AJ_newA, q_AR_newA, q_sz_newA, q_su_newA, q_K_skip, q_I_skip, q_J_skip, q_R_skip, q_L_skip, q_AI_skip, q_AJ_skip, q_AR_skip, q_sz_skip, q_su_skip, q_up2, q_up, xMod.wAsg, xMod.asg]
    · simp [xMod.wAsg, xMod.asg] at hn ⊢; omega
    · simp [q_K_setI, q_I_setI, q_J_setI, q_R_setI, q_L_setI, q_AI_setI, q_AJ_setI, q_AR_setI, q_sz_setI, q_su_setI, q_K_setJ, q_I_setJ, q_J_setJ, q_R_setJ, q_L_setJ, q_AI_setJ, q_AJ_setJ, q_AR_setJ, q_sz_setJ, q_su_setJ, q_K_setR, q_I_setR, q_J_setR, q_R_setR, q_L_setR, q_AI_setR, q_AJ_setR, q_AR_setR, q_sz_setR, q_su_setR, q_K_setAI, q_I_setAI, q_J_setAI, q_R_setAI, q_L_setAI, q_AI_setAI, q_AJ_setAI, q_AR_setAI, q_sz_setAI, q_su_setAI, q_K_setAJ, q_I_setAJ, q_J_setAJ, q_R_setAJ, q_L_setAJ, q_AI_setAJ, q_AJ_setAJ, q_AR_setAJ, q_sz_setAJ, q_su_setAJ, q_K_setAR, q_I_setAR, q_J_setAR, q_R_setAR, q_L_setAR, q_AI_setAR, q_AJ_setAR, q_AR_setAR, q_sz_setAR, q_su_setAR, q_K_newO, q_I_newO, q_J_newO, q_R_newO, q_L_newO, q_AI_newO, q_AJ_newO, q_AR_newO, q_sz_newO, q_su_newO, q_K_newA, q_I_newA, q_J_newA, q_R_newA, q_L_newA, q_AI_newA, q_AJ_newA, q_AR_newA, q_sz_newA, q_su_newA, q_K_skip, q_I_skip, q_J_skip, q_R_skip, q_L_skip, q_AI_skip, q_AJ_skip, q_AR_skip, q_sz_skip, q_su_skip, q_up2, q_up]; exact d4
    · obtain ⟨q1, q2⟩ := e1 k z hz
      refine ⟨?_, q2.sm s (Nat.le_refl _)⟩
      simp [q_K_setI, q_I_setI, q_J_setI, q_R_setI, q_L_setI, q_AI_setI, q_AJ_setI, q_AR_setI, q_sz_setI, q_su_setI, q_K_setJ, q_I_setJ, q_J_setJ, q_R_setJ, q_L_setJ, q_AI_setJ, q_AJ_setJ, q_AR_setJ, q_sz_setJ, q_su_setJ, q_K_setR, q_I_setR, q_J_setR, q_R_setR, q_L_setR, q_AI_setR, q_AJ_setR, q_AR_setR, q_sz_setR, q_su_setR, q_K_setAI, q_I_setAI, q_J_setAI, q_R_setAI, q_L_setAI, q_AI_setAI, q_AJ_setAI, q_AR_setAI, q_sz_setAI, q_su_setAI, q_K_setAJ, q_I_setAJ, q_J_setAJ, q_R_setAJ, q_L_setAJ, q_AI_setAJ, q_AJ_setAJ, q_AR_setAJ, q_sz_setAJ, q_su_setAJ, q_K_setAR, q_I_setAR, q_J_setAR, q_R_setAR, q_L_setAR, q_AI_setAR, q_AJ_setAR, q_AR_setAR, q_sz_setAR, q_su_setAR, q_K_newO, q_I_newO, q_J_newO, q_R_newO, q_L_newO, q_AI_newO, q_AJ_newO, q_AR_newO, q_sz_newO, q_su_newO, q_K_newA, q_I_newA, q_J_newA, q_R_newA, q_L_newA, q_AI_newA, q_AJ_newA, q_AR_newA, q_sz_newA, q_su_newA, q_K_skip, q_I_skip, q_J_skip, q_R_skip, q_L_skip, q_AI_skip, q_AJ_skip, q_AR_skip, q_sz_skip, q_su_skip, q_up2, q_up, q1]
    · have hz' : (m.asg ++ [(x, y)])[k]? = some z := hz
      rcases app_get hz' with ⟨q0, q⟩ | ⟨q0, q⟩
      · obtain ⟨u, v, q1, q2, q3, q4⟩ := e2 k z q
        have : ¬ k = m.asg.length := by omega
        refine ⟨u, v, ?_, ?_, q3.sm s (Nat.le_refl _), q4.sm s (Nat.le_refl _)⟩
        · simp [q_K_setI, q_I_setI, q_J_setI, q_R_setI, q_L_setI, q_AI_setI, q_AJ_setI, q_AR_setI, q_sz_setI, q_su_setI, q_K_setJ, q_I_setJ, q_J_setJ, q_R_setJ, q_L_setJ, q_AI_setJ, q_AJ_setJ, q_AR_setJ, q_sz_setJ, q_su_setJ, q_K_setR, q_I_setR, q_J_setR, q_R_setR, q_L_setR, q_AI_setR, q_AJ_setR, q_AR_setR, q_sz_setR, q_su_setR, q_K_setAI, q_I_setAI, q_J_setAI, q_R_setAI, q_L_setAI, q_AI_setAI, q_AJ_setAI, q_AR_setAI, q_sz_setAI, q_su_setAI, q_K_setAJ, q_I_setAJ, q_J_setAJ, q_R_setAJ, q_L_setAJ, q_AI_setAJ, q_AJ_setAJ, q_AR_setAJ, q_sz_setAJ, q_su_setAJ, q_K_setAR, q_I_setAR, q_J_setAR, q_R_setAR, q_L_setAR, q_AI_setAR, q_AJ_setAR, q_AR_setAR, q_sz_setAR, q_su_setAR, q_K_newO, q_I_newO, q_J_newO, q_R_newO, q_L_newO, q_AI_newO, q_AJ_newO, q_AR_newO, q_sz_newO, q_su_newO, q_K_newA, q_I_newA, q_J_newA, q_R_newA, q_L_newA, q_AI_newA, q_AJ_newA, q_AR_newA, q_sz_newA, q_su_newA, q_K_skip, q_I_skip, q_J_skip, q_R_skip, q_L_skip, q_AI_skip, q_AJ_skip, q_AR_skip, q_sz_skip, q_su_skip, q_up2, q_up, q1, this]
        · simp [q_K_setI, q_I_setI, q_J_setI, q_R_setI, q_L_setI, q_AI_setI, q_AJ_setI, q_AR_setI, q_sz_setI, q_su_setI, q_K_setJ, q_I_setJ, q_J_setJ, q_R_setJ, q_L_setJ, q_AI_setJ, q_AJ_setJ, q_AR_setJ, q_sz_setJ, q_su_setJ, q_K_setR, q_I_setR, q_J_setR, q_R_setR, q_L_setR, q_AI_setR, q_AJ_setR, q_AR_setR, q_sz_setR, q_su_setR, q_K_setAI, q_I_setAI, q_J_setAI, q_R_setAI, q_L_setAI, q_AI_setAI, q_AJ_setAI, q_AR_setAI, q_sz_setAI, q_su_setAI, q_K_setAJ, q_I_setAJ, q_J_setAJ, q_R_setAJ, q_L_setAJ, q_AI_setAJ, q_AJ_setAJ, q_AR_setAJ, q_sz_setAJ, q_su_setAJ, q_K_setAR, q_I_setAR, q_J_setAR, q_R_setAR, q_L_setAR, q_AI_setAR, q_AJ_setAR, q_AR_setAR, q_sz_setAR, q_su_setAR, q_K_newO, q_I_newO, q_J_newO, q_R_newO, q_L_newO, q_AI_newO, q_AJ_newO, q_AR_newO, q_sz_newO, q_su_newO, q_K_newA, q_I_newA, q_J_newA, q_R_newA, q_L_newA, q_AI_newA, q_AJ_newA, q_AR_newA, q_sz_newA, q_su_newA, q_K_skip, q_I_skip, q_J_skip, q_R_skip, q_L_skip, q_AI_skip, q_AJ_skip, q_AR_skip, q_sz_skip, q_su_skip, q_up2, q_up, q2, this]
      · subst q q0
        refine ⟨a, b, ?_, ?_, ha.sm s (Nat.le_refl _), hb.sm s (Nat.le_refl _)⟩
        · simp [q_K_setI, q_I_setI, q_J_setI, q_R_setI, q_L_setI, q_AI_setI, q_AJ_setI, q_AR_setI, q_sz_setI, q_su_setI, q_K_setJ, q_I_setJ, q_J_setJ, q_R_setJ, q_L_setJ, q_AI_setJ, q_AJ_setJ, q_AR_setJ, q_sz_setJ, q_su_setJ, q_K_setR, q_I_setR, q_J_setR, q_R_setR, q_L_setR, q_AI_setR, q_AJ_setR, q_AR_setR, q_sz_setR, q_su_setR, q_K_setAI, q_I_setAI, q_J_setAI, q_R_setAI, q_L_setAI, q_AI_setAI, q_AJ_setAI, q_AR_setAI, q_sz_setAI, q_su_setAI, q_K_setAJ, q_I_setAJ, q_J_setAJ, q_R_setAJ, q_L_setAJ, q_AI_setAJ, q_AJ_setAJ, q_AR_setAJ, q_sz_setAJ, q_su_setAJ, q_K_setAR, q_I_setAR, q_J_setAR, q_R_setAR, q_L_setAR, q_AI_setAR, q_AJ_setAR, q_AR_setAR, q_sz_setAR, q_su_setAR, q_K_newO, q_I_newO, q_J_newO, q_R_newO, q_L_newO, q_AI_newO, q_AJ_newO, q_AR_newO, q_sz_newO, q_su_newO, q_K_newA, q_I_newA, q_J_newA, q_R_newA, q_L_newA, q_AI_newA, q_AJ_newA, q_AR_newA, q_sz_newA, q_su_newA, q_K_skip, q_I_skip, q_J_skip, q_R_skip, q_L_skip, q_AI_skip, q_AJ_skip, q_AR_skip, q_sz_skip, q_su_skip, q_up2, q_up]
        · simp [q_K_setI, q_I_setI, q_J_setI, q_R_setI, q_L_setI, q_AI_setI, q_AJ_setI, q_AR_setI, q_sz_setI, q_su_setI, q_K_setJ, q_I_setJ, q_J_setJ, q_R_setJ, q_L_setJ, q_AI_setJ, q_AJ_setJ, q_AR_setJ, q_sz_setJ, q_su_setJ, q_K_setR, q_I_setR, q_J_setR, q_R_setR, q_L_setR, q_AI_setR, q_AJ_setR, q_AR_setR, q_sz_setR, q_su_setR, q_K_setAI, q_I_setAI, q_J_setAI, q_R_setAI, q_L_setAI, q_AI_setAI, q_AJ_setAI, q_AR_setAI, q_sz_setAI, q_su_setAI, q_K_setAJ, q_I_setAJ, q_J_setAJ, q_R_setAJ, q_L_setAJ, q_AI_setAJ, q_AJ_setAJ, q_AR_setAJ, q_sz_setAJ, q_su_setAJ, q_K_setAR, q_I_setAR, q_J_setAR, q_R_setAR, q_L_setAR, q_AI_setAR, q_AJ_setAR, q_AR_setAR, q_sz_setAR, q_su_setAR, q_K_newO, q_I_newO, q_J_newO, q_R_newO, q_L_newO, q_AI_newO, q_AJ_newO, q_AR_newO, q_sz_newO, q_su_newO, q_K_newA, q_I_newA, q_J_newA, q_R_newA, q_L_newA, q_AI_newA, q_AJ_newA, q_AR_newA, q_sz_newA, q_su_newA, q_K_skip, q_I_skip, q_J_skip, q_R_skip, q_L_skip, q_AI_skip, q_AJ_skip, q_AR_skip, q_sz_skip, q_su_skip, q_up2, q_up]
    · obtain ⟨u, q1, q2⟩ := e3 k z hz
      refine ⟨u, ?_, q2.sm s (Nat.le_refl _)⟩
      simp [q_K_setI, q_I_setI, q_J_setI, q_R_setI, q_L_setI, q_AI_setI, q_AJ_setI, q_AR_setI, q_sz_setI, q_su_setI, q_K_setJ, q_I_setJ, q_J_setJ, q_R_setJ, q_L_setJ, q_AI_setJ, q_AJ_setJ, q_AR_setJ, q_sz_setJ, q_su_setJ, q_K_setR, q_I_setR, q_J_setR, q_R_setR, q_L_setR, q_AI_setR, q_AJ_setR, q_AR_setR, q_sz_setR, q_su_setR, q_K_setAI, q_I_setAI, q_J_setAI, q_R_setAI, q_L_setAI, q_AI_setAI, q_AJ_setAI, q_AR_setAI, q_sz_setAI, q_su_setAI, q_K_setAJ, q_I_setAJ, q_J_setAJ, q_R_setAJ, q_L_setAJ, q_AI_setAJ, q_AJ_setAJ, q_AR_setAJ, q_sz_setAJ, q_su_setAJ, q_K_setAR, q_I_setAR, q_J_setAR, q_R_setAR, q_L_setAR, q_AI_setAR, q_AJ_setAR, q_AR_setAR, q_sz_setAR, q_su_setAR, q_K_newO, q_I_newO, q_J_newO, q_R_newO, q_L_newO, q_AI_newO, q_AJ_newO, q_AR_newO, q_sz_newO, q_su_newO, q_K_newA, q_I_newA, q_J_newA, q_R_newA, q_L_newA, q_AI_newA, q_AJ_newA, q_AR_newA, q_sz_newA, q_su_newA, q_K_skip, q_I_skip, q_J_skip, q_R_skip, q_L_skip, q_AI_skip, q_AJ_skip, q_AR_skip, q_sz_skip, q_su_skip, q_up2, q_up, q1]
/-- what an item of a module leaves -/
def IQ (P : xP) (T : xT) (lng : Bool) (ix M : Nat) (σ : xS) (c : Nat) (_ : Unit) (σ' : xS) (q : xMod × Nat) : Prop := ∃ g, PX P T lng g ix M q.1 σ' q.2 ∧ Fr P M c σ σ'
theorem rd_K' {P : xP} {σ : xS} (C : CI P σ) (lng : Bool) : (σ.K (rdA P lng) = 4 ∨ σ.K (rdA P lng) = 9) = True := rd_K C lng
theorem cw_readAssign {P : xP} {T : xT} {lng : Bool} {g : List Nat → Nat} {ix M : Nat} {m : xMod} {σ : xS} {p : Nat} (h : PX P T lng g ix M m σ p) (hp : p < T.2) (hR : Rm P σ 6) : Rf (dm_X8_readAssign P (rdA P lng) (bI lng) σ) (sp_assign T lng m p) (IQ P T lng ix M σ 2) (PE P T M σ 4) := by
  obtain ⟨C, hcur, hM, hm, hw⟩ := id h
  have ci := C.ci
  have hMs : M + 5 ≤ σ.sz := hm.1.1
  have kM := hm.1.2.1
  have c7 := hm.2.2.1.2.2.2.2.2.2.1
  have c8 := hm.2.2.1.2.2.2.2.2.2.2
  have rt := cw_refuseIf (P := P) (a := P.base + 1) (b := true) (σ := σ) hR.mono
  have rf := cw_refuseIf (P := P) (a := P.base + 1) (b := false) (σ := σ) hR.mono
  simp only [bI_tt, bI_ff, if_true] at rt rf
  unfold dm_X8_readAssign sp_assign
  by_cases e : 8 ≤ m.asg.length
  · rw [if_pos e]
    refine Rf.er (σ' := σ.skip 6) ?_ ((PE.skip C).mono)
    have e' : ¬ m.asg.length < 8 := by omega
    unfold dm_X8_readAssign_p21
    simp (disch := first | assumption | omega) [x_chk, x_some, x_bind, x_let, lit_nI, nI_add, nI_mul, nI_sub, nI_clamp, nI_eq, nI_ltI, nI_leI, nN_e, nI_nN, nN_nI, bI_0, bI_1, bI_n, bool_0, bool_1, in_T, lg_cmp0, ofN_nI, ci_0 ci, ci_1 ci, ci_2 ci, ci_3 ci, ci_4 ci, ci_5 ci, ci_6 ci, ci_7 ci, ci_8 ci, ci_9 ci, ci_10 ci, ci_11 ci, ci_12 ci, ci_13 ci, ci_14 ci, ci_15 ci, ci_16 ci, ci_17 ci, ci_18 ci, ci_19 ci, ci_20 ci, ci_21 ci, ci_22 ci, rd_K, rd_R, hcur, kM, c7, e', rt]
  · rw [if_neg e]
    have e' : m.asg.length < 8 := by omega
    have st := cw_step C hp
    have C1 := C.step hp
    have ci1 := C1.ci
    have f1 := cst_fr P σ.sz σ
    have h1 := h.fr f1 C1
    have hR1 : Rm P (cst P σ) 6 := hR.us f1.2.2
    have hd : dm_X8_readAssign P (rdA P lng) (bI lng) σ = x_bind (if (cst P σ).K (rdA P lng) = 4 then dm_X3_readPart P (rdA P lng) (cst P σ) else dm_X9_readPart P (rdA P lng) (cst P σ)) (fun v_12 σ_13 =>
        if bI lng = 0 then
          dm_X8_readAssign_p49 P (rdA P lng) v_12 σ_13
        else
          x_chk (σ_13.K (rdA P lng) = 4 ∨ σ_13.K (rdA P lng) = 9) <|
          x_some (σ_13.R 300 (rdA P lng)) fun a_18 =>
          x_chk (σ_13.K a_18 = 10) <|
          x_bind (dm_X10_takeSign P a_18 61 σ_13) (fun _ σ_20 =>
            dm_X8_readAssign_p49 P (rdA P lng) v_12 σ_20
            ) (fun E_23 σ_20 =>
            some (.inr E_23, σ_20)
            )
        ) (fun E_24 σ_13 =>
        some (.inr E_24, σ_13)
        ) := by
      unfold dm_X8_readAssign dm_X8_readAssign_p21
      simp (disch := first | assumption | omega) [ck_T, sm_s, bd_l, bd_r, lt_e, eq_self, and_self, if_true, true_and, and_true, lit_nI, nI_add, nI_mul, nI_sub, nI_clamp, nI_eq, nI_ltI, nI_leI, nN_e, nI_nN, nN_nI, bI_0, bI_1, bI_n, bool_0, bool_1, in_T, lg_cmp0, ofN_nI, ci_0 ci, ci_1 ci, ci_2 ci, ci_3 ci, ci_4 ci, ci_5 ci, ci_6 ci, ci_7 ci, ci_8 ci, ci_9 ci, ci_10 ci, ci_11 ci, ci_12 ci, ci_13 ci, ci_14 ci, ci_15 ci, ci_16 ci, ci_17 ci, ci_18 ci, ci_19 ci, ci_20 ci, ci_21 ci, ci_22 ci, ci_0 ci1, ci_1 ci1, ci_2 ci1, ci_3 ci1, ci_4 ci1, ci_5 ci1, ci_6 ci1, ci_7 ci1, ci_8 ci1, ci_9 ci1, ci_10 ci1, ci_11 ci1, ci_12 ci1, ci_13 ci1, ci_14 ci1, ci_15 ci1, ci_16 ci1, ci_17 ci1, ci_18 ci1, ci_19 ci1, ci_20 ci1, ci_21 ci1, ci_22 ci1, rd_K ci, rd_R ci, rd_K ci1, hcur, kM, c7, e', rf, st]
    have hd2 := hd
    unfold dm_X8_readAssign at hd2
    rw [hd2]
    -- the second part, the ; and the adding
    have tail : ∀ (s : xS) (a p2 c : Nat) (x : xPart), PX P T lng g ix M m s p2 → Fr P M c σ s → c ≤ 1 → PartR s g (M + 5) s.sz a x → Rf (dm_X8_readAssign_p49 P (rdA P lng) (some a) s) (eb (sp_part T lng m.nets p2) fun b => eb (sp_sign T 59 b.2) fun p3 => .ok (m.wAsg (x, b.1), p3)) (IQ P T lng ix M σ 2) (PE P T M σ 4) := by
      intro s a p2 c x hs f hc ha
      have cis := hs.1.ci
      have szs := hs.2.2.2.1.1.1
      unfold dm_X8_readAssign_p49
      rw [show (x_chk (s.K (rdA P lng) = 4 ∨ s.K (rdA P lng) = 9) : xO Unit → xO Unit) = id from by funext k; simp only [rd_K cis, ck_T, id]]
      refine Rf.bind (cw_part hs (hR.us f.2.2)) ?_ ?_
      · rintro v s2 ⟨y, p3⟩ ⟨b, rfl, f2, C2, hb⟩
        have ci2 := C2.ci
        have hs2 := hs.fr f2 C2
        simp (disch := first | assumption | omega) [ck_T, sm_s, bd_l, bd_r, lt_e, eq_self, and_self, if_true, true_and, and_true, ci_0 ci2, ci_1 ci2, ci_2 ci2, ci_3 ci2, ci_4 ci2, ci_5 ci2, ci_6 ci2, ci_7 ci2, ci_8 ci2, ci_9 ci2, ci_10 ci2, ci_11 ci2, ci_12 ci2, ci_13 ci2, ci_14 ci2, ci_15 ci2, ci_16 ci2, ci_17 ci2, ci_18 ci2, ci_19 ci2, ci_20 ci2, ci_21 ci2, ci_22 ci2, rd_K ci2, rd_R ci2]
        have f02 : Fr P M 2 σ s2 := f.trans f2
        refine Rf.bind (rf_sign C2 (c := 59) (by omega) (hR.us f02.2.2)) ?_ ?_
        · rintro _ s3 p4 ⟨rfl, C3⟩
          have ci3 := C3.ci
          have f3 := cst_fr P s2.sz s2
          have hs3 := hs2.fr f3 C3
          have cu3 := hs3.2.1
          have km3 := hs3.2.2.2.1.1.2.1
          simp (disch := first | assumption | omega) [ck_T, sm_s, bd_l, bd_r, lt_e, eq_self, and_self, if_true, true_and, and_true, ci_0 ci3, ci_1 ci3, ci_2 ci3, ci_3 ci3, ci_4 ci3, ci_5 ci3, ci_6 ci3, ci_7 ci3, ci_8 ci3, ci_9 ci3, ci_10 ci3, ci_11 ci3, ci_12 ci3, ci_13 ci3, ci_14 ci3, ci_15 ci3, ci_16 ci3, ci_17 ci3, ci_18 ci3, ci_19 ci3, ci_20 ci3, ci_21 ci3, ci_22 ci3, rd_K ci3, rd_R ci3, cu3, km3]
          have szb := f2.2.2.1
          obtain ⟨s4, q1, q2, q3, q4, q5⟩ := cw_addAssign (P := P) (x := x) (y := y) hs3.2.2.2.1 hM ((ha.sm (f2.sms (lo := M + 5) (by omega) (Nat.le_refl _)) szb).sm (f3.sms (lo := M + 5) (by omega) (Nat.le_refl _)) (Nat.le_refl _)) ((hb.lo (lo' := M + 5) (by omega)).sm (f3.sms (lo := M + 5) (by omega) (Nat.le_refl _)) (Nat.le_refl _)) e'
          rw [q1]
          have f04 : Fr P M 2 σ s4 := (f02.trans f3 (by omega) (e := 2)).trans q2
          refine Rf.ok rfl ⟨g, ⟨C3.fr q2 q3 (by omega), ?_, hM, ?_, hw⟩, f04⟩
          · have rn := rd_ne P lng
            exact ((q2.1 _ (by omega) (by omega)).2.2.2.2.1 302).trans cu3
          · rw [q4]; exact q5
        · intro f5 s5 hq
          exact ⟨rfl, PE.aft f02 hq (by have := f2.2.2.1; omega)⟩
      · intro f5 s5 hq
        exact ⟨rfl, PE.aft f hq (by omega)⟩
    refine Rf.bind (cw_part h1 (hR1.mono)) ?_ ?_
    · rintro v s ⟨x, p2⟩ ⟨a, rfl, f, C2, ha⟩
      have ci2 := C2.ci
      have hs := h1.fr f C2
      have fs : Fr P M 1 σ s := (f1.t0 f (Nat.le_refl _)).mono
      have es : (cst P σ).sz = σ.sz := rfl
      cases lng with
      | false =>
        simp (disch := first | assumption | omega) [lit_nI, nI_add, nI_mul, nI_sub, nI_clamp, nI_eq, nI_ltI, nI_leI, nN_e, nI_nN, nN_nI, bI_0, bI_1, bI_n, bool_0, bool_1, in_T, lg_cmp0, ofN_nI, bI_0, eb_ok]
        exact tail s a p2 1 x hs fs (by omega) (ha.lo (by omega) (by omega))
      | true =>
        simp (disch := first | assumption | omega) [ck_T, sm_s, bd_l, bd_r, lt_e, eq_self, and_self, if_true, true_and, and_true, lit_nI, nI_add, nI_mul, nI_sub, nI_clamp, nI_eq, nI_ltI, nI_leI, nN_e, nI_nN, nN_nI, bI_0, bI_1, bI_n, bool_0, bool_1, in_T, lg_cmp0, ofN_nI, bI_0, ci_0 ci2, ci_1 ci2, ci_2 ci2, ci_3 ci2, ci_4 ci2, ci_5 ci2, ci_6 ci2, ci_7 ci2, ci_8 ci2, ci_9 ci2, ci_10 ci2, ci_11 ci2, ci_12 ci2, ci_13 ci2, ci_14 ci2, ci_15 ci2, ci_16 ci2, ci_17 ci2, ci_18 ci2, ci_19 ci2, ci_20 ci2, ci_21 ci2, ci_22 ci2, rd_K ci2, rd_R ci2]
        refine Rf.bind (rf_sign C2 (c := 61) (by omega) (hR.us fs.2.2)) ?_ ?_
        · rintro _ s3 p4 ⟨rfl, C3⟩
          have f3 := cst_fr P s.sz s
          have hss := f.2.2.1
          exact tail _ a p4 1 x (hs.fr f3 C3) (fs.trans f3 (by omega)) (by omega) ((ha.lo (lo' := M + 5) (by omega)).sm (f3.sms (lo := M + 5) (by omega) (Nat.le_refl _)) (Nat.le_refl _))
        · intro f5 s5 hq
          exact ⟨rfl, PE.aft fs hq (by have := f.2.2.1; omega)⟩
    · intro f5 s5 hq
      exact ⟨rfl, (PE.aft f1 hq (Nat.le_refl _) (e := 2)).mono⟩
