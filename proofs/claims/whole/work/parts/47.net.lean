/-! ===== the class: nets ===== -/
/-- what is known of a module's parts and nets -/
def AW (m : xMod) : Prop := (∀ a ∈ m.asg, PW m.nets a.1 ∧ PW m.nets a.2) ∧ (∀ i ∈ m.ins, ∀ l ∈ i.2.2.2.2, ∀ r, l.2.2 = some r → PW m.nets r) ∧ (∀ y ∈ m.wires, y.2.1 = 2) ∧ (∀ y ∈ m.ports, y.2.1 ≠ 2) ∧ (m.nets.map fun x => x.1).Nodup
theorem sortI_2 : sortI 2 = nI 2 := rfl
def xMod.wNet (m : xMod) (x : xNet) : xMod := if x.2.1 = 2 then (m.nm, m.pl, m.ports, m.wires ++ [x], m.asg, m.ins) else (m.nm, m.pl, m.ports ++ [x], m.wires, m.asg, m.ins)
theorem wNet_w {m : xMod} {x : xNet} (h : x.2.1 = 2) : (m.wNet x).nets = m.nets ++ [x] ++ [] ∧ (m.wNet x).ports = m.ports ∧ (m.wNet x).asg = m.asg ∧ (m.wNet x).ins = m.ins ∧ (m.wNet x).nm = m.nm ∧ (m.wNet x).pl = m.pl := by
  unfold xMod.wNet
  rw [if_pos h]
  refine ⟨?_, rfl, rfl, rfl, rfl, rfl⟩
  show m.ports ++ (m.wires ++ [x]) = (m.ports ++ m.wires) ++ [x] ++ []
  simp
theorem wNet_p {m : xMod} {x : xNet} (h : x.2.1 ≠ 2) : (m.wNet x).nets = m.ports ++ [x] ++ m.wires ∧ (m.wNet x).ports = m.ports ++ [x] ∧ (m.wNet x).asg = m.asg ∧ (m.wNet x).ins = m.ins ∧ (m.wNet x).nm = m.nm ∧ (m.wNet x).pl = m.pl := by
  unfold xMod.wNet
  rw [if_neg h]
  exact ⟨rfl, rfl, rfl, rfl, rfl, rfl⟩
theorem get_mid {α : Type} (A B : List α) (x : α) (j : Nat) : (A ++ [x] ++ B)[j]? = if j < A.length then (A ++ B)[j]? else if j = A.length then some x else (A ++ B)[j - 1]? := by
  by_cases h1 : j < A.length
  · rw [if_pos h1, List.append_assoc, List.getElem?_append_left h1, List.getElem?_append_left h1]
  · rw [if_neg h1]
    by_cases h2 : j = A.length
    · subst h2
      rw [if_pos rfl, List.append_assoc, List.getElem?_append_right (Nat.le_refl _)]
      simp
    · obtain ⟨d, hd⟩ : ∃ d, j - A.length = d + 1 := ⟨j - A.length - 1, by omega⟩
      have hd2 : j - 1 - A.length = d := by omega
      have e1 : ([x] ++ B)[d + 1]? = B[d]? := by simp
      have e2 : (A ++ B)[j - 1]? = B[d]? := by rw [List.getElem?_append_right (by omega), hd2]
      rw [if_neg h2, e2, List.append_assoc, List.getElem?_append_right (by omega), hd, e1]
theorem find_not {ns : List xNet} {nm : List Nat} (h : sp_find ns nm = none) : ∀ y ∈ ns, y.1 ≠ nm := by
  intro y hy e
  unfold sp_find at h
  rw [List.find?_eq_none] at h
  have := h y hy
  simp [e] at this
theorem PW_g {ns : List xNet} {nm : List Nat} {a : Nat} {g : List Nat → Nat} {x : xPart} (h : PW ns x) (hf : sp_find ns nm = none) : x.1 = 3 ∨ (if x.2.2.1 = nm then a else g x.2.2.1) = g x.2.2.1 := by
  rcases h with q | q
  · exact Or.inl q.1
  · right
    obtain ⟨y, hy, _⟩ := q.2.2
    obtain ⟨y1, y2⟩ := sp_find_mem hy
    rw [if_neg]
    intro z
    exact find_not hf y y1 (y2.trans z)
/-- only the module's nets have changed -/
def FA (M : Nat) (σ σ' : xS) : Prop := σ'.K = σ.K ∧ σ'.L = σ.L ∧ σ'.J = σ.J ∧ σ'.R = σ.R ∧ σ'.AI = σ.AI ∧ σ'.AJ = σ.AJ ∧ σ'.sz = σ.sz ∧ σ'.su = σ.su ∧ (∀ f x, ¬ (x = M ∧ (f = 504 ∨ f = 505)) → σ'.I f x = σ.I f x) ∧ (∀ x j, x ≠ M + 1 → σ'.AR x j = σ.AR x j)
theorem FA.sm {M : Nat} {σ σ' : xS} (h : FA M σ σ') {b : Nat} (h1 : b ≠ M) (h2 : b ≠ M + 1) : Sm σ σ' b := by
  obtain ⟨a1, a2, a3, a4, a5, a6, a7, a8, a9, a10⟩ := h
  exact ⟨by rw [a1], by rw [a2], fun f => a9 f b (by omega), fun f => by rw [a3], fun f => by rw [a4], fun i => by rw [a5], fun i => by rw [a6], fun i => a10 b i h2⟩
theorem FA.fr {M : Nat} {σ σ' : xS} {P : xP} (h : FA M σ σ') (hM : P.base + 44 ≤ M) : Fr P M 0 σ σ' := by
  have q := h.sm (b := P.base + 1) (by omega) (by omega)
  refine ⟨fun b hb _ => h.sm (by omega) (by omega), ⟨q.1, fun f _ => q.2.2.1 f, q.2.2.2.2.1⟩, ?_⟩
  obtain ⟨a1, a2, a3, a4, a5, a6, a7, a8, a9, a10⟩ := h
  exact ⟨by omega, by omega, by omega⟩
theorem cw_addNetL {P : xP} {M a home : Nat} {s : Nat} (hs : s ≤ 3) (hM : P.base + 44 ≤ M) : ∀ (d k n : Nat) (σ : xS), k = home + d → k ≤ 15 → d < n → σ.K M = 6 → σ.R 503 M = some (M + 1) → σ.K (M + 1) = 26 → σ.L (M + 1) = 16 → σ.K a = 5 → σ.I 401 a = sortI s → a ≠ M → (∀ j, j < k → ∃ b, σ.AR (M + 1) j = some b ∧ σ.K b = 5) →
    ∃ σ', dm_X5_addNet_L35 P M n (some a) (nI home) (nI k) σ = some (.inl (), σ') ∧ FA M σ σ' ∧ σ'.I 504 M = σ.I 504 M + nI 1 ∧ σ'.I 505 M = σ.I 505 M + nI (if s = 2 then 0 else 1) ∧ ∀ j, σ'.AR (M + 1) j = if j < home then σ.AR (M + 1) j else if j = home then some a else if j ≤ k then σ.AR (M + 1) (j - 1) else σ.AR (M + 1) j := by
  intro d
  induction d with
  | zero =>
    intro k n σ hk hk2 hn k1 k2 k3 k4 k5 k6 k7 hb
    obtain ⟨n, rfl⟩ : ∃ m, n = m + 1 := ⟨n - 1, by omega⟩
    have hk3 : k = home := by omega
    subst hk3
    refine ⟨((σ.setAR (M + 1) k (some a)).setI 504 M (σ.I 504 M + nI 1)).setI 505 M (σ.I 505 M + nI (if s = 2 then 0 else 1)), ?_, ?_, ?_, ?_, fun j => ?_⟩
    · unfold dm_X5_addNet_L35 dm_X5_addNet_p95
      have e2 : (sortI s = nI 2) = (s = 2) := by
        unfold sortI
        by_cases q : s = 3
        · subst q; simp [nN_nI]
        · simp (disch := first | assumption | omega) [q, nI_eq]
      by_cases q : s = 2
      · simp (disch := first | assumption | omega) [x_chk, x_some, x_bind, x_let, lit_nI, nI_add, nI_mul, nI_sub, nI_clamp, nI_eq, nI_ltI, nI_leI, nN_e, nI_nN, nN_nI, bI_0, bI_1, bI_n, bool_0, bool_1, in_T, lg_cmp0, ofN_nI, q_K_setI, q_I_setI, q_J_setI, q_R_setI, q_L_setI, q_AI_setI, q_AJ_setI, q_AR_setI, q_sz_setI, q_su_setI, q_K_setJ, q_I_setJ, q_J_setJ, q_R_setJ, q_L_setJ, q_AI_setJ, q_AJ_setJ, q_AR_setJ, q_sz_setJ, q_su_setJ, q_K_setR, q_I_setR, q_J_setR, q_R_setR, q_L_setR, q_AI_setR, q_AJ_setR, q_AR_setR, q_sz_setR, q_su_setR, q_K_setAI, q_I_setAI, q_J_setAI, q_R_setAI, q_L_setAI, q_AI_setAI, q_AJ_setAI, q_AR_setAI, q_sz_setAI, q_su_setAI, q_K_setAJ, q_I_setAJ, q_J_setAJ, q_R_setAJ, q_L_setAJ, q_AI_setAJ, q_AJ_setAJ, q_AR_setAJ, q_sz_setAJ, q_su_setAJ, q_K_setAR, q_I_setAR, q_J_setAR, q_R_setAR, q_L_setAR, q_AI_setAR, q_AJ_setAR, q_AR_setAR, q_sz_setAR, q_su_setAR, q_K_newO, q_I_newO, q_J_newO, q_R_newO, q_L_newO, q_AI_newO, q_AJ_newO, q_AR_newO, q_sz_newO, q_su_newO, q_K_newA, q_I_newA, q_J_newA, q_R_newA, q_L_newA, q_AI_newA, q_AJ_newA, q_AR_newA, q_sz_newA, q_su_newA, q_K_skip, q_I_skip, q_J_skip, q_R_skip, q_L_skip, q_AI_skip, q_AJ_skip, q_AR_skip, q_sz_skip, q_su_skip, q_up2, q_up, k1, k2, k3, k4, k5, k6, x_kind, x_kb, dlt_T, dle_T, e2, q, sortI_2]
      · simp (disch := first | assumption | omega) [x_chk, x_some, x_bind, x_let, lit_nI, nI_add, nI_mul, nI_sub, nI_clamp, nI_eq, nI_ltI, nI_leI, nN_e, nI_nN, nN_nI, bI_0, bI_1, bI_n, bool_0, bool_1, in_T, lg_cmp0, ofN_nI, q_K_setI, q_I_setI, q_J_setI, q_R_setI, q_L_setI, q_AI_setI, q_AJ_setI, q_AR_setI, q_sz_setI, q_su_setI, q_K_setJ, q_I_setJ, q_J_setJ, q_R_setJ, q_L_setJ, q_AI_setJ, q_AJ_setJ, q_AR_setJ, q_sz_setJ, q_su_setJ, q_K_setR, q_I_setR, q_J_setR, q_R_setR, q_L_setR, q_AI_setR, q_AJ_setR, q_AR_setR, q_sz_setR, q_su_setR, q_K_setAI, q_I_setAI, q_J_setAI, q_R_setAI, q_L_setAI, q_AI_setAI, q_AJ_setAI, q_AR_setAI, q_sz_setAI, q_su_setAI, q_K_setAJ, q_I_setAJ, q_J_setAJ, q_R_setAJ, q_L_setAJ, q_AI_setAJ, q_AJ_setAJ, q_AR_setAJ, q_sz_setAJ, q_su_setAJ, q_K_setAR, q_I_setAR, q_J_setAR, q_R_setAR, q_L_setAR, q_AI_setAR, q_AJ_setAR, q_AR_setAR, q_sz_setAR, q_su_setAR, q_K_newO, q_I_newO, q_J_newO, q_R_newO, q_L_newO, q_AI_newO, q_AJ_newO, q_AR_newO, q_sz_newO, q_su_newO, q_K_newA, q_I_newA, q_J_newA, q_R_newA, q_L_newA, q_AI_newA, q_AJ_newA, q_AR_newA, q_sz_newA, q_su_newA, q_K_skip, q_I_skip, q_J_skip, q_R_skip, q_L_skip, q_AI_skip, q_AJ_skip, q_AR_skip, q_sz_skip, q_su_skip, q_up2, q_up, k1, k2, k3, k4, k5, k6, x_kind, x_kb, dlt_T, dle_T, e2, q, sortI_2]
    · refine ⟨rfl, rfl, rfl, rfl, rfl, rfl, rfl, rfl, fun f x h => ?_, fun x j h => ?_⟩
      · simp only [q_K_setI, q_I_setI, q_J_setI, q_R_setI, q_L_setI, q_AI_setI, q_AJ_setI, q_AR_setI, q_sz_setI, q_su_setI, q_K_setJ, q_I_setJ, q_J_setJ, q_R_setJ, q_L_setJ, q_AI_setJ, q_AJ_setJ, q_AR_setJ, q_sz_setJ, q_su_setJ, q_K_setR, q_I_setR, q_J_setR, q_R_setR, q_L_setR, q_AI_setR, q_AJ_setR, q_AR_setR, q_sz_setR, q_su_setR, q_K_setAI, q_I_setAI, q_J_setAI, q_R_setAI, q_L_setAI, q_AI_setAI, q_AJ_setAI, q_AR_setAI, q_sz_setAI, q_su_setAI, q_K_setAJ, q_I_setAJ, q_J_setAJ, q_R_setAJ, q_L_setAJ, q_AI_setAJ, q_AJ_setAJ, q_AR_setAJ, q_sz_setAJ, q_su_setAJ, q_K_setAR, q_I_setAR, q_J_setAR, q_R_setAR, q_L_setAR, q_AI_setAR, q_AJ_setAR, q_AR_setAR, q_sz_setAR, q_su_setAR, q_K_newO, q_I_newO, q_J_newO, q_R_newO, q_L_newO, q_AI_newO, q_AJ_newO, q_AR_newO, q_sz_newO, q_su_newO, q_K_newA, q_I_newA, q_J_newA, q_R_newA, q_L_newA, q_AI_newA, q_AJ_newA, q_AR_newA, q_sz_newA, q_su_newA, q_K_skip, q_I_skip, q_J_skip, q_R_skip, q_L_skip, q_AI_skip, q_AJ_skip, q_AR_skip, q_sz_skip, q_su_skip, q_up2]
        by_cases z : x = M
        · have f1 : ¬ f = 504 := fun w => h ⟨z, Or.inl w⟩
          have f2 : ¬ f = 505 := fun w => h ⟨z, Or.inr w⟩
          simp [f1, f2]
        · simp [z]
      · simp only [q_K_setI, q_I_setI, q_J_setI, q_R_setI, q_L_setI, q_AI_setI, q_AJ_setI, q_AR_setI, q_sz_setI, q_su_setI, q_K_setJ, q_I_setJ, q_J_setJ, q_R_setJ, q_L_setJ, q_AI_setJ, q_AJ_setJ, q_AR_setJ, q_sz_setJ, q_su_setJ, q_K_setR, q_I_setR, q_J_setR, q_R_setR, q_L_setR, q_AI_setR, q_AJ_setR, q_AR_setR, q_sz_setR, q_su_setR, q_K_setAI, q_I_setAI, q_J_setAI, q_R_setAI, q_L_setAI, q_AI_setAI, q_AJ_setAI, q_AR_setAI, q_sz_setAI, q_su_setAI, q_K_setAJ, q_I_setAJ, q_J_setAJ, q_R_setAJ, q_L_setAJ, q_AI_setAJ, q_AJ_setAJ, q_AR_setAJ, q_sz_setAJ, q_su_setAJ, q_K_setAR, q_I_setAR, q_J_setAR, q_R_setAR, q_L_setAR, q_AI_setAR, q_AJ_setAR, q_AR_setAR, q_sz_setAR, q_su_setAR, q_K_newO, q_I_newO, q_J_newO, q_R_newO, q_L_newO, q_AI_newO, q_AJ_newO, q_AR_newO, q_sz_newO, q_su_newO, q_K_newA, q_I_newA, q_J_newA, q_R_newA, q_L_newA, q_AI_newA, q_AJ_newA, q_AR_newA, q_sz_newA, q_su_newA, q_K_skip, q_I_skip, q_J_skip, q_R_skip, q_L_skip, q_AI_skip, q_AJ_skip, q_AR_skip, q_sz_skip, q_su_skip, q_up2]
        simp [h]
    · simp [q_K_setI, q_I_setI, q_J_setI, q_R_setI, q_L_setI, q_AI_setI, q_AJ_setI, q_AR_setI, q_sz_setI, q_su_setI, q_K_setJ, q_I_setJ, q_J_setJ, q_R_setJ, q_L_setJ, q_AI_setJ, q_AJ_setJ, q_AR_setJ, q_sz_setJ, q_su_setJ, q_K_setR, q_I_setR, q_J_setR, q_R_setR, q_L_setR, q_AI_setR, q_AJ_setR, q_AR_setR, q_sz_setR, q_su_setR, q_K_setAI, q_I_setAI, q_J_setAI, q_R_setAI, q_L_setAI, q_AI_setAI, q_AJ_setAI, q_AR_setAI, q_sz_setAI, q_su_setAI, q_K_setAJ, q_I_setAJ, q_J_setAJ, q_R_setAJ, q_L_setAJ, q_AI_setAJ, q_AJ_setAJ, q_AR_setAJ, q_sz_setAJ, q_su_setAJ, q_K_setAR, q_I_setAR, q_J_setAR, q_R_setAR, q_L_setAR, q_AI_setAR, q_AJ_setAR, q_AR_setAR, q_sz_setAR, q_su_setAR, q_K_newO, q_I_newO, q_J_newO, q_R_newO, q_L_newO, q_AI_newO, q_AJ_newO, q_AR_newO, q_sz_newO, q_su_newO, q_K_newA, q_I_newA, q_J_newA, q_R_newA, q_L_newA, q_AI_newA, q_AJ_newA, q_AR_newA, q_sz_newA, q_su_newA, q_K_skip, q_I_skip, q_J_skip, q_R_skip, q_L_skip, q_AI_skip, q_AJ_skip, q_AR_skip, q_sz_skip, q_su_skip, q_up2, q_up]
    · simp [q_K_setI, q_I_setI, q_J_setI, q_R_setI, q_L_setI, q_AI_setI, q_AJ_setI, q_AR_setI, q_sz_setI, q_su_setI, q_K_setJ, q_I_setJ, q_J_setJ, q_R_setJ, q_L_setJ, q_AI_setJ, q_AJ_setJ, q_AR_setJ, q_sz_setJ, q_su_setJ, q_K_setR, q_I_setR, q_J_setR, q_R_setR, q_L_setR, q_AI_setR, q_AJ_setR, q_AR_setR, q_sz_setR, q_su_setR, q_K_setAI, q_I_setAI, q_J_setAI, q_R_setAI, q_L_setAI, q_AI_setAI, q_AJ_setAI, q_AR_setAI, q_sz_setAI, q_su_setAI, q_K_setAJ, q_I_setAJ, q_J_setAJ, q_R_setAJ, q_L_setAJ, q_AI_setAJ, q_AJ_setAJ, q_AR_setAJ, q_sz_setAJ, q_su_setAJ, q_K_setAR, q_I_setAR, q_J_setAR, q_R_setAR, q_L_setAR, q_AI_setAR, q_AJ_setAR, q_AR_setAR, q_sz_setAR, q_su_setAR, q_K_newO, q_I_newO, q_J_newO, q_R_newO, q_L_newO, q_AI_newO, q_AJ_newO, q_AR_newO, q_sz_newO, q_su_newO, q_K_newA, q_I_newA, q_J_newA, q_R_newA, q_L_newA, q_AI_newA, q_AJ_newA, q_AR_newA, q_sz_newA, q_su_newA, q_K_skip, q_I_skip, q_J_skip, q_R_skip, q_L_skip, q_AI_skip, q_AJ_skip, q_AR_skip, q_sz_skip, q_su_skip, q_up2, q_up]
    · simp only [q_K_setI, q_I_setI, q_J_setI, q_R_setI, q_L_setI, q_AI_setI, q_AJ_setI, q_AR_setI, q_sz_setI, q_su_setI, q_K_setJ, q_I_setJ, q_J_setJ, q_R_setJ, q_L_setJ, q_AI_setJ, q_AJ_setJ, q_AR_setJ, q_sz_setJ, q_su_setJ, q_K_setR, q_I_setR, q_J_setR, q_R_setR, q_L_setR, q_AI_setR, q_AJ_setR, q_AR_setR, q_sz_setR, q_su_setR, q_K_setAI, q_I_setAI, q_J_setAI, q_R_setAI, q_L_setAI, q_AI_setAI, q_AJ_setAI, q_AR_setAI, q_sz_setAI, q_su_setAI, q_K_setAJ, q_I_setAJ, q_J_setAJ, q_R_setAJ, q_L_setAJ, q_AI_setAJ, q_AJ_setAJ, q_AR_setAJ, q_sz_setAJ, q_su_setAJ, q_K_setAR, q_I_setAR, q_J_setAR, q_R_setAR, q_L_setAR, q_AI_setAR, q_AJ_setAR, q_AR_setAR, q_sz_setAR, q_su_setAR, q_K_newO, q_I_newO, q_J_newO, q_R_newO, q_L_newO, q_AI_newO, q_AJ_newO, q_AR_newO, q_sz_newO, q_su_newO, q_K_newA, q_I_newA, q_J_newA, q_R_newA, q_L_newA, q_AI_newA, q_AJ_newA, q_AR_newA, q_sz_newA, q_su_newA, q_K_skip, q_I_skip, q_J_skip, q_R_skip, q_L_skip, q_AI_skip, q_AJ_skip, q_AR_skip, q_sz_skip, q_su_skip, q_up2]
      by_cases z1 : j < k
      · have : ¬ j = k := by omega
        simp [z1, this]
      · by_cases z2 : j = k
        · simp [z2]
        · have : ¬ j ≤ k := by omega
          simp [z1, z2, this]
  | succ d ih =>
    intro k n σ hk hk2 hn k1 k2 k3 k4 k5 k6 k7 hb
    obtain ⟨n, rfl⟩ : ∃ m, n = m + 1 := ⟨n - 1, by omega⟩
    obtain ⟨b, b1, b2⟩ := hb (k - 1) (by omega)
    obtain ⟨σ', q1, q2, q3, q4, q5⟩ := ih (k - 1) n (σ.setAR (M + 1) k (some b)) (by omega) (by omega) (by omega) k1 k2 k3 k4 k5 k6 k7 (by
      intro j hj
      obtain ⟨c, c1, c2⟩ := hb j (by omega)
      refine ⟨c, ?_, c2⟩
      have : ¬ j = k := by omega
      simp [q_K_setI, q_I_setI, q_J_setI, q_R_setI, q_L_setI, q_AI_setI, q_AJ_setI, q_AR_setI, q_sz_setI, q_su_setI, q_K_setJ, q_I_setJ, q_J_setJ, q_R_setJ, q_L_setJ, q_AI_setJ, q_AJ_setJ, q_AR_setJ, q_sz_setJ, q_su_setJ, q_K_setR, q_I_setR, q_J_setR, q_R_setR, q_L_setR, q_AI_setR, q_AJ_setR, q_AR_setR, q_sz_setR, q_su_setR, q_K_setAI, q_I_setAI, q_J_setAI, q_R_setAI, q_L_setAI, q_AI_setAI, q_AJ_setAI, q_AR_setAI, q_sz_setAI, q_su_setAI, q_K_setAJ, q_I_setAJ, q_J_setAJ, q_R_setAJ, q_L_setAJ, q_AI_setAJ, q_AJ_setAJ, q_AR_setAJ, q_sz_setAJ, q_su_setAJ, q_K_setAR, q_I_setAR, q_J_setAR, q_R_setAR, q_L_setAR, q_AI_setAR, q_AJ_setAR, q_AR_setAR, q_sz_setAR, q_su_setAR, q_K_newO, q_I_newO, q_J_newO, q_R_newO, q_L_newO, q_AI_newO, q_AJ_newO, q_AR_newO, q_sz_newO, q_su_newO, q_K_newA, q_I_newA, q_J_newA, q_R_newA, q_L_newA, q_AI_newA, q_AJ_newA, q_AR_newA, q_sz_newA, q_su_newA, q_K_skip, q_I_skip, q_J_skip, q_R_skip, q_L_skip, q_AI_skip, q_AJ_skip, q_AR_skip, q_sz_skip, q_su_skip, q_up2, q_up, this, c1])
    refine ⟨σ', ?_, ?_, q3, q4, fun j => ?_⟩
    · unfold dm_X5_addNet_L35
      have n1 : ¬ k ≤ home := by omega
      have n2 : nI k + nN = nI (k - 1) := by
        have : nI k = nI (k - 1) + nI 1 := by rw [nI_add]; congr 1; omega
        have z0 : nI 1 + nN = 0 := by decide
        rw [this, Int32.add_assoc, z0]
        exact Int32.add_zero _
      have n3 : 1 ≤ k := by omega
      simp (disch := first | assumption | omega) [x_chk, x_some, x_bind, x_let, lit_nI, nI_add, nI_mul, nI_sub, nI_clamp, nI_eq, nI_ltI, nI_leI, nN_e, nI_nN, nN_nI, bI_0, bI_1, bI_n, bool_0, bool_1, in_T, lg_cmp0, ofN_nI, k1, k2, k3, k4, n1, b1, b2, x_kind, x_kb, dlt_T, dle_T, n2]
      exact q1
    · obtain ⟨a1, a2, a3, a4, a5, a6, a7, a8, a9, a10⟩ := q2
      refine ⟨a1, a2, a3, a4, a5, a6, a7, a8, a9, fun x j h => (a10 x j h).trans ?_⟩
      simp [q_K_setI, q_I_setI, q_J_setI, q_R_setI, q_L_setI, q_AI_setI, q_AJ_setI, q_AR_setI, q_sz_setI, q_su_setI, q_K_setJ, q_I_setJ, q_J_setJ, q_R_setJ, q_L_setJ, q_AI_setJ, q_AJ_setJ, q_AR_setJ, q_sz_setJ, q_su_setJ, q_K_setR, q_I_setR, q_J_setR, q_R_setR, q_L_setR, q_AI_setR, q_AJ_setR, q_AR_setR, q_sz_setR, q_su_setR, q_K_setAI, q_I_setAI, q_J_setAI, q_R_setAI, q_L_setAI, q_AI_setAI, q_AJ_setAI, q_AR_setAI, q_sz_setAI, q_su_setAI, q_K_setAJ, q_I_setAJ, q_J_setAJ, q_R_setAJ, q_L_setAJ, q_AI_setAJ, q_AJ_setAJ, q_AR_setAJ, q_sz_setAJ, q_su_setAJ, q_K_setAR, q_I_setAR, q_J_setAR, q_R_setAR, q_L_setAR, q_AI_setAR, q_AJ_setAR, q_AR_setAR, q_sz_setAR, q_su_setAR, q_K_newO, q_I_newO, q_J_newO, q_R_newO, q_L_newO, q_AI_newO, q_AJ_newO, q_AR_newO, q_sz_newO, q_su_newO, q_K_newA, q_I_newA, q_J_newA, q_R_newA, q_L_newA, q_AI_newA, q_AJ_newA, q_AR_newA, q_sz_newA, q_su_newA, q_K_skip, q_I_skip, q_J_skip, q_R_skip, q_L_skip, q_AI_skip, q_AJ_skip, q_AR_skip, q_sz_skip, q_su_skip, q_up2, q_up, h]
    · rw [q5 j]
      simp only [q_K_setI, q_I_setI, q_J_setI, q_R_setI, q_L_setI, q_AI_setI, q_AJ_setI, q_AR_setI, q_sz_setI, q_su_setI, q_K_setJ, q_I_setJ, q_J_setJ, q_R_setJ, q_L_setJ, q_AI_setJ, q_AJ_setJ, q_AR_setJ, q_sz_setJ, q_su_setJ, q_K_setR, q_I_setR, q_J_setR, q_R_setR, q_L_setR, q_AI_setR, q_AJ_setR, q_AR_setR, q_sz_setR, q_su_setR, q_K_setAI, q_I_setAI, q_J_setAI, q_R_setAI, q_L_setAI, q_AI_setAI, q_AJ_setAI, q_AR_setAI, q_sz_setAI, q_su_setAI, q_K_setAJ, q_I_setAJ, q_J_setAJ, q_R_setAJ, q_L_setAJ, q_AI_setAJ, q_AJ_setAJ, q_AR_setAJ, q_sz_setAJ, q_su_setAJ, q_K_setAR, q_I_setAR, q_J_setAR, q_R_setAR, q_L_setAR, q_AI_setAR, q_AJ_setAR, q_AR_setAR, q_sz_setAR, q_su_setAR, q_K_newO, q_I_newO, q_J_newO, q_R_newO, q_L_newO, q_AI_newO, q_AJ_newO, q_AR_newO, q_sz_newO, q_su_newO, q_K_newA, q_I_newA, q_J_newA, q_R_newA, q_L_newA, q_AI_newA, q_AJ_newA, q_AR_newA, q_sz_newA, q_su_newA, q_K_skip, q_I_skip, q_J_skip, q_R_skip, q_L_skip, q_AI_skip, q_AJ_skip, q_AR_skip, q_sz_skip, q_su_skip, q_up2]
      by_cases z1 : j < home
      · have : ¬ j = k := by omega
        simp [z1, this]
      · by_cases z2 : j = home
        · simp [z2]
        · by_cases z3 : j ≤ k - 1
          · have y1 : j ≤ k := by omega
            have y2 : ¬ j - 1 = k := by omega
            simp [z1, z2, z3, y1, y2]
          · by_cases z4 : j = k
            · subst z4
              simp [z1, z2, z3, b1]
            · have y1 : ¬ j ≤ k := by omega
              simp [z1, z2, z3, y1, z4]
theorem cw_addNet {P : xP} {σ : xS} {g : List Nat → Nat} {kd : List Nat → Option Nat} {ix M hi a : Nat} {m : xMod} {x : xNet} (C : CI P σ) (h : MR σ g kd ix M hi m) (hM : P.base + 44 ≤ M) (hx : NetR σ (M + 5) hi a x) (hs : x.2.1 ≤ 3) (hn : m.nets.length < 16) (hf : sp_find m.nets x.1 = none) (hw : AW m) : ∃ σ', dm_X5_addNet P M (some a) σ = some (.inl (), σ') ∧ Fr P M 0 σ σ' ∧ σ'.I 906 (P.base + 1) = σ.I 906 (P.base + 1) ∧ σ'.sz = σ.sz ∧ MR σ' (fun y => if y = x.1 then a else g y) kd ix M hi (m.wNet x) := by
  obtain ⟨⟨a1, a2, a3, a4, a5⟩, ⟨b1, b2, b3, b4, b5, b6⟩, ⟨c1, c2, c3, c4, c5, c6, c7, c8⟩, ⟨d1, d2, d3, d4, d5⟩, e1, e2, e3⟩ := h
  obtain ⟨x1, x2, x3, x4, x5, x6⟩ := id hx
  have hpl : m.ports.length ≤ m.nets.length := by simp [xMod.nets]
  have sc : (sortI x.2.1 = nI 2) = (x.2.1 = 2) := by
    unfold sortI
    by_cases q : x.2.1 = 3
    · rw [q]; simp [nN_nI]
    · simp (disch := first | assumption | omega) [q, nI_eq]
  obtain ⟨home, hh, hl⟩ : ∃ home, home = (if x.2.1 = 2 then m.nets.length else m.ports.length) ∧ home ≤ m.nets.length := ⟨_, rfl, by split <;> omega⟩
  have N := C.N
  obtain ⟨σ', q1, q2, q3, q4, q5⟩ := cw_addNetL (P := P) (M := M) (a := a) (home := home) hs hM (m.nets.length - home) m.nets.length P.N σ (by omega) (by omega) (by omega) a2 b1 b2 b3 x3 x5 (by omega) (by
    intro j hj
    obtain ⟨y, hy⟩ : ∃ y, m.nets[j]? = some y := ⟨_, List.getElem?_eq_getElem hj⟩
    obtain ⟨z1, z2⟩ := e1 j y hy
    exact ⟨_, z1, z2.2.2.1⟩)
  have fr := q2.fr hM
  have s : Sms σ σ' (M + 5) hi := fun b h1 _ => q2.sm (by omega) (by omega)
  have s0 : ∀ f, f ≠ 504 → f ≠ 505 → σ'.I f M = σ.I f M := fun f h1 h2 => q2.2.2.2.2.2.2.2.2.1 f M (by omega)
  have sK : σ'.K = σ.K := q2.1
  have sL : σ'.L = σ.L := q2.2.1
  have sJ : σ'.J = σ.J := q2.2.2.1
  have sR : σ'.R = σ.R := q2.2.2.2.1
  have sA : ∀ y j, y ≠ M + 1 → σ'.AR y j = σ.AR y j := q2.2.2.2.2.2.2.2.2.2
  refine ⟨σ', ?_, fr, q2.2.2.2.2.2.2.2.2.1 _ _ (by omega), q2.2.2.2.2.2.2.1, ?_⟩
  · unfold dm_X5_addNet dm_X5_addNet_p29
    by_cases z : x.2.1 = 2
    · rw [if_pos z] at hh
      subst hh
      simp (disch := first | assumption | omega) [x_chk, x_some, x_bind, x_let, lit_nI, nI_add, nI_mul, nI_sub, nI_clamp, nI_eq, nI_ltI, nI_leI, nN_e, nI_nN, nN_nI, bI_0, bI_1, bI_n, bool_0, bool_1, in_T, lg_cmp0, ofN_nI, a2, b4, b5, hn, x3, x5, sc, z, q1, sortI_2]
    · rw [if_neg z] at hh
      subst hh
      simp (disch := first | assumption | omega) [x_chk, x_some, x_bind, x_let, lit_nI, nI_add, nI_mul, nI_sub, nI_clamp, nI_eq, nI_ltI, nI_leI, nN_e, nI_nN, nN_nI, bI_0, bI_1, bI_n, bool_0, bool_1, in_T, lg_cmp0, ofN_nI, a2, b4, b5, hn, x3, x5, sc, z, q1, sortI_2]
  · -- the list
    have key : (∀ j y, (m.wNet x).nets[j]? = some y → (j < home ∧ m.nets[j]? = some y) ∨ (j = home ∧ y = x) ∨ (home < j ∧ j ≤ m.nets.length ∧ m.nets[j - 1]? = some y)) ∧ (m.wNet x).nets.length = m.nets.length + 1 ∧ (m.wNet x).ports.length = m.ports.length + (if x.2.1 = 2 then 0 else 1) ∧ (m.wNet x).asg = m.asg ∧ (m.wNet x).ins = m.ins ∧ (m.wNet x).nm = m.nm ∧ (m.wNet x).pl = m.pl := by
      by_cases z : x.2.1 = 2
      · obtain ⟨w1, w2, w3, w4, w5, w6⟩ := wNet_w (m := m) z
        rw [if_pos z] at hh ⊢
        refine ⟨fun j y hy => ?_, by rw [w1]; simp, by rw [w2]; rfl, w3, w4, w5, w6⟩
        rw [w1, get_mid, List.append_nil] at hy
        split at hy
        · left; exact ⟨by omega, hy⟩
        · split at hy
          · right; left; cases hy; exact ⟨by omega, rfl⟩
          · have := get_lt hy; omega
      · obtain ⟨w1, w2, w3, w4, w5, w6⟩ := wNet_p (m := m) z
        rw [if_neg z] at hh ⊢
        refine ⟨fun j y hy => ?_, by rw [w1]; simp [xMod.nets]; omega, by rw [w2]; simp, w3, w4, w5, w6⟩
        rw [w1, get_mid] at hy
        split at hy
        · left; exact ⟨by omega, hy⟩
        · split at hy
          · right; left; cases hy; exact ⟨by omega, rfl⟩
          · right; right
            have := get_lt hy
            refine ⟨by omega, ?_, hy⟩
            show j ≤ (m.ports ++ m.wires).length
            omega
    obtain ⟨k1, k2, k3, k4, k5, k6, k7⟩ := key
    have gn : ∀ y ∈ m.nets, (if y.1 = x.1 then a else g y.1) = g y.1 := fun y hy => if_neg (find_not hf y hy)
    refine ⟨⟨a1, by rw [sK]; exact a2, (s0 _ (by decide) (by decide)).trans a3, by rw [sJ, k6]; exact a4, by rw [k7]; exact (s0 _ (by decide) (by decide)).trans a5⟩, ⟨by rw [sR]; exact b1, by rw [sK]; exact b2, by rw [sL]; exact b3, by rw [q3, b4, nI_add, k2], by rw [q4, b5, nI_add, k3], by rw [k2]; omega⟩,
      ⟨by rw [sR]; exact c1, by rw [sK]; exact c2, by rw [sL]; exact c3, by rw [sR]; exact c4, by rw [sK]; exact c5, by rw [sL]; exact c6, by rw [k4]; exact (s0 _ (by decide) (by decide)).trans c7, by rw [k4]; exact c8⟩, ⟨by rw [sR]; exact d1, by rw [sK]; exact d2, by rw [sL]; exact d3, by rw [k5]; exact (s0 _ (by decide) (by decide)).trans d4, by rw [k5]; exact d5⟩, fun j y hy => ?_, fun j y hy => ?_, fun j y hy => ?_⟩
    · rcases k1 j y hy with ⟨h1, h2⟩ | ⟨h1, h2⟩ | ⟨h1, h2, h3⟩
      · obtain ⟨z1, z2⟩ := e1 j y h2
        simp only [gn y (List.mem_of_getElem? h2)]
        exact ⟨by rw [q5 j, if_pos h1]; exact z1, z2.sm s (Nat.le_refl _)⟩
      · subst h2
        simp only [if_true]
        exact ⟨by rw [q5 j, if_neg (by omega), if_pos h1], hx.sm s (Nat.le_refl _)⟩
      · obtain ⟨z1, z2⟩ := e1 (j - 1) y h3
        simp only [gn y (List.mem_of_getElem? h3)]
        exact ⟨by rw [q5 j, if_neg (by omega), if_neg (by omega), if_pos h2]; exact z1, z2.sm s (Nat.le_refl _)⟩
    · rw [k4] at hy
      obtain ⟨u, v, z1, z2, z3, z4⟩ := e2 j y hy
      have pw := hw.1 y (List.mem_of_getElem? hy)
      exact ⟨u, v, (sA _ _ (by omega)).trans z1, (sA _ _ (by omega)).trans z2, (z3.sm s (Nat.le_refl _)).g (PW_g pw.1 hf), (z4.sm s (Nat.le_refl _)).g (PW_g pw.2 hf)⟩
    · rw [k5] at hy
      obtain ⟨u, z1, z2⟩ := e3 j y hy
      refine ⟨u, (sA _ _ (by omega)).trans z1, ?_⟩
      obtain ⟨i1, i2, i3, i4, i5, i6, i7, i8, i9, i10, i11, i12, i13, i14⟩ := z2.sm s (Nat.le_refl _)
      refine ⟨i1, i2, i3, i4, i5, i6, i7, i8, i9, i10, i11, i12, i13, fun k l hl => ?_⟩
      obtain ⟨b, l1, l2, l3, l4, l5, l6, l7⟩ := i14 k l hl
      refine ⟨b, l1, l2, l3, l4, l5, l6, ?_⟩
      have pw := hw.2.1 y (List.mem_of_getElem? hy) l (List.mem_of_getElem? hl)
      cases h1 : σ'.R 202 b with
      | none =>
        rw [h1] at l7
        cases h2 : l.2.2 with
        | none => trivial
        | some r => rw [h2] at l7; exact l7.elim
      | some c =>
        rw [h1] at l7
        cases h2 : l.2.2 with
        | none => rw [h2] at l7; exact l7.elim
        | some r =>
          rw [h2] at l7
          exact PartR.g (g' := fun y => if y = x.1 then a else g y) l7 (PW_g (pw r h2) hf)
