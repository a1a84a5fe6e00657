/-! ===== the reference: the modules of a text ===== -/
theorem piece_shape {T : xT} {lng : Bool} {ms : List xMod} {m : xMod} {p : Nat} {c : xCur} (h : sp_piece T lng (ms, some m, p) = .ok c) : (∃ m', c = (ms, some m', c.2.2)) ∨ c = (ms ++ [m], none, c.2.2) := by
  have it : ∀ e : Except Nat (xMod × Nat), sp_item e ms = .ok c → ∃ m', c = (ms, some m', c.2.2) := by
    intro e he
    unfold sp_item at he
    obtain ⟨q, h1, h2⟩ := eb_eq he
    cases h2
    exact ⟨_, rfl⟩
  have en : ∀ e : Except Nat Nat, (eb e fun p => .ok (ms ++ [m], none, p)) = .ok c → c = (ms ++ [m], none, c.2.2) := by
    intro e he
    obtain ⟨q, h1, h2⟩ := eb_eq he
    cases h2
    rfl
  unfold sp_piece at h
  simp only at h
  repeat' split at h
  all_goals first
    | exact Or.inl (it _ h)
    | exact Or.inr (en _ h)
theorem tx_body {T : xT} (hT : TV T) {lng : Bool} {ms : List xMod} : ∀ (k : Nat) (m : xMod) (p : Nat), KX T lng (ms, some m, p) → T.2 < p + k → sp_text T lng k (ms, some m, p) = (eb (sp_body T lng ms k m p) fun q => sp_text T lng q.2.2 (ms ++ [q.1], none, q.2.1)) ∧ ∀ q, sp_body T lng ms k m p = .ok q → KX T lng (ms ++ [q.1], none, q.2.1) ∧ p < q.2.1 ∧ T.2 < q.2.1 + q.2.2 ∧ q.2.2 < k := by
  intro k
  induction k with
  | zero =>
    intro m p kx hk
    have := kx.1
    simp only at this
    omega
  | succ k ih =>
    intro m p kx hk
    simp only [sp_text, sp_body]
    rw [if_neg (by simp)]
    cases e : sp_piece T lng (ms, some m, p) with
    | error f =>
      refine ⟨rfl, fun q hq => ?_⟩
      cases hq
    | ok c =>
      obtain ⟨kx', lt⟩ := KX.piece hT kx e
      have lt : p < c.2.2 := lt
      rw [eb_ok, eb_ok]
      rcases piece_shape e with ⟨m', hc⟩ | hc
      · rw [hc] at kx' ⊢
        simp only
        obtain ⟨i1, i2⟩ := ih m' c.2.2 kx' (by omega)
        refine ⟨i1, fun q hq => ?_⟩
        obtain ⟨j1, j2, j3, j4⟩ := i2 q hq
        exact ⟨j1, by omega, j3, by omega⟩
      · rw [hc] at kx' ⊢
        simp only
        rw [eb_ok]
        refine ⟨rfl, fun q hq => ?_⟩
        cases hq
        exact ⟨kx', lt, by simp only; omega, by simp only; omega⟩
theorem dz_text {T : xT} {lng : Bool} {ms : List xMod} {k p : Nat} (hk : lx_kind T p = 4) : sp_text T lng (k + 1) (ms, none, p) = .error p := by
  have lt : ¬ T.2 ≤ p := by
    intro z
    unfold lx_kind at hk
    rw [if_pos z] at hk
    cases hk
  simp only [sp_text]
  rw [if_neg (by simp; omega)]
  unfold sp_piece sp_item sp_longHead sp_shortHead
  simp only [dz_txt hk, Bool.false_eq_true, if_false, ite_self, eb_er]
theorem tx_head {T : xT} (hT : TV T) {lng : Bool} {ms : List xMod} {k p : Nat} (kx : KX T lng (ms, none, p)) (hp : p < T.2) (hk : T.2 < p + (k + 1)) : sp_text T lng (k + 1) (ms, none, p) = (eb (eb (if lng = true then sp_longHead T ms p else sp_shortHead T ms p) fun q => sp_body T lng ms k q.1 q.2) fun q => sp_text T lng q.2.2 (ms ++ [q.1], none, q.2.1)) ∧ ∀ q, (eb (if lng = true then sp_longHead T ms p else sp_shortHead T ms p) fun q => sp_body T lng ms k q.1 q.2) = .ok q → KX T lng (ms ++ [q.1], none, q.2.1) ∧ p < q.2.1 ∧ T.2 < q.2.1 + q.2.2 ∧ q.2.2 < k := by
  have e0 : sp_piece T lng (ms, none, p) = sp_item (if lng = true then sp_longHead T ms p else sp_shortHead T ms p) ms := rfl
  have st : sp_text T lng (k + 1) (ms, none, p) = eb (sp_piece T lng (ms, none, p)) fun c2 => sp_text T lng k c2 := by
    simp only [sp_text]
    rw [if_neg (by simp; omega)]
  rw [st]
  rw [e0]
  cases e : (if lng = true then sp_longHead T ms p else sp_shortHead T ms p) with
  | error f =>
    refine ⟨rfl, fun q hq => ?_⟩
    cases hq
  | ok q =>
    have kp : sp_piece T lng (ms, none, p) = .ok (ms, some q.1, q.2) := by rw [e0, e]; rfl
    obtain ⟨kx', lt⟩ := KX.piece hT kx kp
    have lt : p < q.2 := lt
    obtain ⟨i1, i2⟩ := tx_body hT k q.1 q.2 kx' (by omega)
    unfold sp_item
    rw [eb_ok, eb_ok, eb_ok]
    refine ⟨i1, fun r hr => ?_⟩
    obtain ⟨j1, j2, j3, j4⟩ := i2 r hr
    exact ⟨j1, by omega, j3, j4⟩
/-- one module more -/
def upM (P : xP) (hv k : Nat) (σ : xS) : xS := (σ.setI 1141 (P.base + 11) (nI (k + 1))).setAI (P.base + 15) hv (nI (k + 1))
theorem upM_FR {P : xP} {hv k : Nat} {σ : xS} : FR P hv σ (upM P hv k σ) := by
  refine ⟨⟨rfl, rfl, rfl, rfl, rfl, rfl, rfl, rfl⟩, fun f a hf => ?_, fun a i ha => ?_⟩
  · exact up2_ne (fun z => hf ⟨z.2, Or.inr z.1⟩)
  · refine up2_ne (fun z => ?_)
    exact ha 15 z.1 (Or.inr (Or.inl ⟨Or.inl rfl, z.2⟩))
theorem upM_AI {P : xP} {hv k c i : Nat} {σ : xS} (h : ¬ (c = 15 ∧ i = hv)) : (upM P hv k σ).AI (P.base + c) i = σ.AI (P.base + c) i := up2_ne (by omega)
theorem upM_I {P : xP} {hv k c : Nat} {σ : xS} (h : c ≠ 1141) : (upM P hv k σ).I c (P.base + 11) = σ.I c (P.base + 11) := up2_ne (by omega)
theorem RMc.ai {P : xP} {T : xT} {hv n M ni : Nat} {σ σ' : xS} {m : xMod} (h : RMc P σ T hv n M m ni) (e : ∀ k i, 16 ≤ k → σ'.AI (P.base + k) i = σ.AI (P.base + k) i) : RMc P σ' T hv n M m ni := by
  obtain ⟨⟨h1, h2, h3, h4, h5, h6⟩, h7, h8, h9⟩ := h
  have rr : ∀ r x, RRef P σ T hv n m.nets r x → RRef P σ' T hv n m.nets r x := fun r x hr => hr.nm (fun c _ _ => e c r (by omega)) (fun _ _ z => z)
  refine ⟨⟨(e _ _ (by omega)).trans h1, h2, (e _ _ (by omega)).trans h3, (e _ _ (by omega)).trans h4, (e _ _ (by omega)).trans h5, (e _ _ (by omega)).trans h6⟩, fun j x hx => ?_, fun j a ha => ?_, fun j i hi => ?_⟩
  · obtain ⟨⟨q, a1, a2⟩, a3, a4, a5⟩ := h7 j x hx
    exact ⟨⟨q, (e _ _ (by omega)).trans a1, a2⟩, (e _ _ (by omega)).trans a3, (e _ _ (by omega)).trans a4, (e _ _ (by omega)).trans a5⟩
  · obtain ⟨r1, r2, a1, a2, a3, a4⟩ := h8 j a ha
    exact ⟨r1, r2, (e _ _ (by omega)).trans a1, (e _ _ (by omega)).trans a2, rr _ _ a3, rr _ _ a4⟩
  · obtain ⟨⟨q, a1, a2⟩, a3, a4, a5, a6, a7⟩ := h9 j i hi
    refine ⟨⟨q, (e _ _ (by omega)).trans a1, a2⟩, (e _ _ (by omega)).trans a3, a4, (e _ _ (by omega)).trans a5, (e _ _ (by omega)).trans a6, fun t l hl => ?_⟩
    exact (a7 t l hl).ag (fun k hk => e _ _ (by omega)) (fun r x _ => rr r x)
theorem RXf.mb {P : xP} {T : xT} {hv : Nat} {lng : Bool} {ms : List xMod} {m : xMod} {n : Nat} {σ : xS} {p : Nat} (h : RXf P T hv lng ms m n σ p) (hd : DX lng (ms ++ [m]) p) : MB P T hv lng (ms ++ [m]) n (upM P hv ms.length σ) p := by
  obtain ⟨⟨g1, g2, g3, g4, g5, ⟨ni, g7⟩, g8, g9, g10⟩, hi⟩ := h
  have hv1 := g1.2.2.1
  have e : ∀ k i, 16 ≤ k → (upM P hv ms.length σ).AI (P.base + k) i = σ.AI (P.base + k) i := fun k i hk => upM_AI (by omega)
  have ni' : nI ni = nI m.ins.length := g7.1.2.2.2.2.2.symm.trans hi
  have rc : RC P T (upM P hv ms.length σ) p := by
    obtain ⟨c1, c2, c3, c4, c5, c6, c7, c8⟩ := g2
    refine ⟨c1, (upM_I (by omega)).trans c2, (upM_I (by omega)).trans c3, (upM_I (by omega)).trans c4, (upM_I (by omega)).trans c5, (upM_I (by omega)).trans c6, fun z => (upM_I (by omega)).trans (c7 z), fun z => (upM_I (by omega)).trans (c8 z)⟩
  have len : (ms ++ [m]).length = ms.length + 1 := by simp
  refine ⟨upM_FR.tx g1, rc, ?_, ?_, ⟨(e _ _ (by omega)).trans g5.1, g5.2⟩, hd, fun k m' hm' => ?_⟩
  · rw [len]; unfold upM; simp [q_K_setI, q_I_setI, q_J_setI, q_R_setI, q_L_setI, q_AI_setI, q_AJ_setI, q_AR_setI, q_sz_setI, q_su_setI, q_K_setJ, q_I_setJ, q_J_setJ, q_R_setJ, q_L_setJ, q_AI_setJ, q_AJ_setJ, q_AR_setJ, q_sz_setJ, q_su_setJ, q_K_setR, q_I_setR, q_J_setR, q_R_setR, q_L_setR, q_AI_setR, q_AJ_setR, q_AR_setR, q_sz_setR, q_su_setR, q_K_setAI, q_I_setAI, q_J_setAI, q_R_setAI, q_L_setAI, q_AI_setAI, q_AJ_setAI, q_AR_setAI, q_sz_setAI, q_su_setAI, q_K_setAJ, q_I_setAJ, q_J_setAJ, q_R_setAJ, q_L_setAJ, q_AI_setAJ, q_AJ_setAJ, q_AR_setAJ, q_sz_setAJ, q_su_setAJ, q_K_setAR, q_I_setAR, q_J_setAR, q_R_setAR, q_L_setAR, q_AI_setAR, q_AJ_setAR, q_AR_setAR, q_sz_setAR, q_su_setAR, q_K_newO, q_I_newO, q_J_newO, q_R_newO, q_L_newO, q_AI_newO, q_AJ_newO, q_AR_newO, q_sz_newO, q_su_newO, q_K_newA, q_I_newA, q_J_newA, q_R_newA, q_L_newA, q_AI_newA, q_AJ_newA, q_AR_newA, q_sz_newA, q_su_newA, q_K_skip, q_I_skip, q_J_skip, q_R_skip, q_L_skip, q_AI_skip, q_AJ_skip, q_AR_skip, q_sz_skip, q_su_skip, q_up2, q_up]
  · rw [len]; unfold upM; simp [q_K_setI, q_I_setI, q_J_setI, q_R_setI, q_L_setI, q_AI_setI, q_AJ_setI, q_AR_setI, q_sz_setI, q_su_setI, q_K_setJ, q_I_setJ, q_J_setJ, q_R_setJ, q_L_setJ, q_AI_setJ, q_AJ_setJ, q_AR_setJ, q_sz_setJ, q_su_setJ, q_K_setR, q_I_setR, q_J_setR, q_R_setR, q_L_setR, q_AI_setR, q_AJ_setR, q_AR_setR, q_sz_setR, q_su_setR, q_K_setAI, q_I_setAI, q_J_setAI, q_R_setAI, q_L_setAI, q_AI_setAI, q_AJ_setAI, q_AR_setAI, q_sz_setAI, q_su_setAI, q_K_setAJ, q_I_setAJ, q_J_setAJ, q_R_setAJ, q_L_setAJ, q_AI_setAJ, q_AJ_setAJ, q_AR_setAJ, q_sz_setAJ, q_su_setAJ, q_K_setAR, q_I_setAR, q_J_setAR, q_R_setAR, q_L_setAR, q_AI_setAR, q_AJ_setAR, q_AR_setAR, q_sz_setAR, q_su_setAR, q_K_newO, q_I_newO, q_J_newO, q_R_newO, q_L_newO, q_AI_newO, q_AJ_newO, q_AR_newO, q_sz_newO, q_su_newO, q_K_newA, q_I_newA, q_J_newA, q_R_newA, q_L_newA, q_AI_newA, q_AJ_newA, q_AR_newA, q_sz_newA, q_su_newA, q_K_skip, q_I_skip, q_J_skip, q_R_skip, q_L_skip, q_AI_skip, q_AJ_skip, q_AR_skip, q_sz_skip, q_su_skip, q_up2, q_up]
  · rcases app_get hm' with ⟨z1, z2⟩ | ⟨z1, z2⟩
    · exact RMc.ai (g10 k m' z2) e
    · subst z1 z2
      have : RMd P σ T hv n (8 * hv + ms.length) m' := by
        obtain ⟨⟨a1, a2, a3, a4, a5, a6⟩, a7, a8, a9⟩ := g7
        exact ⟨⟨a1, a2, a3, a4, a5, hi⟩, a7, a8, a9⟩
      exact RMc.ai this e
/-- what the modules of a text leave -/
def QX (P : xP) (T : xT) (hv : Nat) (lng : Bool) (s : xS) (e : Except Nat (List xMod)) : Prop := match e with
  | .error f => DE P s f ∧ TX P T hv s
  | .ok ms => ∃ n, MB P T hv lng ms n s T.2
theorem rw_L131 {P : xP} {T : xT} {hv : Nat} {lng : Bool} : ∀ (k : Nat) (ms : List xMod) (σ : xS) (p N n : Nat), T.2 < p + k → k ≤ 1001 → k + 1 < N → KX T lng (ms, none, p) → MB P T hv lng ms n σ p → ∃ s, dm_X12_read_L131 P (P.base + 11) N (if lng = true then nI 0 else nI 1) σ = dm_X12_read_p186 P (P.base + 11) s ∧ FR P hv σ s ∧ QX P T hv lng s (sp_text T lng k (ms, none, p)) := by
  have n10 : ¬ nI 1 = nI 0 := by decide
  have dead : ∀ (s : xS) (g N : Nat) (v : Int32), DE P s g → dm_X12_read_L131 P (P.base + 11) (N + 1) v s = dm_X12_read_p186 P (P.base + 11) s := by
    intro s g N v hd
    have okd := rd_ok hd.1 (by have := hd.2.2; omega) hd.2.1
    unfold dm_X12_read_L131
    simp only [ri_0 hd.1, ck_T, eq_self, okd, bd_l, lit_nI, if_true]
  have up : ∀ (s : xS) (j N : Nat) (v : Int32), TX P T hv s → s.I 1141 (P.base + 11) = nI j → j ≤ 8 → dm_X12_read_p160 P (dm_X12_read_L131 P (P.base + 11) N) (P.base + 11) v s = dm_X12_read_L131 P (P.base + 11) N v (upM P hv j s) := by
    intro s j N v tx hm hj
    have hv1 := tx.2.2.1
    have hh := tx.2.2.2.1
    unfold dm_X12_read_p160 upM
    simp (disch := first | assumption | omega) [ck_T, sm_s, bd_l, bd_r, lt_e, eq_self, and_self, if_true, true_and, and_true, lit_nI, nI_add, nI_mul, nI_sub, nI_clamp, nI_eq, nI_ltI, nI_leI, nN_e, nI_nN, nN_nI, bI_0, bI_1, bI_n, bool_0, bool_1, in_T, lg_cmp0, ofN_nI, q_K_setI, q_I_setI, q_J_setI, q_R_setI, q_L_setI, q_AI_setI, q_AJ_setI, q_AR_setI, q_sz_setI, q_su_setI, q_K_setJ, q_I_setJ, q_J_setJ, q_R_setJ, q_L_setJ, q_AI_setJ, q_AJ_setJ, q_AR_setJ, q_sz_setJ, q_su_setJ, q_K_setR, q_I_setR, q_J_setR, q_R_setR, q_L_setR, q_AI_setR, q_AJ_setR, q_AR_setR, q_sz_setR, q_su_setR, q_K_setAI, q_I_setAI, q_J_setAI, q_R_setAI, q_L_setAI, q_AI_setAI, q_AJ_setAI, q_AR_setAI, q_sz_setAI, q_su_setAI, q_K_setAJ, q_I_setAJ, q_J_setAJ, q_R_setAJ, q_L_setAJ, q_AI_setAJ, q_AJ_setAJ, q_AR_setAJ, q_sz_setAJ, q_su_setAJ, q_K_setAR, q_I_setAR, q_J_setAR, q_R_setAR, q_L_setAR, q_AI_setAR, q_AJ_setAR, q_AR_setAR, q_sz_setAR, q_su_setAR, q_K_newO, q_I_newO, q_J_newO, q_R_newO, q_L_newO, q_AI_newO, q_AJ_newO, q_AR_newO, q_sz_newO, q_su_newO, q_K_newA, q_I_newA, q_J_newA, q_R_newA, q_L_newA, q_AI_newA, q_AJ_newA, q_AR_newA, q_sz_newA, q_su_newA, q_K_skip, q_I_skip, q_J_skip, q_R_skip, q_L_skip, q_AI_skip, q_AJ_skip, q_AR_skip, q_sz_skip, q_su_skip, q_up2, q_up, ri_0 (tx.1), ri_10 (tx.1), ri_11 (tx.1), ri_12 (tx.1), hm, hh, x_in, dlt_T, dle_T]
  intro k
  induction k using Nat.strongRecOn with
  | ind k ih0 =>
    intro ms σ p N n h1 h2 h3 kx h
    obtain ⟨k, rfl⟩ : ∃ j, k = j + 1 := ⟨k - 1, by have := h.2.1.1; omega⟩
    have hT := h.1.2.1
    obtain ⟨N, rfl⟩ : ∃ k, N = k + 1 := ⟨N - 1, by omega⟩
    obtain ⟨N1, hN1⟩ : ∃ k, N = k + 1 := ⟨N - 1, by omega⟩
    have pT := h.2.1.1
    by_cases d : lx_kind T p = 4
    · have dq := h.bad d
      refine ⟨σ, dead _ _ _ _ dq.de, FR.refl _ _ _, ?_⟩
      rw [dz_text d]
      exact ⟨dq.de, h.1⟩
    · have a0 := ri_0 h.1.1
      have ok := rw_ok h.1.1 (h.2.1.ok d)
      have kd := h.2.1.2.2.2.2.1
      by_cases e : T.2 ≤ p
      · have ep : p = T.2 := by omega
        have k0 : rKd T p = 0 := by unfold rKd; rw [if_pos e]
        rw [k0] at kd
        refine ⟨σ, ?_, FR.refl _ _ _, ?_⟩
        · unfold dm_X12_read_L131
          simp only [a0, ck_T, eq_self, ok, bd_l, lit_nI, n10, if_false, kd, if_true]
        · simp only [sp_text]
          rw [if_pos (by simp [e])]
          subst ep
          exact ⟨n, h⟩
      · have k0 : ¬ σ.I 1135 (P.base + 11) = nI 0 := by
          rw [kd]
          unfold rKd
          rw [if_neg e]
          split
          · decide
          · split <;> decide
        obtain ⟨th, tk⟩ := tx_head (k := k) hT kx (by omega) h1
        have mo : Rr (if lng = true then dm_X12_longModule P (P.base + 11) σ else dm_X12_shortModule P (P.base + 11) σ) (eb (if lng = true then sp_longHead T ms p else sp_shortHead T ms p) fun q => sp_body T lng ms k q.1 q.2) (QB P T hv lng ms σ) (ER P T hv ms.length σ) := by
          cases lng with
          | true =>
            simp only [if_true]
            exact rw_longModule h d h1 (by omega)
          | false =>
            simp only [Bool.false_eq_true, if_false]
            exact rw_shortModule h d h1 (by omega)
        have st : ∀ v s, (if lng = true then dm_X12_longModule P (P.base + 11) σ else dm_X12_shortModule P (P.base + 11) σ) = some (.inl v, s) → dm_X12_read_L131 P (P.base + 11) (N + 1) (if lng = true then nI 0 else nI 1) σ = dm_X12_read_p160 P (dm_X12_read_L131 P (P.base + 11) N) (P.base + 11) (if lng = true then nI 0 else nI 1) s := by
          intro v s hs
          conv => lhs; unfold dm_X12_read_L131
          cases lng with
          | true =>
            simp only [if_true] at hs ⊢
            simp only [a0, ck_T, eq_self, ok, bd_l, lit_nI, n10, if_false, k0, if_true, hs]
          | false =>
            simp only [Bool.false_eq_true, if_false] at hs ⊢
            simp only [a0, ck_T, eq_self, ok, bd_l, lit_nI, n10, if_false, k0, hs]
        obtain ⟨v, s, m1, m2⟩ := mo
        have l8 := h.2.2.2.2.2.1.1
        have udead : ∀ g, FR P hv σ s → DQ P T hv ms.length g s → ∃ s', dm_X12_read_L131 P (P.base + 11) (N + 1) (if lng = true then nI 0 else nI 1) σ = dm_X12_read_p186 P (P.base + 11) s' ∧ FR P hv σ s' ∧ DE P s' g ∧ TX P T hv s' := by
          intro g f dq
          have de : DE P (upM P hv ms.length s) g := ⟨dq.de.1, (upM_I (by omega)).trans dq.de.2.1, dq.de.2.2⟩
          refine ⟨upM P hv ms.length s, ?_, f.trans upM_FR, de, upM_FR.tx dq.1⟩
          rw [st v s m1, up s ms.length N _ dq.1 dq.2.2.2.2 l8, hN1]
          exact dead _ _ _ _ de
        cases ee : (eb (if lng = true then sp_longHead T ms p else sp_shortHead T ms p) fun q => sp_body T lng ms k q.1 q.2) with
        | error g =>
          rw [ee] at m2 th
          have m2 : ER P T hv ms.length σ g s := m2
          obtain ⟨s', z1, z2, z3⟩ := udead g m2.1 m2.2
          refine ⟨s', z1, z2, ?_⟩
          rw [th, eb_er]
          exact z3
        | ok q =>
          rw [ee] at m2 th
          obtain ⟨f1, f2, f3, f4⟩ := m2
          obtain ⟨t1, t2, t3, t4⟩ := tk q ee
          rw [eb_ok] at th
          by_cases d2 : lx_kind T q.2.1 = 4
          · obtain ⟨s', z1, z2, z3⟩ := udead q.2.1 f1 (f4 d2)
            refine ⟨s', z1, z2, ?_⟩
            have q1 : q.2.1 ≤ T.2 := t1.1
            obtain ⟨j, hj⟩ : ∃ j, q.2.2 = j + 1 := ⟨q.2.2 - 1, by omega⟩
            rw [th, hj, dz_text d2]
            exact z3
          · obtain ⟨n', hr⟩ := f3 d2
            have mb := hr.mb t1.2
            obtain ⟨s', z1, z2, z3⟩ := ih0 q.2.2 (by omega) (ms ++ [q.1]) (upM P hv ms.length s) q.2.1 N n' t3 (by omega) (by omega) t1 mb
            refine ⟨s', ?_, (f1.trans upM_FR).trans z2, ?_⟩
            · rw [st v s m1, up s ms.length N _ hr.1.1 hr.1.2.2.1 l8]
              exact z1
            · rw [th]
              exact z3
