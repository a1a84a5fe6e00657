/-! ===== the class: the end of a module ===== -/
theorem cw_untoldL {P : xP} {σ : xS} {g : List Nat → Nat} {kd : List Nat → Option Nat} {ix M hi : Nat} {m : xMod} (h : MR σ g kd ix M hi m) (hw : NW m.nets) : ∀ (r j n : Nat), j + r = m.ports.length → r < n → dm_X5_hasUntoldPort_L2 P M n (nI j) σ = some (.inl (bI ((m.ports.drop j).any fun x => decide (x.2.1 = 3))), σ) := by
  obtain ⟨⟨a1, a2, a3, a4, a5⟩, ⟨b1, b2, b3, b4, b5, b6⟩, -, -, e1, -, -⟩ := h
  have lp : m.ports.length ≤ m.nets.length := by simp [xMod.nets]
  intro r
  induction r with
  | zero =>
    intro j n hj hn
    obtain ⟨n, rfl⟩ : ∃ m, n = m + 1 := ⟨n - 1, by omega⟩
    have e : m.ports.drop j = [] := List.drop_eq_nil_of_le (by omega)
    rw [e]
    unfold dm_X5_hasUntoldPort_L2
    simp (disch := first | assumption | omega) [x_chk, x_some, x_bind, x_let, lit_nI, nI_add, nI_mul, nI_sub, nI_clamp, nI_eq, nI_ltI, nI_leI, nN_e, nI_nN, nN_nI, bI_0, bI_1, bI_n, bool_0, bool_1, in_T, lg_cmp0, ofN_nI, a2, b5, dle_T, bI_ff]
  | succ r ih =>
    intro j n hj hn'
    obtain ⟨n, rfl⟩ : ∃ m, n = m + 1 := ⟨n - 1, by omega⟩
    obtain ⟨x, hx⟩ : ∃ x, m.ports[j]? = some x := ⟨_, List.getElem?_eq_getElem (by omega)⟩
    have hx2 : m.nets[j]? = some x := by
      show (m.ports ++ m.wires)[j]? = some x
      rw [List.getElem?_append_left (by omega)]; exact hx
    have ed : m.ports.drop j = x :: m.ports.drop (j + 1) := by
      obtain ⟨hlt, hx3⟩ := List.getElem?_eq_some_iff.mp hx
      rw [List.drop_eq_getElem_cons hlt, hx3]
    obtain ⟨q1, q2, q3, q4, q5, q6, q7⟩ := e1 j x hx2
    have no := (hw x (List.mem_of_getElem? hx2)).2.1
    have sn := sortI_eq no
    have ihh := ih (j + 1) n (by omega) (by omega)
    rw [ed]
    unfold dm_X5_hasUntoldPort_L2
    have i2 : ¬ m.ports.length ≤ j := by omega
    by_cases e : x.2.1 = 3
    · simp (disch := first | assumption | omega) [x_chk, x_some, x_bind, x_let, lit_nI, nI_add, nI_mul, nI_sub, nI_clamp, nI_eq, nI_ltI, nI_leI, nN_e, nI_nN, nN_nI, bI_0, bI_1, bI_n, bool_0, bool_1, in_T, lg_cmp0, ofN_nI, i2, a2, b1, b2, b3, b5, q1, q4, q6, sn, e, sortI_3, dlt_T, bI_tt]
    · simp (disch := first | assumption | omega) [x_chk, x_some, x_bind, x_let, lit_nI, nI_add, nI_mul, nI_sub, nI_clamp, nI_eq, nI_ltI, nI_leI, nN_e, nI_nN, nN_nI, bI_0, bI_1, bI_n, bool_0, bool_1, in_T, lg_cmp0, ofN_nI, i2, a2, b1, b2, b3, b5, q1, q4, q6, sn, e, dlt_T, ihh]
theorem cw_untold {P : xP} {σ : xS} {g : List Nat → Nat} {kd : List Nat → Option Nat} {ix M hi : Nat} {m : xMod} (C : CI P σ) (h : MR σ g kd ix M hi m) (hw : NW m.nets) : dm_X5_hasUntoldPort P M σ = some (.inl (bI (m.ports.any fun x => decide (x.2.1 = 3))), σ) := by
  have q := cw_untoldL (P := P) h hw m.ports.length 0 P.N (by omega) (by
    have := C.N
    have := h.2.1.2.2.2.2.2
    have lp : m.ports.length ≤ m.nets.length := by simp [xMod.nets]
    omega)
  exact q
/-- bits before the net k -/
def sp_fb (ns : List xNet) (k : Nat) : Nat := ((ns.take k).map fun x => x.2.2).sum
theorem fb_succ {ns : List xNet} {k : Nat} {x : xNet} (h : ns[k]? = some x) : sp_fb ns (k + 1) = sp_fb ns k + x.2.2 := by
  unfold sp_fb
  rw [List.take_succ, h]
  simp
def FBR (σ : xS) (g : List Nat → Nat) (M : Nat) (m : xMod) : Prop := σ.I 506 M = nI (sp_fb m.nets m.nets.length) ∧ ∀ k x, m.nets[k]? = some x → σ.I 403 (g x.1) = nI (sp_fb m.nets k)
/-- the module's bits were numbered -/
def FN (M : Nat) (σ σ' : xS) : Prop := σ'.K = σ.K ∧ σ'.L = σ.L ∧ σ'.J = σ.J ∧ σ'.R = σ.R ∧ σ'.AI = σ.AI ∧ σ'.AJ = σ.AJ ∧ σ'.AR = σ.AR ∧ σ'.sz = σ.sz ∧ σ'.su = σ.su ∧ (∀ f x, f ≠ 403 → f ≠ 506 → σ'.I f x = σ.I f x) ∧ (∀ f x, x < M → σ'.I f x = σ.I f x)
theorem FN.refl (M : Nat) (σ : xS) : FN M σ σ := ⟨rfl, rfl, rfl, rfl, rfl, rfl, rfl, rfl, rfl, fun _ _ _ _ => rfl, fun _ _ _ => rfl⟩
theorem FN.trans {M : Nat} {σ σ1 σ2 : xS} (h : FN M σ σ1) (k : FN M σ1 σ2) : FN M σ σ2 := by
  obtain ⟨a1, a2, a3, a4, a5, a6, a7, a8, a9, a10, a11⟩ := h
  obtain ⟨b1, b2, b3, b4, b5, b6, b7, b8, b9, b10, b11⟩ := k
  exact ⟨b1.trans a1, b2.trans a2, b3.trans a3, b4.trans a4, b5.trans a5, b6.trans a6, b7.trans a7, b8.trans a8, b9.trans a9, fun f x h1 h2 => (b10 f x h1 h2).trans (a10 f x h1 h2), fun f x h1 => (b11 f x h1).trans (a11 f x h1)⟩
theorem FN.fr {M : Nat} {σ σ' : xS} {P : xP} (h : FN M σ σ') (hM : P.base + 44 ≤ M) : Fr P M 0 σ σ' := by
  obtain ⟨a1, a2, a3, a4, a5, a6, a7, a8, a9, a10, a11⟩ := h
  refine ⟨fun b hb _ => ⟨by rw [a1], by rw [a2], fun f => a11 f b hb, fun f => by rw [a3], fun f => by rw [a4], fun i => by rw [a5], fun i => by rw [a6], fun i => by rw [a7]⟩, ⟨by rw [a1], fun f _ => a11 f _ (by omega), fun f => by rw [a4]⟩, ?_⟩
  exact ⟨by omega, by omega, by omega⟩
/-- what MRc does not read may change -/
theorem MRc.ix {σ σ' : xS} {g : List Nat → Nat} {kd : List Nat → Option Nat} {ix M hi ni : Nat} {m : xMod} (h : MRc σ g kd ix M hi m ni) (hK : σ'.K = σ.K) (hL : σ'.L = σ.L) (hJ : σ'.J = σ.J) (hR : σ'.R = σ.R) (hAR : σ'.AR = σ.AR) (hI : ∀ f x, f ≠ 403 → f ≠ 506 → f ≠ 512 → σ'.I f x = σ.I f x) : MRc σ' g kd ix M hi m ni := by
  have s : Sms σ (σ'.K, (fun f a => if f = 403 ∨ f = 506 ∨ f = 512 then σ.I f a else σ'.I f a), σ'.J, σ'.R, σ'.L, σ.AI, σ.AJ, σ'.AR, σ'.sz, σ'.su) M hi := by
    intro b _ _
    refine ⟨by rw [← hK]; rfl, by rw [← hL]; rfl, fun f => ?_, fun f => by rw [← hJ]; rfl, fun f => by rw [← hR]; rfl, fun i => rfl, fun i => rfl, fun i => by rw [← hAR]; rfl⟩
    show (if f = 403 ∨ f = 506 ∨ f = 512 then σ.I f b else σ'.I f b) = σ.I f b
    split
    · rfl
    · rename_i q
      exact hI f b (fun z => q (Or.inl z)) (fun z => q (Or.inr (Or.inl z))) (fun z => q (Or.inr (Or.inr z)))
  have q := MRc.sm h s (Nat.le_refl _)
  exact q
theorem net_g {σ : xS} {g : List Nat → Nat} {kd : List Nat → Option Nat} {ix M hi : Nat} {m : xMod} (h : MR σ g kd ix M hi m) (hw : NW m.nets) (hd : (m.nets.map fun x => x.1).Nodup) {j k : Nat} {x y : xNet} (hx : m.nets[j]? = some x) (hy : m.nets[k]? = some y) (hjk : j ≠ k) : g x.1 ≠ g y.1 := by
  intro e
  have a := (h.2.2.2.2.1 j x hx).2.2.2.2.1
  have b := (h.2.2.2.2.1 k y hy).2.2.2.2.1
  rw [e, b] at a
  have c := pk_inj (hw y (List.mem_of_getElem? hy)).1 (hw x (List.mem_of_getElem? hx)).1 a
  have l1 : (m.nets.map fun x => x.1)[j]? = some x.1 := by simp [hx]
  have l2 : (m.nets.map fun x => x.1)[k]? = some x.1 := by simp [hy, c]
  have hj := get_lt l1
  exact hjk ((List.getElem?_inj hj hd).mp (l1.trans l2.symm))
theorem cw_nbL {P : xP} {g : List Nat → Nat} {kd : List Nat → Option Nat} {ix M hi : Nat} {m : xMod} (hM : P.base + 44 ≤ M) (hw : NW m.nets) (hd : (m.nets.map fun x => x.1).Nodup) : ∀ (r j n : Nat) (σ : xS), j + r = m.nets.length → r < n → MR σ g kd ix M hi m → σ.I 506 M = nI (sp_fb m.nets j) → (∀ k x, k < j → m.nets[k]? = some x → σ.I 403 (g x.1) = nI (sp_fb m.nets k)) → ∃ σ', dm_X5_numberBits_L7 P M n (nI j) σ = some (.inl (), σ') ∧ FN M σ σ' ∧ FBR σ' g M m := by
  intro r
  induction r with
  | zero =>
    intro j n σ hj hn h hb hf
    obtain ⟨n, rfl⟩ : ∃ m, n = m + 1 := ⟨n - 1, by omega⟩
    have a2 := h.1.2.1
    have b4 := h.2.1.2.2.2.1
    have b6 := h.2.1.2.2.2.2.2
    refine ⟨σ, ?_, FN.refl M σ, ?_, fun k x hx => hf k x (by have := get_lt hx; omega) hx⟩
    · unfold dm_X5_numberBits_L7
      simp (disch := first | assumption | omega) [x_chk, x_some, x_bind, x_let, lit_nI, nI_add, nI_mul, nI_sub, nI_clamp, nI_eq, nI_ltI, nI_leI, nN_e, nI_nN, nN_nI, bI_0, bI_1, bI_n, bool_0, bool_1, in_T, lg_cmp0, ofN_nI, a2, b4, dle_T]
    · rw [hb, show j = m.nets.length by omega]
  | succ r ih =>
    intro j n σ hj hn h hb hf
    obtain ⟨n, rfl⟩ : ∃ m, n = m + 1 := ⟨n - 1, by omega⟩
    obtain ⟨x, hx⟩ : ∃ x, m.nets[j]? = some x := ⟨_, List.getElem?_eq_getElem (by omega)⟩
    obtain ⟨⟨a1, a2, a3, a4, a5⟩, ⟨b1, b2, b3, b4, b5, b6⟩, -, -, e1, -, -⟩ := id h
    obtain ⟨q1, q2, q3, q4, q5, q6, q7⟩ := e1 j x hx
    have n1 : ¬ g x.1 = M := by omega
    have n2 : ¬ M = g x.1 := by omega
    have h1 : FN M σ ((σ.setI 403 (g x.1) (nI (sp_fb m.nets j))).setI 506 M (nI (sp_fb m.nets (j + 1)))) := by
      refine ⟨rfl, rfl, rfl, rfl, rfl, rfl, rfl, rfl, rfl, fun f y z1 z2 => ?_, fun f y z => ?_⟩
      · simp [q_K_setI, q_I_setI, q_J_setI, q_R_setI, q_L_setI, q_AI_setI, q_AJ_setI, q_AR_setI, q_sz_setI, q_su_setI, q_K_setJ, q_I_setJ, q_J_setJ, q_R_setJ, q_L_setJ, q_AI_setJ, q_AJ_setJ, q_AR_setJ, q_sz_setJ, q_su_setJ, q_K_setR, q_I_setR, q_J_setR, q_R_setR, q_L_setR, q_AI_setR, q_AJ_setR, q_AR_setR, q_sz_setR, q_su_setR, q_K_setAI, q_I_setAI, q_J_setAI, q_R_setAI, q_L_setAI, q_AI_setAI, q_AJ_setAI, q_AR_setAI, q_sz_setAI, q_su_setAI, q_K_setAJ, q_I_setAJ, q_J_setAJ, q_R_setAJ, q_L_setAJ, q_AI_setAJ, q_AJ_setAJ, q_AR_setAJ, q_sz_setAJ, q_su_setAJ, q_K_setAR, q_I_setAR, q_J_setAR, q_R_setAR, q_L_setAR, q_AI_setAR, q_AJ_setAR, q_AR_setAR, q_sz_setAR, q_su_setAR, q_K_newO, q_I_newO, q_J_newO, q_R_newO, q_L_newO, q_AI_newO, q_AJ_newO, q_AR_newO, q_sz_newO, q_su_newO, q_K_newA, q_I_newA, q_J_newA, q_R_newA, q_L_newA, q_AI_newA, q_AJ_newA, q_AR_newA, q_sz_newA, q_su_newA, q_K_skip, q_I_skip, q_J_skip, q_R_skip, q_L_skip, q_AI_skip, q_AJ_skip, q_AR_skip, q_sz_skip, q_su_skip, q_up2, q_up, z1, z2]
      · have : ¬ y = M := by omega
        have : ¬ y = g x.1 := by omega
        simp [q_K_setI, q_I_setI, q_J_setI, q_R_setI, q_L_setI, q_AI_setI, q_AJ_setI, q_AR_setI, q_sz_setI, q_su_setI, q_K_setJ, q_I_setJ, q_J_setJ, q_R_setJ, q_L_setJ, q_AI_setJ, q_AJ_setJ, q_AR_setJ, q_sz_setJ, q_su_setJ, q_K_setR, q_I_setR, q_J_setR, q_R_setR, q_L_setR, q_AI_setR, q_AJ_setR, q_AR_setR, q_sz_setR, q_su_setR, q_K_setAI, q_I_setAI, q_J_setAI, q_R_setAI, q_L_setAI, q_AI_setAI, q_AJ_setAI, q_AR_setAI, q_sz_setAI, q_su_setAI, q_K_setAJ, q_I_setAJ, q_J_setAJ, q_R_setAJ, q_L_setAJ, q_AI_setAJ, q_AJ_setAJ, q_AR_setAJ, q_sz_setAJ, q_su_setAJ, q_K_setAR, q_I_setAR, q_J_setAR, q_R_setAR, q_L_setAR, q_AI_setAR, q_AJ_setAR, q_AR_setAR, q_sz_setAR, q_su_setAR, q_K_newO, q_I_newO, q_J_newO, q_R_newO, q_L_newO, q_AI_newO, q_AJ_newO, q_AR_newO, q_sz_newO, q_su_newO, q_K_newA, q_I_newA, q_J_newA, q_R_newA, q_L_newA, q_AI_newA, q_AJ_newA, q_AR_newA, q_sz_newA, q_su_newA, q_K_skip, q_I_skip, q_J_skip, q_R_skip, q_L_skip, q_AI_skip, q_AJ_skip, q_AR_skip, q_sz_skip, q_su_skip, q_up2, q_up, *]
    obtain ⟨σ', t1, t2, t3⟩ := ih (j + 1) n ((σ.setI 403 (g x.1) (nI (sp_fb m.nets j))).setI 506 M (nI (sp_fb m.nets (j + 1)))) (by omega) (by omega) (MRc.ix h rfl rfl rfl rfl rfl (fun f y z1 z2 _ => h1.2.2.2.2.2.2.2.2.2.1 f y z1 z2)) (by simp [q_K_setI, q_I_setI, q_J_setI, q_R_setI, q_L_setI, q_AI_setI, q_AJ_setI, q_AR_setI, q_sz_setI, q_su_setI, q_K_setJ, q_I_setJ, q_J_setJ, q_R_setJ, q_L_setJ, q_AI_setJ, q_AJ_setJ, q_AR_setJ, q_sz_setJ, q_su_setJ, q_K_setR, q_I_setR, q_J_setR, q_R_setR, q_L_setR, q_AI_setR, q_AJ_setR, q_AR_setR, q_sz_setR, q_su_setR, q_K_setAI, q_I_setAI, q_J_setAI, q_R_setAI, q_L_setAI, q_AI_setAI, q_AJ_setAI, q_AR_setAI, q_sz_setAI, q_su_setAI, q_K_setAJ, q_I_setAJ, q_J_setAJ, q_R_setAJ, q_L_setAJ, q_AI_setAJ, q_AJ_setAJ, q_AR_setAJ, q_sz_setAJ, q_su_setAJ, q_K_setAR, q_I_setAR, q_J_setAR, q_R_setAR, q_L_setAR, q_AI_setAR, q_AJ_setAR, q_AR_setAR, q_sz_setAR, q_su_setAR, q_K_newO, q_I_newO, q_J_newO, q_R_newO, q_L_newO, q_AI_newO, q_AJ_newO, q_AR_newO, q_sz_newO, q_su_newO, q_K_newA, q_I_newA, q_J_newA, q_R_newA, q_L_newA, q_AI_newA, q_AJ_newA, q_AR_newA, q_sz_newA, q_su_newA, q_K_skip, q_I_skip, q_J_skip, q_R_skip, q_L_skip, q_AI_skip, q_AJ_skip, q_AR_skip, q_sz_skip, q_su_skip, q_up2, q_up]) (fun k y hk hy => by
      by_cases e : k = j
      · subst e
        rw [hx] at hy
        cases hy
        simp [q_K_setI, q_I_setI, q_J_setI, q_R_setI, q_L_setI, q_AI_setI, q_AJ_setI, q_AR_setI, q_sz_setI, q_su_setI, q_K_setJ, q_I_setJ, q_J_setJ, q_R_setJ, q_L_setJ, q_AI_setJ, q_AJ_setJ, q_AR_setJ, q_sz_setJ, q_su_setJ, q_K_setR, q_I_setR, q_J_setR, q_R_setR, q_L_setR, q_AI_setR, q_AJ_setR, q_AR_setR, q_sz_setR, q_su_setR, q_K_setAI, q_I_setAI, q_J_setAI, q_R_setAI, q_L_setAI, q_AI_setAI, q_AJ_setAI, q_AR_setAI, q_sz_setAI, q_su_setAI, q_K_setAJ, q_I_setAJ, q_J_setAJ, q_R_setAJ, q_L_setAJ, q_AI_setAJ, q_AJ_setAJ, q_AR_setAJ, q_sz_setAJ, q_su_setAJ, q_K_setAR, q_I_setAR, q_J_setAR, q_R_setAR, q_L_setAR, q_AI_setAR, q_AJ_setAR, q_AR_setAR, q_sz_setAR, q_su_setAR, q_K_newO, q_I_newO, q_J_newO, q_R_newO, q_L_newO, q_AI_newO, q_AJ_newO, q_AR_newO, q_sz_newO, q_su_newO, q_K_newA, q_I_newA, q_J_newA, q_R_newA, q_L_newA, q_AI_newA, q_AJ_newA, q_AR_newA, q_sz_newA, q_su_newA, q_K_skip, q_I_skip, q_J_skip, q_R_skip, q_L_skip, q_AI_skip, q_AJ_skip, q_AR_skip, q_sz_skip, q_su_skip, q_up2, q_up]
      · have := net_g h hw hd hy hx e
        simp [q_K_setI, q_I_setI, q_J_setI, q_R_setI, q_L_setI, q_AI_setI, q_AJ_setI, q_AR_setI, q_sz_setI, q_su_setI, q_K_setJ, q_I_setJ, q_J_setJ, q_R_setJ, q_L_setJ, q_AI_setJ, q_AJ_setJ, q_AR_setJ, q_sz_setJ, q_su_setJ, q_K_setR, q_I_setR, q_J_setR, q_R_setR, q_L_setR, q_AI_setR, q_AJ_setR, q_AR_setR, q_sz_setR, q_su_setR, q_K_setAI, q_I_setAI, q_J_setAI, q_R_setAI, q_L_setAI, q_AI_setAI, q_AJ_setAI, q_AR_setAI, q_sz_setAI, q_su_setAI, q_K_setAJ, q_I_setAJ, q_J_setAJ, q_R_setAJ, q_L_setAJ, q_AI_setAJ, q_AJ_setAJ, q_AR_setAJ, q_sz_setAJ, q_su_setAJ, q_K_setAR, q_I_setAR, q_J_setAR, q_R_setAR, q_L_setAR, q_AI_setAR, q_AJ_setAR, q_AR_setAR, q_sz_setAR, q_su_setAR, q_K_newO, q_I_newO, q_J_newO, q_R_newO, q_L_newO, q_AI_newO, q_AJ_newO, q_AR_newO, q_sz_newO, q_su_newO, q_K_newA, q_I_newA, q_J_newA, q_R_newA, q_L_newA, q_AI_newA, q_AJ_newA, q_AR_newA, q_sz_newA, q_su_newA, q_K_skip, q_I_skip, q_J_skip, q_R_skip, q_L_skip, q_AI_skip, q_AJ_skip, q_AR_skip, q_sz_skip, q_su_skip, q_up2, q_up, this]
        exact hf k y (by omega) hy)
    refine ⟨σ', ?_, h1.trans t2, t3⟩
    unfold dm_X5_numberBits_L7
    rw [← t1]
    have i2 : ¬ m.nets.length ≤ j := by omega
    simp (disch := first | assumption | omega) [x_chk, x_some, x_bind, x_let, lit_nI, nI_add, nI_mul, nI_sub, nI_clamp, nI_eq, nI_ltI, nI_leI, nN_e, nI_nN, nN_nI, bI_0, bI_1, bI_n, bool_0, bool_1, in_T, lg_cmp0, ofN_nI, q_K_setI, q_I_setI, q_J_setI, q_R_setI, q_L_setI, q_AI_setI, q_AJ_setI, q_AR_setI, q_sz_setI, q_su_setI, q_K_setJ, q_I_setJ, q_J_setJ, q_R_setJ, q_L_setJ, q_AI_setJ, q_AJ_setJ, q_AR_setJ, q_sz_setJ, q_su_setJ, q_K_setR, q_I_setR, q_J_setR, q_R_setR, q_L_setR, q_AI_setR, q_AJ_setR, q_AR_setR, q_sz_setR, q_su_setR, q_K_setAI, q_I_setAI, q_J_setAI, q_R_setAI, q_L_setAI, q_AI_setAI, q_AJ_setAI, q_AR_setAI, q_sz_setAI, q_su_setAI, q_K_setAJ, q_I_setAJ, q_J_setAJ, q_R_setAJ, q_L_setAJ, q_AI_setAJ, q_AJ_setAJ, q_AR_setAJ, q_sz_setAJ, q_su_setAJ, q_K_setAR, q_I_setAR, q_J_setAR, q_R_setAR, q_L_setAR, q_AI_setAR, q_AJ_setAR, q_AR_setAR, q_sz_setAR, q_su_setAR, q_K_newO, q_I_newO, q_J_newO, q_R_newO, q_L_newO, q_AI_newO, q_AJ_newO, q_AR_newO, q_sz_newO, q_su_newO, q_K_newA, q_I_newA, q_J_newA, q_R_newA, q_L_newA, q_AI_newA, q_AJ_newA, q_AR_newA, q_sz_newA, q_su_newA, q_K_skip, q_I_skip, q_J_skip, q_R_skip, q_L_skip, q_AI_skip, q_AJ_skip, q_AR_skip, q_sz_skip, q_su_skip, q_up2, q_up, i2, a2, b1, b2, b3, b4, q1, q4, q7, hb, n1, n2, fb_succ hx, dlt_T, dle_T]
theorem cw_numberBits {P : xP} {σ : xS} {g : List Nat → Nat} {kd : List Nat → Option Nat} {ix M hi : Nat} {m : xMod} (C : CI P σ) (hM : P.base + 44 ≤ M) (h : MR σ g kd ix M hi m) (hw : NW m.nets) (hd : (m.nets.map fun x => x.1).Nodup) : ∃ σ', dm_X5_numberBits P M σ = some (.inl (), σ') ∧ FN M σ σ' ∧ FBR σ' g M m := by
  have h1 : FN M σ (σ.setI 506 M (nI 0)) := by
    refine ⟨rfl, rfl, rfl, rfl, rfl, rfl, rfl, rfl, rfl, fun f y z1 z2 => ?_, fun f y z => ?_⟩
    · simp [q_K_setI, q_I_setI, q_J_setI, q_R_setI, q_L_setI, q_AI_setI, q_AJ_setI, q_AR_setI, q_sz_setI, q_su_setI, q_K_setJ, q_I_setJ, q_J_setJ, q_R_setJ, q_L_setJ, q_AI_setJ, q_AJ_setJ, q_AR_setJ, q_sz_setJ, q_su_setJ, q_K_setR, q_I_setR, q_J_setR, q_R_setR, q_L_setR, q_AI_setR, q_AJ_setR, q_AR_setR, q_sz_setR, q_su_setR, q_K_setAI, q_I_setAI, q_J_setAI, q_R_setAI, q_L_setAI, q_AI_setAI, q_AJ_setAI, q_AR_setAI, q_sz_setAI, q_su_setAI, q_K_setAJ, q_I_setAJ, q_J_setAJ, q_R_setAJ, q_L_setAJ, q_AI_setAJ, q_AJ_setAJ, q_AR_setAJ, q_sz_setAJ, q_su_setAJ, q_K_setAR, q_I_setAR, q_J_setAR, q_R_setAR, q_L_setAR, q_AI_setAR, q_AJ_setAR, q_AR_setAR, q_sz_setAR, q_su_setAR, q_K_newO, q_I_newO, q_J_newO, q_R_newO, q_L_newO, q_AI_newO, q_AJ_newO, q_AR_newO, q_sz_newO, q_su_newO, q_K_newA, q_I_newA, q_J_newA, q_R_newA, q_L_newA, q_AI_newA, q_AJ_newA, q_AR_newA, q_sz_newA, q_su_newA, q_K_skip, q_I_skip, q_J_skip, q_R_skip, q_L_skip, q_AI_skip, q_AJ_skip, q_AR_skip, q_sz_skip, q_su_skip, q_up2, q_up, z2]
    · have : ¬ y = M := by omega
      simp [q_K_setI, q_I_setI, q_J_setI, q_R_setI, q_L_setI, q_AI_setI, q_AJ_setI, q_AR_setI, q_sz_setI, q_su_setI, q_K_setJ, q_I_setJ, q_J_setJ, q_R_setJ, q_L_setJ, q_AI_setJ, q_AJ_setJ, q_AR_setJ, q_sz_setJ, q_su_setJ, q_K_setR, q_I_setR, q_J_setR, q_R_setR, q_L_setR, q_AI_setR, q_AJ_setR, q_AR_setR, q_sz_setR, q_su_setR, q_K_setAI, q_I_setAI, q_J_setAI, q_R_setAI, q_L_setAI, q_AI_setAI, q_AJ_setAI, q_AR_setAI, q_sz_setAI, q_su_setAI, q_K_setAJ, q_I_setAJ, q_J_setAJ, q_R_setAJ, q_L_setAJ, q_AI_setAJ, q_AJ_setAJ, q_AR_setAJ, q_sz_setAJ, q_su_setAJ, q_K_setAR, q_I_setAR, q_J_setAR, q_R_setAR, q_L_setAR, q_AI_setAR, q_AJ_setAR, q_AR_setAR, q_sz_setAR, q_su_setAR, q_K_newO, q_I_newO, q_J_newO, q_R_newO, q_L_newO, q_AI_newO, q_AJ_newO, q_AR_newO, q_sz_newO, q_su_newO, q_K_newA, q_I_newA, q_J_newA, q_R_newA, q_L_newA, q_AI_newA, q_AJ_newA, q_AR_newA, q_sz_newA, q_su_newA, q_K_skip, q_I_skip, q_J_skip, q_R_skip, q_L_skip, q_AI_skip, q_AJ_skip, q_AR_skip, q_sz_skip, q_su_skip, q_up2, q_up, this]
  obtain ⟨σ', t1, t2, t3⟩ := cw_nbL (P := P) hM hw hd m.nets.length 0 P.N (σ.setI 506 M (nI 0)) (by omega) (by have := C.N; have := h.2.1.2.2.2.2.2; omega) (MRc.ix h rfl rfl rfl rfl rfl (fun f y z1 z2 _ => h1.2.2.2.2.2.2.2.2.2.1 f y z1 z2)) (by simp [q_K_setI, q_I_setI, q_J_setI, q_R_setI, q_L_setI, q_AI_setI, q_AJ_setI, q_AR_setI, q_sz_setI, q_su_setI, q_K_setJ, q_I_setJ, q_J_setJ, q_R_setJ, q_L_setJ, q_AI_setJ, q_AJ_setJ, q_AR_setJ, q_sz_setJ, q_su_setJ, q_K_setR, q_I_setR, q_J_setR, q_R_setR, q_L_setR, q_AI_setR, q_AJ_setR, q_AR_setR, q_sz_setR, q_su_setR, q_K_setAI, q_I_setAI, q_J_setAI, q_R_setAI, q_L_setAI, q_AI_setAI, q_AJ_setAI, q_AR_setAI, q_sz_setAI, q_su_setAI, q_K_setAJ, q_I_setAJ, q_J_setAJ, q_R_setAJ, q_L_setAJ, q_AI_setAJ, q_AJ_setAJ, q_AR_setAJ, q_sz_setAJ, q_su_setAJ, q_K_setAR, q_I_setAR, q_J_setAR, q_R_setAR, q_L_setAR, q_AI_setAR, q_AJ_setAR, q_AR_setAR, q_sz_setAR, q_su_setAR, q_K_newO, q_I_newO, q_J_newO, q_R_newO, q_L_newO, q_AI_newO, q_AJ_newO, q_AR_newO, q_sz_newO, q_su_newO, q_K_newA, q_I_newA, q_J_newA, q_R_newA, q_L_newA, q_AI_newA, q_AJ_newA, q_AR_newA, q_sz_newA, q_su_newA, q_K_skip, q_I_skip, q_J_skip, q_R_skip, q_L_skip, q_AI_skip, q_AJ_skip, q_AR_skip, q_sz_skip, q_su_skip, q_up2, q_up, sp_fb]) (fun k x hk _ => by omega)
  refine ⟨σ', ?_, h1.trans t2, t3⟩
  rw [← t1]
  have a2 := h.1.2.1
  unfold dm_X5_numberBits
  simp (disch := first | assumption | omega) [x_chk, x_some, x_bind, x_let, lit_nI, nI_add, nI_mul, nI_sub, nI_clamp, nI_eq, nI_ltI, nI_leI, nN_e, nI_nN, nN_nI, bI_0, bI_1, bI_n, bool_0, bool_1, in_T, lg_cmp0, ofN_nI, a2, dle_T]
