/-! ===== the class: parts ===== -/
def Rf {α β : Type} (o : xO α) (e : Except Nat β) (Q : α → xS → β → Prop) (QE : Nat → xS → Prop) : Prop := match e with
  | .ok b => ∃ v σ', o = some (.inl v, σ') ∧ Q v σ' b
  | .error f => ∃ σ', o = some (.inr ISE, σ') ∧ QE f σ'
theorem Rf.ok {α β : Type} {o : xO α} {b : β} {Q : α → xS → β → Prop} {QE : Nat → xS → Prop} {v : α} {σ' : xS} (h : o = some (.inl v, σ')) (q : Q v σ' b) : Rf o (.ok b) Q QE := ⟨v, σ', h, q⟩
theorem Rf.er {α β : Type} {o : xO α} {f : Nat} {Q : α → xS → β → Prop} {QE : Nat → xS → Prop} {σ' : xS} (h : o = some (.inr ISE, σ')) (q : QE f σ') : Rf o (.error f) Q QE := ⟨σ', h, q⟩
theorem Rf.mono {α β : Type} {o : xO α} {e : Except Nat β} {Q Q' : α → xS → β → Prop} {QE QE' : Nat → xS → Prop} (h : Rf o e Q QE) (h1 : ∀ v s b, Q v s b → Q' v s b) (h2 : ∀ f s, QE f s → QE' f s) : Rf o e Q' QE' := by
  cases e with
  | ok b => obtain ⟨v, s, q1, q2⟩ := h; exact ⟨v, s, q1, h1 _ _ _ q2⟩
  | error f => obtain ⟨s, q1, q2⟩ := h; exact ⟨s, q1, h2 _ _ q2⟩
/-- a call, and what comes behind it -/
theorem Rf.bind {α β γ δ : Type} {o : xO α} {e : Except Nat β} {Q : α → xS → β → Prop} {QE : Nat → xS → Prop} {k : α → xS → xO γ} {kx : String → xS → xO γ} {F : β → Except Nat δ} {Q' : γ → xS → δ → Prop} {QE' : Nat → xS → Prop}
    (h : Rf o e Q QE) (h1 : ∀ v s b, Q v s b → Rf (k v s) (F b) Q' QE') (h2 : ∀ f s, QE f s → kx ISE s = some (.inr ISE, s) ∧ QE' f s) : Rf (x_bind o k kx) (eb e F) Q' QE' := by
  cases e with
  | ok b => obtain ⟨v, s, q1, q2⟩ := h; rw [q1]; exact h1 v s b q2
  | error f => obtain ⟨s, q1, q2⟩ := h; rw [q1]; exact ⟨s, (h2 _ _ q2).1, (h2 _ _ q2).2⟩
def rdA (P : xP) (lng : Bool) : Nat := if lng = true then P.base + 6 else P.base + 7
theorem rd_K {P : xP} {σ : xS} (C : CI P σ) (lng : Bool) : (σ.K (rdA P lng) = 4 ∨ σ.K (rdA P lng) = 9) = True := by
  cases lng
  · exact eq_true (Or.inr (ci_20 C))
  · exact eq_true (Or.inl (ci_18 C))
theorem rd_R {P : xP} {σ : xS} (C : CI P σ) (lng : Bool) : σ.R 300 (rdA P lng) = some (P.base + 1) := by
  cases lng
  · exact ci_21 C
  · exact ci_19 C
theorem rd_ne (P : xP) (lng : Bool) : P.base + 6 ≤ rdA P lng ∧ rdA P lng ≤ P.base + 7 := by
  unfold rdA; split <;> omega
theorem Fr.thenI {P : xP} {h c a k : Nat} {v : Int32} {σ σ1 : xS} (f : Fr P h c σ σ1) (ha : h ≤ a) (hb : P.base + 1 < a) : Fr P h c σ (σ1.setI k a v) := f.trans (Fr.setI σ1 ha hb k v) (Nat.le_refl _) (by omega)
theorem Fr.thenJ {P : xP} {h c a k : Nat} {v : Int64} {σ σ1 : xS} (f : Fr P h c σ σ1) (ha : h ≤ a) (hb : P.base + 1 < a) : Fr P h c σ (σ1.setJ k a v) := f.trans (Fr.setJ σ1 ha hb k v) (Nat.le_refl _) (by omega)
theorem Fr.thenR {P : xP} {h c a k : Nat} {v : Option Nat} {σ σ1 : xS} (f : Fr P h c σ σ1) (ha : h ≤ a) (hb : P.base + 1 < a) : Fr P h c σ (σ1.setR k a v) := f.trans (Fr.setR σ1 ha hb k v) (Nat.le_refl _) (by omega)
theorem Fr.thenAR {P : xP} {h c a k : Nat} {v : Option Nat} {σ σ1 : xS} (f : Fr P h c σ σ1) (ha : h ≤ a) (hb : P.base + 1 < a) : Fr P h c σ (σ1.setAR a k v) := f.trans (Fr.setAR σ1 ha hb k v) (Nat.le_refl _) (by omega)
theorem cw_initC {P : xP} {σ : xS} (hs : P.base + 44 ≤ σ.sz) (g : List Nat → Nat) {pl w : Nat} {ds : List Nat} (hw : 1 ≤ w) : ∃ σ', dm_X6_init_ P σ.sz (nI pl) (nI w) (nI (sp_bin ds)) (σ.newO 7 6) = some (.inl (), σ') ∧ Fr P σ.sz 1 σ σ' ∧ σ'.I 906 (P.base + 1) = σ.I 906 (P.base + 1) ∧ σ'.sz = σ.sz + 1 ∧ PartR σ' g σ.sz (σ.sz + 1) σ.sz (3, pl, [], w - 1, 0, ds) := by
  refine ⟨((((((σ.newO 7 6).setI 600 σ.sz (nI 3)).setI 601 σ.sz (nI pl)).setR 602 σ.sz none).setI 603 σ.sz (nI (w - 1))).setI 604 σ.sz (nI 0)).setI 605 σ.sz (nI (sp_bin ds)), ?_, ?_, ?_, rfl, ?_⟩
  · unfold dm_X6_init_
    simp (disch := first | assumption | omega) [x_chk, x_some, x_bind, x_let, lit_nI, nI_add, nI_mul, nI_sub, nI_clamp, nI_eq, nI_ltI, nI_leI, nN_e, nI_nN, nN_nI, bI_0, bI_1, bI_n, bool_0, bool_1, in_T, lg_cmp0, ofN_nI, q_K_setI, q_I_setI, q_J_setI, q_R_setI, q_L_setI, q_AI_setI, q_AJ_setI, q_AR_setI, q_sz_setI, q_su_setI, q_K_setJ, q_I_setJ, q_J_setJ, q_R_setJ, q_L_setJ, q_AI_setJ, q_AJ_setJ, q_AR_setJ, q_sz_setJ, q_su_setJ, q_K_setR, q_I_setR, q_J_setR, q_R_setR, q_L_setR, q_AI_setR, q_AJ_setR, q_AR_setR, q_sz_setR, q_su_setR, q_K_setAI, q_I_setAI, q_J_setAI, q_R_setAI, q_L_setAI, q_AI_setAI, q_AJ_setAI, q_AR_setAI, q_sz_setAI, q_su_setAI, q_K_setAJ, q_I_setAJ, q_J_setAJ, q_R_setAJ, q_L_setAJ, q_AI_setAJ, q_AJ_setAJ, q_AR_setAJ, q_sz_setAJ, q_su_setAJ, q_K_setAR, q_I_setAR, q_J_setAR, q_R_setAR, q_L_setAR, q_AI_setAR, q_AJ_setAR, q_AR_setAR, q_sz_setAR, q_su_setAR, q_K_newO, q_I_newO, q_J_newO, q_R_newO, q_L_newO, q_AI_newO, q_AJ_newO, q_AR_newO, q_sz_newO, q_su_newO, q_K_newA, q_I_newA, q_J_newA, q_R_newA, q_L_newA, q_AI_newA, q_AJ_newA, q_AR_newA, q_sz_newA, q_su_newA, q_K_skip, q_I_skip, q_J_skip, q_R_skip, q_L_skip, q_AI_skip, q_AJ_skip, q_AR_skip, q_sz_skip, q_su_skip, q_up2, q_up, dle_T]
  · refine Fr.thenI (Fr.thenI (Fr.thenI (Fr.thenR (Fr.thenI (Fr.thenI (Fr.newO P (Nat.le_refl _) (by omega) (by omega)) ?_ ?_) ?_ ?_) ?_ ?_) ?_ ?_) ?_ ?_) ?_ ?_ <;> omega
  · have : ¬ P.base + 1 = σ.sz := by omega
    simp [q_K_setI, q_I_setI, q_J_setI, q_R_setI, q_L_setI, q_AI_setI, q_AJ_setI, q_AR_setI, q_sz_setI, q_su_setI, q_K_setJ, q_I_setJ, q_J_setJ, q_R_setJ, q_L_setJ, q_AI_setJ, q_AJ_setJ, q_AR_setJ, q_sz_setJ, q_su_setJ, q_K_setR, q_I_setR, q_J_setR, q_R_setR, q_L_setR, q_AI_setR, q_AJ_setR, q_AR_setR, q_sz_setR, q_su_setR, q_K_setAI, q_I_setAI, q_J_setAI, q_R_setAI, q_L_setAI, q_AI_setAI, q_AJ_setAI, q_AR_setAI, q_sz_setAI, q_su_setAI, q_K_setAJ, q_I_setAJ, q_J_setAJ, q_R_setAJ, q_L_setAJ, q_AI_setAJ, q_AJ_setAJ, q_AR_setAJ, q_sz_setAJ, q_su_setAJ, q_K_setAR, q_I_setAR, q_J_setAR, q_R_setAR, q_L_setAR, q_AI_setAR, q_AJ_setAR, q_AR_setAR, q_sz_setAR, q_su_setAR, q_K_newO, q_I_newO, q_J_newO, q_R_newO, q_L_newO, q_AI_newO, q_AJ_newO, q_AR_newO, q_sz_newO, q_su_newO, q_K_newA, q_I_newA, q_J_newA, q_R_newA, q_L_newA, q_AI_newA, q_AJ_newA, q_AR_newA, q_sz_newA, q_su_newA, q_K_skip, q_I_skip, q_J_skip, q_R_skip, q_L_skip, q_AI_skip, q_AJ_skip, q_AR_skip, q_sz_skip, q_su_skip, q_up2, q_up, this]
  · refine ⟨Nat.le_refl _, by omega, ?_, ?_, ?_, ?_, ?_, ?_, ?_⟩ <;> simp [q_K_setI, q_I_setI, q_J_setI, q_R_setI, q_L_setI, q_AI_setI, q_AJ_setI, q_AR_setI, q_sz_setI, q_su_setI, q_K_setJ, q_I_setJ, q_J_setJ, q_R_setJ, q_L_setJ, q_AI_setJ, q_AJ_setJ, q_AR_setJ, q_sz_setJ, q_su_setJ, q_K_setR, q_I_setR, q_J_setR, q_R_setR, q_L_setR, q_AI_setR, q_AJ_setR, q_AR_setR, q_sz_setR, q_su_setR, q_K_setAI, q_I_setAI, q_J_setAI, q_R_setAI, q_L_setAI, q_AI_setAI, q_AJ_setAI, q_AR_setAI, q_sz_setAI, q_su_setAI, q_K_setAJ, q_I_setAJ, q_J_setAJ, q_R_setAJ, q_L_setAJ, q_AI_setAJ, q_AJ_setAJ, q_AR_setAJ, q_sz_setAJ, q_su_setAJ, q_K_setAR, q_I_setAR, q_J_setAR, q_R_setAR, q_L_setAR, q_AI_setAR, q_AJ_setAR, q_AR_setAR, q_sz_setAR, q_su_setAR, q_K_newO, q_I_newO, q_J_newO, q_R_newO, q_L_newO, q_AI_newO, q_AJ_newO, q_AR_newO, q_sz_newO, q_su_newO, q_K_newA, q_I_newA, q_J_newA, q_R_newA, q_L_newA, q_AI_newA, q_AJ_newA, q_AR_newA, q_sz_newA, q_su_newA, q_K_skip, q_I_skip, q_J_skip, q_R_skip, q_L_skip, q_AI_skip, q_AJ_skip, q_AR_skip, q_sz_skip, q_su_skip, q_up2, q_up]
theorem cw_initP {P : xP} {σ : xS} (hs : P.base + 44 ≤ σ.sz) (g : List Nat → Nat) {sh pl hi lo : Nat} {nm : List Nat} (hw : sh ≠ 3) : ∃ σ', dm_X6_init P σ.sz (nI sh) (nI pl) (some (g nm)) (nI hi) (nI lo) (σ.newO 7 6) = some (.inl (), σ') ∧ Fr P σ.sz 1 σ σ' ∧ σ'.I 906 (P.base + 1) = σ.I 906 (P.base + 1) ∧ σ'.sz = σ.sz + 1 ∧ PartR σ' g σ.sz (σ.sz + 1) σ.sz (sh, pl, nm, hi, lo, []) := by
  refine ⟨((((((σ.newO 7 6).setI 600 σ.sz (nI sh)).setI 601 σ.sz (nI pl)).setR 602 σ.sz (some (g nm))).setI 603 σ.sz (nI hi)).setI 604 σ.sz (nI lo)).setI 605 σ.sz (nI 0), ?_, ?_, ?_, rfl, ?_⟩
  · unfold dm_X6_init
    simp (disch := first | assumption | omega) [x_chk, x_some, x_bind, x_let, lit_nI, nI_add, nI_mul, nI_sub, nI_clamp, nI_eq, nI_ltI, nI_leI, nN_e, nI_nN, nN_nI, bI_0, bI_1, bI_n, bool_0, bool_1, in_T, lg_cmp0, ofN_nI, q_K_setI, q_I_setI, q_J_setI, q_R_setI, q_L_setI, q_AI_setI, q_AJ_setI, q_AR_setI, q_sz_setI, q_su_setI, q_K_setJ, q_I_setJ, q_J_setJ, q_R_setJ, q_L_setJ, q_AI_setJ, q_AJ_setJ, q_AR_setJ, q_sz_setJ, q_su_setJ, q_K_setR, q_I_setR, q_J_setR, q_R_setR, q_L_setR, q_AI_setR, q_AJ_setR, q_AR_setR, q_sz_setR, q_su_setR, q_K_setAI, q_I_setAI, q_J_setAI, q_R_setAI, q_L_setAI, q_AI_setAI, q_AJ_setAI, q_AR_setAI, q_sz_setAI, q_su_setAI, q_K_setAJ, q_I_setAJ, q_J_setAJ, q_R_setAJ, q_L_setAJ, q_AI_setAJ, q_AJ_setAJ, q_AR_setAJ, q_sz_setAJ, q_su_setAJ, q_K_setAR, q_I_setAR, q_J_setAR, q_R_setAR, q_L_setAR, q_AI_setAR, q_AJ_setAR, q_AR_setAR, q_sz_setAR, q_su_setAR, q_K_newO, q_I_newO, q_J_newO, q_R_newO, q_L_newO, q_AI_newO, q_AJ_newO, q_AR_newO, q_sz_newO, q_su_newO, q_K_newA, q_I_newA, q_J_newA, q_R_newA, q_L_newA, q_AI_newA, q_AJ_newA, q_AR_newA, q_sz_newA, q_su_newA, q_K_skip, q_I_skip, q_J_skip, q_R_skip, q_L_skip, q_AI_skip, q_AJ_skip, q_AR_skip, q_sz_skip, q_su_skip, q_up2, q_up, dle_T]
  · refine Fr.thenI (Fr.thenI (Fr.thenI (Fr.thenR (Fr.thenI (Fr.thenI (Fr.newO P (Nat.le_refl _) (by omega) (by omega)) ?_ ?_) ?_ ?_) ?_ ?_) ?_ ?_) ?_ ?_) ?_ ?_ <;> omega
  · have : ¬ P.base + 1 = σ.sz := by omega
    simp [q_K_setI, q_I_setI, q_J_setI, q_R_setI, q_L_setI, q_AI_setI, q_AJ_setI, q_AR_setI, q_sz_setI, q_su_setI, q_K_setJ, q_I_setJ, q_J_setJ, q_R_setJ, q_L_setJ, q_AI_setJ, q_AJ_setJ, q_AR_setJ, q_sz_setJ, q_su_setJ, q_K_setR, q_I_setR, q_J_setR, q_R_setR, q_L_setR, q_AI_setR, q_AJ_setR, q_AR_setR, q_sz_setR, q_su_setR, q_K_setAI, q_I_setAI, q_J_setAI, q_R_setAI, q_L_setAI, q_AI_setAI, q_AJ_setAI, q_AR_setAI, q_sz_setAI, q_su_setAI, q_K_setAJ, q_I_setAJ, q_J_setAJ, q_R_setAJ, q_L_setAJ, q_AI_setAJ, q_AJ_setAJ, q_AR_setAJ, q_sz_setAJ, q_su_setAJ, q_K_setAR, q_I_setAR, q_J_setAR, q_R_setAR, q_L_setAR, q_AI_setAR, q_AJ_setAR, q_AR_setAR, q_sz_setAR, q_su_setAR, q_K_newO, q_I_newO, q_J_newO, q_R_newO, q_L_newO, q_AI_newO, q_AJ_newO, q_AR_newO, q_sz_newO, q_su_newO, q_K_newA, q_I_newA, q_J_newA, q_R_newA, q_L_newA, q_AI_newA, q_AJ_newA, q_AR_newA, q_sz_newA, q_su_newA, q_K_skip, q_I_skip, q_J_skip, q_R_skip, q_L_skip, q_AI_skip, q_AJ_skip, q_AR_skip, q_sz_skip, q_su_skip, q_up2, q_up, this]
  · refine ⟨Nat.le_refl _, by omega, ?_, ?_, ?_, ?_, ?_, ?_, ?_⟩ <;> simp [q_K_setI, q_I_setI, q_J_setI, q_R_setI, q_L_setI, q_AI_setI, q_AJ_setI, q_AR_setI, q_sz_setI, q_su_setI, q_K_setJ, q_I_setJ, q_J_setJ, q_R_setJ, q_L_setJ, q_AI_setJ, q_AJ_setJ, q_AR_setJ, q_sz_setJ, q_su_setJ, q_K_setR, q_I_setR, q_J_setR, q_R_setR, q_L_setR, q_AI_setR, q_AJ_setR, q_AR_setR, q_sz_setR, q_su_setR, q_K_setAI, q_I_setAI, q_J_setAI, q_R_setAI, q_L_setAI, q_AI_setAI, q_AJ_setAI, q_AR_setAI, q_sz_setAI, q_su_setAI, q_K_setAJ, q_I_setAJ, q_J_setAJ, q_R_setAJ, q_L_setAJ, q_AI_setAJ, q_AJ_setAJ, q_AR_setAJ, q_sz_setAJ, q_su_setAJ, q_K_setAR, q_I_setAR, q_J_setAR, q_R_setAR, q_L_setAR, q_AI_setAR, q_AJ_setAR, q_AR_setAR, q_sz_setAR, q_su_setAR, q_K_newO, q_I_newO, q_J_newO, q_R_newO, q_L_newO, q_AI_newO, q_AJ_newO, q_AR_newO, q_sz_newO, q_su_newO, q_K_newA, q_I_newA, q_J_newA, q_R_newA, q_L_newA, q_AI_newA, q_AJ_newA, q_AR_newA, q_sz_newA, q_su_newA, q_K_skip, q_I_skip, q_J_skip, q_R_skip, q_L_skip, q_AI_skip, q_AJ_skip, q_AR_skip, q_sz_skip, q_su_skip, q_up2, q_up, hw, sp_bin]
/-- what reading a part leaves: only new cells -/
def PQ (P : xP) (T : xT) (g : List Nat → Nat) (σ : xS) (c : Nat) (v : Option Nat) (σ' : xS) (q : xPart × Nat) : Prop := ∃ a, v = some a ∧ Fr P σ.sz c σ σ' ∧ CP P T σ' q.2 ∧ PartR σ' g σ.sz σ'.sz a q.1
def PE (P : xP) (T : xT) (h : Nat) (σ : xS) (c : Nat) (f : Nat) (σ' : xS) : Prop := Fr P h c σ σ' ∧ CP P T σ' f
theorem PE.skip {P : xP} {T : xT} {σ : xS} {p : Nat} (C : CP P T σ p) : PE P T σ.sz σ 1 p (σ.skip 6) := by
  have := C.sz
  exact ⟨Fr.skip P (Nat.le_refl _) (by omega) (by omega), C.skip (by omega)⟩
theorem sp_bin_snoc (l : List Nat) (c : Nat) : sp_bin (l ++ [c]) = sp_bin l * 2 + (c - 48) := by simp [sp_bin]
theorem sp_bin_le : ∀ l : List Nat, (∀ c ∈ l, c = 48 ∨ c = 49) → sp_bin l < 2 ^ l.length := by
  suffices H : ∀ (l : List Nat) (a : Nat), (∀ c ∈ l, c = 48 ∨ c = 49) → l.foldl (fun a c => a * 2 + (c - 48)) a < (a + 1) * 2 ^ l.length by
    intro l h
    have := H l 0 h
    simpa [sp_bin] using this
  intro l
  induction l with
  | nil => intro a _; simp
  | cons c l ih =>
    intro a h
    have h1 := ih (a * 2 + (c - 48)) (fun x hx => h x (List.mem_cons_of_mem _ hx))
    have h2 := h c List.mem_cons_self
    simp only [List.foldl_cons, List.length_cons, Nat.pow_succ]
    refine Nat.lt_of_lt_of_le h1 ?_
    have h3 : a * 2 + (c - 48) + 1 ≤ (a + 1) * 2 := by omega
    have h4 := Nat.mul_le_mul_right (2 ^ l.length) h3
    rw [Nat.mul_assoc, Nat.mul_comm 2] at h4
    exact h4
theorem cw_digitsL {P : xP} {T : xT} {σ : xS} {p : Nat} (C : CP P T σ p) (hR : Rm P σ 1) (lng : Bool) {l : List Nat} (hl : nm_ok l) {v1 v2 v3 : Int32} : ∀ (r i n : Nat), 1 ≤ i → i + r = l.length → r < n → (∀ c ∈ l.tail.take (i - 1), c = 48 ∨ c = 49) →
    dm_X8_readDigits_L41 P (rdA P lng) n v1 v2 v3 (pk l) (nI (i - 1)) (nI (sp_bin (l.tail.take (i - 1)))) (nI i) σ = if (∀ c ∈ l.tail, c = 48 ∨ c = 49) then dm_X8_readDigits_p111 P (rdA P lng) v1 v2 v3 (nI (l.length - 1)) (nI (sp_bin l.tail)) σ else some (.inr ISE, σ.skip 6) := by
  have ci := C.ci
  have h8 := hl.1
  intro r
  induction r with
  | zero =>
    intro i n hi he hn hd
    obtain ⟨n, rfl⟩ : ∃ m, n = m + 1 := ⟨n - 1, by omega⟩
    have et : l.tail.take (i - 1) = l.tail := List.take_of_length_le (by rw [List.length_tail]; omega)
    have lo := cw_letterOf (P := P) (σ := σ) (fun c hc => (hl.2 c hc).2) h8 (i := i) (by omega)
    have ln : l[i]? = none := List.getElem?_eq_none (by omega)
    rw [et] at hd ⊢
    rw [if_pos hd]
    have ei : i - 1 = l.length - 1 := by omega
    unfold dm_X8_readDigits_L41
    by_cases q : 8 ≤ i
    · simp (disch := first | assumption | omega) [x_chk, x_some, x_bind, x_let, lit_nI, nI_add, nI_mul, nI_sub, nI_clamp, nI_eq, nI_ltI, nI_leI, nN_e, nI_nN, nN_nI, bI_0, bI_1, bI_n, bool_0, bool_1, in_T, lg_cmp0, ofN_nI, q, ei]
    · simp (disch := first | assumption | omega) [x_chk, x_some, x_bind, x_let, lit_nI, nI_add, nI_mul, nI_sub, nI_clamp, nI_eq, nI_ltI, nI_leI, nN_e, nI_nN, nN_nI, bI_0, bI_1, bI_n, bool_0, bool_1, in_T, lg_cmp0, ofN_nI, q, lo, ei, ln]
  | succ r ih =>
    intro i n hi he hn hd
    obtain ⟨n, rfl⟩ : ∃ m, n = m + 1 := ⟨n - 1, by omega⟩
    obtain ⟨c, hc⟩ : ∃ c, l[i]? = some c := ⟨_, List.getElem?_eq_getElem (by omega)⟩
    have lo := cw_letterOf (P := P) (σ := σ) (fun c hc => (hl.2 c hc).2) h8 (i := i) (by omega)
    rw [List.getD_eq_getElem?_getD, hc] at lo
    simp only [Option.getD_some] at lo
    have cc := hl.2 c (List.mem_of_getElem? hc)
    have q : ¬ 8 ≤ i := by omega
    have tl : l.tail[i - 1]? = some c := by rw [List.getElem?_tail]; rw [show i - 1 + 1 = i by omega]; exact hc
    have et : l.tail.take (i - 1) ++ [c] = l.tail.take i := by
      have := List.take_succ (l := l.tail) (i := i - 1)
      rw [tl, show i - 1 + 1 = i by omega] at this
      rw [this]; rfl
    have cm : c ∈ l.tail := List.mem_of_getElem? tl
    have rt := cw_refuseIf (P := P) (a := P.base + 1) (b := true) (σ := σ) hR
    have rf := cw_refuseIf (P := P) (a := P.base + 1) (b := false) (σ := σ) hR
    simp only [bI_tt, bI_ff] at rt rf
    unfold dm_X8_readDigits_L41 dm_X8_readDigits_p89 dm_X8_readDigits_p90
    by_cases e : c = 48 ∨ c = 49
    · have ihh := ih (i + 1) n (by omega) (by omega) (by omega) (by
        rw [show i + 1 - 1 = i by omega, ← et]
        intro x hx
        rcases List.mem_append.mp hx with z | z
        · exact hd x z
        · rw [List.mem_singleton.mp z]; exact e)
      rw [show i + 1 - 1 = i by omega, ← et, sp_bin_snoc] at ihh
      rw [← ihh]
      have ei : i - 1 + 1 = i := by omega
      rcases e with e | e
      · subst e
        simp (disch := first | assumption | omega) [x_chk, x_some, x_bind, x_let, lit_nI, nI_add, nI_mul, nI_sub, nI_clamp, nI_eq, nI_ltI, nI_leI, nN_e, nI_nN, nN_nI, bI_0, bI_1, bI_n, bool_0, bool_1, in_T, lg_cmp0, ofN_nI, ci_0, ci_1, ci_2, ci_3, ci_4, ci_5, ci_6, ci_7, ci_8, ci_9, ci_10, ci_11, ci_12, ci_13, ci_14, ci_15, ci_16, ci_17, ci_18, ci_19, ci_20, ci_21, ci_22, q, lo, rd_K, rd_R, rf, ei]
      · subst e
        simp (disch := first | assumption | omega) [x_chk, x_some, x_bind, x_let, lit_nI, nI_add, nI_mul, nI_sub, nI_clamp, nI_eq, nI_ltI, nI_leI, nN_e, nI_nN, nN_nI, bI_0, bI_1, bI_n, bool_0, bool_1, in_T, lg_cmp0, ofN_nI, ci_0, ci_1, ci_2, ci_3, ci_4, ci_5, ci_6, ci_7, ci_8, ci_9, ci_10, ci_11, ci_12, ci_13, ci_14, ci_15, ci_16, ci_17, ci_18, ci_19, ci_20, ci_21, ci_22, q, lo, rd_K, rd_R, rf, ei]
    · have e0 : ¬ c = 48 := fun z => e (Or.inl z)
      have e1 : ¬ c = 49 := fun z => e (Or.inr z)
      have ne : ¬ ∀ c ∈ l.tail, c = 48 ∨ c = 49 := fun z => e (z c cm)
      rw [if_neg ne]
      have c0 : ¬ nI c - nI 48 = nI 0 := by
        intro z
        have z2 : nI c = nI 48 := by
          have := congrArg (· + nI 48) z
          simpa [nI_add] using this
        exact e0 ((nI_eq (by omega) (by omega)).mp z2)
      have c1 : ¬ nI c - nI 48 = nI 1 := by
        intro z
        have z2 : nI c = nI 49 := by
          have := congrArg (· + nI 48) z
          simpa [nI_add] using this
        exact e1 ((nI_eq (by omega) (by omega)).mp z2)
      simp (disch := first | assumption | omega) [x_chk, x_some, x_bind, x_let, lit_nI, nI_add, nI_mul, nI_sub, nI_clamp, nI_eq, nI_ltI, nI_leI, nN_e, nI_nN, nN_nI, bI_0, bI_1, bI_n, bool_0, bool_1, in_T, lg_cmp0, ofN_nI, ci_0, ci_1, ci_2, ci_3, ci_4, ci_5, ci_6, ci_7, ci_8, ci_9, ci_10, ci_11, ci_12, ci_13, ci_14, ci_15, ci_16, ci_17, ci_18, ci_19, ci_20, ci_21, ci_22, q, lo, rd_K, rd_R, rt, c0, c1]
      intro z; omega
