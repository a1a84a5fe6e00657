/-! ===== printing: the document's texts ===== -/
def pr_part (lng : Bool) (r : xPart) : List Nat := if r.1 = 3 then (if lng = true then [48 + r.2.2.2.2.2.length] else []) ++ ([39, 98] ++ r.2.2.2.2.2) else r.2.2.1 ++ (if r.1 = 0 then [] else [if lng = true then 91 else 46] ++ ([48 + r.2.2.2.1] ++ ((if r.1 = 2 then [if lng = true then 58 else 46] ++ [48 + r.2.2.2.2.1] else []) ++ (if lng = true then [93] else []))))
def pr_net (lng : Bool) (x : xNet) : List Nat := if lng = true then (if x.2.1 = 0 then [105, 110, 112, 117, 116, 32] else if x.2.1 = 1 then [111, 117, 116, 112, 117, 116, 32] else [119, 105, 114, 101, 32]) ++ ((if x.2.2 ≤ 1 then [] else [91] ++ ([48 + (x.2.2 - 1)] ++ [58, 48, 93, 32])) ++ (x.1 ++ [59, 10]))
  else (if x.2.1 = 0 then [105, 32] else if x.2.1 = 1 then [111, 32] else [119, 32]) ++ (x.1 ++ ([32] ++ ([48 + x.2.2] ++ [59, 10])))
def pr_ol (lng : Bool) (o : Option xPart) : List Nat := match o with
  | none => [45]
  | some r => pr_part lng r
def pr_nl (nm : List Nat) (o : Option xPart) : List Nat := [46] ++ (nm ++ ([40] ++ ((match o with
  | none => []
  | some r => pr_part true r) ++ [41])))
def pr_pin (ms : List xMod) (i : xIns) (p : Nat) : List Nat := (if p = 0 then [] else [44]) ++ (if pn_mod ms i = none ∧ i.2.2.2.1 = false then pr_ol true (pn_pt ms i p) else pr_nl (pn_nm ms i p) (pn_pt ms i p))
def pr_ins (ms : List xMod) (lng : Bool) (i : xIns) : List Nat := if lng = true then i.1 ++ ([32] ++ (i.2.1 ++ ([40] ++ ((List.range (pn_cnt ms i)).flatMap (pr_pin ms i) ++ [41, 59, 10]))))
  else [117, 32] ++ (i.1 ++ ([32] ++ (i.2.1 ++ ((List.range (pn_cnt ms i)).flatMap (fun p => [32] ++ pr_ol false (pn_pt ms i p)) ++ [59, 10]))))
def pr_port (p : Nat × xNet) : List Nat := (if p.1 = 0 then [] else [44]) ++ p.2.1
def pr_ports (k : Nat) : List xNet → List Nat
  | [] => []
  | x :: t => (if k = 0 then [] else [44]) ++ (x.1 ++ pr_ports (k + 1) t)
def pr_asg (lng : Bool) (a : xPart × xPart) : List Nat := (if lng = true then [97, 115, 115, 105, 103, 110, 32] else [97, 32]) ++ (pr_part lng a.1 ++ ([if lng = true then 61 else 32] ++ (pr_part lng a.2 ++ [59, 10])))
def pr_mod (ms : List xMod) (lng : Bool) (m : xMod) : List Nat := if lng = true then [109, 111, 100, 117, 108, 101, 32] ++ (m.nm ++ ([40] ++ (pr_ports 0 m.ports ++ ([41, 59, 10] ++ (m.nets.flatMap (pr_net true) ++ (m.asg.flatMap (pr_asg true) ++ (m.ins.flatMap (pr_ins ms true) ++ [101, 110, 100, 10])))))))
  else [109, 32] ++ (m.nm ++ ([59, 10] ++ (m.nets.flatMap (pr_net false) ++ (m.asg.flatMap (pr_asg false) ++ (m.ins.flatMap (pr_ins ms false) ++ [101, 59, 10])))))
/-! ===== the class: the printer ===== -/
def pst (w : Nat) (l : List Nat) : Int32 × Int32 := l.foldl (fun s c => (s.1 - nI 1, if s.1 = nI 0 then nI c else s.2)) (nI w, nN)
theorem pst_snoc (w : Nat) (l : List Nat) (c : Nat) : pst w (l ++ [c]) = ((pst w l).1 - nI 1, if (pst w l).1 = nI 0 then nI c else (pst w l).2) := by unfold pst; rw [List.foldl_append]; rfl
/-- the state when l has been printed -/
def pS (P : xP) (σ0 : xS) (lng : Bool) (w : Nat) (l : List Nat) : xS := ((σ0.setI 700 (P.base + 8) (bI lng)).setI 701 (P.base + 8) (pst w l).1).setI 702 (P.base + 8) (pst w l).2
theorem x_up2_ov {α : Type} (f : Nat → Nat → α) (k a : Nat) (v v' : α) : x_up2 (x_up2 f k a v) k a v' = x_up2 f k a v' := by
  funext k' a'
  simp only [x_up2]
  split
  · split <;> rfl
  · rfl
theorem x_up2_cm {α : Type} (f : Nat → Nat → α) (k k2 a : Nat) (v v' : α) (h : k ≠ k2) : x_up2 (x_up2 f k a v) k2 a v' = x_up2 (x_up2 f k2 a v') k a v := by
  funext k' a'
  simp only [x_up2]
  by_cases e : k' = k
  · have e2 : ¬ k' = k2 := by omega
    simp [e, e2, h]
  · simp [e]
theorem setI_ov (σ : xS) (k a : Nat) (v v' : Int32) : (σ.setI k a v).setI k a v' = σ.setI k a v' := by
  show (σ.K, x_up2 (x_up2 σ.I k a v) k a v', σ.J, σ.R, σ.L, σ.AI, σ.AJ, σ.AR, σ.sz, σ.su) = _
  rw [x_up2_ov]
  rfl
theorem setI_cm (σ : xS) (k k2 a : Nat) (v v' : Int32) (h : k ≠ k2) : (σ.setI k a v).setI k2 a v' = (σ.setI k2 a v').setI k a v := by
  show (σ.K, x_up2 (x_up2 σ.I k a v) k2 a v', σ.J, σ.R, σ.L, σ.AI, σ.AJ, σ.AR, σ.sz, σ.su) = (σ.K, x_up2 (x_up2 σ.I k2 a v') k a v, σ.J, σ.R, σ.L, σ.AI, σ.AJ, σ.AR, σ.sz, σ.su)
  rw [x_up2_cm _ _ _ _ _ _ h]
theorem pS_K (P : xP) (σ0 : xS) (lng : Bool) (w : Nat) (l : List Nat) : (pS P σ0 lng w l).K = σ0.K := by unfold pS; simp only [q_K_setI, q_I_setI, q_J_setI, q_R_setI, q_L_setI, q_AI_setI, q_AJ_setI, q_AR_setI, q_sz_setI, q_su_setI, q_K_setJ, q_I_setJ, q_J_setJ, q_R_setJ, q_L_setJ, q_AI_setJ, q_AJ_setJ, q_AR_setJ, q_sz_setJ, q_su_setJ, q_K_setR, q_I_setR, q_J_setR, q_R_setR, q_L_setR, q_AI_setR, q_AJ_setR, q_AR_setR, q_sz_setR, q_su_setR, q_K_setAI, q_I_setAI, q_J_setAI, q_R_setAI, q_L_setAI, q_AI_setAI, q_AJ_setAI, q_AR_setAI, q_sz_setAI, q_su_setAI, q_K_setAJ, q_I_setAJ, q_J_setAJ, q_R_setAJ, q_L_setAJ, q_AI_setAJ, q_AJ_setAJ, q_AR_setAJ, q_sz_setAJ, q_su_setAJ, q_K_setAR, q_I_setAR, q_J_setAR, q_R_setAR, q_L_setAR, q_AI_setAR, q_AJ_setAR, q_AR_setAR, q_sz_setAR, q_su_setAR, q_K_newO, q_I_newO, q_J_newO, q_R_newO, q_L_newO, q_AI_newO, q_AJ_newO, q_AR_newO, q_sz_newO, q_su_newO, q_K_newA, q_I_newA, q_J_newA, q_R_newA, q_L_newA, q_AI_newA, q_AJ_newA, q_AR_newA, q_sz_newA, q_su_newA, q_K_skip, q_I_skip, q_J_skip, q_R_skip, q_L_skip, q_AI_skip, q_AJ_skip, q_AR_skip, q_sz_skip, q_su_skip]
theorem pS_J (P : xP) (σ0 : xS) (lng : Bool) (w : Nat) (l : List Nat) : (pS P σ0 lng w l).J = σ0.J := by unfold pS; simp only [q_K_setI, q_I_setI, q_J_setI, q_R_setI, q_L_setI, q_AI_setI, q_AJ_setI, q_AR_setI, q_sz_setI, q_su_setI, q_K_setJ, q_I_setJ, q_J_setJ, q_R_setJ, q_L_setJ, q_AI_setJ, q_AJ_setJ, q_AR_setJ, q_sz_setJ, q_su_setJ, q_K_setR, q_I_setR, q_J_setR, q_R_setR, q_L_setR, q_AI_setR, q_AJ_setR, q_AR_setR, q_sz_setR, q_su_setR, q_K_setAI, q_I_setAI, q_J_setAI, q_R_setAI, q_L_setAI, q_AI_setAI, q_AJ_setAI, q_AR_setAI, q_sz_setAI, q_su_setAI, q_K_setAJ, q_I_setAJ, q_J_setAJ, q_R_setAJ, q_L_setAJ, q_AI_setAJ, q_AJ_setAJ, q_AR_setAJ, q_sz_setAJ, q_su_setAJ, q_K_setAR, q_I_setAR, q_J_setAR, q_R_setAR, q_L_setAR, q_AI_setAR, q_AJ_setAR, q_AR_setAR, q_sz_setAR, q_su_setAR, q_K_newO, q_I_newO, q_J_newO, q_R_newO, q_L_newO, q_AI_newO, q_AJ_newO, q_AR_newO, q_sz_newO, q_su_newO, q_K_newA, q_I_newA, q_J_newA, q_R_newA, q_L_newA, q_AI_newA, q_AJ_newA, q_AR_newA, q_sz_newA, q_su_newA, q_K_skip, q_I_skip, q_J_skip, q_R_skip, q_L_skip, q_AI_skip, q_AJ_skip, q_AR_skip, q_sz_skip, q_su_skip]
theorem pS_R (P : xP) (σ0 : xS) (lng : Bool) (w : Nat) (l : List Nat) : (pS P σ0 lng w l).R = σ0.R := by unfold pS; simp only [q_K_setI, q_I_setI, q_J_setI, q_R_setI, q_L_setI, q_AI_setI, q_AJ_setI, q_AR_setI, q_sz_setI, q_su_setI, q_K_setJ, q_I_setJ, q_J_setJ, q_R_setJ, q_L_setJ, q_AI_setJ, q_AJ_setJ, q_AR_setJ, q_sz_setJ, q_su_setJ, q_K_setR, q_I_setR, q_J_setR, q_R_setR, q_L_setR, q_AI_setR, q_AJ_setR, q_AR_setR, q_sz_setR, q_su_setR, q_K_setAI, q_I_setAI, q_J_setAI, q_R_setAI, q_L_setAI, q_AI_setAI, q_AJ_setAI, q_AR_setAI, q_sz_setAI, q_su_setAI, q_K_setAJ, q_I_setAJ, q_J_setAJ, q_R_setAJ, q_L_setAJ, q_AI_setAJ, q_AJ_setAJ, q_AR_setAJ, q_sz_setAJ, q_su_setAJ, q_K_setAR, q_I_setAR, q_J_setAR, q_R_setAR, q_L_setAR, q_AI_setAR, q_AJ_setAR, q_AR_setAR, q_sz_setAR, q_su_setAR, q_K_newO, q_I_newO, q_J_newO, q_R_newO, q_L_newO, q_AI_newO, q_AJ_newO, q_AR_newO, q_sz_newO, q_su_newO, q_K_newA, q_I_newA, q_J_newA, q_R_newA, q_L_newA, q_AI_newA, q_AJ_newA, q_AR_newA, q_sz_newA, q_su_newA, q_K_skip, q_I_skip, q_J_skip, q_R_skip, q_L_skip, q_AI_skip, q_AJ_skip, q_AR_skip, q_sz_skip, q_su_skip]
theorem pS_L (P : xP) (σ0 : xS) (lng : Bool) (w : Nat) (l : List Nat) : (pS P σ0 lng w l).L = σ0.L := by unfold pS; simp only [q_K_setI, q_I_setI, q_J_setI, q_R_setI, q_L_setI, q_AI_setI, q_AJ_setI, q_AR_setI, q_sz_setI, q_su_setI, q_K_setJ, q_I_setJ, q_J_setJ, q_R_setJ, q_L_setJ, q_AI_setJ, q_AJ_setJ, q_AR_setJ, q_sz_setJ, q_su_setJ, q_K_setR, q_I_setR, q_J_setR, q_R_setR, q_L_setR, q_AI_setR, q_AJ_setR, q_AR_setR, q_sz_setR, q_su_setR, q_K_setAI, q_I_setAI, q_J_setAI, q_R_setAI, q_L_setAI, q_AI_setAI, q_AJ_setAI, q_AR_setAI, q_sz_setAI, q_su_setAI, q_K_setAJ, q_I_setAJ, q_J_setAJ, q_R_setAJ, q_L_setAJ, q_AI_setAJ, q_AJ_setAJ, q_AR_setAJ, q_sz_setAJ, q_su_setAJ, q_K_setAR, q_I_setAR, q_J_setAR, q_R_setAR, q_L_setAR, q_AI_setAR, q_AJ_setAR, q_AR_setAR, q_sz_setAR, q_su_setAR, q_K_newO, q_I_newO, q_J_newO, q_R_newO, q_L_newO, q_AI_newO, q_AJ_newO, q_AR_newO, q_sz_newO, q_su_newO, q_K_newA, q_I_newA, q_J_newA, q_R_newA, q_L_newA, q_AI_newA, q_AJ_newA, q_AR_newA, q_sz_newA, q_su_newA, q_K_skip, q_I_skip, q_J_skip, q_R_skip, q_L_skip, q_AI_skip, q_AJ_skip, q_AR_skip, q_sz_skip, q_su_skip]
theorem pS_AI (P : xP) (σ0 : xS) (lng : Bool) (w : Nat) (l : List Nat) : (pS P σ0 lng w l).AI = σ0.AI := by unfold pS; simp only [q_K_setI, q_I_setI, q_J_setI, q_R_setI, q_L_setI, q_AI_setI, q_AJ_setI, q_AR_setI, q_sz_setI, q_su_setI, q_K_setJ, q_I_setJ, q_J_setJ, q_R_setJ, q_L_setJ, q_AI_setJ, q_AJ_setJ, q_AR_setJ, q_sz_setJ, q_su_setJ, q_K_setR, q_I_setR, q_J_setR, q_R_setR, q_L_setR, q_AI_setR, q_AJ_setR, q_AR_setR, q_sz_setR, q_su_setR, q_K_setAI, q_I_setAI, q_J_setAI, q_R_setAI, q_L_setAI, q_AI_setAI, q_AJ_setAI, q_AR_setAI, q_sz_setAI, q_su_setAI, q_K_setAJ, q_I_setAJ, q_J_setAJ, q_R_setAJ, q_L_setAJ, q_AI_setAJ, q_AJ_setAJ, q_AR_setAJ, q_sz_setAJ, q_su_setAJ, q_K_setAR, q_I_setAR, q_J_setAR, q_R_setAR, q_L_setAR, q_AI_setAR, q_AJ_setAR, q_AR_setAR, q_sz_setAR, q_su_setAR, q_K_newO, q_I_newO, q_J_newO, q_R_newO, q_L_newO, q_AI_newO, q_AJ_newO, q_AR_newO, q_sz_newO, q_su_newO, q_K_newA, q_I_newA, q_J_newA, q_R_newA, q_L_newA, q_AI_newA, q_AJ_newA, q_AR_newA, q_sz_newA, q_su_newA, q_K_skip, q_I_skip, q_J_skip, q_R_skip, q_L_skip, q_AI_skip, q_AJ_skip, q_AR_skip, q_sz_skip, q_su_skip]
theorem pS_AR (P : xP) (σ0 : xS) (lng : Bool) (w : Nat) (l : List Nat) : (pS P σ0 lng w l).AR = σ0.AR := by unfold pS; simp only [q_K_setI, q_I_setI, q_J_setI, q_R_setI, q_L_setI, q_AI_setI, q_AJ_setI, q_AR_setI, q_sz_setI, q_su_setI, q_K_setJ, q_I_setJ, q_J_setJ, q_R_setJ, q_L_setJ, q_AI_setJ, q_AJ_setJ, q_AR_setJ, q_sz_setJ, q_su_setJ, q_K_setR, q_I_setR, q_J_setR, q_R_setR, q_L_setR, q_AI_setR, q_AJ_setR, q_AR_setR, q_sz_setR, q_su_setR, q_K_setAI, q_I_setAI, q_J_setAI, q_R_setAI, q_L_setAI, q_AI_setAI, q_AJ_setAI, q_AR_setAI, q_sz_setAI, q_su_setAI, q_K_setAJ, q_I_setAJ, q_J_setAJ, q_R_setAJ, q_L_setAJ, q_AI_setAJ, q_AJ_setAJ, q_AR_setAJ, q_sz_setAJ, q_su_setAJ, q_K_setAR, q_I_setAR, q_J_setAR, q_R_setAR, q_L_setAR, q_AI_setAR, q_AJ_setAR, q_AR_setAR, q_sz_setAR, q_su_setAR, q_K_newO, q_I_newO, q_J_newO, q_R_newO, q_L_newO, q_AI_newO, q_AJ_newO, q_AR_newO, q_sz_newO, q_su_newO, q_K_newA, q_I_newA, q_J_newA, q_R_newA, q_L_newA, q_AI_newA, q_AJ_newA, q_AR_newA, q_sz_newA, q_su_newA, q_K_skip, q_I_skip, q_J_skip, q_R_skip, q_L_skip, q_AI_skip, q_AJ_skip, q_AR_skip, q_sz_skip, q_su_skip]
theorem pS_I (P : xP) (σ0 : xS) (lng : Bool) (w : Nat) (l : List Nat) {f a : Nat} (h0 : f ≠ 700) (h1 : f ≠ 701) (h2 : f ≠ 702) : (pS P σ0 lng w l).I f a = σ0.I f a := by unfold pS; simp [q_K_setI, q_I_setI, q_J_setI, q_R_setI, q_L_setI, q_AI_setI, q_AJ_setI, q_AR_setI, q_sz_setI, q_su_setI, q_K_setJ, q_I_setJ, q_J_setJ, q_R_setJ, q_L_setJ, q_AI_setJ, q_AJ_setJ, q_AR_setJ, q_sz_setJ, q_su_setJ, q_K_setR, q_I_setR, q_J_setR, q_R_setR, q_L_setR, q_AI_setR, q_AJ_setR, q_AR_setR, q_sz_setR, q_su_setR, q_K_setAI, q_I_setAI, q_J_setAI, q_R_setAI, q_L_setAI, q_AI_setAI, q_AJ_setAI, q_AR_setAI, q_sz_setAI, q_su_setAI, q_K_setAJ, q_I_setAJ, q_J_setAJ, q_R_setAJ, q_L_setAJ, q_AI_setAJ, q_AJ_setAJ, q_AR_setAJ, q_sz_setAJ, q_su_setAJ, q_K_setAR, q_I_setAR, q_J_setAR, q_R_setAR, q_L_setAR, q_AI_setAR, q_AJ_setAR, q_AR_setAR, q_sz_setAR, q_su_setAR, q_K_newO, q_I_newO, q_J_newO, q_R_newO, q_L_newO, q_AI_newO, q_AJ_newO, q_AR_newO, q_sz_newO, q_su_newO, q_K_newA, q_I_newA, q_J_newA, q_R_newA, q_L_newA, q_AI_newA, q_AJ_newA, q_AR_newA, q_sz_newA, q_su_newA, q_K_skip, q_I_skip, q_J_skip, q_R_skip, q_L_skip, q_AI_skip, q_AJ_skip, q_AR_skip, q_sz_skip, q_su_skip, q_up2, q_up, h0, h1, h2]
theorem pS_0 (P : xP) (σ0 : xS) (lng : Bool) (w : Nat) (l : List Nat) : (pS P σ0 lng w l).I 700 (P.base + 8) = bI lng := by unfold pS; simp [q_K_setI, q_I_setI, q_J_setI, q_R_setI, q_L_setI, q_AI_setI, q_AJ_setI, q_AR_setI, q_sz_setI, q_su_setI, q_K_setJ, q_I_setJ, q_J_setJ, q_R_setJ, q_L_setJ, q_AI_setJ, q_AJ_setJ, q_AR_setJ, q_sz_setJ, q_su_setJ, q_K_setR, q_I_setR, q_J_setR, q_R_setR, q_L_setR, q_AI_setR, q_AJ_setR, q_AR_setR, q_sz_setR, q_su_setR, q_K_setAI, q_I_setAI, q_J_setAI, q_R_setAI, q_L_setAI, q_AI_setAI, q_AJ_setAI, q_AR_setAI, q_sz_setAI, q_su_setAI, q_K_setAJ, q_I_setAJ, q_J_setAJ, q_R_setAJ, q_L_setAJ, q_AI_setAJ, q_AJ_setAJ, q_AR_setAJ, q_sz_setAJ, q_su_setAJ, q_K_setAR, q_I_setAR, q_J_setAR, q_R_setAR, q_L_setAR, q_AI_setAR, q_AJ_setAR, q_AR_setAR, q_sz_setAR, q_su_setAR, q_K_newO, q_I_newO, q_J_newO, q_R_newO, q_L_newO, q_AI_newO, q_AJ_newO, q_AR_newO, q_sz_newO, q_su_newO, q_K_newA, q_I_newA, q_J_newA, q_R_newA, q_L_newA, q_AI_newA, q_AJ_newA, q_AR_newA, q_sz_newA, q_su_newA, q_K_skip, q_I_skip, q_J_skip, q_R_skip, q_L_skip, q_AI_skip, q_AJ_skip, q_AR_skip, q_sz_skip, q_su_skip, q_up2, q_up]
theorem pS_1 (P : xP) (σ0 : xS) (lng : Bool) (w : Nat) (l : List Nat) : (pS P σ0 lng w l).I 701 (P.base + 8) = (pst w l).1 := by unfold pS; simp [q_K_setI, q_I_setI, q_J_setI, q_R_setI, q_L_setI, q_AI_setI, q_AJ_setI, q_AR_setI, q_sz_setI, q_su_setI, q_K_setJ, q_I_setJ, q_J_setJ, q_R_setJ, q_L_setJ, q_AI_setJ, q_AJ_setJ, q_AR_setJ, q_sz_setJ, q_su_setJ, q_K_setR, q_I_setR, q_J_setR, q_R_setR, q_L_setR, q_AI_setR, q_AJ_setR, q_AR_setR, q_sz_setR, q_su_setR, q_K_setAI, q_I_setAI, q_J_setAI, q_R_setAI, q_L_setAI, q_AI_setAI, q_AJ_setAI, q_AR_setAI, q_sz_setAI, q_su_setAI, q_K_setAJ, q_I_setAJ, q_J_setAJ, q_R_setAJ, q_L_setAJ, q_AI_setAJ, q_AJ_setAJ, q_AR_setAJ, q_sz_setAJ, q_su_setAJ, q_K_setAR, q_I_setAR, q_J_setAR, q_R_setAR, q_L_setAR, q_AI_setAR, q_AJ_setAR, q_AR_setAR, q_sz_setAR, q_su_setAR, q_K_newO, q_I_newO, q_J_newO, q_R_newO, q_L_newO, q_AI_newO, q_AJ_newO, q_AR_newO, q_sz_newO, q_su_newO, q_K_newA, q_I_newA, q_J_newA, q_R_newA, q_L_newA, q_AI_newA, q_AJ_newA, q_AR_newA, q_sz_newA, q_su_newA, q_K_skip, q_I_skip, q_J_skip, q_R_skip, q_L_skip, q_AI_skip, q_AJ_skip, q_AR_skip, q_sz_skip, q_su_skip, q_up2, q_up]
theorem pS_2 (P : xP) (σ0 : xS) (lng : Bool) (w : Nat) (l : List Nat) : (pS P σ0 lng w l).I 702 (P.base + 8) = (pst w l).2 := by unfold pS; simp [q_K_setI, q_I_setI, q_J_setI, q_R_setI, q_L_setI, q_AI_setI, q_AJ_setI, q_AR_setI, q_sz_setI, q_su_setI, q_K_setJ, q_I_setJ, q_J_setJ, q_R_setJ, q_L_setJ, q_AI_setJ, q_AJ_setJ, q_AR_setJ, q_sz_setJ, q_su_setJ, q_K_setR, q_I_setR, q_J_setR, q_R_setR, q_L_setR, q_AI_setR, q_AJ_setR, q_AR_setR, q_sz_setR, q_su_setR, q_K_setAI, q_I_setAI, q_J_setAI, q_R_setAI, q_L_setAI, q_AI_setAI, q_AJ_setAI, q_AR_setAI, q_sz_setAI, q_su_setAI, q_K_setAJ, q_I_setAJ, q_J_setAJ, q_R_setAJ, q_L_setAJ, q_AI_setAJ, q_AJ_setAJ, q_AR_setAJ, q_sz_setAJ, q_su_setAJ, q_K_setAR, q_I_setAR, q_J_setAR, q_R_setAR, q_L_setAR, q_AI_setAR, q_AJ_setAR, q_AR_setAR, q_sz_setAR, q_su_setAR, q_K_newO, q_I_newO, q_J_newO, q_R_newO, q_L_newO, q_AI_newO, q_AJ_newO, q_AR_newO, q_sz_newO, q_su_newO, q_K_newA, q_I_newA, q_J_newA, q_R_newA, q_L_newA, q_AI_newA, q_AJ_newA, q_AR_newA, q_sz_newA, q_su_newA, q_K_skip, q_I_skip, q_J_skip, q_R_skip, q_L_skip, q_AI_skip, q_AJ_skip, q_AR_skip, q_sz_skip, q_su_skip, q_up2, q_up]
theorem pS_ci {P : xP} {σ0 : xS} (C : CI P σ0) (lng : Bool) (w : Nat) (l : List Nat) : CI P (pS P σ0 lng w l) := ((C.setI).setI).setI
theorem pS_sms {P : xP} {σ0 : xS} (lng : Bool) (w : Nat) (l : List Nat) {lo hi : Nat} (h : P.base + 8 < lo) : Sms σ0 (pS P σ0 lng w l) lo hi := (((Sms.refl σ0 _ _).tI (Or.inl h)).tI (Or.inl h)).tI (Or.inl h)
theorem pt_put {P : xP} {σ0 : xS} (C : CI P σ0) (lng : Bool) (w : Nat) (l : List Nat) (c : Nat) : dm_X7_put P (P.base + 8) (nI c) (pS P σ0 lng w l) = some (.inl (), pS P σ0 lng w (l ++ [c])) := by
  have k8 := ci_22 C
  unfold dm_X7_put dm_X7_put_p12
  by_cases e : (pst w l).1 = nI 0
  · have es : ((pS P σ0 lng w l).setI 702 (P.base + 8) (nI c)).setI 701 (P.base + 8) ((pst w l).1 - nI 1) = pS P σ0 lng w (l ++ [c]) := by
      unfold pS
      rw [pst_snoc, if_pos e, setI_ov, setI_cm _ 702 701 _ _ _ (by omega), setI_ov]
    rw [← es]
    simp (disch := first | assumption | omega) [ck_T, sm_s, bd_l, bd_r, lt_e, eq_self, and_self, if_true, true_and, and_true, lit_nI, nI_add, nI_mul, nI_sub, nI_clamp, nI_eq, nI_ltI, nI_leI, nN_e, nI_nN, nN_nI, bI_0, bI_1, bI_n, bool_0, bool_1, in_T, lg_cmp0, ofN_nI, pS_K, pS_1, k8, e, dle_T, q_K_setI, q_I_setI, q_J_setI, q_R_setI, q_L_setI, q_AI_setI, q_AJ_setI, q_AR_setI, q_sz_setI, q_su_setI, q_K_setJ, q_I_setJ, q_J_setJ, q_R_setJ, q_L_setJ, q_AI_setJ, q_AJ_setJ, q_AR_setJ, q_sz_setJ, q_su_setJ, q_K_setR, q_I_setR, q_J_setR, q_R_setR, q_L_setR, q_AI_setR, q_AJ_setR, q_AR_setR, q_sz_setR, q_su_setR, q_K_setAI, q_I_setAI, q_J_setAI, q_R_setAI, q_L_setAI, q_AI_setAI, q_AJ_setAI, q_AR_setAI, q_sz_setAI, q_su_setAI, q_K_setAJ, q_I_setAJ, q_J_setAJ, q_R_setAJ, q_L_setAJ, q_AI_setAJ, q_AJ_setAJ, q_AR_setAJ, q_sz_setAJ, q_su_setAJ, q_K_setAR, q_I_setAR, q_J_setAR, q_R_setAR, q_L_setAR, q_AI_setAR, q_AJ_setAR, q_AR_setAR, q_sz_setAR, q_su_setAR, q_K_newO, q_I_newO, q_J_newO, q_R_newO, q_L_newO, q_AI_newO, q_AJ_newO, q_AR_newO, q_sz_newO, q_su_newO, q_K_newA, q_I_newA, q_J_newA, q_R_newA, q_L_newA, q_AI_newA, q_AJ_newA, q_AR_newA, q_sz_newA, q_su_newA, q_K_skip, q_I_skip, q_J_skip, q_R_skip, q_L_skip, q_AI_skip, q_AJ_skip, q_AR_skip, q_sz_skip, q_su_skip, q_up2, q_up]
  · have es : (pS P σ0 lng w l).setI 701 (P.base + 8) ((pst w l).1 - nI 1) = pS P σ0 lng w (l ++ [c]) := by
      unfold pS
      rw [pst_snoc, if_neg e, setI_cm _ 702 701 _ _ _ (by omega), setI_ov]
    rw [← es]
    simp (disch := first | assumption | omega) [ck_T, sm_s, bd_l, bd_r, lt_e, eq_self, and_self, if_true, true_and, and_true, lit_nI, nI_add, nI_mul, nI_sub, nI_clamp, nI_eq, nI_ltI, nI_leI, nN_e, nI_nN, nN_nI, bI_0, bI_1, bI_n, bool_0, bool_1, in_T, lg_cmp0, ofN_nI, pS_K, pS_1, k8, e, dle_T, q_K_setI, q_I_setI, q_J_setI, q_R_setI, q_L_setI, q_AI_setI, q_AJ_setI, q_AR_setI, q_sz_setI, q_su_setI, q_K_setJ, q_I_setJ, q_J_setJ, q_R_setJ, q_L_setJ, q_AI_setJ, q_AJ_setJ, q_AR_setJ, q_sz_setJ, q_su_setJ, q_K_setR, q_I_setR, q_J_setR, q_R_setR, q_L_setR, q_AI_setR, q_AJ_setR, q_AR_setR, q_sz_setR, q_su_setR, q_K_setAI, q_I_setAI, q_J_setAI, q_R_setAI, q_L_setAI, q_AI_setAI, q_AJ_setAI, q_AR_setAI, q_sz_setAI, q_su_setAI, q_K_setAJ, q_I_setAJ, q_J_setAJ, q_R_setAJ, q_L_setAJ, q_AI_setAJ, q_AJ_setAJ, q_AR_setAJ, q_sz_setAJ, q_su_setAJ, q_K_setAR, q_I_setAR, q_J_setAR, q_R_setAR, q_L_setAR, q_AI_setAR, q_AJ_setAR, q_AR_setAR, q_sz_setAR, q_su_setAR, q_K_newO, q_I_newO, q_J_newO, q_R_newO, q_L_newO, q_AI_newO, q_AJ_newO, q_AR_newO, q_sz_newO, q_su_newO, q_K_newA, q_I_newA, q_J_newA, q_R_newA, q_L_newA, q_AI_newA, q_AJ_newA, q_AR_newA, q_sz_newA, q_su_newA, q_K_skip, q_I_skip, q_J_skip, q_R_skip, q_L_skip, q_AI_skip, q_AJ_skip, q_AR_skip, q_sz_skip, q_su_skip, q_up2, q_up]
theorem pt_textL {P : xP} {σ0 : xS} (C : CI P σ0) (lng : Bool) (w : Nat) {q : Nat × List Nat} (hq : q ∈ sp_strs) : ∀ (r j n : Nat) (l : List Nat), j + r = q.2.length → r < n → dm_X7_putText_L2 P (P.base + 8) n (some (P.ad q.1)) (nI j) (pS P σ0 lng w l) = some (.inl (), pS P σ0 lng w (l ++ q.2.drop j)) := by
  obtain ⟨k1, k2, k3, k4⟩ := (ci_s C).2 q hq
  have k8 := ci_22 C
  have so := strs_ok q hq
  have sl := so.1
  intro r
  induction r with
  | zero =>
    intro j n l hj hn
    obtain ⟨n, rfl⟩ : ∃ m, n = m + 1 := ⟨n - 1, by omega⟩
    have e : q.2.drop j = [] := List.drop_eq_nil_of_le (by omega)
    have ej : q.2.length ≤ j := by omega
    rw [e, List.append_nil]
    unfold dm_X7_putText_L2
    simp (disch := first | assumption | omega) [ck_T, sm_s, bd_l, bd_r, lt_e, eq_self, and_self, if_true, true_and, and_true, lit_nI, nI_add, nI_mul, nI_sub, nI_clamp, nI_eq, nI_ltI, nI_leI, nN_e, nI_nN, nN_nI, bI_0, bI_1, bI_n, bool_0, bool_1, in_T, lg_cmp0, ofN_nI, pS_K, pS_L, k1, k2, dm_J0_length_8abf5, dm_J0_charAt_5068e, ej]
  | succ r ih =>
    intro j n l hj hn
    obtain ⟨n, rfl⟩ : ∃ m, n = m + 1 := ⟨n - 1, by omega⟩
    have ej : ¬ q.2.length ≤ j := by omega
    obtain ⟨c, hc⟩ : ∃ c, q.2[j]? = some c := ⟨_, List.getElem?_eq_getElem (by omega)⟩
    have ed : q.2.drop j = c :: q.2.drop (j + 1) := by
      obtain ⟨hlt, hx3⟩ := List.getElem?_eq_some_iff.mp hc
      rw [List.drop_eq_getElem_cons hlt, hx3]
    have k3' := k3 j (by omega)
    rw [List.getD_eq_getElem?_getD, hc] at k3'
    simp only [Option.getD_some] at k3'
    have pp := pt_put C lng w l c
    have ihh := ih (j + 1) n (l ++ [c]) (by omega) (by omega)
    rw [ed]
    have ea : l ++ c :: q.2.drop (j + 1) = l ++ [c] ++ q.2.drop (j + 1) := by simp
    rw [ea, ← ihh]
    conv => lhs; unfold dm_X7_putText_L2
    simp (disch := first | assumption | omega) [ck_T, sm_s, bd_l, bd_r, lt_e, eq_self, and_self, if_true, true_and, and_true, lit_nI, nI_add, nI_mul, nI_sub, nI_clamp, nI_eq, nI_ltI, nI_leI, nN_e, nI_nN, nN_nI, bI_0, bI_1, bI_n, bool_0, bool_1, in_T, lg_cmp0, ofN_nI, pS_K, pS_L, pS_AI, k1, k2, k3', k8, dm_J0_length_8abf5, dm_J0_charAt_5068e, ej, pp, x_in, dlt_T]
theorem pt_text {P : xP} {σ0 : xS} (C : CI P σ0) (lng : Bool) (w : Nat) {q : Nat × List Nat} (hq : q ∈ sp_strs) (l : List Nat) : dm_X7_putText P (P.base + 8) (some (P.ad q.1)) (pS P σ0 lng w l) = some (.inl (), pS P σ0 lng w (l ++ q.2)) := by
  have sl := (strs_ok q hq).1
  exact pt_textL C lng w hq q.2.length 0 P.N l (by omega) (by have := C.N; omega)
theorem c16 {c : Nat} (h : c < 65536) : UInt32.toInt32 (Int32.toUInt32 (nI c) % 65536) = nI c := by
  have e : Int32.toUInt32 (nI c) % 65536 = Int32.toUInt32 (nI c) := by
    apply UInt32.toNat_inj.mp
    rw [UInt32.toNat_mod]
    have : (Int32.toUInt32 (nI c)).toNat = c := by
      show (nI c).toBitVec.toNat = c
      unfold nI
      simp
      omega
    rw [this]
    show c % 65536 = c
    omega
  rw [e]
  rfl
theorem pt_nameL {P : xP} {σ0 : xS} (C : CI P σ0) (lng : Bool) (w : Nat) {nm : List Nat} (ho : nm_ok nm) : ∀ (r j n : Nat) (l : List Nat), j + r = nm.length → r < n → dm_X7_putName_L2 P (P.base + 8) n (pk nm) (nI j) (pS P σ0 lng w l) = some (.inl (), pS P σ0 lng w (l ++ nm.drop j)) := by
  have k8 := ci_22 C
  have l8 := ho.1
  intro r
  induction r with
  | zero =>
    intro j n l hj hn
    obtain ⟨n, rfl⟩ : ∃ m, n = m + 1 := ⟨n - 1, by omega⟩
    have e : nm.drop j = [] := List.drop_eq_nil_of_le (by omega)
    have lo := cw_letterOf (P := P) (σ := pS P σ0 lng w l) (fun c hc => (ho.2 c hc).2) l8 (i := j) (by omega)
    have ln : nm[j]? = none := List.getElem?_eq_none (by omega)
    rw [List.getD_eq_getElem?_getD, ln] at lo
    simp only [Option.getD_none] at lo
    rw [e, List.append_nil]
    unfold dm_X7_putName_L2 dm_X7_putName_p32
    by_cases q : 8 ≤ j
    · simp (disch := first | assumption | omega) [ck_T, sm_s, bd_l, bd_r, lt_e, eq_self, and_self, if_true, true_and, and_true, lit_nI, nI_add, nI_mul, nI_sub, nI_clamp, nI_eq, nI_ltI, nI_leI, nN_e, nI_nN, nN_nI, bI_0, bI_1, bI_n, bool_0, bool_1, in_T, lg_cmp0, ofN_nI, q]
    · simp (disch := first | assumption | omega) [ck_T, sm_s, bd_l, bd_r, lt_e, eq_self, and_self, if_true, true_and, and_true, lit_nI, nI_add, nI_mul, nI_sub, nI_clamp, nI_eq, nI_ltI, nI_leI, nN_e, nI_nN, nN_nI, bI_0, bI_1, bI_n, bool_0, bool_1, in_T, lg_cmp0, ofN_nI, q, lo]
  | succ r ih =>
    intro j n l hj hn
    obtain ⟨n, rfl⟩ : ∃ m, n = m + 1 := ⟨n - 1, by omega⟩
    have q : ¬ 8 ≤ j := by omega
    obtain ⟨c, hc⟩ : ∃ c, nm[j]? = some c := ⟨_, List.getElem?_eq_getElem (by omega)⟩
    have ed : nm.drop j = c :: nm.drop (j + 1) := by
      obtain ⟨hlt, hx3⟩ := List.getElem?_eq_some_iff.mp hc
      rw [List.drop_eq_getElem_cons hlt, hx3]
    have lo := cw_letterOf (P := P) (σ := pS P σ0 lng w l) (fun c hc => (ho.2 c hc).2) l8 (i := j) (by omega)
    rw [List.getD_eq_getElem?_getD, hc] at lo
    simp only [Option.getD_some] at lo
    have cc := ho.2 c (List.mem_of_getElem? hc)
    have c0 : ¬ c = 0 := by omega
    have c6 := c16 (show c < 65536 by omega)
    have pp := pt_put C lng w l c
    have ihh := ih (j + 1) n (l ++ [c]) (by omega) (by omega)
    rw [ed]
    have ea : l ++ c :: nm.drop (j + 1) = l ++ [c] ++ nm.drop (j + 1) := by simp
    rw [ea, ← ihh]
    conv => lhs; unfold dm_X7_putName_L2
    have c6' : UInt32.toInt32 (Int32.toUInt32 (nI c) % UInt32.ofNat 65536) = nI c := c6
    simp (disch := first | assumption | omega) [ck_T, sm_s, bd_l, bd_r, lt_e, eq_self, and_self, if_true, true_and, and_true, lit_nI, nI_add, nI_mul, nI_sub, nI_clamp, nI_eq, nI_ltI, nI_leI, nN_e, nI_nN, nN_nI, bI_0, bI_1, bI_n, bool_0, bool_1, in_T, lg_cmp0, ofN_nI, pS_K, k8, q, lo, c0]
    rw [c6, pp]
    simp (disch := first | assumption | omega) [ck_T, sm_s, bd_l, bd_r, lt_e, eq_self, and_self, if_true, true_and, and_true, lit_nI, nI_add, nI_mul, nI_sub, nI_clamp, nI_eq, nI_ltI, nI_leI, nN_e, nI_nN, nN_nI, bI_0, bI_1, bI_n, bool_0, bool_1, in_T, lg_cmp0, ofN_nI]
theorem pt_name {P : xP} {σ0 : xS} (C : CI P σ0) (lng : Bool) (w : Nat) {nm : List Nat} (ho : nm_ok nm) (l : List Nat) : dm_X7_putName P (P.base + 8) (pk nm) (pS P σ0 lng w l) = some (.inl (), pS P σ0 lng w (l ++ nm)) := pt_nameL C lng w ho nm.length 0 P.N l (by omega) (by have := C.N; have := ho.1; omega)
theorem pt_digit {P : xP} {σ0 : xS} (C : CI P σ0) (lng : Bool) (w : Nat) {d : Nat} (hd : d < 1000) (l : List Nat) : dm_X7_putDigit P (P.base + 8) (nI d) (pS P σ0 lng w l) = some (.inl (), pS P σ0 lng w (l ++ [48 + d])) := by
  have k8 := ci_22 C
  have pp := pt_put C lng w l (48 + d)
  unfold dm_X7_putDigit
  simp (disch := first | assumption | omega) [ck_T, sm_s, bd_l, bd_r, lt_e, eq_self, and_self, if_true, true_and, and_true, lit_nI, nI_add, nI_mul, nI_sub, nI_clamp, nI_eq, nI_ltI, nI_leI, nN_e, nI_nN, nN_nI, bI_0, bI_1, bI_n, bool_0, bool_1, in_T, lg_cmp0, ofN_nI, pS_K, k8]
  rw [c16 (show 48 + d < 65536 by omega), pp]
  rfl
