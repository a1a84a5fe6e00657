/-! ===== the reference: assigns ===== -/
theorem RC.eI {P : xP} {T : xT} {σ σ' : xS} {p : Nat} (c : RC P T σ p) (h : σ'.I = σ.I) : RC P T σ' p := by
  unfold RC at *
  rw [h]
  exact c
/-- the current module has changed -/
theorem RX.cur {P : xP} {T : xT} {hv : Nat} {lng : Bool} {ms : List xMod} {m m' : xMod} {n : Nat} {σ σ' : xS} {p : Nat} (h : RX P T hv lng ms m n σ p) (f : FM P hv (8 * hv + ms.length) m.pl n σ σ') (hI : σ'.I = σ.I) (h24 : σ'.AI (P.base + 24) hv = σ.AI (P.base + 24) hv) (hm : ∃ ni, RMc P σ' T hv n (8 * hv + ms.length) m' ni) (hw : WX lng m' p) (hpl : m'.pl = m.pl) : RX P T hv lng ms m' n σ' p := by
  obtain ⟨h1, h2, h3, h4, ⟨h5, h6⟩, h7, h8, h9, h10⟩ := h
  refine ⟨f.tx h1, h2.eI hI, by rw [hI]; exact h3, h4, ⟨h24.trans h5, h6⟩, hm, hw, by rw [hpl]; exact h9, fun k m'' hm'' => ?_⟩
  have := get_lt hm''
  exact (h10 k m'' hm'').fm (h9.2.2.1 m'' (List.mem_of_getElem? hm'')).1 f (by omega) (Nat.le_refl _)
/-- as many instances are counted as there are -/
def RXf (P : xP) (T : xT) (hv : Nat) (lng : Bool) (ms : List xMod) (m : xMod) (n : Nat) (σ : xS) (p : Nat) : Prop := RX P T hv lng ms m n σ p ∧ σ.AI (P.base + 33) (8 * hv + ms.length) = nI m.ins.length
theorem RXf.fp {P : xP} {T : xT} {hv : Nat} {lng : Bool} {ms : List xMod} {m : xMod} {n n' n2 : Nat} {σ σ' : xS} {p p' : Nat} (h : RXf P T hv lng ms m n σ p) (f : FP P hv n2 σ σ') (h' : RX P T hv lng ms m n' σ' p') : RXf P T hv lng ms m n' σ' p' := by
  refine ⟨h', (f.2.2 _ _ (fun k hk => ?_)).trans h.2⟩
  omega
/-- what an item of a module leaves -/
def QI (P : xP) (T : xT) (hv : Nat) (lng : Bool) (ms : List xMod) (pl n : Nat) (σ : xS) (_ : Unit) (σ' : xS) (q : xMod × Nat) : Prop := FM P hv (8 * hv + ms.length) pl n σ σ' ∧ (lx_kind T q.2 ≠ 4 → ∃ n', n ≤ n' ∧ RXf P T hv lng ms q.1 n' σ' q.2) ∧ (lx_kind T q.2 = 4 → DQ P T hv ms.length q.2 σ')
def EI (P : xP) (T : xT) (hv : Nat) (ms : List xMod) (pl n : Nat) (σ : xS) (f : Nat) (σ' : xS) : Prop := FM P hv (8 * hv + ms.length) pl n σ σ' ∧ DQ P T hv ms.length f σ'
def rRef (P : xP) (lng : Bool) (σ : xS) : xO Int32 := if lng = true then dm_X12_longRef P (P.base + 11) σ else dm_X12_shortRef P (P.base + 11) σ
theorem rw_ref {P : xP} {T : xT} {hv : Nat} {lng : Bool} {ms : List xMod} {m : xMod} {n : Nat} {σ : xS} {p : Nat} (h : RX P T hv lng ms m n σ p) (hk : lx_kind T p ≠ 4) : Rr (rRef P lng σ) (sp_part T lng m.nets p) (QP P T hv lng ms m n σ) (EP P T hv ms m.pl n σ) := by
  unfold rRef sp_part
  cases lng with
  | true => simp only [if_true]; exact rw_longRef h hk
  | false => simp only [Bool.false_eq_true, if_false]; exact rw_shortRef h hk
theorem rd_ref {P : xP} {lng : Bool} {σ : xS} {f : Nat} (h : DE P σ f) : rRef P lng σ = some (.inl nN, σ) := by
  unfold rRef
  cases lng with
  | true => simp only [if_true]; exact rd_longRef h
  | false => simp only [Bool.false_eq_true, if_false]; exact rd_shortRef h
theorem dz_part {T : xT} {lng : Bool} {ns : List xNet} {p : Nat} (h : lx_kind T p = 4) : sp_part T lng ns p = .error p := by
  unfold sp_part
  cases lng with
  | true =>
    simp only [if_true]
    unfold sp_longPart sp_netPart
    rw [if_neg (by rw [h]; simp), dz_name h]
    rfl
  | false =>
    simp only [Bool.false_eq_true, if_false]
    unfold sp_shortPart sp_netPart
    rw [if_neg (by rw [dz_is h]; simp), dz_name h]
    rfl
def asA (P : xP) (M k : Nat) (σ : xS) (r1 r2 : Int32) : xS := ((σ.setAI (P.base + 31) (8 * M + k) r1).setAI (P.base + 32) (8 * M + k) r2).setAI (P.base + 30) M (nI (k + 1))
theorem asA_AI {P : xP} {M k : Nat} {σ : xS} {r1 r2 : Int32} {c i : Nat} (h1 : ¬ ((c = 31 ∨ c = 32) ∧ i = 8 * M + k)) (h2 : ¬ (c = 30 ∧ i = M)) : (asA P M k σ r1 r2).AI (P.base + c) i = σ.AI (P.base + c) i := by
  unfold asA
  simp only [q_K_setI, q_I_setI, q_J_setI, q_R_setI, q_L_setI, q_AI_setI, q_AJ_setI, q_AR_setI, q_sz_setI, q_su_setI, q_K_setJ, q_I_setJ, q_J_setJ, q_R_setJ, q_L_setJ, q_AI_setJ, q_AJ_setJ, q_AR_setJ, q_sz_setJ, q_su_setJ, q_K_setR, q_I_setR, q_J_setR, q_R_setR, q_L_setR, q_AI_setR, q_AJ_setR, q_AR_setR, q_sz_setR, q_su_setR, q_K_setAI, q_I_setAI, q_J_setAI, q_R_setAI, q_L_setAI, q_AI_setAI, q_AJ_setAI, q_AR_setAI, q_sz_setAI, q_su_setAI, q_K_setAJ, q_I_setAJ, q_J_setAJ, q_R_setAJ, q_L_setAJ, q_AI_setAJ, q_AJ_setAJ, q_AR_setAJ, q_sz_setAJ, q_su_setAJ, q_K_setAR, q_I_setAR, q_J_setAR, q_R_setAR, q_L_setAR, q_AI_setAR, q_AJ_setAR, q_AR_setAR, q_sz_setAR, q_su_setAR, q_K_newO, q_I_newO, q_J_newO, q_R_newO, q_L_newO, q_AI_newO, q_AJ_newO, q_AR_newO, q_sz_newO, q_su_newO, q_K_newA, q_I_newA, q_J_newA, q_R_newA, q_L_newA, q_AI_newA, q_AJ_newA, q_AR_newA, q_sz_newA, q_su_newA, q_K_skip, q_I_skip, q_J_skip, q_R_skip, q_L_skip, q_AI_skip, q_AJ_skip, q_AR_skip, q_sz_skip, q_su_skip]
  rw [up2_ne (by omega), up2_ne (by omega), up2_ne (by omega)]
theorem asA_FM {P : xP} {hv M pl n k : Nat} {σ : xS} {r1 r2 : Int32} (hk : k < 8) : FM P hv M pl n σ (asA P M k σ r1 r2) := by
  unfold asA
  refine FM.trans (FM.trans (FM.set (by unfold cl; omega)) (FM.set (by unfold cl; omega)) (Nat.le_refl _)) (FM.set (by unfold cl; omega)) (Nat.le_refl _)
theorem RXf.asg {P : xP} {T : xT} {hv : Nat} {lng : Bool} {ms : List xMod} {m : xMod} {n : Nat} {σ : xS} {p : Nat} (h : RXf P T hv lng ms m n σ p) {a : xPart × xPart} {r1 r2 : Nat} (h1 : RRef P σ T hv n m.nets r1 a.1) (h2 : RRef P σ T hv n m.nets r2 a.2) (hl : m.asg.length < 8) (hw : WX lng (m.wAsg a) p) : RXf P T hv lng ms (m.wAsg a) n (asA P (8 * hv + ms.length) m.asg.length σ (nI r1) (nI r2)) p := by
  have f := asA_FM (P := P) (hv := hv) (M := 8 * hv + ms.length) (pl := m.pl) (n := n) (σ := σ) (r1 := nI r1) (r2 := nI r2) hl
  obtain ⟨h0, hi⟩ := h
  obtain ⟨g1, g2, g3, g4, g5, ⟨ni, ⟨⟨b1, b2, b3, b4, b5, b6⟩, b7, b8, b9⟩⟩, g8, g9, g10⟩ := id h0
  have rr : ∀ r x, RRef P σ T hv n m.nets r x → RRef P (asA P (8 * hv + ms.length) m.asg.length σ (nI r1) (nI r2)) T hv n m.nets r x := by
    intro r x hr
    obtain ⟨c1, c2, c3, c4, c5, c6⟩ := hr
    have q : ∀ c, 25 ≤ c → c ≤ 29 → (asA P (8 * hv + ms.length) m.asg.length σ (nI r1) (nI r2)).AI (P.base + c) r = σ.AI (P.base + c) r := fun c _ _ => asA_AI (by omega) (by omega)
    unfold RRef
    rw [q 25 (by omega) (by omega), q 26 (by omega) (by omega), q 27 (by omega) (by omega), q 28 (by omega) (by omega), q 29 (by omega) (by omega)]
    exact ⟨c1, c2, c3, c4, c5, c6⟩
  have w := g8.2.2.2.1
  refine ⟨h0.cur f rfl (asA_AI (by omega) (by omega)) ⟨ni, ?_⟩ hw rfl, ?_⟩
  · refine ⟨⟨(asA_AI (by omega) (by omega)).trans b1, b2, (asA_AI (by omega) (by omega)).trans b3, (asA_AI (by omega) (by omega)).trans b4, ?_, (asA_AI (by omega) (by omega)).trans b6⟩, ?_, ?_, ?_⟩
    · show _ = nI (m.asg ++ [a]).length
      unfold asA
      simp [q_K_setI, q_I_setI, q_J_setI, q_R_setI, q_L_setI, q_AI_setI, q_AJ_setI, q_AR_setI, q_sz_setI, q_su_setI, q_K_setJ, q_I_setJ, q_J_setJ, q_R_setJ, q_L_setJ, q_AI_setJ, q_AJ_setJ, q_AR_setJ, q_sz_setJ, q_su_setJ, q_K_setR, q_I_setR, q_J_setR, q_R_setR, q_L_setR, q_AI_setR, q_AJ_setR, q_AR_setR, q_sz_setR, q_su_setR, q_K_setAI, q_I_setAI, q_J_setAI, q_R_setAI, q_L_setAI, q_AI_setAI, q_AJ_setAI, q_AR_setAI, q_sz_setAI, q_su_setAI, q_K_setAJ, q_I_setAJ, q_J_setAJ, q_R_setAJ, q_L_setAJ, q_AI_setAJ, q_AJ_setAJ, q_AR_setAJ, q_sz_setAJ, q_su_setAJ, q_K_setAR, q_I_setAR, q_J_setAR, q_R_setAR, q_L_setAR, q_AI_setAR, q_AJ_setAR, q_AR_setAR, q_sz_setAR, q_su_setAR, q_K_newO, q_I_newO, q_J_newO, q_R_newO, q_L_newO, q_AI_newO, q_AJ_newO, q_AR_newO, q_sz_newO, q_su_newO, q_K_newA, q_I_newA, q_J_newA, q_R_newA, q_L_newA, q_AI_newA, q_AJ_newA, q_AR_newA, q_sz_newA, q_su_newA, q_K_skip, q_I_skip, q_J_skip, q_R_skip, q_L_skip, q_AI_skip, q_AJ_skip, q_AR_skip, q_sz_skip, q_su_skip, q_up2, q_up]
    · exact b7.ag w.1 (fun k i hk _ _ => asA_AI (by omega) (by omega))
    · intro j b hb
      have hb' : (m.asg ++ [a])[j]? = some b := hb
      rcases app_get hb' with ⟨z, hz⟩ | ⟨z, hz⟩
      · obtain ⟨s1, s2, t1, t2, t3, t4⟩ := b8 j b hz
        exact ⟨s1, s2, (asA_AI (by omega) (by omega)).trans t1, (asA_AI (by omega) (by omega)).trans t2, rr _ _ t3, rr _ _ t4⟩
      · subst z hz
        refine ⟨r1, r2, ?_, ?_, rr _ _ h1, rr _ _ h2⟩
        · unfold asA; simp [q_K_setI, q_I_setI, q_J_setI, q_R_setI, q_L_setI, q_AI_setI, q_AJ_setI, q_AR_setI, q_sz_setI, q_su_setI, q_K_setJ, q_I_setJ, q_J_setJ, q_R_setJ, q_L_setJ, q_AI_setJ, q_AJ_setJ, q_AR_setJ, q_sz_setJ, q_su_setJ, q_K_setR, q_I_setR, q_J_setR, q_R_setR, q_L_setR, q_AI_setR, q_AJ_setR, q_AR_setR, q_sz_setR, q_su_setR, q_K_setAI, q_I_setAI, q_J_setAI, q_R_setAI, q_L_setAI, q_AI_setAI, q_AJ_setAI, q_AR_setAI, q_sz_setAI, q_su_setAI, q_K_setAJ, q_I_setAJ, q_J_setAJ, q_R_setAJ, q_L_setAJ, q_AI_setAJ, q_AJ_setAJ, q_AR_setAJ, q_sz_setAJ, q_su_setAJ, q_K_setAR, q_I_setAR, q_J_setAR, q_R_setAR, q_L_setAR, q_AI_setAR, q_AJ_setAR, q_AR_setAR, q_sz_setAR, q_su_setAR, q_K_newO, q_I_newO, q_J_newO, q_R_newO, q_L_newO, q_AI_newO, q_AJ_newO, q_AR_newO, q_sz_newO, q_su_newO, q_K_newA, q_I_newA, q_J_newA, q_R_newA, q_L_newA, q_AI_newA, q_AJ_newA, q_AR_newA, q_sz_newA, q_su_newA, q_K_skip, q_I_skip, q_J_skip, q_R_skip, q_L_skip, q_AI_skip, q_AJ_skip, q_AR_skip, q_sz_skip, q_su_skip, q_up2, q_up]
        · unfold asA; simp [q_K_setI, q_I_setI, q_J_setI, q_R_setI, q_L_setI, q_AI_setI, q_AJ_setI, q_AR_setI, q_sz_setI, q_su_setI, q_K_setJ, q_I_setJ, q_J_setJ, q_R_setJ, q_L_setJ, q_AI_setJ, q_AJ_setJ, q_AR_setJ, q_sz_setJ, q_su_setJ, q_K_setR, q_I_setR, q_J_setR, q_R_setR, q_L_setR, q_AI_setR, q_AJ_setR, q_AR_setR, q_sz_setR, q_su_setR, q_K_setAI, q_I_setAI, q_J_setAI, q_R_setAI, q_L_setAI, q_AI_setAI, q_AJ_setAI, q_AR_setAI, q_sz_setAI, q_su_setAI, q_K_setAJ, q_I_setAJ, q_J_setAJ, q_R_setAJ, q_L_setAJ, q_AI_setAJ, q_AJ_setAJ, q_AR_setAJ, q_sz_setAJ, q_su_setAJ, q_K_setAR, q_I_setAR, q_J_setAR, q_R_setAR, q_L_setAR, q_AI_setAR, q_AJ_setAR, q_AR_setAR, q_sz_setAR, q_su_setAR, q_K_newO, q_I_newO, q_J_newO, q_R_newO, q_L_newO, q_AI_newO, q_AJ_newO, q_AR_newO, q_sz_newO, q_su_newO, q_K_newA, q_I_newA, q_J_newA, q_R_newA, q_L_newA, q_AI_newA, q_AJ_newA, q_AR_newA, q_sz_newA, q_su_newA, q_K_skip, q_I_skip, q_J_skip, q_R_skip, q_L_skip, q_AI_skip, q_AJ_skip, q_AR_skip, q_sz_skip, q_su_skip, q_up2, q_up]
    · exact b9.ag w.2.2 (fun i hi => (g8.2.2.2.2.1.2.2 i hi).2.2.1) (fun k i hk _ _ => asA_AI (by omega) (by omega)) (fun k i hk _ _ => asA_AI (by omega) (by omega)) (fun r x _ hr => rr r x hr)
  · exact (asA_AI (by omega) (by omega)).trans hi
theorem rd_p67 {P : xP} {σ : xS} {f : Nat} (h : DE P σ f) (v w : Int32) : dm_X12_readAssign_p67 P (P.base + 11) v w σ = some (.inl (), σ) := by
  have ok := rd_ok h.1 (by have := h.2.2; omega) h.2.1
  have a0 := ri_0 h.1
  have ns := rd_needSign h
  unfold dm_X12_readAssign_p67 dm_X12_readAssign_p140
  simp (disch := first | assumption | omega) [ck_T, sm_s, bd_l, bd_r, lt_e, eq_self, and_self, if_true, true_and, and_true, lit_nI, nI_add, nI_mul, nI_sub, nI_clamp, nI_eq, nI_ltI, nI_leI, nN_e, nI_nN, nN_nI, bI_0, bI_1, bI_n, bool_0, bool_1, in_T, lg_cmp0, ofN_nI, a0, ok, ns]
theorem rw_p67 {P : xP} {T : xT} {hv : Nat} {lng : Bool} {ms : List xMod} {m : xMod} {n n0 : Nat} {σ0 σ : xS} {p : Nat} (h : RXf P T hv lng ms m n σ p) (f : FM P hv (8 * hv + ms.length) m.pl n0 σ0 σ) (hn : n0 ≤ n) {a : xPart × xPart} {r1 r2 : Nat} (h1 : RRef P σ T hv n m.nets r1 a.1) (h2 : RRef P σ T hv n m.nets r2 a.2) (hl : m.asg.length < 8) (hw : ∀ p', p ≤ p' → WX lng (m.wAsg a) p') : Rr (dm_X12_readAssign_p67 P (P.base + 11) (nI r1) (nI r2) σ) (eb (sp_sign T 59 p) fun p3 => .ok (m.wAsg a, p3)) (QI P T hv lng ms m.pl n0 σ0) (EI P T hv ms m.pl n0 σ0) := by
  have a0 := ri_0 h.1.1.1
  by_cases hk : lx_kind T p = 4
  · rw [dz_sign hk, eb_er]
    have dq := h.1.bad hk
    exact Rr.er (rd_p67 dq.de _ _) ⟨f, dq⟩
  unfold dm_X12_readAssign_p67
  simp only [a0, ck_T, eq_self, lit_nI]
  obtain ⟨v, s, q1, q2⟩ := rx_sign (σ0 := σ) (c := 59) h.1 hk (by omega) (FP.refl P hv n σ)
  rw [q1, bd_l]
  cases e : sp_sign T 59 p with
  | error g =>
    rw [e] at q2
    obtain ⟨q2, q3⟩ := q2
    have ok := rd_ok q3.de.1 (by have := q3.de.2.2; omega) q3.de.2.1
    have b0 := ri_0 q3.de.1
    refine Rr.er (v := ()) (σ' := s) ?_ ⟨f.trans q2.fm hn, q3⟩
    unfold dm_X12_readAssign_p140
    simp (disch := first | assumption | omega) [ck_T, sm_s, bd_l, bd_r, lt_e, eq_self, and_self, if_true, true_and, and_true, lit_nI, nI_add, nI_mul, nI_sub, nI_clamp, nI_eq, nI_ltI, nI_leI, nN_e, nI_nN, nN_nI, bI_0, bI_1, bI_n, bool_0, bool_1, in_T, lg_cmp0, ofN_nI, b0, ok]
  | ok p4 =>
    rw [e] at q2
    obtain ⟨q2, q3⟩ := q2
    have lt := (po_sign e).1
    have b0 := ri_0 q3.1.1
    rw [eb_ok]
    by_cases hk4 : lx_kind T p4 = 4
    · have dq := q3.bad hk4
      have ok := rd_ok dq.de.1 (by have := dq.de.2.2; omega) dq.de.2.1
      refine Rr.ok (v := ()) (σ' := s) ?_ ⟨f.trans q2.fm hn, fun z => absurd hk4 z, fun _ => dq⟩
      unfold dm_X12_readAssign_p140
      simp (disch := first | assumption | omega) [ck_T, sm_s, bd_l, bd_r, lt_e, eq_self, and_self, if_true, true_and, and_true, lit_nI, nI_add, nI_mul, nI_sub, nI_clamp, nI_eq, nI_ltI, nI_leI, nN_e, nI_nN, nN_nI, bI_0, bI_1, bI_n, bool_0, bool_1, in_T, lg_cmp0, ofN_nI, b0, ok]
    · have ok := rw_ok q3.1.1 (q3.2.1.ok hk4)
      have g := h.fp q2 q3
      have rr : ∀ r x, RRef P σ T hv n m.nets r x → RRef P s T hv n m.nets r x := by
        intro r x hr
        obtain ⟨c1, c2, c3, c4, c5, c6⟩ := hr
        have q : ∀ c, 25 ≤ c → c ≤ 29 → s.AI (P.base + c) r = σ.AI (P.base + c) r := fun c _ _ => q2.2.2 _ _ (fun k hk => by omega)
        unfold RRef
        rw [q 25 (by omega) (by omega), q 26 (by omega) (by omega), q 27 (by omega) (by omega), q 28 (by omega) (by omega), q 29 (by omega) (by omega)]
        exact ⟨c1, c2, c3, c4, c5, c6⟩
      have fin := g.asg (rr _ _ h1) (rr _ _ h2) hl (hw p4 (by omega))
      have md := rw_mod q3.1 q3.2.2.1
      obtain ⟨ni, rm⟩ := q3.2.2.2.2.2.1
      have cnt := rm.1.2.2.2.2.1
      have hv1 := q3.1.2.2.1
      have m8 := q3.2.2.2.1
      have c1 := ri_55 q3.1.1
      have c2 := ri_56 q3.1.1
      have c3 := ri_57 q3.1.1
      have d1 := ri_58 q3.1.1
      have d2 := ri_59 q3.1.1
      have d3 := ri_60 q3.1.1
      have e1 := ri_61 q3.1.1
      have e2 := ri_62 q3.1.1
      have e3 := ri_63 q3.1.1
      have f3 := asA_FM (P := P) (hv := hv) (M := 8 * hv + ms.length) (pl := m.pl) (n := n) (σ := s) (r1 := nI r1) (r2 := nI r2) hl
      refine Rr.ok (v := ()) (σ' := asA P (8 * hv + ms.length) m.asg.length s (nI r1) (nI r2)) ?_ ⟨(f.trans q2.fm hn).trans f3 hn, fun _ => ⟨n, hn, fin⟩, fun z => absurd z hk4⟩
      have m1 := rw_mod (σ := s.setAI (P.base + 31) (8 * (8 * hv + ms.length) + m.asg.length) (nI r1)) (T := T) (hv := hv) (k := ms.length) ((FM.set (P := P) (hv := hv) (M := 8 * hv + ms.length) (pl := 0) (n := 0) (by unfold cl; omega)).tx q3.1) q3.2.2.1
      have m2 := rw_mod (σ := (s.setAI (P.base + 31) (8 * (8 * hv + ms.length) + m.asg.length) (nI r1)).setAI (P.base + 32) (8 * (8 * hv + ms.length) + m.asg.length) (nI r2)) (T := T) (hv := hv) (k := ms.length) ((FM.set (P := P) (hv := hv) (M := 8 * hv + ms.length) (pl := 0) (n := 0) (by unfold cl; omega)).tx ((FM.set (P := P) (hv := hv) (M := 8 * hv + ms.length) (pl := 0) (n := 0) (by unfold cl; omega)).tx q3.1)) q3.2.2.1
      unfold dm_X12_readAssign_p140 asA
      simp (config := { maxSteps := 2000000 }) (disch := first | assumption | omega) [ck_T, sm_s, bd_l, bd_r, lt_e, eq_self, and_self, if_true, true_and, and_true, lit_nI, nI_add, nI_mul, nI_sub, nI_clamp, nI_eq, nI_ltI, nI_leI, nN_e, nI_nN, nN_nI, bI_0, bI_1, bI_n, bool_0, bool_1, in_T, lg_cmp0, ofN_nI, q_K_setI, q_I_setI, q_J_setI, q_R_setI, q_L_setI, q_AI_setI, q_AJ_setI, q_AR_setI, q_sz_setI, q_su_setI, q_K_setJ, q_I_setJ, q_J_setJ, q_R_setJ, q_L_setJ, q_AI_setJ, q_AJ_setJ, q_AR_setJ, q_sz_setJ, q_su_setJ, q_K_setR, q_I_setR, q_J_setR, q_R_setR, q_L_setR, q_AI_setR, q_AJ_setR, q_AR_setR, q_sz_setR, q_su_setR, q_K_setAI, q_I_setAI, q_J_setAI, q_R_setAI, q_L_setAI, q_AI_setAI, q_AJ_setAI, q_AR_setAI, q_sz_setAI, q_su_setAI, q_K_setAJ, q_I_setAJ, q_J_setAJ, q_R_setAJ, q_L_setAJ, q_AI_setAJ, q_AJ_setAJ, q_AR_setAJ, q_sz_setAJ, q_su_setAJ, q_K_setAR, q_I_setAR, q_J_setAR, q_R_setAR, q_L_setAR, q_AI_setAR, q_AJ_setAR, q_AR_setAR, q_sz_setAR, q_su_setAR, q_K_newO, q_I_newO, q_J_newO, q_R_newO, q_L_newO, q_AI_newO, q_AJ_newO, q_AR_newO, q_sz_newO, q_su_newO, q_K_newA, q_I_newA, q_J_newA, q_R_newA, q_L_newA, q_AI_newA, q_AJ_newA, q_AR_newA, q_sz_newA, q_su_newA, q_K_skip, q_I_skip, q_J_skip, q_R_skip, q_L_skip, q_AI_skip, q_AJ_skip, q_AR_skip, q_sz_skip, q_su_skip, q_up2, q_up, b0, ok, md, cnt, c1, c2, c3, d1, d2, d3, e1, e2, e3, m1, m2, x_in, dlt_T, dle_T]
