/-! ===== the class: new nets ===== -/
theorem find_mid {A B : List xNet} {x : xNet} {nm : List Nat} (h : x.1 ≠ nm) : sp_find (A ++ [x] ++ B) nm = sp_find (A ++ B) nm := by
  unfold sp_find
  simp [List.find?_append, List.find?_cons, h]
theorem PW.mid {A B : List xNet} {x : xNet} {r : xPart} (h : PW (A ++ B) r) (hf : sp_find (A ++ B) x.1 = none) : PW (A ++ [x] ++ B) r := by
  rcases h with q | ⟨q1, q2, y, q3, q4⟩
  · exact Or.inl q
  · refine Or.inr ⟨q1, q2, y, ?_, q4⟩
    obtain ⟨y1, y2⟩ := sp_find_mem q3
    rw [find_mid, q3]
    intro e
    exact find_not hf y y1 (y2.trans e.symm)
theorem nodup_mid {A B : List (List Nat)} {x : List Nat} (h : (A ++ B).Nodup) (hx : x ∉ A ++ B) : (A ++ [x] ++ B).Nodup := by
  rw [List.append_assoc]
  rw [List.nodup_append] at h ⊢
  obtain ⟨h1, h2, h3⟩ := h
  simp only [List.mem_append, not_or] at hx
  refine ⟨h1, ?_, ?_⟩
  · show (x :: B).Nodup
    rw [List.nodup_cons]
    exact ⟨hx.2, h2⟩
  · intro a ha b hb
    rcases List.mem_cons.mp (show b ∈ x :: B from hb) with z | z
    · subst z; intro e; subst e; exact hx.1 ha
    · exact h3 a ha b z
theorem AW.net {m : xMod} {x : xNet} (h : AW m) (hf : sp_find m.nets x.1 = none) : AW (m.wNet x) := by
  obtain ⟨h1, h2, h3, h4, h5⟩ := h
  have hn : x.1 ∉ m.nets.map fun x => x.1 := by
    intro z
    obtain ⟨y, y1, y2⟩ := List.mem_map.mp z
    exact find_not hf y y1 y2
  by_cases z : x.2.1 = 2
  · obtain ⟨w1, w2, w3, w4, w5, w6⟩ := wNet_w (m := m) z
    have hf2 : sp_find (m.nets ++ []) x.1 = none := by rw [List.append_nil]; exact hf
    unfold AW
    rw [w1, w2, w3, w4]
    refine ⟨fun a ha => ⟨PW.mid (by rw [List.append_nil]; exact (h1 a ha).1) hf2, PW.mid (by rw [List.append_nil]; exact (h1 a ha).2) hf2⟩, fun i hi l hl r hr => PW.mid (by rw [List.append_nil]; exact h2 i hi l hl r hr) hf2, fun y hy => ?_, h4, ?_⟩
    · have e : (m.wNet x).wires = m.wires ++ [x] := by unfold xMod.wNet; rw [if_pos z]; rfl
      rw [e] at hy
      rcases List.mem_append.mp hy with q | q
      · exact h3 y q
      · rw [List.mem_singleton.mp q]; exact z
    · rw [List.map_append, List.map_append]
      exact nodup_mid (by simpa using h5) (by simpa using hn)
  · obtain ⟨w1, w2, w3, w4, w5, w6⟩ := wNet_p (m := m) z
    unfold AW
    rw [w1, w2, w3, w4]
    refine ⟨fun a ha => ⟨PW.mid (h1 a ha).1 hf, PW.mid (h1 a ha).2 hf⟩, fun i hi l hl r hr => PW.mid (h2 i hi l hl r hr) hf, fun y hy => ?_, fun y hy => ?_, ?_⟩
    · have e : (m.wNet x).wires = m.wires := by unfold xMod.wNet; rw [if_neg z]; rfl
      rw [e] at hy
      exact h3 y hy
    · rcases List.mem_append.mp hy with q | q
      · exact h4 y q
      · rw [List.mem_singleton.mp q]; exact z
    · rw [List.map_append, List.map_append]
      exact nodup_mid (by simpa [xMod.nets] using h5) (by simpa [xMod.nets] using hn)
theorem NW.net {m : xMod} {x : xNet} (h : NW m.nets) (hx : nm_ok x.1 ∧ x.2.1 ≤ 3 ∧ x.2.2 ≤ 8 ∧ (x.2.1 ≠ 3 → 1 ≤ x.2.2)) : NW (m.wNet x).nets := by
  intro y hy
  by_cases z : x.2.1 = 2
  · rw [(wNet_w (m := m) z).1] at hy
    simp only [List.append_nil, List.mem_append, List.mem_singleton] at hy
    rcases hy with q | q
    · exact h y q
    · rw [q]; exact hx
  · rw [(wNet_p (m := m) z).1] at hy
    simp only [List.mem_append, List.mem_singleton] at hy
    rcases hy with (q | q) | q
    · exact h y (List.mem_append_left _ q)
    · rw [q]; exact hx
    · exact h y (List.mem_append_right _ q)
theorem MW.net {m : xMod} {x : xNet} (h : MW m) (hx : nm_ok x.1 ∧ x.2.1 ≤ 3 ∧ x.2.2 ≤ 8 ∧ (x.2.1 ≠ 3 → 1 ≤ x.2.2)) : MW (m.wNet x) := by
  refine ⟨h.1.net hx, ?_⟩
  have e : (m.wNet x).ins = m.ins := by unfold xMod.wNet; split <;> rfl
  rw [e]
  exact h.2
theorem cw_initN {P : xP} {σ : xS} {a lo hi s w : Nat} {nm : List Nat} (hk : σ.K a = 5) (ha : P.base + 44 ≤ a) (h1 : lo ≤ a) (h2 : a < hi) : ∃ σ', dm_X4_init P a (pk nm) (sortI s) (nI w) σ = some (.inl (), σ') ∧ Fr P a 0 σ σ' ∧ σ'.I 906 (P.base + 1) = σ.I 906 (P.base + 1) ∧ σ'.sz = σ.sz ∧ NetR σ' lo hi a (nm, s, w) := by
  refine ⟨(((σ.setI 403 a (nI 0)).setJ 400 a (pk nm)).setI 401 a (sortI s)).setI 402 a (nI w), ?_, ?_, ?_, rfl, ?_⟩
  · unfold dm_X4_init
    simp (disch := first | assumption | omega) [x_chk, x_some, x_bind, x_let, lit_nI, nI_add, nI_mul, nI_sub, nI_clamp, nI_eq, nI_ltI, nI_leI, nN_e, nI_nN, nN_nI, bI_0, bI_1, bI_n, bool_0, bool_1, in_T, lg_cmp0, ofN_nI, q_K_setI, q_I_setI, q_J_setI, q_R_setI, q_L_setI, q_AI_setI, q_AJ_setI, q_AR_setI, q_sz_setI, q_su_setI, q_K_setJ, q_I_setJ, q_J_setJ, q_R_setJ, q_L_setJ, q_AI_setJ, q_AJ_setJ, q_AR_setJ, q_sz_setJ, q_su_setJ, q_K_setR, q_I_setR, q_J_setR, q_R_setR, q_L_setR, q_AI_setR, q_AJ_setR, q_AR_setR, q_sz_setR, q_su_setR, q_K_setAI, q_I_setAI, q_J_setAI, q_R_setAI, q_L_setAI, q_AI_setAI, q_AJ_setAI, q_AR_setAI, q_sz_setAI, q_su_setAI, q_K_setAJ, q_I_setAJ, q_J_setAJ, q_R_setAJ, q_L_setAJ, q_AI_setAJ, q_AJ_setAJ, q_AR_setAJ, q_sz_setAJ, q_su_setAJ, q_K_setAR, q_I_setAR, q_J_setAR, q_R_setAR, q_L_setAR, q_AI_setAR, q_AJ_setAR, q_AR_setAR, q_sz_setAR, q_su_setAR, q_K_newO, q_I_newO, q_J_newO, q_R_newO, q_L_newO, q_AI_newO, q_AJ_newO, q_AR_newO, q_sz_newO, q_su_newO, q_K_newA, q_I_newA, q_J_newA, q_R_newA, q_L_newA, q_AI_newA, q_AJ_newA, q_AR_newA, q_sz_newA, q_su_newA, q_K_skip, q_I_skip, q_J_skip, q_R_skip, q_L_skip, q_AI_skip, q_AJ_skip, q_AR_skip, q_sz_skip, q_su_skip, hk, dle_T]
  · exact (((((Fr.refl P a σ).thenI (Nat.le_refl _) (by omega)).thenJ (Nat.le_refl _) (by omega)).thenI (Nat.le_refl _) (by omega)).thenI (Nat.le_refl _) (by omega))
  · simp [q_K_setI, q_I_setI, q_J_setI, q_R_setI, q_L_setI, q_AI_setI, q_AJ_setI, q_AR_setI, q_sz_setI, q_su_setI, q_K_setJ, q_I_setJ, q_J_setJ, q_R_setJ, q_L_setJ, q_AI_setJ, q_AJ_setJ, q_AR_setJ, q_sz_setJ, q_su_setJ, q_K_setR, q_I_setR, q_J_setR, q_R_setR, q_L_setR, q_AI_setR, q_AJ_setR, q_AR_setR, q_sz_setR, q_su_setR, q_K_setAI, q_I_setAI, q_J_setAI, q_R_setAI, q_L_setAI, q_AI_setAI, q_AJ_setAI, q_AR_setAI, q_sz_setAI, q_su_setAI, q_K_setAJ, q_I_setAJ, q_J_setAJ, q_R_setAJ, q_L_setAJ, q_AI_setAJ, q_AJ_setAJ, q_AR_setAJ, q_sz_setAJ, q_su_setAJ, q_K_setAR, q_I_setAR, q_J_setAR, q_R_setAR, q_L_setAR, q_AI_setAR, q_AJ_setAR, q_AR_setAR, q_sz_setAR, q_su_setAR, q_K_newO, q_I_newO, q_J_newO, q_R_newO, q_L_newO, q_AI_newO, q_AJ_newO, q_AR_newO, q_sz_newO, q_su_newO, q_K_newA, q_I_newA, q_J_newA, q_R_newA, q_L_newA, q_AI_newA, q_AJ_newA, q_AR_newA, q_sz_newA, q_su_newA, q_K_skip, q_I_skip, q_J_skip, q_R_skip, q_L_skip, q_AI_skip, q_AJ_skip, q_AR_skip, q_sz_skip, q_su_skip, q_up2, q_up]
  · refine ⟨h1, h2, hk, ?_, ?_, ?_⟩ <;> simp [q_K_setI, q_I_setI, q_J_setI, q_R_setI, q_L_setI, q_AI_setI, q_AJ_setI, q_AR_setI, q_sz_setI, q_su_setI, q_K_setJ, q_I_setJ, q_J_setJ, q_R_setJ, q_L_setJ, q_AI_setJ, q_AJ_setJ, q_AR_setJ, q_sz_setJ, q_su_setJ, q_K_setR, q_I_setR, q_J_setR, q_R_setR, q_L_setR, q_AI_setR, q_AJ_setR, q_AR_setR, q_sz_setR, q_su_setR, q_K_setAI, q_I_setAI, q_J_setAI, q_R_setAI, q_L_setAI, q_AI_setAI, q_AJ_setAI, q_AR_setAI, q_sz_setAI, q_su_setAI, q_K_setAJ, q_I_setAJ, q_J_setAJ, q_R_setAJ, q_L_setAJ, q_AI_setAJ, q_AJ_setAJ, q_AR_setAJ, q_sz_setAJ, q_su_setAJ, q_K_setAR, q_I_setAR, q_J_setAR, q_R_setAR, q_L_setAR, q_AI_setAR, q_AJ_setAR, q_AR_setAR, q_sz_setAR, q_su_setAR, q_K_newO, q_I_newO, q_J_newO, q_R_newO, q_L_newO, q_AI_newO, q_AJ_newO, q_AR_newO, q_sz_newO, q_su_newO, q_K_newA, q_I_newA, q_J_newA, q_R_newA, q_L_newA, q_AI_newA, q_AJ_newA, q_AR_newA, q_sz_newA, q_su_newA, q_K_skip, q_I_skip, q_J_skip, q_R_skip, q_L_skip, q_AI_skip, q_AJ_skip, q_AR_skip, q_sz_skip, q_su_skip, q_up2, q_up]
/-- the new cell at σ.sz becomes a net of the module -/
theorem cw_newNet {P : xP} {T : xT} {lng : Bool} {g : List Nat → Nat} {ix M : Nat} {m : xMod} {σ σ1 : xS} {p p1 s w : Nat} {nm : List Nat} (h : PX P T lng g ix M m σ p) (hA : AW m) (f : Fr P σ.sz 1 σ σ1) (hk : σ1.K σ.sz = 5) (hz : σ1.sz = σ.sz + 1) (C1 : CP P T σ1 p1) (hc : sp_can m nm = true) (ho : nm_ok nm) (hs : s ≤ 3) (hw : w ≤ 8) (hsw : s ≠ 3 → 1 ≤ w) : ∃ σ2 σ3, dm_X4_init P σ.sz (pk nm) (sortI s) (nI w) σ1 = some (.inl (), σ2) ∧ σ2.K M = 6 ∧ dm_X5_addNet P M (some σ.sz) σ2 = some (.inl (), σ3) ∧ PX P T lng (fun y => if y = nm then σ.sz else g y) ix M (m.wNet (nm, s, w)) σ3 p1 ∧ Fr P M 1 σ σ3 := by
  have hM := h.2.2.1
  have hMs := h.2.2.2.1.1.1
  have sz := h.1.sz
  simp only [sp_can, Bool.and_eq_true, decide_eq_true_eq] at hc
  obtain ⟨σ2, q1, q2, q3, q4, q5⟩ := cw_initN (P := P) (σ := σ1) (a := σ.sz) (lo := M + 5) (hi := σ.sz + 1) (s := s) (w := w) (nm := nm) hk sz hMs (by omega)
  have f2 : Fr P σ.sz 1 σ σ2 := f.trans q2
  have C2 : CP P T σ2 p1 := C1.fr q2 q3 (by omega)
  have h2 := h.fr f2 C2
  have hm2 : MR σ2 g (fun _ => none) ix M (σ.sz + 1) m := by
    have := h2.2.2.2.1
    rw [q4, hz] at this
    exact this
  obtain ⟨σ3, t1, t2, t3, t4, t5⟩ := cw_addNet (P := P) (x := (nm, s, w)) C2.ci hm2 hM q5 hs hc.1 hc.2 hA
  refine ⟨σ2, σ3, q1, hm2.1.2.1, t1, ⟨C2.fr t2 t3 (by omega), ?_, hM, ?_, h.2.2.2.2.net ⟨ho, hs, hw, hsw⟩⟩, (f2.mono (h' := M) (by omega) (e := 1) (by omega)).trans t2⟩
  · have rn := rd_ne P lng
    exact ((t2.1 _ (by omega) (by omega)).2.2.2.2.1 302).trans h2.2.1
  · rw [t4, q4, hz]; exact t5
theorem newO_CP {P : xP} {T : xT} {σ : xS} {p k n : Nat} (C : CP P T σ p) (hn : n ≤ 20) : Fr P σ.sz 1 σ (σ.newO k n) ∧ CP P T (σ.newO k n) p := by
  have sz := C.sz
  have f : Fr P σ.sz 1 σ (σ.newO k n) := Fr.newO P (Nat.le_refl _) (by omega) hn
  refine ⟨f, C.fr f ?_ (by omega)⟩
  have : ¬ P.base + 1 = σ.sz := by omega
  simp [q_I_newO, this]
theorem cw_wire {P : xP} {T : xT} {g : List Nat → Nat} {ix M : Nat} {m : xMod} {σ : xS} {p w : Nat} (h : PX P T true g ix M m σ p) (hA : AW m) (hw1 : 1 ≤ w) (hw : w ≤ 8) (hR : Rm P σ 2) : Rf (dm_X3_tellWire P (P.base + 6) (nI w) σ) (sp_wire T w m p) (IQ P T true ix M σ 1) (PE P T M σ 1) := by
  have C := h.1
  have ci := C.ci
  have hMs := h.2.2.2.1.1.1
  have cu : σ.R 302 (P.base + 6) = some M := h.2.1
  have kM := h.2.2.2.1.1.2.1
  unfold dm_X3_tellWire sp_wire
  simp (disch := first | assumption | omega) [ck_T, sm_s, bd_l, bd_r, lt_e, eq_self, and_self, if_true, true_and, and_true, lit_nI, nI_add, nI_mul, nI_sub, nI_clamp, nI_eq, nI_ltI, nI_leI, nN_e, nI_nN, nN_nI, bI_0, bI_1, bI_n, bool_0, bool_1, in_T, lg_cmp0, ofN_nI, ci_0 ci, ci_1 ci, ci_2 ci, ci_3 ci, ci_4 ci, ci_5 ci, ci_6 ci, ci_7 ci, ci_8 ci, ci_9 ci, ci_10 ci, ci_11 ci, ci_12 ci, ci_13 ci, ci_14 ci, ci_15 ci, ci_16 ci, ci_17 ci, ci_18 ci, ci_19 ci, ci_20 ci, ci_21 ci, ci_22 ci]
  refine Rf.bind (rf_name C hR.mono) ?_ ?_
  · rintro _ s nm ⟨rfl, rfl, ho, hp⟩
    have ct := cw_canTakeNet ci h.2.2.2.1 (fun x hx => (h.2.2.2.2.1 x hx).1) ho
    have rt := cw_refuseIf (P := P) (a := P.base + 1) (b := true) (σ := s) hR.mono
    have rf := cw_refuseIf (P := P) (a := P.base + 1) (b := false) (σ := s) hR.mono
    simp only [bI_tt, bI_ff, if_true] at rt rf
    by_cases e : sp_can m nm = true
    · rw [if_pos e]
      rw [e] at ct
      obtain ⟨f1, C1⟩ := newO_CP (k := 5) (n := 4) C (by omega)
      obtain ⟨s2, s3, q1, q2, q3, q4, q5⟩ := cw_newNet (s := 2) (w := w) h hA f1 (by simp [q_K_newO, q_up]) (by simp [q_sz_newO]) C1 e ho (by omega) hw (fun _ => hw1)
      have C3 := q4.1
      have ci3 := C3.ci
      have st := cw_step C3 hp
      have C4 := C3.step hp
      have f4 := cst_fr P s3.sz s3
      have rc := of_eq_true (Rm.chk hR 1 4 (by omega) (by omega))
      simp only [sortI_2] at q1
      refine Rf.ok (v := ()) (σ' := cst P s3) ?_ ⟨_, q4.fr f4 C4, q5.trans f4 (by have := q5.2.2.1; omega)⟩
      unfold dm_X3_tellWire_p28
      simp (disch := first | assumption | omega) [ck_T, sm_s, bd_l, bd_r, lt_e, eq_self, and_self, if_true, true_and, and_true, lit_nI, nI_add, nI_mul, nI_sub, nI_clamp, nI_eq, nI_ltI, nI_leI, nN_e, nI_nN, nN_nI, bI_0, bI_1, bI_n, bool_0, bool_1, in_T, lg_cmp0, ofN_nI, ci_0 ci, ci_1 ci, ci_2 ci, ci_3 ci, ci_4 ci, ci_5 ci, ci_6 ci, ci_7 ci, ci_8 ci, ci_9 ci, ci_10 ci, ci_11 ci, ci_12 ci, ci_13 ci, ci_14 ci, ci_15 ci, ci_16 ci, ci_17 ci, ci_18 ci, ci_19 ci, ci_20 ci, ci_21 ci, ci_22 ci, ci_0 ci3, ci_1 ci3, ci_2 ci3, ci_3 ci3, ci_4 ci3, ci_5 ci3, ci_6 ci3, ci_7 ci3, ci_8 ci3, ci_9 ci3, ci_10 ci3, ci_11 ci3, ci_12 ci3, ci_13 ci3, ci_14 ci3, ci_15 ci3, ci_16 ci3, ci_17 ci3, ci_18 ci3, ci_19 ci3, ci_20 ci3, ci_21 ci3, ci_22 ci3, cu, kM, ct, rf, rc, q1, q2, q3, st]
    · rw [if_neg e]
      have e' : sp_can m nm = false := by simpa using e
      rw [e'] at ct
      refine Rf.er (σ' := s.skip 6) ?_ ((PE.skip C).mono)
      unfold dm_X3_tellWire_p28
      simp (disch := first | assumption | omega) [ck_T, sm_s, bd_l, bd_r, lt_e, eq_self, and_self, if_true, true_and, and_true, lit_nI, nI_add, nI_mul, nI_sub, nI_clamp, nI_eq, nI_ltI, nI_leI, nN_e, nI_nN, nN_nI, bI_0, bI_1, bI_n, bool_0, bool_1, in_T, lg_cmp0, ofN_nI, ci_0 ci, ci_1 ci, ci_2 ci, ci_3 ci, ci_4 ci, ci_5 ci, ci_6 ci, ci_7 ci, ci_8 ci, ci_9 ci, ci_10 ci, ci_11 ci, ci_12 ci, ci_13 ci, ci_14 ci, ci_15 ci, ci_16 ci, ci_17 ci, ci_18 ci, ci_19 ci, ci_20 ci, ci_21 ci, ci_22 ci, cu, kM, ct, rt]
  · intro g5 s5 hq
    exact ⟨rfl, hq.mono⟩
