/-! ===== the reference: takeInstance ===== -/
theorem rw_insCellI {P : xP} {hv k : Nat} {σ : xS} (h : RI P σ) (hh : σ.I 1140 (P.base + 11) = nI hv) (hm : σ.I 1141 (P.base + 11) = nI k) (j : Nat) : dm_X12_insCell P (P.base + 11) (nI j) σ = some (.inl (nI (12 * (8 * hv + k) + j)), σ) := by
  have a0 := ri_0 h
  unfold dm_X12_insCell dm_X12_mod
  simp (disch := first | assumption | omega) [ck_T, sm_s, bd_l, bd_r, lt_e, eq_self, and_self, if_true, true_and, and_true, lit_nI, nI_add, nI_mul, nI_sub, nI_clamp, nI_eq, nI_ltI, nI_leI, nN_e, nI_nN, nN_nI, bI_0, bI_1, bI_n, bool_0, bool_1, in_T, lg_cmp0, ofN_nI, a0, hh, hm]
theorem rd_p84 {P : xP} {σ : xS} {f : Nat} (h : DE P σ f) (v w : Int32) : dm_X12_takeInstance_p84 P (P.base + 11) v w σ = some (.inl nN, σ) := by
  have ok := rd_ok h.1 (by have := h.2.2; omega) h.2.1
  have a0 := ri_0 h.1
  unfold dm_X12_takeInstance_p84
  simp only [a0, ck_T, eq_self, ok, bd_l, lit_nI, if_true, nN_e]
theorem rd_p63 {P : xP} {σ : xS} {f : Nat} (h : DE P σ f) (v w : Int32) : dm_X12_takeInstance_p63 P (P.base + 11) v w σ = some (.inl nN, σ) := by
  have ok := rd_ok h.1 (by have := h.2.2; omega) h.2.1
  have a0 := ri_0 h.1
  unfold dm_X12_takeInstance_p63
  simp only [a0, ck_T, eq_self, ok, bd_l, lit_nI, if_true, rd_p84 h]
theorem rw_tiL {P : xP} {T : xT} {hv : Nat} {lng : Bool} {ms : List xMod} {m : xMod} {n : Nat} {σ : xS} {p : Nat} {nm : List Nat} {v1 : Int32} (h : RXf P T hv lng ms m n σ p) (hq : NmAt T p nm) : ∀ (r j f : Nat), j + r = m.ins.length → r < f → dm_X12_takeInstance_L16 P (P.base + 11) f v1 (nI m.ins.length) (nI j) σ = dm_X12_takeInstance_p63 P (P.base + 11) v1 (nI m.ins.length) (if nm ∈ (m.ins.drop j).map (fun i => i.2.1) then fl P σ p else σ) := by
  have r0 := h.1.1.1
  have a0 := ri_0 r0
  have hk : lx_kind T p ≠ 4 := by rw [hq.1]; decide
  have ok := rw_ok r0 (h.1.2.1.ok hk)
  have hv1 := h.1.1.2.2.1
  have hh := h.1.1.2.2.2.1
  have hm := h.1.2.2.1
  have m8 := h.1.2.2.2.1
  have fr := h.1.2.1.2.1
  have ff : dm_X12_fail P (P.base + 11) (nI p) σ = some (.inl (), fl P σ p) := rw_fail r0 (h.1.2.1.ok hk) (nI p)
  have fq := RXfail h.1
  have okd := rd_ok fq.de.1 (by have := fq.de.2.2; omega) fq.de.2.1
  have b0 := ri_0 fq.de.1
  have rm := (h.1.2.2.2.2.2.1).choose_spec
  have l12 := h.1.2.2.2.2.2.2.1.2.2.2.1.2.2
  intro r
  induction r with
  | zero =>
    intro j f hj hf
    obtain ⟨f, rfl⟩ : ∃ m, f = m + 1 := ⟨f - 1, by omega⟩
    have e : m.ins.drop j = [] := List.drop_eq_nil_of_le (by omega)
    have e1 : m.ins.length ≤ j := by omega
    rw [e]
    unfold dm_X12_takeInstance_L16
    simp (disch := first | assumption | omega) [ck_T, sm_s, bd_l, bd_r, lt_e, eq_self, and_self, if_true, true_and, and_true, lit_nI, nI_add, nI_mul, nI_sub, nI_clamp, nI_eq, nI_ltI, nI_leI, nN_e, nI_nN, nN_nI, bI_0, bI_1, bI_n, bool_0, bool_1, in_T, lg_cmp0, ofN_nI, e1]
  | succ r ih =>
    intro j f hj hf
    obtain ⟨f, rfl⟩ : ∃ m, f = m + 1 := ⟨f - 1, by omega⟩
    obtain ⟨x, hx⟩ : ∃ x, m.ins[j]? = some x := ⟨_, List.getElem?_eq_getElem (by omega)⟩
    have e1 : ¬ m.ins.length ≤ j := by omega
    have nc := rw_insCellI r0 hh hm j
    obtain ⟨-, y1, y2, -⟩ := rm.2.2.2 j x hx
    have sm := rw_areSame h.1.1 y2 hq
    have et : m.ins.drop j = x :: m.ins.drop (j + 1) := by
      rw [List.drop_eq_getElem_cons (by omega)]
      congr 1
      rw [List.getElem?_eq_getElem (by omega)] at hx
      exact Option.some.inj hx
    conv => lhs; unfold dm_X12_takeInstance_L16 dm_X12_takeInstance_p57
    rw [et, List.map_cons]
    by_cases e : x.2.1 = nm
    · rw [decide_eq_true e] at sm
      have mem : nm ∈ x.2.1 :: (m.ins.drop (j + 1)).map (fun i => i.2.1) := by rw [e]; exact List.mem_cons_self
      rw [if_pos mem]
      have st : dm_X12_takeInstance_L16 P (P.base + 11) f v1 (nI m.ins.length) (nI (j + 1)) (fl P σ p) = dm_X12_takeInstance_p63 P (P.base + 11) v1 (nI m.ins.length) (fl P σ p) := by
        obtain ⟨f, rfl⟩ : ∃ m, f = m + 1 := ⟨f - 1, by omega⟩
        unfold dm_X12_takeInstance_L16
        by_cases e2 : m.ins.length ≤ j + 1
        · simp (disch := first | assumption | omega) [ck_T, sm_s, bd_l, bd_r, lt_e, eq_self, and_self, if_true, true_and, and_true, lit_nI, nI_add, nI_mul, nI_sub, nI_clamp, nI_eq, nI_ltI, nI_leI, nN_e, nI_nN, nN_nI, bI_0, bI_1, bI_n, bool_0, bool_1, in_T, lg_cmp0, ofN_nI, e2]
        · simp (disch := first | assumption | omega) [ck_T, sm_s, bd_l, bd_r, lt_e, eq_self, and_self, if_true, true_and, and_true, lit_nI, nI_add, nI_mul, nI_sub, nI_clamp, nI_eq, nI_ltI, nI_leI, nN_e, nI_nN, nN_nI, bI_0, bI_1, bI_n, bool_0, bool_1, in_T, lg_cmp0, ofN_nI, e2, b0, okd]
      simp (disch := first | assumption | omega) [ck_T, sm_s, bd_l, bd_r, lt_e, eq_self, and_self, if_true, true_and, and_true, lit_nI, nI_add, nI_mul, nI_sub, nI_clamp, nI_eq, nI_ltI, nI_leI, nN_e, nI_nN, nN_nI, bI_0, bI_1, bI_n, bool_0, bool_1, in_T, lg_cmp0, ofN_nI, ri_0 r0, ri_70 r0, ri_71 r0, ri_72 r0, ok, nc, e1, y1, fr, sm, bI_tt, ff, st, x_in, dlt_T, dle_T]
    · rw [decide_eq_false e] at sm
      have e' : (nm ∈ x.2.1 :: (m.ins.drop (j + 1)).map (fun i => i.2.1)) = (nm ∈ (m.ins.drop (j + 1)).map (fun i => i.2.1)) := by
        simp only [List.mem_cons, eq_iff_iff]
        constructor
        · rintro (z | z)
          · exact absurd z.symm e
          · exact z
        · exact Or.inr
      simp only [e']
      rw [← ih (j + 1) f (by omega) (by omega)]
      simp (disch := first | assumption | omega) [ck_T, sm_s, bd_l, bd_r, lt_e, eq_self, and_self, if_true, true_and, and_true, lit_nI, nI_add, nI_mul, nI_sub, nI_clamp, nI_eq, nI_ltI, nI_leI, nN_e, nI_nN, nN_nI, bI_0, bI_1, bI_n, bool_0, bool_1, in_T, lg_cmp0, ofN_nI, ri_0 r0, ri_70 r0, ri_71 r0, ri_72 r0, ok, nc, e1, y1, fr, sm, bI_ff, x_in, dlt_T, dle_T]
def tiS (P : xP) (M k : Nat) (σ : xS) (a b : Int32) : xS := ((((σ.setAI (P.base + 34) (12 * M + k) a).setAI (P.base + 35) (12 * M + k) b).setAI (P.base + 36) (12 * M + k) (nI 0)).setAI (P.base + 38) (12 * M + k) (nI 0)).setAI (P.base + 33) M (nI (k + 1))
theorem tiS_FK {P : xP} {M k : Nat} {σ : xS} {a b : Int32} : FKi P M k σ (tiS P M k σ a b) := by
  unfold tiS
  exact ((((((FKi.refl P M k σ).set (by omega)).set (by omega)).set (by omega)).set (by omega)).set (by omega))
/-- what taking an instance leaves -/
def QT (P : xP) (T : xT) (hv : Nat) (lng : Bool) (ms : List xMod) (pl n0 : Nat) (σ0 : xS) (m : xMod) (f : List Nat) (v : Int32) (s : xS) (q : (List Nat × List Nat × Nat) × Nat) : Prop := v = nI m.ins.length ∧ (lx_kind T q.2 ≠ 4 → PIn P T hv lng ms pl n0 σ0 m (q.1.1, q.1.2.1, q.1.2.2, false, []) s q.2) ∧ (lx_kind T q.2 = 4 → EI P T hv ms pl n0 σ0 q.2 s) ∧ q.1.1 = f
theorem rw_takeInstance {P : xP} {T : xT} {hv : Nat} {lng : Bool} {ms : List xMod} {pl n0 : Nat} {σ0 : xS} {m : xMod} {σ : xS} {p q : Nat} {f : List Nat} (h : SI P T hv lng ms pl n0 σ0 m σ p) (hk : lx_kind T p ≠ 4) (hf : NmAt T q f) : Rr (dm_X12_takeInstance P (P.base + 11) (nI q) σ) (eb (sp_name T p) fun nm => if 12 ≤ m.ins.length ∨ nm ∈ m.ins.map (fun i => i.2.1) then .error p else .ok ((f, nm, p), lx_nx T p)) (QT P T hv lng ms pl n0 σ0 m f) (EI P T hv ms pl n0 σ0) := by
  obtain ⟨hpl, fm, n, hn, hr⟩ := id h
  have r0 := hr.1.1.1
  have a0 := ri_0 r0
  have ok := rw_ok r0 (hr.1.2.1.ok hk)
  have hv1 := hr.1.1.2.2.1
  have hN := hr.1.1.2.2.2.2.2.2
  have hh := hr.1.1.2.2.2.1
  have hm := hr.1.2.2.1
  have m8 := hr.1.2.2.2.1
  have md := rw_mod hr.1.1 hm
  have nn := rw_needName hr.1.1 hr.1.2.1 hk
  have fr := hr.1.2.1.2.1
  have ff : dm_X12_fail P (P.base + 11) (nI p) σ = some (.inl (), fl P σ p) := rw_fail r0 (hr.1.2.1.ok hk) (nI p)
  have fq := SIfail h
  have de := fq.2.de
  have okd := rd_ok de.1 (by have := de.2.2; omega) de.2.1
  have b0 := ri_0 de.1
  have c33 := hr.2
  have wx := hr.1.2.2.2.2.2.2.1
  have l12 := wx.2.2.2.1.2.2
  have hT := hr.1.1.2.1
  by_cases k0 : lx_kind T p = 0
  · rw [if_pos k0] at nn
    have hq : NmAt T p (lx_nm T p) := ⟨k0, rfl⟩
    have sn : sp_name T p = .ok (lx_nm T p) := by unfold sp_name; rw [if_pos k0]
    rw [sn]
    simp only [eb_ok]
    have lp := rw_tiL (v1 := nI q) hr hq m.ins.length 0 P.N (by omega) (by omega)
    rw [List.drop_zero] at lp
    have st : dm_X12_takeInstance P (P.base + 11) (nI q) σ = dm_X12_takeInstance_L16 P (P.base + 11) P.N (nI q) (nI m.ins.length) (nI 0) σ := by
      unfold dm_X12_takeInstance
      simp (disch := first | assumption | omega) [ck_T, sm_s, bd_l, bd_r, lt_e, eq_self, and_self, if_true, true_and, and_true, lit_nI, nI_add, nI_mul, nI_sub, nI_clamp, nI_eq, nI_ltI, nI_leI, nN_e, nI_nN, nN_nI, bI_0, bI_1, bI_n, bool_0, bool_1, in_T, lg_cmp0, ofN_nI, ri_0 r0, ri_64 r0, ri_65 r0, ri_66 r0, nn, md, c33, x_in, dlt_T, dle_T]
    refine Rr.eq ?_ (st.trans lp)
    by_cases e : lx_nm T p ∈ m.ins.map (fun i => i.2.1)
    · rw [if_pos e, if_pos (Or.inr e)]
      exact Rr.er (rd_p63 de _ _) fq
    · rw [if_neg e]
      by_cases e12 : 12 ≤ m.ins.length
      · rw [if_pos (Or.inl e12)]
        have e12' : m.ins.length = 12 := by omega
        have p8 := fun v w => rd_p84 de v w
        refine Rr.er (v := nN) (σ' := fl P σ p) ?_ fq
        unfold dm_X12_takeInstance_p63
        rw [e12']
        simp (disch := first | assumption | omega) [ck_T, sm_s, bd_l, bd_r, lt_e, eq_self, and_self, if_true, true_and, and_true, lit_nI, nI_add, nI_mul, nI_sub, nI_clamp, nI_eq, nI_ltI, nI_leI, nN_e, nI_nN, nN_nI, bI_0, bI_1, bI_n, bool_0, bool_1, in_T, lg_cmp0, ofN_nI, a0, ok, fr, ff, b0, p8]
      · rw [if_neg (by intro z; rcases z with z | z <;> contradiction)]
        have e12' : ¬ m.ins.length = 12 := by omega
        have fk := tiS_FK (P := P) (M := 8 * hv + ms.length) (k := m.ins.length) (σ := σ) (a := nI q) (b := nI p)
        have c33' : (tiS P (8 * hv + ms.length) m.ins.length σ (nI q) (nI p)).AI (P.base + 33) (8 * hv + ms.length) = nI (m.ins.length + 1) := by
          unfold tiS; simp [q_K_setI, q_I_setI, q_J_setI, q_R_setI, q_L_setI, q_AI_setI, q_AJ_setI, q_AR_setI, q_sz_setI, q_su_setI, q_K_setJ, q_I_setJ, q_J_setJ, q_R_setJ, q_L_setJ, q_AI_setJ, q_AJ_setJ, q_AR_setJ, q_sz_setJ, q_su_setJ, q_K_setR, q_I_setR, q_J_setR, q_R_setR, q_L_setR, q_AI_setR, q_AJ_setR, q_AR_setR, q_sz_setR, q_su_setR, q_K_setAI, q_I_setAI, q_J_setAI, q_R_setAI, q_L_setAI, q_AI_setAI, q_AJ_setAI, q_AR_setAI, q_sz_setAI, q_su_setAI, q_K_setAJ, q_I_setAJ, q_J_setAJ, q_R_setAJ, q_L_setAJ, q_AI_setAJ, q_AJ_setAJ, q_AR_setAJ, q_sz_setAJ, q_su_setAJ, q_K_setAR, q_I_setAR, q_J_setAR, q_R_setAR, q_L_setAR, q_AI_setAR, q_AJ_setAR, q_AR_setAR, q_sz_setAR, q_su_setAR, q_K_newO, q_I_newO, q_J_newO, q_R_newO, q_L_newO, q_AI_newO, q_AJ_newO, q_AR_newO, q_sz_newO, q_su_newO, q_K_newA, q_I_newA, q_J_newA, q_R_newA, q_L_newA, q_AI_newA, q_AJ_newA, q_AR_newA, q_sz_newA, q_su_newA, q_K_skip, q_I_skip, q_J_skip, q_R_skip, q_L_skip, q_AI_skip, q_AJ_skip, q_AR_skip, q_sz_skip, q_su_skip, q_up2, q_up]
        have g := hr.1.lk fk (by omega) c33'
        obtain ⟨s, u1, u2, u3⟩ := rw_next g.1 g.2.1 hk
        have gt := nx_gt hq.lt
        have g' := g.fl u2 u3 (by omega)
        have e' : s.AI = (tiS P (8 * hv + ms.length) m.ins.length σ (nI q) (nI p)).AI := u2.2.2.2.2.1
        have nok := kind_nm_ok hT (p := p) (Or.inl k0)
        have nof := kind_nm_ok hT (p := q) (Or.inl hf.1)
        rw [hf.2] at nof
        have pi : PIn P T hv lng ms pl n0 σ0 m (f, lx_nm T p, p, false, []) s (lx_nx T p) := by
          refine ⟨hpl, fm.trans ((fk.fm (by omega)).trans u2.fm (Nat.le_refl _)) hn, by omega, ⟨nof, nok, p, wx, Nat.le_refl _⟩, ⟨LSo.nil _ _, by simp, fun l hl => by simp at hl, fun _ => by simp, by simp only; omega⟩, n, hn, g', by rw [e']; exact c33', ?_⟩
          unfold RIn
          rw [e']
          refine ⟨⟨q, ?_, hf⟩, ?_, hq, ?_, ?_, fun t l hl => by simp at hl⟩
          · unfold tiS; simp [q_K_setI, q_I_setI, q_J_setI, q_R_setI, q_L_setI, q_AI_setI, q_AJ_setI, q_AR_setI, q_sz_setI, q_su_setI, q_K_setJ, q_I_setJ, q_J_setJ, q_R_setJ, q_L_setJ, q_AI_setJ, q_AJ_setJ, q_AR_setJ, q_sz_setJ, q_su_setJ, q_K_setR, q_I_setR, q_J_setR, q_R_setR, q_L_setR, q_AI_setR, q_AJ_setR, q_AR_setR, q_sz_setR, q_su_setR, q_K_setAI, q_I_setAI, q_J_setAI, q_R_setAI, q_L_setAI, q_AI_setAI, q_AJ_setAI, q_AR_setAI, q_sz_setAI, q_su_setAI, q_K_setAJ, q_I_setAJ, q_J_setAJ, q_R_setAJ, q_L_setAJ, q_AI_setAJ, q_AJ_setAJ, q_AR_setAJ, q_sz_setAJ, q_su_setAJ, q_K_setAR, q_I_setAR, q_J_setAR, q_R_setAR, q_L_setAR, q_AI_setAR, q_AJ_setAR, q_AR_setAR, q_sz_setAR, q_su_setAR, q_K_newO, q_I_newO, q_J_newO, q_R_newO, q_L_newO, q_AI_newO, q_AJ_newO, q_AR_newO, q_sz_newO, q_su_newO, q_K_newA, q_I_newA, q_J_newA, q_R_newA, q_L_newA, q_AI_newA, q_AJ_newA, q_AR_newA, q_sz_newA, q_su_newA, q_K_skip, q_I_skip, q_J_skip, q_R_skip, q_L_skip, q_AI_skip, q_AJ_skip, q_AR_skip, q_sz_skip, q_su_skip, q_up2, q_up]
          · unfold tiS; simp [q_K_setI, q_I_setI, q_J_setI, q_R_setI, q_L_setI, q_AI_setI, q_AJ_setI, q_AR_setI, q_sz_setI, q_su_setI, q_K_setJ, q_I_setJ, q_J_setJ, q_R_setJ, q_L_setJ, q_AI_setJ, q_AJ_setJ, q_AR_setJ, q_sz_setJ, q_su_setJ, q_K_setR, q_I_setR, q_J_setR, q_R_setR, q_L_setR, q_AI_setR, q_AJ_setR, q_AR_setR, q_sz_setR, q_su_setR, q_K_setAI, q_I_setAI, q_J_setAI, q_R_setAI, q_L_setAI, q_AI_setAI, q_AJ_setAI, q_AR_setAI, q_sz_setAI, q_su_setAI, q_K_setAJ, q_I_setAJ, q_J_setAJ, q_R_setAJ, q_L_setAJ, q_AI_setAJ, q_AJ_setAJ, q_AR_setAJ, q_sz_setAJ, q_su_setAJ, q_K_setAR, q_I_setAR, q_J_setAR, q_R_setAR, q_L_setAR, q_AI_setAR, q_AJ_setAR, q_AR_setAR, q_sz_setAR, q_su_setAR, q_K_newO, q_I_newO, q_J_newO, q_R_newO, q_L_newO, q_AI_newO, q_AJ_newO, q_AR_newO, q_sz_newO, q_su_newO, q_K_newA, q_I_newA, q_J_newA, q_R_newA, q_L_newA, q_AI_newA, q_AJ_newA, q_AR_newA, q_sz_newA, q_su_newA, q_K_skip, q_I_skip, q_J_skip, q_R_skip, q_L_skip, q_AI_skip, q_AJ_skip, q_AR_skip, q_sz_skip, q_su_skip, q_up2, q_up]
          · unfold tiS; simp [q_K_setI, q_I_setI, q_J_setI, q_R_setI, q_L_setI, q_AI_setI, q_AJ_setI, q_AR_setI, q_sz_setI, q_su_setI, q_K_setJ, q_I_setJ, q_J_setJ, q_R_setJ, q_L_setJ, q_AI_setJ, q_AJ_setJ, q_AR_setJ, q_sz_setJ, q_su_setJ, q_K_setR, q_I_setR, q_J_setR, q_R_setR, q_L_setR, q_AI_setR, q_AJ_setR, q_AR_setR, q_sz_setR, q_su_setR, q_K_setAI, q_I_setAI, q_J_setAI, q_R_setAI, q_L_setAI, q_AI_setAI, q_AJ_setAI, q_AR_setAI, q_sz_setAI, q_su_setAI, q_K_setAJ, q_I_setAJ, q_J_setAJ, q_R_setAJ, q_L_setAJ, q_AI_setAJ, q_AJ_setAJ, q_AR_setAJ, q_sz_setAJ, q_su_setAJ, q_K_setAR, q_I_setAR, q_J_setAR, q_R_setAR, q_L_setAR, q_AI_setAR, q_AJ_setAR, q_AR_setAR, q_sz_setAR, q_su_setAR, q_K_newO, q_I_newO, q_J_newO, q_R_newO, q_L_newO, q_AI_newO, q_AJ_newO, q_AR_newO, q_sz_newO, q_su_newO, q_K_newA, q_I_newA, q_J_newA, q_R_newA, q_L_newA, q_AI_newA, q_AJ_newA, q_AR_newA, q_sz_newA, q_su_newA, q_K_skip, q_I_skip, q_J_skip, q_R_skip, q_L_skip, q_AI_skip, q_AJ_skip, q_AR_skip, q_sz_skip, q_su_skip, q_up2, q_up, bI_ff]
          · unfold tiS; simp [q_K_setI, q_I_setI, q_J_setI, q_R_setI, q_L_setI, q_AI_setI, q_AJ_setI, q_AR_setI, q_sz_setI, q_su_setI, q_K_setJ, q_I_setJ, q_J_setJ, q_R_setJ, q_L_setJ, q_AI_setJ, q_AJ_setJ, q_AR_setJ, q_sz_setJ, q_su_setJ, q_K_setR, q_I_setR, q_J_setR, q_R_setR, q_L_setR, q_AI_setR, q_AJ_setR, q_AR_setR, q_sz_setR, q_su_setR, q_K_setAI, q_I_setAI, q_J_setAI, q_R_setAI, q_L_setAI, q_AI_setAI, q_AJ_setAI, q_AR_setAI, q_sz_setAI, q_su_setAI, q_K_setAJ, q_I_setAJ, q_J_setAJ, q_R_setAJ, q_L_setAJ, q_AI_setAJ, q_AJ_setAJ, q_AR_setAJ, q_sz_setAJ, q_su_setAJ, q_K_setAR, q_I_setAR, q_J_setAR, q_R_setAR, q_L_setAR, q_AI_setAR, q_AJ_setAR, q_AR_setAR, q_sz_setAR, q_su_setAR, q_K_newO, q_I_newO, q_J_newO, q_R_newO, q_L_newO, q_AI_newO, q_AJ_newO, q_AR_newO, q_sz_newO, q_su_newO, q_K_newA, q_I_newA, q_J_newA, q_R_newA, q_L_newA, q_AI_newA, q_AJ_newA, q_AR_newA, q_sz_newA, q_su_newA, q_K_skip, q_I_skip, q_J_skip, q_R_skip, q_L_skip, q_AI_skip, q_AJ_skip, q_AR_skip, q_sz_skip, q_su_skip, q_up2, q_up]
        refine Rr.ok (v := nI m.ins.length) (σ' := s) ?_ ⟨rfl, fun _ => pi, fun z => pi.bad z, rfl⟩
        unfold tiS at u1
        unfold dm_X12_takeInstance_p63 dm_X12_takeInstance_p84
        simp (config := { maxSteps := 2000000 }) (disch := first | assumption | omega) [ck_T, sm_s, bd_l, bd_r, lt_e, eq_self, and_self, if_true, true_and, and_true, lit_nI, nI_add, nI_mul, nI_sub, nI_clamp, nI_eq, nI_ltI, nI_leI, nN_e, nI_nN, nN_nI, bI_0, bI_1, bI_n, bool_0, bool_1, in_T, lg_cmp0, ofN_nI, q_K_setI, q_I_setI, q_J_setI, q_R_setI, q_L_setI, q_AI_setI, q_AJ_setI, q_AR_setI, q_sz_setI, q_su_setI, q_K_setJ, q_I_setJ, q_J_setJ, q_R_setJ, q_L_setJ, q_AI_setJ, q_AJ_setJ, q_AR_setJ, q_sz_setJ, q_su_setJ, q_K_setR, q_I_setR, q_J_setR, q_R_setR, q_L_setR, q_AI_setR, q_AJ_setR, q_AR_setR, q_sz_setR, q_su_setR, q_K_setAI, q_I_setAI, q_J_setAI, q_R_setAI, q_L_setAI, q_AI_setAI, q_AJ_setAI, q_AR_setAI, q_sz_setAI, q_su_setAI, q_K_setAJ, q_I_setAJ, q_J_setAJ, q_R_setAJ, q_L_setAJ, q_AI_setAJ, q_AJ_setAJ, q_AR_setAJ, q_sz_setAJ, q_su_setAJ, q_K_setAR, q_I_setAR, q_J_setAR, q_R_setAR, q_L_setAR, q_AI_setAR, q_AJ_setAR, q_AR_setAR, q_sz_setAR, q_su_setAR, q_K_newO, q_I_newO, q_J_newO, q_R_newO, q_L_newO, q_AI_newO, q_AJ_newO, q_AR_newO, q_sz_newO, q_su_newO, q_K_newA, q_I_newA, q_J_newA, q_R_newA, q_L_newA, q_AI_newA, q_AJ_newA, q_AR_newA, q_sz_newA, q_su_newA, q_K_skip, q_I_skip, q_J_skip, q_R_skip, q_L_skip, q_AI_skip, q_AJ_skip, q_AR_skip, q_sz_skip, q_su_skip, q_up2, q_up, ri_0 r0, ri_64 r0, ri_65 r0, ri_66 r0, ri_67 r0, ri_68 r0, ri_69 r0, ri_70 r0, ri_71 r0, ri_72 r0, ri_73 r0, ri_74 r0, ri_75 r0, ri_79 r0, ri_80 r0, ri_81 r0, dm_X12_insCell, dm_X12_mod, hh, hm, ok, e12', fr, c33, u1, x_in, dlt_T, dle_T]
  · rw [if_neg k0] at nn
    have sn : sp_name T p = .error p := by unfold sp_name; rw [if_neg k0]
    rw [sn, eb_er]
    refine Rr.er (v := nN) (σ' := fl P σ p) ?_ fq
    have hm' : (fl P σ p).I 1141 (P.base + 11) = nI ms.length := by unfold fl; simp [q_K_setI, q_I_setI, q_J_setI, q_R_setI, q_L_setI, q_AI_setI, q_AJ_setI, q_AR_setI, q_sz_setI, q_su_setI, q_K_setJ, q_I_setJ, q_J_setJ, q_R_setJ, q_L_setJ, q_AI_setJ, q_AJ_setJ, q_AR_setJ, q_sz_setJ, q_su_setJ, q_K_setR, q_I_setR, q_J_setR, q_R_setR, q_L_setR, q_AI_setR, q_AJ_setR, q_AR_setR, q_sz_setR, q_su_setR, q_K_setAI, q_I_setAI, q_J_setAI, q_R_setAI, q_L_setAI, q_AI_setAI, q_AJ_setAI, q_AR_setAI, q_sz_setAI, q_su_setAI, q_K_setAJ, q_I_setAJ, q_J_setAJ, q_R_setAJ, q_L_setAJ, q_AI_setAJ, q_AJ_setAJ, q_AR_setAJ, q_sz_setAJ, q_su_setAJ, q_K_setAR, q_I_setAR, q_J_setAR, q_R_setAR, q_L_setAR, q_AI_setAR, q_AJ_setAR, q_AR_setAR, q_sz_setAR, q_su_setAR, q_K_newO, q_I_newO, q_J_newO, q_R_newO, q_L_newO, q_AI_newO, q_AJ_newO, q_AR_newO, q_sz_newO, q_su_newO, q_K_newA, q_I_newA, q_J_newA, q_R_newA, q_L_newA, q_AI_newA, q_AJ_newA, q_AR_newA, q_sz_newA, q_su_newA, q_K_skip, q_I_skip, q_J_skip, q_R_skip, q_L_skip, q_AI_skip, q_AJ_skip, q_AR_skip, q_sz_skip, q_su_skip, q_up2, q_up, hm]
    have hh' : (fl P σ p).I 1140 (P.base + 11) = nI hv := by unfold fl; simp [q_K_setI, q_I_setI, q_J_setI, q_R_setI, q_L_setI, q_AI_setI, q_AJ_setI, q_AR_setI, q_sz_setI, q_su_setI, q_K_setJ, q_I_setJ, q_J_setJ, q_R_setJ, q_L_setJ, q_AI_setJ, q_AJ_setJ, q_AR_setJ, q_sz_setJ, q_su_setJ, q_K_setR, q_I_setR, q_J_setR, q_R_setR, q_L_setR, q_AI_setR, q_AJ_setR, q_AR_setR, q_sz_setR, q_su_setR, q_K_setAI, q_I_setAI, q_J_setAI, q_R_setAI, q_L_setAI, q_AI_setAI, q_AJ_setAI, q_AR_setAI, q_sz_setAI, q_su_setAI, q_K_setAJ, q_I_setAJ, q_J_setAJ, q_R_setAJ, q_L_setAJ, q_AI_setAJ, q_AJ_setAJ, q_AR_setAJ, q_sz_setAJ, q_su_setAJ, q_K_setAR, q_I_setAR, q_J_setAR, q_R_setAR, q_L_setAR, q_AI_setAR, q_AJ_setAR, q_AR_setAR, q_sz_setAR, q_su_setAR, q_K_newO, q_I_newO, q_J_newO, q_R_newO, q_L_newO, q_AI_newO, q_AJ_newO, q_AR_newO, q_sz_newO, q_su_newO, q_K_newA, q_I_newA, q_J_newA, q_R_newA, q_L_newA, q_AI_newA, q_AJ_newA, q_AR_newA, q_sz_newA, q_su_newA, q_K_skip, q_I_skip, q_J_skip, q_R_skip, q_L_skip, q_AI_skip, q_AJ_skip, q_AR_skip, q_sz_skip, q_su_skip, q_up2, q_up, hh]
    have md' := rw_modI de.1 hh' hm'
    have c33' : (fl P σ p).AI (P.base + 33) (8 * hv + ms.length) = nI m.ins.length := c33
    have lp : dm_X12_takeInstance_L16 P (P.base + 11) P.N (nI q) (nI m.ins.length) (nI 0) (fl P σ p) = some (.inl nN, fl P σ p) := by
      obtain ⟨N, hN⟩ : ∃ k, P.N = k + 1 := ⟨P.N - 1, by omega⟩
      rw [hN]
      unfold dm_X12_takeInstance_L16
      by_cases e : m.ins.length ≤ 0
      · simp (disch := first | assumption | omega) [ck_T, sm_s, bd_l, bd_r, lt_e, eq_self, and_self, if_true, true_and, and_true, lit_nI, nI_add, nI_mul, nI_sub, nI_clamp, nI_eq, nI_ltI, nI_leI, nN_e, nI_nN, nN_nI, bI_0, bI_1, bI_n, bool_0, bool_1, in_T, lg_cmp0, ofN_nI, e, rd_p63 de]
      · simp (disch := first | assumption | omega) [ck_T, sm_s, bd_l, bd_r, lt_e, eq_self, and_self, if_true, true_and, and_true, lit_nI, nI_add, nI_mul, nI_sub, nI_clamp, nI_eq, nI_ltI, nI_leI, nN_e, nI_nN, nN_nI, bI_0, bI_1, bI_n, bool_0, bool_1, in_T, lg_cmp0, ofN_nI, e, b0, okd, rd_p63 de]
    unfold dm_X12_takeInstance
    simp (disch := first | assumption | omega) [ck_T, sm_s, bd_l, bd_r, lt_e, eq_self, and_self, if_true, true_and, and_true, lit_nI, nI_add, nI_mul, nI_sub, nI_clamp, nI_eq, nI_ltI, nI_leI, nN_e, nI_nN, nN_nI, bI_0, bI_1, bI_n, bool_0, bool_1, in_T, lg_cmp0, ofN_nI, a0, ri_0 (de.1), ri_64 (de.1), ri_65 (de.1), ri_66 (de.1), nn, md', c33', lp, x_in, dlt_T, dle_T]
