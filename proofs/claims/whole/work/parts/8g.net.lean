/-! ===== the reference: takeLongNet ===== -/
theorem q_selfAI (σ : xS) (k a : Nat) : σ.setAI k a (σ.AI k a) = σ := by
  have e : x_up2 σ.AI k a (σ.AI k a) = σ.AI := by
    funext k' a'
    simp only [x_up2]
    split
    · rename_i q; subst q
      split
      · rename_i q; subst q; rfl
      · rfl
    · rfl
  show (σ.K, σ.I, σ.J, σ.R, σ.L, x_up2 σ.AI k a (σ.AI k a), σ.AJ, σ.AR, σ.sz, σ.su) = σ
  rw [e]
  rfl
theorem rw_takeLongNet {P : xP} {T : xT} {hv : Nat} {ms : List xMod} {m : xMod} {n : Nat} {σ : xS} {p s w : Nat} (h : RXf P T hv true ms m n σ p) (hk : lx_kind T p ≠ 4) (hs : s ≤ 2) (hw1 : 1 ≤ w) (hw : w ≤ 8) : Rr (dm_X12_takeLongNet P (P.base + 11) (nI s) (nI w) σ) (if s = 2 then sp_wire T w m p else sp_tell T s w m p) (QI P T hv true ms m.pl n σ) (EI P T hv ms m.pl n σ) := by
  have r0 := h.1.1.1
  have a0 := ri_0 r0
  have ok := rw_ok r0 (h.1.2.1.ok hk)
  have nn := rw_needName h.1.1 h.1.2.1 hk
  have fr := h.1.2.1.2.1
  have ff : dm_X12_fail P (P.base + 11) (nI p) σ = some (.inl (), fl P σ p) := rw_fail r0 (h.1.2.1.ok hk) (nI p)
  have fq := RXfail h.1
  have nx := rd_next fq.de
  have okd := rd_ok fq.de.1 (by have := fq.de.2.2; omega) fq.de.2.1
  have b0 := ri_0 fq.de.1
  have hv1 := h.1.1.2.2.1
  have m8 := h.1.2.2.2.1
  have md := rw_mod h.1.1 h.1.2.2.1
  obtain ⟨ni, rm⟩ := h.1.2.2.2.2.2.1
  have cnt := rm.1.2.2.2.1
  have cnp := rm.1.2.2.1
  have wx := h.1.2.2.2.2.2.2.1
  have l16 := wx.2.2.2.1.1
  have f0 := FM.refl P hv (8 * hv + ms.length) m.pl n σ
  have er := EI.fail h.1 f0 (Nat.le_refl _)
  by_cases k0 : lx_kind T p = 0
  · rw [if_pos k0] at nn
    have hq : NmAt T p (lx_nm T p) := ⟨k0, rfl⟩
    have plt := hq.lt
    have nd := rw_netNamed h.1 hq
    have sn : sp_name T p = .ok (lx_nm T p) := by unfold sp_name; rw [if_pos k0]
    have fn := fIx_N (ns := m.nets) (nm := lx_nm T p) (by omega)
    have st : ∀ v, fIx m.nets (lx_nm T p) = v → dm_X12_takeLongNet P (P.base + 11) (nI s) (nI w) σ = dm_X12_takeLongNet_p23 P (P.base + 11) (nI s) (nI w) v σ := by
      intro v hv'
      unfold dm_X12_takeLongNet
      simp (disch := first | assumption | omega) [ck_T, sm_s, bd_l, bd_r, lt_e, eq_self, and_self, if_true, true_and, and_true, lit_nI, nI_add, nI_mul, nI_sub, nI_clamp, nI_eq, nI_ltI, nI_leI, nN_e, nI_nN, nN_nI, bI_0, bI_1, bI_n, bool_0, bool_1, in_T, lg_cmp0, ofN_nI, a0, nn, ok, fr, nd, hv']
    by_cases e2 : s = 2
    · subst e2
      rw [if_pos rfl]
      unfold sp_wire
      rw [sn]
      simp only [eb_ok]
      by_cases c : sp_can m (lx_nm T p) = true
      · rw [if_pos c]
        have c' := c
        simp only [sp_can, Bool.and_eq_true, decide_eq_true_eq] at c'
        obtain ⟨c1, c2⟩ := c'
        have e16 : ¬ m.nets.length = 16 := by omega
        rw [st _ (fn.mpr c2)]
        have w' := wx.net (x := (lx_nm T p, 2, w)) c ⟨kind_nm_ok h.1.1.2.1 (Or.inl k0), by simp, by simpa using hw, by simpa using hw1⟩ (by simp)
        have wp := wNet_w (m := m) (x := (lx_nm T p, 2, w)) (by simp)
        have en : (m.wNet (lx_nm T p, 2, w)).nets = m.nets ++ [(lx_nm T p, 2, w)] := by rw [wp.1]; simp
        have em : m.wNet (lx_nm T p, 2, w) = (m.nm, m.pl, m.ports, m.wires ++ [(lx_nm T p, 2, w)], m.asg, m.ins) := by
          unfold xMod.wNet; rw [if_pos (by simp)]
        obtain ⟨g, fm⟩ := h.add (m' := m.wNet (lx_nm T p, 2, w)) (lx_nm T p, 2, w) hq c1 wp.2.2 en w' (s := adN P (8 * hv + ms.length) m.nets.length σ (nI p) (nI 2) (nI w) (nI 1)) (by
          have e : (adN P (8 * hv + ms.length) m.nets.length σ (nI p) (nI 2) (nI w) (nI 1)).AI (P.base + 17) (8 * hv + ms.length) = nI (m.wNet (lx_nm T p, 2, w)).ports.length := by
            rw [wp.2.1]
            exact (adN_AI (by omega) (by omega)).trans cnp
          rw [← e]
          exact (q_selfAI _ _ _).symm)
        rw [em] at g
        obtain ⟨s', q1, q2⟩ := QI.next g fm (Nat.le_refl _) hk plt
        refine Rr.ok (v := ()) (σ' := s') ?_ q2
        have ad := rw_addNet (s := nI 2) (w := nI w) (t := nI 1) h.1.1 h.1.2.2.1 m8 cnt c1 fr (Or.inr rfl)
        have r1 : RI P (adN P (8 * hv + ms.length) m.nets.length σ (nI p) (nI 2) (nI w) (nI 1)) := r0
        have a1 := ri_0 r1
        unfold dm_X12_takeLongNet_p23 dm_X12_takeLongNet_p114 dm_X12_takeLongNet_p158
        simp (config := { maxSteps := 2000000 }) (disch := first | assumption | omega) [ck_T, sm_s, bd_l, bd_r, lt_e, eq_self, and_self, if_true, true_and, and_true, lit_nI, nI_add, nI_mul, nI_sub, nI_clamp, nI_eq, nI_ltI, nI_leI, nN_e, nI_nN, nN_nI, bI_0, bI_1, bI_n, bool_0, bool_1, in_T, lg_cmp0, ofN_nI, ri_0 r0, ri_19 r0, ri_20 r0, ri_21 r0, a1, ok, md, cnt, e16, ad, q1, x_in, dlt_T, dle_T]
      · rw [if_neg c]
        refine Rr.er (v := ()) (σ' := fl P σ p) ?_ er
        rw [st _ rfl]
        unfold dm_X12_takeLongNet_p23 dm_X12_takeLongNet_p114 dm_X12_takeLongNet_p140 dm_X12_takeLongNet_p158
        by_cases z : fIx m.nets (lx_nm T p) = nN
        · have z16 : m.nets.length = 16 := by
            by_cases y : m.nets.length = 16
            · exact y
            · exfalso
              apply c
              simp only [sp_can, Bool.and_eq_true, decide_eq_true_eq]
              exact ⟨by omega, fn.mp z⟩
          rw [z16] at cnt
          simp (disch := first | assumption | omega) [ck_T, sm_s, bd_l, bd_r, lt_e, eq_self, and_self, if_true, true_and, and_true, lit_nI, nI_add, nI_mul, nI_sub, nI_clamp, nI_eq, nI_ltI, nI_leI, nN_e, nI_nN, nN_nI, bI_0, bI_1, bI_n, bool_0, bool_1, in_T, lg_cmp0, ofN_nI, ri_0 r0, ri_19 r0, ri_20 r0, ri_21 r0, ok, md, cnt, z, fr, ff, b0, nx, x_in, dlt_T, dle_T]
        · simp (disch := first | assumption | omega) [ck_T, sm_s, bd_l, bd_r, lt_e, eq_self, and_self, if_true, true_and, and_true, lit_nI, nI_add, nI_mul, nI_sub, nI_clamp, nI_eq, nI_ltI, nI_leI, nN_e, nI_nN, nN_nI, bI_0, bI_1, bI_n, bool_0, bool_1, in_T, lg_cmp0, ofN_nI, a0, ok, z, fr, ff, b0, nx]
    · rw [if_neg e2]
      unfold sp_tell
      rw [sn]
      simp only [eb_ok]
      have s2 : ¬ 2 ≤ s := by omega
      cases ef : sp_find m.nets (lx_nm T p) with
      | none =>
        simp only
        refine Rr.er (v := ()) (σ' := fl P σ p) ?_ er
        rw [st _ (fn.mpr ef)]
        unfold dm_X12_takeLongNet_p23 dm_X12_takeLongNet_p67 dm_X12_takeLongNet_p158
        simp (disch := first | assumption | omega) [ck_T, sm_s, bd_l, bd_r, lt_e, eq_self, and_self, if_true, true_and, and_true, lit_nI, nI_add, nI_mul, nI_sub, nI_clamp, nI_eq, nI_ltI, nI_leI, nN_e, nI_nN, nN_nI, bI_0, bI_1, bI_n, bool_0, bool_1, in_T, lg_cmp0, ofN_nI, a0, ok, s2, fr, ff, b0, nx]
      | some x =>
        simp only
        obtain ⟨j, j1, j2, j3⟩ := fIx_S ef
        have jl := get_lt j2
        have jn : ¬ nI j = nN := by rw [nI_nN (by omega)]; simp
        have rn := h.1.net j2
        have told := rn.2.2.2
        have nc := rw_netCell h.1.1 h.1.2.2.1 j
        have pl16 : m.ports.length ≤ 16 := by
          have : m.ports.length ≤ m.nets.length := by unfold xMod.nets; simp
          omega
        rw [st _ j1]
        by_cases c3 : x.2.1 = 3
        · rw [if_pos c3]
          have jp : j < m.ports.length := by
            apply Classical.byContradiction
            intro z
            have : x ∈ m.wires := by
              have y := j2
              unfold xMod.nets at y
              rw [List.getElem?_append_right (by omega)] at y
              exact List.mem_of_getElem? y
            have := wx.1.2.2.1 x this
            omega
          have jp' : ¬ m.ports.length ≤ j := by omega
          obtain ⟨g, fm⟩ := h.tell (s := s) (w := w) (by omega) hw1 hw ef c3 j2 jp
          obtain ⟨s', q1, q2⟩ := QI.next g fm (Nat.le_refl _) hk plt
          refine Rr.ok (v := ()) (σ' := s') ?_ q2
          have t0 : σ.AI (P.base + 23) (16 * (8 * hv + ms.length) + j) = nI 0 := by rw [told, c3]; simp [bI_ff]
          have hh := h.1.1.2.2.2.1
          have hm := h.1.2.2.1
          unfold tlN at q1
          unfold dm_X12_takeLongNet_p23 dm_X12_takeLongNet_p158
          simp (config := { maxSteps := 2000000 }) (disch := first | assumption | omega) [ck_T, sm_s, bd_l, bd_r, lt_e, eq_self, and_self, if_true, true_and, and_true, lit_nI, nI_add, nI_mul, nI_sub, nI_clamp, nI_eq, nI_ltI, nI_leI, nN_e, nI_nN, nN_nI, bI_0, bI_1, bI_n, bool_0, bool_1, in_T, lg_cmp0, ofN_nI, q_K_setI, q_I_setI, q_J_setI, q_R_setI, q_L_setI, q_AI_setI, q_AJ_setI, q_AR_setI, q_sz_setI, q_su_setI, q_K_setJ, q_I_setJ, q_J_setJ, q_R_setJ, q_L_setJ, q_AI_setJ, q_AJ_setJ, q_AR_setJ, q_sz_setJ, q_su_setJ, q_K_setR, q_I_setR, q_J_setR, q_R_setR, q_L_setR, q_AI_setR, q_AJ_setR, q_AR_setR, q_sz_setR, q_su_setR, q_K_setAI, q_I_setAI, q_J_setAI, q_R_setAI, q_L_setAI, q_AI_setAI, q_AJ_setAI, q_AR_setAI, q_sz_setAI, q_su_setAI, q_K_setAJ, q_I_setAJ, q_J_setAJ, q_R_setAJ, q_L_setAJ, q_AI_setAJ, q_AJ_setAJ, q_AR_setAJ, q_sz_setAJ, q_su_setAJ, q_K_setAR, q_I_setAR, q_J_setAR, q_R_setAR, q_L_setAR, q_AI_setAR, q_AJ_setAR, q_AR_setAR, q_sz_setAR, q_su_setAR, q_K_newO, q_I_newO, q_J_newO, q_R_newO, q_L_newO, q_AI_newO, q_AJ_newO, q_AR_newO, q_sz_newO, q_su_newO, q_K_newA, q_I_newA, q_J_newA, q_R_newA, q_L_newA, q_AI_newA, q_AJ_newA, q_AR_newA, q_sz_newA, q_su_newA, q_K_skip, q_I_skip, q_J_skip, q_R_skip, q_L_skip, q_AI_skip, q_AJ_skip, q_AR_skip, q_sz_skip, q_su_skip, q_up2, q_up, ri_0 r0, ri_16 r0, ri_17 r0, ri_18 r0, ri_25 r0, ri_26 r0, ri_27 r0, ri_28 r0, ri_29 r0, ri_30 r0, ri_34 r0, ri_35 r0, ri_36 r0, dm_X12_netCell, dm_X12_mod, hh, hm, ok, s2, jn, cnp, jp', t0, q1, x_in, dlt_T, dle_T]
        · rw [if_neg c3]
          refine Rr.er (v := ()) (σ' := fl P σ p) ?_ er
          have t0 : σ.AI (P.base + 23) (16 * (8 * hv + ms.length) + j) = nI 1 := by rw [told]; simp [c3, bI_tt]
          unfold dm_X12_takeLongNet_p23 dm_X12_takeLongNet_p67 dm_X12_takeLongNet_p158
          by_cases jp : m.ports.length ≤ j
          · simp (disch := first | assumption | omega) [ck_T, sm_s, bd_l, bd_r, lt_e, eq_self, and_self, if_true, true_and, and_true, lit_nI, nI_add, nI_mul, nI_sub, nI_clamp, nI_eq, nI_ltI, nI_leI, nN_e, nI_nN, nN_nI, bI_0, bI_1, bI_n, bool_0, bool_1, in_T, lg_cmp0, ofN_nI, ri_0 r0, ri_16 r0, ri_17 r0, ri_18 r0, ok, md, s2, jn, cnp, jp, fr, ff, b0, nx, x_in, dlt_T, dle_T]
          · simp (disch := first | assumption | omega) [ck_T, sm_s, bd_l, bd_r, lt_e, eq_self, and_self, if_true, true_and, and_true, lit_nI, nI_add, nI_mul, nI_sub, nI_clamp, nI_eq, nI_ltI, nI_leI, nN_e, nI_nN, nN_nI, bI_0, bI_1, bI_n, bool_0, bool_1, in_T, lg_cmp0, ofN_nI, ri_0 r0, ri_16 r0, ri_17 r0, ri_18 r0, ri_34 r0, ri_35 r0, ri_36 r0, ok, md, nc, s2, jn, cnp, jp, t0, fr, ff, b0, nx, x_in, dlt_T, dle_T]
  · rw [if_neg k0] at nn
    have sn : sp_name T p = .error p := by unfold sp_name; rw [if_neg k0]
    have e : (if s = 2 then sp_wire T w m p else sp_tell T s w m p) = .error p := by
      unfold sp_wire sp_tell
      rw [sn, eb_er, eb_er, ite_self]
    rw [e]
    refine Rr.er (v := ()) (σ' := fl P σ p) ?_ er
    have e1 : dm_X12_takeLongNet_p158 P (P.base + 11) (fl P σ p) = some (.inl (), fl P σ p) := by
      unfold dm_X12_takeLongNet_p158
      simp (disch := first | assumption | omega) [ck_T, sm_s, bd_l, bd_r, lt_e, eq_self, and_self, if_true, true_and, and_true, b0, nx]
    have e2 : dm_X12_takeLongNet_p114 P (P.base + 11) (nI s) (nI w) nN (fl P σ p) = some (.inl (), fl P σ p) := by
      unfold dm_X12_takeLongNet_p114
      simp (disch := first | assumption | omega) [ck_T, sm_s, bd_l, bd_r, lt_e, eq_self, and_self, if_true, true_and, and_true, lit_nI, nI_add, nI_mul, nI_sub, nI_clamp, nI_eq, nI_ltI, nI_leI, nN_e, nI_nN, nN_nI, bI_0, bI_1, bI_n, bool_0, bool_1, in_T, lg_cmp0, ofN_nI, b0, okd, e1]
    have e3 : dm_X12_takeLongNet_p23 P (P.base + 11) (nI s) (nI w) nN (fl P σ p) = some (.inl (), fl P σ p) := by
      unfold dm_X12_takeLongNet_p23
      simp only [b0, ck_T, eq_self, okd, bd_l, lit_nI, if_true, e2]
    unfold dm_X12_takeLongNet
    simp (disch := first | assumption | omega) [ck_T, sm_s, bd_l, bd_r, lt_e, eq_self, and_self, if_true, true_and, and_true, lit_nI, nI_add, nI_mul, nI_sub, nI_clamp, nI_eq, nI_ltI, nI_leI, nN_e, nI_nN, nN_nI, bI_0, bI_1, bI_n, bool_0, bool_1, in_T, lg_cmp0, ofN_nI, a0, nn, okd, b0, e3]
