/-! ===== the reference: takeNamed ===== -/
theorem rd_p121 {P : xP} {σ : xS} {f : Nat} (h : DE P σ f) (v w z : Int32) : dm_X12_takeNamed_p121 P (P.base + 11) v w z σ = some (.inl (), σ) := by
  have ok := rd_ok h.1 (by have := h.2.2; omega) h.2.1
  have a0 := ri_0 h.1
  unfold dm_X12_takeNamed_p121 dm_X12_takeNamed_p149
  simp only [a0, ck_T, eq_self, rd_needSign h, ok, bd_l, lit_nI, if_true]
theorem rd_p81 {P : xP} {σ : xS} {f : Nat} (h : DE P σ f) (v : Int32) : dm_X12_takeNamed_p81 P (P.base + 11) v σ = some (.inl (), σ) := by
  have ok := rd_ok h.1 (by have := h.2.2; omega) h.2.1
  have a0 := ri_0 h.1
  unfold dm_X12_takeNamed_p81
  simp only [a0, ck_T, eq_self, lt_e, rd_next h, rd_needSign h, ok, bd_l, lit_nI, if_true, rd_p121 h]
theorem rd_L18 {P : xP} {σ : xS} {f : Nat} (h : DE P σ f) (N : Nat) (v w z : Int32) : dm_X12_takeNamed_L18 P (P.base + 11) (N + 1) v w z σ = some (.inl (), σ) := by
  have ok := rd_ok h.1 (by have := h.2.2; omega) h.2.1
  have a0 := ri_0 h.1
  unfold dm_X12_takeNamed_L18
  simp only [a0, ck_T, eq_self, ok, bd_l, lit_nI, if_true, rd_p81 h]
theorem rw_tnL {P : xP} {T : xT} {hv : Nat} {lng : Bool} {ms : List xMod} {pl n0 : Nat} {σ0 : xS} {m : xMod} {f0 nm0 : List Nat} {ip : Nat} {ls : List xLnk} {pc : Nat} {o : Option xPart} {v : Int32} {σ : xS} {p : Nat} {nm : List Nat} {w : Int32} (h : TIn P T hv lng ms pl n0 σ0 m (f0, nm0, ip, true, ls) pc o v σ p) (hq : NmAt T p nm) : ∀ (r j f : Nat), j + r = ls.length → r + 1 < f → dm_X12_takeNamed_L18 P (P.base + 11) f (nI m.ins.length) w (nI j) σ = dm_X12_takeNamed_p81 P (P.base + 11) w (if nm ∈ (ls.drop j).map (fun x => x.1) then fl P σ p else σ) := by
  have hk : lx_kind T p ≠ 4 := by rw [hq.1]; decide
  have fq := TInfail h
  have de := fq.2.de
  obtain ⟨h1, h2, h3, h4, h5, n, h6, h7, h8, h9, h10, h11, h12⟩ := h
  have r0 := h7.1.1
  have a0 := ri_0 r0
  have ok := rw_ok r0 (h7.2.1.ok hk)
  have hv1 := h7.1.2.2.1
  have hh := h7.1.2.2.2.1
  have hm := h7.2.2.1
  have m8 := h7.2.2.2.1
  have fr := h7.2.1.2.1
  have ff : dm_X12_fail P (P.base + 11) (nI p) σ = some (.inl (), fl P σ p) := rw_fail r0 (h7.2.1.ok hk) (nI p)
  have nc := rw_insCellI r0 hh hm m.ins.length
  have h5 : ls.length < 16 := h5
  have cnt : σ.AI (P.base + 38) (12 * (8 * hv + ms.length) + m.ins.length) = nI (ls.length + 1) := h9.2.2.2.2.1
  intro r
  induction r with
  | zero =>
    intro j f hj hf
    obtain ⟨f, rfl⟩ : ∃ m, f = m + 1 := ⟨f - 1, by omega⟩
    have e : ls.drop j = [] := List.drop_eq_nil_of_le (by omega)
    have e1 : ls.length ≤ j := by omega
    rw [e]
    unfold dm_X12_takeNamed_L18
    simp (disch := first | assumption | omega) [ck_T, sm_s, bd_l, bd_r, lt_e, eq_self, and_self, if_true, true_and, and_true, lit_nI, nI_add, nI_mul, nI_sub, nI_clamp, nI_eq, nI_ltI, nI_leI, nN_e, nI_nN, nN_nI, bI_0, bI_1, bI_n, bool_0, bool_1, in_T, lg_cmp0, ofN_nI, ri_0 r0, ri_79 r0, ri_80 r0, ri_81 r0, ok, nc, cnt, e1, x_in, dlt_T, dle_T]
  | succ r ih =>
    intro j f hj hf
    obtain ⟨f, rfl⟩ : ∃ m, f = m + 1 := ⟨f - 1, by omega⟩
    obtain ⟨x, hx⟩ : ∃ x, ls[j]? = some x := ⟨_, List.getElem?_eq_getElem (by omega)⟩
    have e1 : ¬ ls.length ≤ j := by omega
    obtain ⟨-, y0, -⟩ := h9.2.2.2.2.2 j x hx
    obtain ⟨y1, y2⟩ := y0 rfl
    have sm := rw_areSame h7.1 y2 hq
    have et : ls.drop j = x :: ls.drop (j + 1) := by
      rw [List.drop_eq_getElem_cons (by omega)]
      congr 1
      rw [List.getElem?_eq_getElem (by omega)] at hx
      exact Option.some.inj hx
    conv => lhs; unfold dm_X12_takeNamed_L18 dm_X12_takeNamed_p75
    rw [et, List.map_cons]
    by_cases e : x.1 = nm
    · rw [decide_eq_true e] at sm
      have mem : nm ∈ x.1 :: (ls.drop (j + 1)).map (fun x => x.1) := by rw [e]; exact List.mem_cons_self
      rw [if_pos mem]
      have st : dm_X12_takeNamed_L18 P (P.base + 11) f (nI m.ins.length) w (nI (j + 1)) (fl P σ p) = dm_X12_takeNamed_p81 P (P.base + 11) w (fl P σ p) := by
        obtain ⟨f, rfl⟩ : ∃ m, f = m + 1 := ⟨f - 1, by omega⟩
        rw [rd_L18 de, rd_p81 de]
      simp (disch := first | assumption | omega) [ck_T, sm_s, bd_l, bd_r, lt_e, eq_self, and_self, if_true, true_and, and_true, lit_nI, nI_add, nI_mul, nI_sub, nI_clamp, nI_eq, nI_ltI, nI_leI, nN_e, nI_nN, nN_nI, bI_0, bI_1, bI_n, bool_0, bool_1, in_T, lg_cmp0, ofN_nI, ri_0 r0, ri_79 r0, ri_80 r0, ri_81 r0, ri_85 r0, ri_86 r0, ri_87 r0, ok, nc, cnt, e1, y1, fr, sm, bI_tt, ff, st, x_in, dlt_T, dle_T]
    · rw [decide_eq_false e] at sm
      have e' : (nm ∈ x.1 :: (ls.drop (j + 1)).map (fun x => x.1)) = (nm ∈ (ls.drop (j + 1)).map (fun x => x.1)) := by
        simp only [List.mem_cons, eq_iff_iff]
        constructor
        · rintro (z | z)
          · exact absurd z.symm e
          · exact z
        · exact Or.inr
      simp only [e']
      rw [← ih (j + 1) f (by omega) (by omega)]
      simp (disch := first | assumption | omega) [ck_T, sm_s, bd_l, bd_r, lt_e, eq_self, and_self, if_true, true_and, and_true, lit_nI, nI_add, nI_mul, nI_sub, nI_clamp, nI_eq, nI_ltI, nI_leI, nN_e, nI_nN, nN_nI, bI_0, bI_1, bI_n, bool_0, bool_1, in_T, lg_cmp0, ofN_nI, ri_0 r0, ri_79 r0, ri_80 r0, ri_81 r0, ri_85 r0, ri_86 r0, ri_87 r0, ok, nc, cnt, e1, y1, fr, sm, bI_ff, x_in, dlt_T, dle_T]
theorem rw_p121 {P : xP} {T : xT} {hv : Nat} {lng : Bool} {ms : List xMod} {pl n0 : Nat} {σ0 : xS} {m : xMod} {f0 nm0 : List Nat} {ip : Nat} {ls : List xLnk} {pc : Nat} {o : Option xPart} {v : Int32} {σ : xS} {p p1 : Nat} {nm : List Nat} (h : TIn P T hv lng ms pl n0 σ0 m (f0, nm0, ip, true, ls) pc o v σ p) (hk : lx_kind T p ≠ 4) (hq : NmAt T p1 nm) (hl : ∀ p4, sp_sign T 41 p = .ok p4 → LW true m.nets ip (ls ++ [(nm, p1, o)]) p4) : Rr (dm_X12_takeNamed_p121 P (P.base + 11) (nI (16 * (12 * (8 * hv + ms.length) + m.ins.length) + ls.length)) (nI p1) v σ) (eb (sp_sign T 41 p) fun p4 => .ok (ls ++ [(nm, p1, o)], p4)) (QL P T hv lng ms pl n0 σ0 m f0 nm0 ip true) (EI P T hv ms pl n0 σ0) := by
  have a0 := ri_0 h.tr.1.1
  have hv1 := h.tr.1.2.2.1
  have m8 : ms.length < 8 := by
    obtain ⟨-, -, -, -, -, n, -, h7, -⟩ := h
    exact h7.2.2.2.1
  have i12 : m.ins.length < 12 := h.2.2.1
  have l16 : ls.length < 16 := h.2.2.2.2.1
  unfold dm_X12_takeNamed_p121
  simp only [a0, ck_T, eq_self, lit_nI]
  refine (h.sign (c := 41) hk (by omega)).last (fun w s2 p4 hb t2 => ?_) (fun w g s2 hq => ⟨(), ?_, hq⟩)
  · by_cases k4 : lx_kind T p4 = 4
    · have dq := t2.bad k4
      have okd := rd_ok dq.2.de.1 (by have := dq.2.de.2.2; omega) dq.2.de.2.1
      refine Rr.ok (v := ()) (σ' := s2) ?_ ⟨fun z => absurd k4 z, fun _ => dq⟩
      unfold dm_X12_takeNamed_p149
      simp only [ri_0 dq.2.de.1, ck_T, eq_self, okd, bd_l, if_true]
    · have a2 := t2.tr.1.1
      have ok2 := rw_ok a2 (t2.tr.2.ok k4)
      have fk : FKi P (8 * hv + ms.length) m.ins.length s2 ((s2.setAI (P.base + 40) (16 * (12 * (8 * hv + ms.length) + m.ins.length) + ls.length) (nI p1)).setAI (P.base + 39) (16 * (12 * (8 * hv + ms.length) + m.ins.length) + ls.length) v) := ((FKi.refl P _ _ s2).set (by omega)).set (by omega)
      have pi := t2.fin (nm, p1, o) (hl p4 hb) fk (fun k j hj => by rw [q_AI_setAI, up2_ne (by omega), q_AI_setAI]; exact up2_ne (by omega)) (by simp [q_K_setI, q_I_setI, q_J_setI, q_R_setI, q_L_setI, q_AI_setI, q_AJ_setI, q_AR_setI, q_sz_setI, q_su_setI, q_K_setJ, q_I_setJ, q_J_setJ, q_R_setJ, q_L_setJ, q_AI_setJ, q_AJ_setJ, q_AR_setJ, q_sz_setJ, q_su_setJ, q_K_setR, q_I_setR, q_J_setR, q_R_setR, q_L_setR, q_AI_setR, q_AJ_setR, q_AR_setR, q_sz_setR, q_su_setR, q_K_setAI, q_I_setAI, q_J_setAI, q_R_setAI, q_L_setAI, q_AI_setAI, q_AJ_setAI, q_AR_setAI, q_sz_setAI, q_su_setAI, q_K_setAJ, q_I_setAJ, q_J_setAJ, q_R_setAJ, q_L_setAJ, q_AI_setAJ, q_AJ_setAJ, q_AR_setAJ, q_sz_setAJ, q_su_setAJ, q_K_setAR, q_I_setAR, q_J_setAR, q_R_setAR, q_L_setAR, q_AI_setAR, q_AJ_setAR, q_AR_setAR, q_sz_setAR, q_su_setAR, q_K_newO, q_I_newO, q_J_newO, q_R_newO, q_L_newO, q_AI_newO, q_AJ_newO, q_AR_newO, q_sz_newO, q_su_newO, q_K_newA, q_I_newA, q_J_newA, q_R_newA, q_L_newA, q_AI_newA, q_AJ_newA, q_AR_newA, q_sz_newA, q_su_newA, q_K_skip, q_I_skip, q_J_skip, q_R_skip, q_L_skip, q_AI_skip, q_AJ_skip, q_AR_skip, q_sz_skip, q_su_skip, q_up2, q_up]) rfl (fun _ => ⟨by simp [q_K_setI, q_I_setI, q_J_setI, q_R_setI, q_L_setI, q_AI_setI, q_AJ_setI, q_AR_setI, q_sz_setI, q_su_setI, q_K_setJ, q_I_setJ, q_J_setJ, q_R_setJ, q_L_setJ, q_AI_setJ, q_AJ_setJ, q_AR_setJ, q_sz_setJ, q_su_setJ, q_K_setR, q_I_setR, q_J_setR, q_R_setR, q_L_setR, q_AI_setR, q_AJ_setR, q_AR_setR, q_sz_setR, q_su_setR, q_K_setAI, q_I_setAI, q_J_setAI, q_R_setAI, q_L_setAI, q_AI_setAI, q_AJ_setAI, q_AR_setAI, q_sz_setAI, q_su_setAI, q_K_setAJ, q_I_setAJ, q_J_setAJ, q_R_setAJ, q_L_setAJ, q_AI_setAJ, q_AJ_setAJ, q_AR_setAJ, q_sz_setAJ, q_su_setAJ, q_K_setAR, q_I_setAR, q_J_setAR, q_R_setAR, q_L_setAR, q_AI_setAR, q_AJ_setAR, q_AR_setAR, q_sz_setAR, q_su_setAR, q_K_newO, q_I_newO, q_J_newO, q_R_newO, q_L_newO, q_AI_newO, q_AJ_newO, q_AR_newO, q_sz_newO, q_su_newO, q_K_newA, q_I_newA, q_J_newA, q_R_newA, q_L_newA, q_AI_newA, q_AJ_newA, q_AR_newA, q_sz_newA, q_su_newA, q_K_skip, q_I_skip, q_J_skip, q_R_skip, q_L_skip, q_AI_skip, q_AJ_skip, q_AR_skip, q_sz_skip, q_su_skip, q_up2, q_up], hq⟩) (fun z => by cases z)
      refine Rr.ok (v := ()) ?_ ⟨fun _ => pi, fun z => absurd z k4⟩
      unfold dm_X12_takeNamed_p149
      simp (disch := first | assumption | omega) [ck_T, sm_s, bd_l, bd_r, lt_e, eq_self, and_self, if_true, true_and, and_true, lit_nI, nI_add, nI_mul, nI_sub, nI_clamp, nI_eq, nI_ltI, nI_leI, nN_e, nI_nN, nN_nI, bI_0, bI_1, bI_n, bool_0, bool_1, in_T, lg_cmp0, ofN_nI, q_K_setI, q_I_setI, q_J_setI, q_R_setI, q_L_setI, q_AI_setI, q_AJ_setI, q_AR_setI, q_sz_setI, q_su_setI, q_K_setJ, q_I_setJ, q_J_setJ, q_R_setJ, q_L_setJ, q_AI_setJ, q_AJ_setJ, q_AR_setJ, q_sz_setJ, q_su_setJ, q_K_setR, q_I_setR, q_J_setR, q_R_setR, q_L_setR, q_AI_setR, q_AJ_setR, q_AR_setR, q_sz_setR, q_su_setR, q_K_setAI, q_I_setAI, q_J_setAI, q_R_setAI, q_L_setAI, q_AI_setAI, q_AJ_setAI, q_AR_setAI, q_sz_setAI, q_su_setAI, q_K_setAJ, q_I_setAJ, q_J_setAJ, q_R_setAJ, q_L_setAJ, q_AI_setAJ, q_AJ_setAJ, q_AR_setAJ, q_sz_setAJ, q_su_setAJ, q_K_setAR, q_I_setAR, q_J_setAR, q_R_setAR, q_L_setAR, q_AI_setAR, q_AJ_setAR, q_AR_setAR, q_sz_setAR, q_su_setAR, q_K_newO, q_I_newO, q_J_newO, q_R_newO, q_L_newO, q_AI_newO, q_AJ_newO, q_AR_newO, q_sz_newO, q_su_newO, q_K_newA, q_I_newA, q_J_newA, q_R_newA, q_L_newA, q_AI_newA, q_AJ_newA, q_AR_newA, q_sz_newA, q_su_newA, q_K_skip, q_I_skip, q_J_skip, q_R_skip, q_L_skip, q_AI_skip, q_AJ_skip, q_AR_skip, q_sz_skip, q_su_skip, q_up2, q_up, ri_0 a2, ri_82 a2, ri_83 a2, ri_84 a2, ri_85 a2, ri_86 a2, ri_87 a2, ok2, x_in, dlt_T, dle_T]
  · have okd := rd_ok hq.2.de.1 (by have := hq.2.de.2.2; omega) hq.2.de.2.1
    unfold dm_X12_takeNamed_p149
    simp only [ri_0 hq.2.de.1, ck_T, eq_self, okd, bd_l, if_true]
theorem rw_takeNamed {P : xP} {T : xT} {hv : Nat} {ms : List xMod} {pl n0 : Nat} {σ0 : xS} {m : xMod} {f nm : List Nat} {ip : Nat} {ls : List xLnk} {σ : xS} {p : Nat} (h : PIn P T hv true ms pl n0 σ0 m (f, nm, ip, true, ls) σ p) (hk : lx_kind T p ≠ 4) : Rr (dm_X12_takeNamed P (P.base + 11) (nI m.ins.length) σ) (sp_nlink T m.nets ls p) (QL P T hv true ms pl n0 σ0 m f nm ip true) (EI P T hv ms pl n0 σ0) := by
  have a0 := ri_0 h.tr.1.1
  have n10 : ¬ nI 1 = nI 0 := by decide
  have hT := h.tr.1.2.1
  have hN := h.tr.1.2.2.2.2.2.2
  have hl : LW true m.nets ip ls p := h.2.2.2.2.1
  obtain ⟨N, hN1⟩ : ∃ k, P.N = k + 1 := ⟨P.N - 1, by omega⟩
  have lw := fun q hq => LW.nlink hT (q := q) hl hq
  rcases rw_addLink h hk with ⟨e, al⟩ | ⟨e, s, al, ti⟩
  · have fq := PIfail h
    have de := fq.2.de
    have e : 16 ≤ ls.length := e
    unfold sp_nlink
    rw [if_pos e]
    refine Rr.er (v := ()) (σ' := fl P σ p) ?_ fq
    unfold dm_X12_takeNamed
    rw [hN1]
    simp only [a0, ck_T, eq_self, al, bd_l, ri_0 de.1, rd_needSign de, rd_needName de, rd_L18 de]
  · have e : ls.length < 16 := e
    unfold sp_nlink at lw ⊢
    rw [if_neg (by omega)] at lw ⊢
    have a1 := ri_0 ti.tr.1.1
    unfold dm_X12_takeNamed
    simp only [a0, ck_T, eq_self, al, bd_l, a1, lit_nI]
    refine Rr.bind T (fun p => p) (ti.sign (c := 46) hk (by omega)) (fun v s1 p1 hb t1 k1 => ?_) (fun v g s4 hq => ⟨(), ?_, hq⟩) (fun v s4 b2 hq hk2 => hq.bad hk2) (fun b2 hk2 => by rw [dz_name hk2, eb_er])
    · rw [hb] at lw
      simp only [eb_ok] at lw
      have b1 := ri_0 t1.tr.1.1
      have nn := rw_needName t1.tr.1 t1.tr.2 k1
      have fq := TInfail t1
      have de := fq.2.de
      by_cases k0 : lx_kind T p1 = 0
      · rw [if_pos k0] at nn
        have hq : NmAt T p1 (lx_nm T p1) := ⟨k0, rfl⟩
        have sn : sp_name T p1 = .ok (lx_nm T p1) := by unfold sp_name; rw [if_pos k0]
        rw [sn] at lw ⊢
        simp only [eb_ok] at lw ⊢
        have lp := rw_tnL (w := nI (16 * (12 * (8 * hv + ms.length) + m.ins.length) + ls.length)) t1 hq ls.length 0 P.N (by omega) (by omega)
        rw [List.drop_zero] at lp
        simp only [nn, bd_l, b1, ck_T, eq_self]
        refine Rr.eq ?_ lp
        by_cases e2 : lx_nm T p1 ∈ ls.map (fun x => x.1)
        · rw [if_pos e2, if_pos e2]
          exact Rr.er (rd_p81 de _) fq
        · rw [if_neg e2, if_neg e2]
          rw [if_neg e2] at lw
          obtain ⟨s2, u1, t2⟩ := t1.next k1 hq.lt
          have b2 := ri_0 t2.tr.1.1
          have fr := t1.tr.2.2.1
          unfold dm_X12_takeNamed_p81
          simp only [b1, ck_T, eq_self, lt_e, fr, u1, bd_l, b2, lit_nI]
          have dd : ∀ (v w : Int32) (t : xS) (g : Nat), DE P t g → (x_chk (t.K (P.base + 11) = 12) <| x_bind (dm_X12_ok P (P.base + 11) t) (fun v_10 σ_11 => if v_10 = nI 0 then dm_X12_takeNamed_p121 P (P.base + 11) v w (-nI 1) σ_11 else x_chk (σ_11.K (P.base + 11) = 12) <| x_bind (dm_X12_isSign P (P.base + 11) (nI 41) σ_11) (fun v_15 σ_16 => if v_15 = nI 0 then x_chk (σ_16.K (P.base + 11) = 12) <| x_bind (dm_X12_longRef P (P.base + 11) σ_16) (fun v_20 σ_21 => dm_X12_takeNamed_p121 P (P.base + 11) v w v_20 σ_21) (fun E_24 σ_21 => some (.inr E_24, σ_21)) else dm_X12_takeNamed_p121 P (P.base + 11) v w (-nI 1) σ_16) (fun E_25 σ_16 => some (.inr E_25, σ_16))) (fun E_26 σ_11 => some (.inr E_26, σ_11)) : xO Unit) = some (.inl (), t) := by
            intro v w t g hd
            have okd := rd_ok hd.1 (by have := hd.2.2; omega) hd.2.1
            simp only [ri_0 hd.1, ck_T, eq_self, okd, bd_l, if_true, rd_p121 hd]
          by_cases k2 : lx_kind T (lx_nx T p1) = 4
          · have dq := t2.bad k2
            rw [dz_sign k2, eb_er]
            refine Rr.er (v := ()) (σ' := s2) ?_ dq
            have okd := rd_ok dq.2.de.1 (by have := dq.2.de.2.2; omega) dq.2.de.2.1
            simp only [rd_needSign dq.2.de, b2, ck_T, eq_self, okd, bd_l, if_true, rd_p121 dq.2.de]
          · refine Rr.bind T (fun p => p) (t2.sign (c := 40) k2 (by omega)) (fun v s3 p3 hb3 t3 k3 => ?_) (fun v g s4 hq => ⟨(), dd _ _ _ _ hq.2.de, hq⟩) (fun v s4 b2 hq hk2 => hq.bad hk2) (fun b2 hk2 => ?_)
            · rw [hb3] at lw
              simp only [eb_ok] at lw
              have b3 := ri_0 t3.tr.1.1
              have ok3 := rw_ok t3.tr.1.1 (t3.tr.2.ok k3)
              have is := rw_isSign t3.tr.1 t3.tr.2 k3 (s := 41) (by omega)
              simp only [b3, ck_T, eq_self, ok3, bd_l, n10, if_false, is, nN_e]
              by_cases e3 : sp_is T 41 p3 = true
              · rw [if_pos e3] at lw ⊢
                have key := rw_p121 (p1 := p1) (nm := lx_nm T p1) t3 k3 hq (fun p4 hp4 => by
                  unfold sp_sign at hp4
                  rw [if_pos e3] at hp4
                  cases hp4
                  exact (lw _ rfl).1)
                have es : sp_sign T 41 p3 = .ok (lx_nx T p3) := by unfold sp_sign; rw [if_pos e3]
                rw [es, eb_ok] at key
                refine Rr.eq key ?_
                simp only [e3, bI_tt, n10, if_false]
              · rw [if_neg e3] at lw ⊢
                have e3' : sp_is T 41 p3 = false := by simpa using e3
                simp only [e3', bI_ff, if_true]
                have pt := t3.part k3
                have er : rRef P true s3 = dm_X12_longRef P (P.base + 11) s3 := by unfold rRef; rw [if_pos rfl]
                have es : sp_part T true m.nets p3 = sp_longPart T m.nets p3 := by unfold sp_part; rw [if_pos rfl]
                rw [er, es] at pt
                refine Rr.bind T (fun q => q.2) pt (fun w s4 q4 hb4 hq4 k4 => ?_) (fun w g s4 hq => ⟨(), rd_p121 hq.2.de _ _ _, hq⟩) (fun v s4 b2 hq hk2 => hq.2 hk2) (fun b2 hk2 => by rw [dz_sign hk2, eb_er])
                exact rw_p121 (hq4.1 k4) k4 hq (fun p4 hp4 => (lw (ls ++ [(lx_nm T p1, p1, some q4.1)], p4) (by rw [hb4, eb_ok, hp4, eb_ok])).1)
            · have : sp_longPart T m.nets b2 = .error b2 := by
                have := dz_part (lng := true) (ns := m.nets) hk2
                unfold sp_part at this
                rw [if_pos rfl] at this
                exact this
              rw [if_neg (by rw [dz_is hk2]; simp), this, eb_er]
      · rw [if_neg k0] at nn
        have sn : sp_name T p1 = .error p1 := by unfold sp_name; rw [if_neg k0]
        rw [sn, eb_er]
        refine Rr.er (v := ()) (σ' := fl P s1 p1) ?_ fq
        rw [hN1]
        simp only [nn, bd_l, b1, ck_T, eq_self, rd_L18 de]
    · rw [hN1]
      simp only [ri_0 hq.2.de.1, ck_T, eq_self, rd_needName hq.2.de, bd_l, rd_L18 hq.2.de]
