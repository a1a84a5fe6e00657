/-! ===== the reference: longInstance, shortInstance ===== -/
theorem rd_p123 {P : xP} {σ : xS} {f : Nat} (h : DE P σ f) : dm_X12_longInstance_p123 P (P.base + 11) σ = some (.inl (), σ) := by
  unfold dm_X12_longInstance_p123
  simp only [ri_0 h.1, ck_T, eq_self, rd_needSign h, bd_l]
theorem rd_p29 {P : xP} {σ : xS} {f : Nat} (h : DE P σ f) (v : Int32) : dm_X12_longInstance_p29 P (P.base + 11) v σ = some (.inl (), σ) := by
  have ok := rd_ok h.1 (by have := h.2.2; omega) h.2.1
  unfold dm_X12_longInstance_p29
  simp only [ri_0 h.1, ck_T, eq_self, rd_needSign h, bd_l, ok, lit_nI, if_true, rd_p123 h]
theorem rw_p123 {P : xP} {T : xT} {hv : Nat} {lng : Bool} {ms : List xMod} {pl n0 : Nat} {σ0 : xS} {m : xMod} {i : xIns} {σ : xS} {p : Nat} (h : PIn P T hv lng ms pl n0 σ0 m i σ p) (hk : lx_kind T p ≠ 4) : Rr (dm_X12_longInstance_p123 P (P.base + 11) σ) (eb (sp_sign T 41 p) fun p3 => eb (sp_sign T 59 p3) fun p4 => .ok (m.wIns i, p4)) (QS P T hv lng ms pl n0 σ0) (EI P T hv ms pl n0 σ0) := by
  have a0 := ri_0 h.tr.1.1
  unfold dm_X12_longInstance_p123
  simp only [a0, ck_T, eq_self, lit_nI]
  refine Rr.bind T (fun p => p) (h.sign (c := 41) hk (by omega)) (fun v s1 p1 hb t1 k1 => ?_) (fun v g s4 hq => ⟨(), ?_, hq⟩) (fun v s4 b2 hq hk2 => hq.bad hk2) (fun b2 hk2 => by rw [dz_sign hk2, eb_er])
  · simp only [ri_0 t1.tr.1.1, ck_T, eq_self]
    exact (t1.sign (c := 59) k1 (by omega)).last (fun v s2 p2 hb hq => Rr.ok rfl hq.si.qs) (fun v g s2 hq => ⟨(), rfl, hq⟩)
  · simp only [ri_0 hq.2.de.1, ck_T, eq_self, rd_needSign hq.2.de, bd_l]
/-- whether it links by names -/
theorem PIn.byN {P : xP} {T : xT} {hv : Nat} {lng : Bool} {ms : List xMod} {pl n0 : Nat} {σ0 : xS} {m : xMod} {f nm : List Nat} {ip : Nat} {bn0 bn : Bool} {σ : xS} {p : Nat} (h : PIn P T hv lng ms pl n0 σ0 m (f, nm, ip, bn0, []) σ p) : PIn P T hv lng ms pl n0 σ0 m (f, nm, ip, bn, []) (σ.setAI (P.base + 36) (12 * (8 * hv + ms.length) + m.ins.length) (bI bn)) p := by
  obtain ⟨h1, h2, h3, h4, h5, n, h6, h7, h8, h9⟩ := h
  have fk : FKi P (8 * hv + ms.length) m.ins.length σ (σ.setAI (P.base + 36) (12 * (8 * hv + ms.length) + m.ins.length) (bI bn)) := (FKi.refl P _ _ σ).set (by omega)
  have ne : ∀ c j, c ≠ 36 → (σ.setAI (P.base + 36) (12 * (8 * hv + ms.length) + m.ins.length) (bI bn)).AI (P.base + c) j = σ.AI (P.base + c) j := fun c j hc => by rw [q_AI_setAI]; exact up2_ne (by omega)
  have h8' := (ne 33 (8 * hv + ms.length) (by omega)).trans h8
  refine ⟨h1, h2.trans (fk.fm h3) h6, h3, h4, ⟨LSo.nil _ _, by simp, fun l hl => by simp at hl, fun _ => by simp, h5.2.2.2.2⟩, n, h6, h7.lk fk h3 h8', h8', ?_⟩
  obtain ⟨⟨q, d1, d1'⟩, d2, d3, d4, d5, d6⟩ := h9
  exact ⟨⟨q, (ne _ _ (by omega)).trans d1, d1'⟩, (ne _ _ (by omega)).trans d2, d3, by simp [q_K_setI, q_I_setI, q_J_setI, q_R_setI, q_L_setI, q_AI_setI, q_AJ_setI, q_AR_setI, q_sz_setI, q_su_setI, q_K_setJ, q_I_setJ, q_J_setJ, q_R_setJ, q_L_setJ, q_AI_setJ, q_AJ_setJ, q_AR_setJ, q_sz_setJ, q_su_setJ, q_K_setR, q_I_setR, q_J_setR, q_R_setR, q_L_setR, q_AI_setR, q_AJ_setR, q_AR_setR, q_sz_setR, q_su_setR, q_K_setAI, q_I_setAI, q_J_setAI, q_R_setAI, q_L_setAI, q_AI_setAI, q_AJ_setAI, q_AR_setAI, q_sz_setAI, q_su_setAI, q_K_setAJ, q_I_setAJ, q_J_setAJ, q_R_setAJ, q_L_setAJ, q_AI_setAJ, q_AJ_setAJ, q_AR_setAJ, q_sz_setAJ, q_su_setAJ, q_K_setAR, q_I_setAR, q_J_setAR, q_R_setAR, q_L_setAR, q_AI_setAR, q_AJ_setAR, q_AR_setAR, q_sz_setAR, q_su_setAR, q_K_newO, q_I_newO, q_J_newO, q_R_newO, q_L_newO, q_AI_newO, q_AJ_newO, q_AR_newO, q_sz_newO, q_su_newO, q_K_newA, q_I_newA, q_J_newA, q_R_newA, q_L_newA, q_AI_newA, q_AJ_newA, q_AR_newA, q_sz_newA, q_su_newA, q_K_skip, q_I_skip, q_J_skip, q_R_skip, q_L_skip, q_AI_skip, q_AJ_skip, q_AR_skip, q_sz_skip, q_su_skip, q_up2, q_up], (ne _ _ (by omega)).trans d5, fun t l hl => by simp at hl⟩
theorem mu_olink {T : xT} {lng : Bool} {ns : List xNet} {ls : List xLnk} {p : Nat} {q : List xLnk × Nat} (h : sp_olink T lng ns ls p = .ok q) : 16 - q.1.length < 16 - ls.length := by
  unfold sp_olink at h
  split at h
  · cases h
  · split at h
    · cases h
      simp; omega
    · obtain ⟨a, h1, h2⟩ := eb_eq h
      cases h2
      simp; omega
theorem mu_nlink {T : xT} {ns : List xNet} {ls : List xLnk} {p : Nat} {q : List xLnk × Nat} (h : sp_nlink T ns ls p = .ok q) : 16 - q.1.length < 16 - ls.length := by
  unfold sp_nlink at h
  split at h
  · cases h
  · obtain ⟨p1, h1, h2⟩ := eb_eq h
    obtain ⟨nm, h3, h4⟩ := eb_eq h2
    split at h4
    · cases h4
    · obtain ⟨p3, h5, h6⟩ := eb_eq h4
      split at h6
      · cases h6
        simp; omega
      · obtain ⟨a, h7, h8⟩ := eb_eq h6
        obtain ⟨p4, h9, h10⟩ := eb_eq h8
        cases h10
        simp; omega
theorem dz_olink {T : xT} {lng : Bool} {ns : List xNet} {ls : List xLnk} {p : Nat} (h : lx_kind T p = 4) : sp_olink T lng ns ls p = .error p := by
  unfold sp_olink
  split
  · rfl
  · rw [if_neg (by rw [dz_is h]; simp), dz_part h, eb_er]
theorem dz_nlink {T : xT} {ns : List xNet} {ls : List xLnk} {p : Nat} (h : lx_kind T p = 4) : sp_nlink T ns ls p = .error p := by
  unfold sp_nlink
  split
  · rfl
  · rw [dz_sign h, eb_er]
theorem rw_L73 {P : xP} {T : xT} {hv : Nat} {ms : List xMod} {pl n0 : Nat} {σ0 : xS} {m : xMod} {f nm : List Nat} {ip : Nat} {bn : Bool} {σ : xS} {p : Nat} (h : PIn P T hv true ms pl n0 σ0 m (f, nm, ip, bn, []) σ p) : Rr (dm_X12_longInstance_L73 P (P.base + 11) P.N (nI m.ins.length) (bI bn) (nI 1) σ) (eb (sp_loop T (fun ls p => if bn = true then sp_nlink T m.nets ls p else sp_olink T true m.nets ls p) 17 [] p) fun r => eb (sp_sign T 41 r.2) fun p3 => eb (sp_sign T 59 p3) fun p4 => .ok (m.wIns (f, nm, ip, bn, r.1), p4)) (QS P T hv true ms pl n0 σ0) (EI P T hv ms pl n0 σ0) := by
  have hN := h.tr.1.2.2.2.2.2.2
  have n10 : ¬ nI 1 = nI 0 := by decide
  refine rw_comma (P := P) (T := T) (hv := hv) (Lp := fun N v σ => dm_X12_longInstance_L73 P (P.base + 11) N (nI m.ins.length) (bI bn) v σ) (body := fun σ => if bn = true then dm_X12_takeNamed P (P.base + 11) (nI m.ins.length) σ else dm_X12_takeOrdered P (P.base + 11) (nI m.ins.length) (bI true) σ) (after := dm_X12_longInstance_p123 P (P.base + 11)) (S := fun ls σ p => PIn P T hv true ms pl n0 σ0 m (f, nm, ip, bn, ls) σ p) (D := EI P T hv ms pl n0 σ0) (fun ls => 16 - ls.length) ?_ ?_ ?_ ?_ ?_ ?_ ?_ ?_ ?_ ?_ ?_ ?_ ?_ 17 [] σ p P.N (by simp) (by omega) h
  · intro N σ
    show dm_X12_longInstance_L73 P (P.base + 11) (N + 1) (nI m.ins.length) (bI bn) (nI 0) σ = _
    unfold dm_X12_longInstance_L73
    simp only [lit_nI, if_true]
  · intro N σ g hd
    have a0 := ri_0 hd.1
    have ok := rd_ok hd.1 (by have := hd.2.2; omega) hd.2.1
    show dm_X12_longInstance_L73 P (P.base + 11) (N + 1) (nI m.ins.length) (bI bn) (nI 1) σ = _
    unfold dm_X12_longInstance_L73
    simp only [lit_nI, n10, if_false, a0, ck_T, eq_self, ok, bd_l, if_true]
  · intro N σ t v hr hok hb hr2
    have a0 := ri_0 hr
    have b0 := ri_0 hr2
    have ok := rw_ok hr hok
    show dm_X12_longInstance_L73 P (P.base + 11) (N + 1) (nI m.ins.length) (bI bn) (nI 1) σ = _
    conv => lhs; unfold dm_X12_longInstance_L73 dm_X12_longInstance_p103
    cases bn with
    | true =>
      simp only [if_true] at hb
      simp only [lit_nI, bI_tt, n10, if_false, a0, ck_T, eq_self, ok, bd_l, hb, b0]
      rfl
    | false =>
      simp only [Bool.false_eq_true, if_false, bI_tt] at hb
      simp only [lit_nI, bI_ff, n10, if_false, if_true, a0, ck_T, eq_self, ok, bd_l, hb, b0]
      rfl
  · exact fun b σ p hs => hs.tr
  · exact fun b σ σ' p p' hs f c hp => hs.fl f c hp
  · exact fun b σ p hs hk => hs.bad hk
  · exact fun g σ hd => hd.2.de
  · intro b σ p hs hk
    cases bn with
    | true =>
      simp only [if_true]
      exact rw_takeNamed hs hk
    | false =>
      simp only [Bool.false_eq_true, if_false]
      exact rw_takeOrdered hs hk
  · intro b p hk
    show (if bn = true then sp_nlink T m.nets b p else sp_olink T true m.nets b p) = _
    rw [dz_nlink hk, dz_olink hk, ite_self]
  · intro b σ p q hs hq
    have hq : (if bn = true then sp_nlink T m.nets b p else sp_olink T true m.nets b p) = .ok q := hq
    show 16 - q.1.length < 16 - b.length
    split at hq
    · exact mu_nlink hq
    · exact mu_olink hq
  · intro b σ p hs hk
    exact rw_p123 hs hk
  · exact fun g s hd => rd_p123 hd.2.de
  · intro b p hk
    simp only [dz_sign hk, eb_er]
theorem rw_p29 {P : xP} {T : xT} {hv : Nat} {ms : List xMod} {pl n0 : Nat} {σ0 : xS} {m : xMod} {f nm : List Nat} {ip : Nat} {σ : xS} {p : Nat} (h : PIn P T hv true ms pl n0 σ0 m (f, nm, ip, false, []) σ p) (hk : lx_kind T p ≠ 4) : Rr (dm_X12_longInstance_p29 P (P.base + 11) (nI m.ins.length) σ) (eb (sp_sign T 40 p) fun p1 => eb (sp_links T (sp_is T 46 p1) m.nets p1) fun r => eb (sp_sign T 41 r.2) fun p3 => eb (sp_sign T 59 p3) fun p4 => .ok (m.wIns (f, nm, ip, sp_is T 46 p1, r.1), p4)) (QS P T hv true ms pl n0 σ0) (EI P T hv ms pl n0 σ0) := by
  have n10 : ¬ nI 1 = nI 0 := by decide
  unfold dm_X12_longInstance_p29
  simp only [ri_0 h.tr.1.1, ck_T, eq_self, lit_nI]
  refine Rr.bind T (fun p => p) (h.sign (c := 40) hk (by omega)) (fun v s1 p1 hb t1 k1 => ?_) (fun v g s4 hq => ⟨(), ?_, hq⟩) (fun v s4 b2 hq hk2 => hq.bad hk2) (fun b2 hk2 => ?_)
  · have b1 := ri_0 t1.tr.1.1
    have ok := rw_ok t1.tr.1.1 (t1.tr.2.ok k1)
    have is := rw_isSign t1.tr.1 t1.tr.2 k1 (s := 41) (by omega)
    have is2 := rw_isSign t1.tr.1 t1.tr.2 k1 (s := 46) (by omega)
    simp only [b1, ck_T, eq_self, ok, bd_l, n10, if_false, is]
    unfold sp_links
    by_cases e : sp_is T 41 p1 = true
    · rw [if_pos e, eb_ok]
      have e46 : sp_is T 46 p1 = false := by
        unfold sp_is at e ⊢
        simp only [Bool.and_eq_true, decide_eq_true_eq] at e
        rw [e.2]
        simp
      rw [e46]
      refine Rr.eq (rw_p123 t1 k1) ?_
      simp only [e, bI_tt, n10, if_false]
    · rw [if_neg e]
      have e' : sp_is T 41 p1 = false := by simpa using e
      have key := rw_L73 (t1.byN (bn := sp_is T 46 p1))
      refine Rr.eq key ?_
      obtain ⟨-, -, i12, -, -, n, -, h7, -⟩ := t1
      have hv1 := h7.1.2.2.1
      have m8 := h7.2.2.2.1
      have nc := rw_insCellI h7.1.1 h7.1.2.2.2.1 h7.2.2.1 m.ins.length
      cases e46 : sp_is T 46 p1 with
      | true => rw [e46] at is2; simp (disch := first | assumption | omega) [ck_T, sm_s, bd_l, bd_r, lt_e, eq_self, and_self, if_true, true_and, and_true, lit_nI, nI_add, nI_mul, nI_sub, nI_clamp, nI_eq, nI_ltI, nI_leI, nN_e, nI_nN, nN_nI, bI_0, bI_1, bI_n, bool_0, bool_1, in_T, lg_cmp0, ofN_nI, ri_0 (h7.1.1), ri_73 (h7.1.1), ri_74 (h7.1.1), ri_75 (h7.1.1), e', bI_ff, bI_tt, is2, nc, x_in, dlt_T, dle_T]
      | false => rw [e46] at is2; simp (disch := first | assumption | omega) [ck_T, sm_s, bd_l, bd_r, lt_e, eq_self, and_self, if_true, true_and, and_true, lit_nI, nI_add, nI_mul, nI_sub, nI_clamp, nI_eq, nI_ltI, nI_leI, nN_e, nI_nN, nN_nI, bI_0, bI_1, bI_n, bool_0, bool_1, in_T, lg_cmp0, ofN_nI, ri_0 (h7.1.1), ri_73 (h7.1.1), ri_74 (h7.1.1), ri_75 (h7.1.1), e', bI_ff, is2, nc, x_in, dlt_T, dle_T]
  · have de := hq.2.de
    have okd := rd_ok de.1 (by have := de.2.2; omega) de.2.1
    simp only [ri_0 de.1, ck_T, eq_self, okd, bd_l, if_true, rd_p123 de]
  · unfold sp_links
    rw [if_neg (by rw [dz_is hk2]; simp), dz_loop (fun b p hk => ?_) hk2, eb_er]
    show (if sp_is T 46 b2 = true then sp_nlink T m.nets b p else sp_olink T true m.nets b p) = _
    rw [dz_nlink hk, dz_olink hk, ite_self]
theorem rw_longInstance {P : xP} {T : xT} {hv : Nat} {ms : List xMod} {pl n0 : Nat} {σ0 : xS} {m : xMod} {σ : xS} {p : Nat} (h : SI P T hv true ms pl n0 σ0 m σ p) (hk : lx_kind T p ≠ 4) : Rr (dm_X12_longInstance P (P.base + 11) σ) (sp_longIns T m p) (QS P T hv true ms pl n0 σ0) (EI P T hv ms pl n0 σ0) := by
  have n10 : ¬ nI 1 = nI 0 := by decide
  have a0 := ri_0 h.tr.1.1
  have nn := rw_needName h.tr.1 h.tr.2 hk
  have fq := SIfail h
  have de := fq.2.de
  have okd := rd_ok de.1 (by have := de.2.2; omega) de.2.1
  unfold sp_longIns sp_start dm_X12_longInstance
  by_cases k0 : lx_kind T p = 0
  · rw [if_pos k0] at nn
    have hf : NmAt T p (lx_nm T p) := ⟨k0, rfl⟩
    have sn : sp_name T p = .ok (lx_nm T p) := by unfold sp_name; rw [if_pos k0]
    rw [sn]
    simp only [eb_ok]
    obtain ⟨s1, u1, h1⟩ := h.next hk hf.lt
    have fr := h.tr.2.2.1
    simp only [a0, ck_T, eq_self, lt_e, lit_nI, nn, bd_l, fr, u1, ri_0 h1.tr.1.1]
    by_cases k1 : lx_kind T (lx_nx T p) = 4
    · have dq := h1.bad k1
      have okd := rd_ok dq.2.de.1 (by have := dq.2.de.2.2; omega) dq.2.de.2.1
      rw [dz_name k1, eb_er, eb_er]
      refine Rr.er (v := ()) (σ' := s1) ?_ dq
      simp only [okd, bd_l, if_true, rd_p29 dq.2.de]
    · have ok := rw_ok h1.tr.1.1 (h1.tr.2.ok k1)
      simp only [ok, bd_l, n10, if_false, ri_0 h1.tr.1.1, ck_T, eq_self]
      refine Rr.bind T (fun q => q.2) (rw_takeInstance h1 k1 hf) (fun v s2 q hb hq k2 => ?_) (fun v g s4 hq => ⟨(), rd_p29 hq.2.de _, hq⟩) (fun v s4 b2 hq hk2 => hq.2.2.1 hk2) (fun b2 hk2 => by rw [dz_sign hk2, eb_er])
      obtain ⟨rfl, q2, q3, q4⟩ := hq
      exact rw_p29 (q2 k2) k2
  · rw [if_neg k0] at nn
    have sn : sp_name T p = .error p := by unfold sp_name; rw [if_neg k0]
    rw [sn, eb_er, eb_er]
    refine Rr.er (v := ()) (σ' := fl P σ p) ?_ fq
    simp only [a0, ck_T, eq_self, lt_e, lit_nI, nn, bd_l, ri_0 de.1, rd_next de, okd, if_true, rd_p29 de]
theorem rd_L34 {P : xP} {σ : xS} {f : Nat} (h : DE P σ f) (N : Nat) (v : Int32) : dm_X12_shortInstance_L34 P (P.base + 11) (N + 1) v σ = some (.inl (), σ) := by
  have ok := rd_ok h.1 (by have := h.2.2; omega) h.2.1
  unfold dm_X12_shortInstance_L34 dm_X12_shortInstance_p59
  simp only [ri_0 h.1, ck_T, eq_self, bd_l, ok, lit_nI, if_true, rd_needSign h]
theorem rw_L34 {P : xP} {T : xT} {hv : Nat} {ms : List xMod} {pl n0 : Nat} {σ0 : xS} {m : xMod} {f nm : List Nat} {ip : Nat} : ∀ (r : Nat) (ls : List xLnk) (σ : xS) (p N : Nat), 16 - ls.length < r → r < N → PIn P T hv false ms pl n0 σ0 m (f, nm, ip, false, ls) σ p → Rr (dm_X12_shortInstance_L34 P (P.base + 11) N (nI m.ins.length) σ) (eb (sp_shortLinks T m.nets r ls p) fun r => eb (sp_sign T 59 r.2) fun p4 => .ok (m.wIns (f, nm, ip, false, r.1), p4)) (QS P T hv false ms pl n0 σ0) (EI P T hv ms pl n0 σ0) := by
  have n10 : ¬ nI 1 = nI 0 := by decide
  intro r
  induction r with
  | zero => intro ls σ p N h1; omega
  | succ r ih =>
    intro ls σ p N h1 h2 h
    obtain ⟨N, rfl⟩ : ∃ k, N = k + 1 := ⟨N - 1, by omega⟩
    obtain ⟨N1, hN1⟩ : ∃ k, N = k + 1 := ⟨N - 1, by omega⟩
    simp only [sp_shortLinks]
    by_cases d : lx_kind T p = 4
    · have dq := h.bad d
      rw [if_neg (by rw [dz_is d]; simp), dz_olink d, eb_er, eb_er]
      exact Rr.er (rd_L34 dq.2.de _ _) dq
    · have a0 := ri_0 h.tr.1.1
      have ok := rw_ok h.tr.1.1 (h.tr.2.ok d)
      have is := rw_isSign h.tr.1 h.tr.2 d (s := 59) (by omega)
      by_cases e : sp_is T 59 p = true
      · rw [if_pos e, eb_ok]
        rw [e] at is
        have key : Rr (dm_X12_shortInstance_p59 P (P.base + 11) σ) (eb (sp_sign T 59 p) fun p4 => .ok (m.wIns (f, nm, ip, false, ls), p4)) (QS P T hv false ms pl n0 σ0) (EI P T hv ms pl n0 σ0) := by
          unfold dm_X12_shortInstance_p59
          simp only [a0, ck_T, eq_self, lit_nI]
          exact (h.sign (c := 59) d (by omega)).last (fun v s2 p2 hb hq => Rr.ok rfl hq.si.qs) (fun v g s2 hq => ⟨(), rfl, hq⟩)
        refine Rr.eq key ?_
        conv => lhs; unfold dm_X12_shortInstance_L34
        simp only [a0, ck_T, eq_self, lit_nI, ok, bd_l, n10, if_false, is, bI_tt]
      · rw [if_neg e, eb_as]
        have e' : sp_is T 59 p = false := by simpa using e
        rw [e'] at is
        have to := rw_takeOrdered h d
        have st : dm_X12_shortInstance_L34 P (P.base + 11) (N + 1) (nI m.ins.length) σ = x_bind (dm_X12_takeOrdered P (P.base + 11) (nI m.ins.length) (bI false) σ) (fun _ s => dm_X12_shortInstance_L34 P (P.base + 11) N (nI m.ins.length) s) (fun E s => some (.inr E, s)) := by
          conv => lhs; unfold dm_X12_shortInstance_L34
          simp only [a0, ck_T, eq_self, lit_nI, ok, bd_l, n10, if_false, is, bI_ff, if_true]
        refine Rr.eq ?_ st
        refine to.last (fun v s2 q hb hq => ?_) (fun v g s2 hq => ⟨(), by rw [hN1]; exact rd_L34 hq.2.de _ _, hq⟩)
        by_cases k2 : lx_kind T q.2 = 4
        · have dq := hq.2 k2
          have lt := mu_olink hb
          obtain ⟨r1, hr1⟩ : ∃ k, r = k + 1 := ⟨r - 1, by omega⟩
          rw [hr1]
          simp only [sp_shortLinks]
          rw [if_neg (by rw [dz_is k2]; simp), dz_olink k2, eb_er, eb_er]
          refine Rr.er (v := ()) ?_ dq
          rw [hN1]
          exact rd_L34 dq.2.de _ _
        · have lt := mu_olink hb
          exact ih q.1 s2 q.2 N (by omega) (by omega) (hq.1 k2)
theorem rw_shortInstance {P : xP} {T : xT} {hv : Nat} {ms : List xMod} {pl n0 : Nat} {σ0 : xS} {m : xMod} {σ : xS} {p : Nat} (h : SI P T hv false ms pl n0 σ0 m σ p) (hk : lx_kind T p ≠ 4) (hp : p < T.2) : Rr (dm_X12_shortInstance P (P.base + 11) σ) (sp_shortIns T m p) (QS P T hv false ms pl n0 σ0) (EI P T hv ms pl n0 σ0) := by
  have n10 : ¬ nI 1 = nI 0 := by decide
  have a0 := ri_0 h.tr.1.1
  have hN := h.tr.1.2.2.2.2.2.2
  obtain ⟨N, hN1⟩ : ∃ k, P.N = k + 1 := ⟨P.N - 1, by omega⟩
  obtain ⟨s0, u0, h0⟩ := h.next hk hp
  have b0 := ri_0 h0.tr.1.1
  unfold sp_shortIns sp_start dm_X12_shortInstance dm_X12_shortInstance_p33
  simp only [a0, ck_T, eq_self, lit_nI, u0, bd_l, b0]
  have dd : ∀ (t : xS) (g : Nat), DE P t g → (x_bind (dm_X12_needName P (P.base + 11) t) (fun _ σ_6 => x_chk (σ_6.K (P.base + 11) = 12) <| x_let ((σ_6.I 1136 (P.base + 11))) fun v_10 => x_bind (dm_X12_next P (P.base + 11) σ_6) (fun _ σ_12 => x_chk (σ_12.K (P.base + 11) = 12) <| x_bind (dm_X12_ok P (P.base + 11) σ_12) (fun v_14 σ_15 => if v_14 = nI 0 then dm_X12_shortInstance_L34 P (P.base + 11) P.N (-nI 1) σ_15 else x_chk (σ_15.K (P.base + 11) = 12) <| x_bind (dm_X12_takeInstance P (P.base + 11) v_10 σ_15) (fun v_19 σ_20 => dm_X12_shortInstance_L34 P (P.base + 11) P.N v_19 σ_20) (fun E_23 σ_20 => some (.inr E_23, σ_20))) (fun E_24 σ_15 => some (.inr E_24, σ_15))) (fun E_25 σ_12 => some (.inr E_25, σ_12))) (fun E_26 σ_6 => some (.inr E_26, σ_6)) : xO Unit) = some (.inl (), t) := by
    intro t g hd
    have okd := rd_ok hd.1 (by have := hd.2.2; omega) hd.2.1
    rw [hN1]
    simp only [ri_0 hd.1, ck_T, eq_self, lt_e, okd, bd_l, if_true, rd_needName hd, rd_next hd, rd_L34 hd]
  by_cases k1 : lx_kind T (lx_nx T p) = 4
  · have dq := h0.bad k1
    rw [dz_name k1, eb_er, eb_er]
    exact Rr.er (dd _ _ dq.2.de) dq
  · have nn := rw_needName h0.tr.1 h0.tr.2 k1
    have fq := SIfail h0
    have de := fq.2.de
    have okd := rd_ok de.1 (by have := de.2.2; omega) de.2.1
    by_cases k0 : lx_kind T (lx_nx T p) = 0
    · rw [if_pos k0] at nn
      have hf : NmAt T (lx_nx T p) (lx_nm T (lx_nx T p)) := ⟨k0, rfl⟩
      have sn : sp_name T (lx_nx T p) = .ok (lx_nm T (lx_nx T p)) := by unfold sp_name; rw [if_pos k0]
      rw [sn]
      simp only [eb_ok]
      obtain ⟨s1, u1, h1⟩ := h0.next k1 hf.lt
      have fr := h0.tr.2.2.1
      simp only [b0, ck_T, eq_self, lt_e, nn, bd_l, fr, u1, ri_0 h1.tr.1.1]
      by_cases k2 : lx_kind T (lx_nx T (lx_nx T p)) = 4
      · have dq := h1.bad k2
        have okd := rd_ok dq.2.de.1 (by have := dq.2.de.2.2; omega) dq.2.de.2.1
        rw [dz_name k2, eb_er, eb_er]
        refine Rr.er (v := ()) (σ' := s1) ?_ dq
        rw [hN1]
        simp only [okd, bd_l, if_true, rd_L34 dq.2.de]
      · have ok := rw_ok h1.tr.1.1 (h1.tr.2.ok k2)
        simp only [ok, bd_l, n10, if_false, ri_0 h1.tr.1.1, ck_T, eq_self]
        refine Rr.bind T (fun q => q.2) (rw_takeInstance h1 k2 hf) (fun v s2 q hb hq k3 => ?_) (fun v g s4 hq => ⟨(), by rw [hN1]; exact rd_L34 hq.2.de _ _, hq⟩) (fun v s4 b2 hq hk2 => hq.2.2.1 hk2) (fun b2 hk2 => ?_)
        · obtain ⟨rfl, q2, q3, q4⟩ := hq
          exact rw_L34 17 [] s2 q.2 P.N (by simp) (by omega) (q2 k3)
        · simp only [sp_shortLinks]
          rw [if_neg (by rw [dz_is hk2]; simp), dz_olink hk2, eb_er, eb_er]
    · rw [if_neg k0] at nn
      have sn : sp_name T (lx_nx T p) = .error (lx_nx T p) := by unfold sp_name; rw [if_neg k0]
      rw [sn, eb_er, eb_er]
      refine Rr.er (v := ()) (σ' := fl P s0 (lx_nx T p)) ?_ fq
      rw [hN1]
      simp only [b0, ck_T, eq_self, lt_e, nn, bd_l, ri_0 de.1, rd_next de, okd, if_true, rd_L34 de]
