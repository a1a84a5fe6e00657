/-! ===== the reference: addLink, takeOrdered ===== -/
def alS (P : xP) (c t : Nat) (σ : xS) (a : Int32) : xS := (((σ.setAI (P.base + 39) (16 * c + t) nN).setAI (P.base + 40) (16 * c + t) nN).setAI (P.base + 41) (16 * c + t) a).setAI (P.base + 38) c (nI (t + 1))
theorem alS_AI {P : xP} {c t k j : Nat} {σ : xS} {a : Int32} (h1 : ¬ ((k = 39 ∨ k = 40 ∨ k = 41) ∧ j = 16 * c + t)) (h2 : ¬ (k = 38 ∧ j = c)) : (alS P c t σ a).AI (P.base + k) j = σ.AI (P.base + k) j := by
  unfold alS
  simp only [q_K_setI, q_I_setI, q_J_setI, q_R_setI, q_L_setI, q_AI_setI, q_AJ_setI, q_AR_setI, q_sz_setI, q_su_setI, q_K_setJ, q_I_setJ, q_J_setJ, q_R_setJ, q_L_setJ, q_AI_setJ, q_AJ_setJ, q_AR_setJ, q_sz_setJ, q_su_setJ, q_K_setR, q_I_setR, q_J_setR, q_R_setR, q_L_setR, q_AI_setR, q_AJ_setR, q_AR_setR, q_sz_setR, q_su_setR, q_K_setAI, q_I_setAI, q_J_setAI, q_R_setAI, q_L_setAI, q_AI_setAI, q_AJ_setAI, q_AR_setAI, q_sz_setAI, q_su_setAI, q_K_setAJ, q_I_setAJ, q_J_setAJ, q_R_setAJ, q_L_setAJ, q_AI_setAJ, q_AJ_setAJ, q_AR_setAJ, q_sz_setAJ, q_su_setAJ, q_K_setAR, q_I_setAR, q_J_setAR, q_R_setAR, q_L_setAR, q_AI_setAR, q_AJ_setAR, q_AR_setAR, q_sz_setAR, q_su_setAR, q_K_newO, q_I_newO, q_J_newO, q_R_newO, q_L_newO, q_AI_newO, q_AJ_newO, q_AR_newO, q_sz_newO, q_su_newO, q_K_newA, q_I_newA, q_J_newA, q_R_newA, q_L_newA, q_AI_newA, q_AJ_newA, q_AR_newA, q_sz_newA, q_su_newA, q_K_skip, q_I_skip, q_J_skip, q_R_skip, q_L_skip, q_AI_skip, q_AJ_skip, q_AR_skip, q_sz_skip, q_su_skip]
  rw [up2_ne (by omega), up2_ne (by omega), up2_ne (by omega), up2_ne (by omega)]
theorem rd_p32 {P : xP} {σ : xS} {f : Nat} (h : DE P σ f) (v : Int32) : dm_X12_addLink_p32 P (P.base + 11) v σ = some (.inl nN, σ) := by
  have ok := rd_ok h.1 (by have := h.2.2; omega) h.2.1
  have a0 := ri_0 h.1
  unfold dm_X12_addLink_p32
  simp only [a0, ck_T, eq_self, ok, bd_l, lit_nI, if_true, nN_e]
theorem rw_addLink {P : xP} {T : xT} {hv : Nat} {lng : Bool} {ms : List xMod} {pl n0 : Nat} {σ0 : xS} {m : xMod} {i : xIns} {σ : xS} {p : Nat} (h : PIn P T hv lng ms pl n0 σ0 m i σ p) (hk : lx_kind T p ≠ 4) : (16 ≤ i.2.2.2.2.length ∧ dm_X12_addLink P (P.base + 11) (nI m.ins.length) σ = some (.inl nN, fl P σ p)) ∨ (i.2.2.2.2.length < 16 ∧ ∃ s, dm_X12_addLink P (P.base + 11) (nI m.ins.length) σ = some (.inl (nI (16 * (12 * (8 * hv + ms.length) + m.ins.length) + i.2.2.2.2.length)), s) ∧ TIn P T hv lng ms pl n0 σ0 m i p none nN s p) := by
  have fq := PIfail h
  obtain ⟨h1, h2, h3, h4, h5, n, h6, h7, h8, h9⟩ := h
  have r0 := h7.1.1
  have a0 := ri_0 r0
  have ok := rw_ok r0 (h7.2.1.ok hk)
  have hv1 := h7.1.2.2.1
  have hh := h7.1.2.2.2.1
  have hm := h7.2.2.1
  have m8 := h7.2.2.2.1
  have fr := h7.2.1.2.1
  have ff : dm_X12_fail P (P.base + 11) (nI p) σ = some (.inl (), fl P σ p) := rw_fail r0 (h7.2.1.ok hk) (nI p)
  have nc := rw_insCellI r0 hh hm m.ins.length
  have cnt := h9.2.2.2.2.1
  have l16 := h5.2.1
  by_cases e : 16 ≤ i.2.2.2.2.length
  · left
    refine ⟨e, ?_⟩
    have e' : i.2.2.2.2.length = 16 := by omega
    rw [e'] at cnt
    have de := fq.2.de
    have p3 := fun v => rd_p32 de v
    unfold dm_X12_addLink
    simp (disch := first | assumption | omega) [ck_T, sm_s, bd_l, bd_r, lt_e, eq_self, and_self, if_true, true_and, and_true, lit_nI, nI_add, nI_mul, nI_sub, nI_clamp, nI_eq, nI_ltI, nI_leI, nN_e, nI_nN, nN_nI, bI_0, bI_1, bI_n, bool_0, bool_1, in_T, lg_cmp0, ofN_nI, ri_0 r0, ri_79 r0, ri_80 r0, ri_81 r0, nc, ok, cnt, fr, ff, p3, x_in, dlt_T, dle_T]
  · right
    have e' : ¬ i.2.2.2.2.length = 16 := by omega
    refine ⟨by omega, alS P (12 * (8 * hv + ms.length) + m.ins.length) i.2.2.2.2.length σ (nI p), ?_, ?_⟩
    · unfold dm_X12_addLink dm_X12_addLink_p32 alS
      simp (config := { maxSteps := 2000000 }) (disch := first | assumption | omega) [ck_T, sm_s, bd_l, bd_r, lt_e, eq_self, and_self, if_true, true_and, and_true, lit_nI, nI_add, nI_mul, nI_sub, nI_clamp, nI_eq, nI_ltI, nI_leI, nN_e, nI_nN, nN_nI, bI_0, bI_1, bI_n, bool_0, bool_1, in_T, lg_cmp0, ofN_nI, q_K_setI, q_I_setI, q_J_setI, q_R_setI, q_L_setI, q_AI_setI, q_AJ_setI, q_AR_setI, q_sz_setI, q_su_setI, q_K_setJ, q_I_setJ, q_J_setJ, q_R_setJ, q_L_setJ, q_AI_setJ, q_AJ_setJ, q_AR_setJ, q_sz_setJ, q_su_setJ, q_K_setR, q_I_setR, q_J_setR, q_R_setR, q_L_setR, q_AI_setR, q_AJ_setR, q_AR_setR, q_sz_setR, q_su_setR, q_K_setAI, q_I_setAI, q_J_setAI, q_R_setAI, q_L_setAI, q_AI_setAI, q_AJ_setAI, q_AR_setAI, q_sz_setAI, q_su_setAI, q_K_setAJ, q_I_setAJ, q_J_setAJ, q_R_setAJ, q_L_setAJ, q_AI_setAJ, q_AJ_setAJ, q_AR_setAJ, q_sz_setAJ, q_su_setAJ, q_K_setAR, q_I_setAR, q_J_setAR, q_R_setAR, q_L_setAR, q_AI_setAR, q_AJ_setAR, q_AR_setAR, q_sz_setAR, q_su_setAR, q_K_newO, q_I_newO, q_J_newO, q_R_newO, q_L_newO, q_AI_newO, q_AJ_newO, q_AR_newO, q_sz_newO, q_su_newO, q_K_newA, q_I_newA, q_J_newA, q_R_newA, q_L_newA, q_AI_newA, q_AJ_newA, q_AR_newA, q_sz_newA, q_su_newA, q_K_skip, q_I_skip, q_J_skip, q_R_skip, q_L_skip, q_AI_skip, q_AJ_skip, q_AR_skip, q_sz_skip, q_su_skip, q_up2, q_up, ri_0 r0, ri_79 r0, ri_80 r0, ri_81 r0, ri_82 r0, ri_83 r0, ri_84 r0, ri_85 r0, ri_86 r0, ri_87 r0, ri_88 r0, ri_89 r0, ri_90 r0, nc, ok, cnt, e', fr, x_in, dlt_T, dle_T]
    · have fk : FKi P (8 * hv + ms.length) m.ins.length σ (alS P (12 * (8 * hv + ms.length) + m.ins.length) i.2.2.2.2.length σ (nI p)) := by
        unfold alS
        exact (((((FKi.refl P _ _ σ).set (by omega)).set (by omega)).set (by omega)).set (by omega))
      have rr : ∀ r x, RRef P σ T hv n m.nets r x → RRef P (alS P (12 * (8 * hv + ms.length) + m.ins.length) i.2.2.2.2.length σ (nI p)) T hv n m.nets r x := fun r x hr => hr.fk fk
      have h8' := (alS_AI (P := P) (c := 12 * (8 * hv + ms.length) + m.ins.length) (t := i.2.2.2.2.length) (σ := σ) (a := nI p) (k := 33) (j := 8 * hv + ms.length) (by omega) (by omega)).trans h8
      refine ⟨h1, h2.trans (fk.fm h3) h6, h3, h4, by omega, n, h6, h7.lk fk h3 h8', h8', ?_, ?_, ?_, rfl⟩
      · obtain ⟨⟨q, d1, d1'⟩, d2, d3, d4, d5, d6⟩ := h9
        refine ⟨⟨q, (alS_AI (by omega) (by omega)).trans d1, d1'⟩, (alS_AI (by omega) (by omega)).trans d2, d3, (alS_AI (by omega) (by omega)).trans d4, ?_, fun t l hl => ?_⟩
        · unfold alS; simp [q_K_setI, q_I_setI, q_J_setI, q_R_setI, q_L_setI, q_AI_setI, q_AJ_setI, q_AR_setI, q_sz_setI, q_su_setI, q_K_setJ, q_I_setJ, q_J_setJ, q_R_setJ, q_L_setJ, q_AI_setJ, q_AJ_setJ, q_AR_setJ, q_sz_setJ, q_su_setJ, q_K_setR, q_I_setR, q_J_setR, q_R_setR, q_L_setR, q_AI_setR, q_AJ_setR, q_AR_setR, q_sz_setR, q_su_setR, q_K_setAI, q_I_setAI, q_J_setAI, q_R_setAI, q_L_setAI, q_AI_setAI, q_AJ_setAI, q_AR_setAI, q_sz_setAI, q_su_setAI, q_K_setAJ, q_I_setAJ, q_J_setAJ, q_R_setAJ, q_L_setAJ, q_AI_setAJ, q_AJ_setAJ, q_AR_setAJ, q_sz_setAJ, q_su_setAJ, q_K_setAR, q_I_setAR, q_J_setAR, q_R_setAR, q_L_setAR, q_AI_setAR, q_AJ_setAR, q_AR_setAR, q_sz_setAR, q_su_setAR, q_K_newO, q_I_newO, q_J_newO, q_R_newO, q_L_newO, q_AI_newO, q_AJ_newO, q_AR_newO, q_sz_newO, q_su_newO, q_K_newA, q_I_newA, q_J_newA, q_R_newA, q_L_newA, q_AI_newA, q_AJ_newA, q_AR_newA, q_sz_newA, q_su_newA, q_K_skip, q_I_skip, q_J_skip, q_R_skip, q_L_skip, q_AI_skip, q_AJ_skip, q_AR_skip, q_sz_skip, q_su_skip, q_up2, q_up]
        · have := get_lt hl
          exact (d6 t l hl).ag (fun k hk => alS_AI (by omega) (by omega)) (fun r x _ => rr r x)
      · unfold alS; simp [q_K_setI, q_I_setI, q_J_setI, q_R_setI, q_L_setI, q_AI_setI, q_AJ_setI, q_AR_setI, q_sz_setI, q_su_setI, q_K_setJ, q_I_setJ, q_J_setJ, q_R_setJ, q_L_setJ, q_AI_setJ, q_AJ_setJ, q_AR_setJ, q_sz_setJ, q_su_setJ, q_K_setR, q_I_setR, q_J_setR, q_R_setR, q_L_setR, q_AI_setR, q_AJ_setR, q_AR_setR, q_sz_setR, q_su_setR, q_K_setAI, q_I_setAI, q_J_setAI, q_R_setAI, q_L_setAI, q_AI_setAI, q_AJ_setAI, q_AR_setAI, q_sz_setAI, q_su_setAI, q_K_setAJ, q_I_setAJ, q_J_setAJ, q_R_setAJ, q_L_setAJ, q_AI_setAJ, q_AJ_setAJ, q_AR_setAJ, q_sz_setAJ, q_su_setAJ, q_K_setAR, q_I_setAR, q_J_setAR, q_R_setAR, q_L_setAR, q_AI_setAR, q_AJ_setAR, q_AR_setAR, q_sz_setAR, q_su_setAR, q_K_newO, q_I_newO, q_J_newO, q_R_newO, q_L_newO, q_AI_newO, q_AJ_newO, q_AR_newO, q_sz_newO, q_su_newO, q_K_newA, q_I_newA, q_J_newA, q_R_newA, q_L_newA, q_AI_newA, q_AJ_newA, q_AR_newA, q_sz_newA, q_su_newA, q_K_skip, q_I_skip, q_J_skip, q_R_skip, q_L_skip, q_AI_skip, q_AJ_skip, q_AR_skip, q_sz_skip, q_su_skip, q_up2, q_up]
      · unfold alS; simp [q_K_setI, q_I_setI, q_J_setI, q_R_setI, q_L_setI, q_AI_setI, q_AJ_setI, q_AR_setI, q_sz_setI, q_su_setI, q_K_setJ, q_I_setJ, q_J_setJ, q_R_setJ, q_L_setJ, q_AI_setJ, q_AJ_setJ, q_AR_setJ, q_sz_setJ, q_su_setJ, q_K_setR, q_I_setR, q_J_setR, q_R_setR, q_L_setR, q_AI_setR, q_AJ_setR, q_AR_setR, q_sz_setR, q_su_setR, q_K_setAI, q_I_setAI, q_J_setAI, q_R_setAI, q_L_setAI, q_AI_setAI, q_AJ_setAI, q_AR_setAI, q_sz_setAI, q_su_setAI, q_K_setAJ, q_I_setAJ, q_J_setAJ, q_R_setAJ, q_L_setAJ, q_AI_setAJ, q_AJ_setAJ, q_AR_setAJ, q_sz_setAJ, q_su_setAJ, q_K_setAR, q_I_setAR, q_J_setAR, q_R_setAR, q_L_setAR, q_AI_setAR, q_AJ_setAR, q_AR_setAR, q_sz_setAR, q_su_setAR, q_K_newO, q_I_newO, q_J_newO, q_R_newO, q_L_newO, q_AI_newO, q_AJ_newO, q_AR_newO, q_sz_newO, q_su_newO, q_K_newA, q_I_newA, q_J_newA, q_R_newA, q_L_newA, q_AI_newA, q_AJ_newA, q_AR_newA, q_sz_newA, q_su_newA, q_K_skip, q_I_skip, q_J_skip, q_R_skip, q_L_skip, q_AI_skip, q_AJ_skip, q_AR_skip, q_sz_skip, q_su_skip, q_up2, q_up]
theorem rd_p46 {P : xP} {σ : xS} {f : Nat} (h : DE P σ f) (v w : Int32) : dm_X12_takeOrdered_p46 P (P.base + 11) v w σ = some (.inl (), σ) := by
  have ok := rd_ok h.1 (by have := h.2.2; omega) h.2.1
  have a0 := ri_0 h.1
  unfold dm_X12_takeOrdered_p46 dm_X12_takeOrdered_p63
  simp only [a0, ck_T, eq_self, ok, bd_l, lit_nI, if_true]
/-- what a link leaves -/
def QL (P : xP) (T : xT) (hv : Nat) (lng : Bool) (ms : List xMod) (pl n0 : Nat) (σ0 : xS) (m : xMod) (f nm : List Nat) (ip : Nat) (bn : Bool) (_ : Unit) (s : xS) (q : List xLnk × Nat) : Prop := (lx_kind T q.2 ≠ 4 → PIn P T hv lng ms pl n0 σ0 m (f, nm, ip, bn, q.1) s q.2) ∧ (lx_kind T q.2 = 4 → EI P T hv ms pl n0 σ0 q.2 s)
theorem rw_takeOrdered {P : xP} {T : xT} {hv : Nat} {lng : Bool} {ms : List xMod} {pl n0 : Nat} {σ0 : xS} {m : xMod} {f nm : List Nat} {ip : Nat} {ls : List xLnk} {σ : xS} {p : Nat} (h : PIn P T hv lng ms pl n0 σ0 m (f, nm, ip, false, ls) σ p) (hk : lx_kind T p ≠ 4) : Rr (dm_X12_takeOrdered P (P.base + 11) (nI m.ins.length) (bI lng) σ) (sp_olink T lng m.nets ls p) (QL P T hv lng ms pl n0 σ0 m f nm ip false) (EI P T hv ms pl n0 σ0) := by
  have a0 := ri_0 h.tr.1.1
  have n10 : ¬ nI 1 = nI 0 := by decide
  have hT := h.tr.1.2.1
  have hl : LW false m.nets ip ls p := h.2.2.2.2.1
  have hv1 := h.tr.1.2.2.1
  have m8 : ms.length < 8 := by
    obtain ⟨-, -, -, -, -, n, -, h7, -⟩ := h
    exact h7.2.2.2.1
  have i12 : m.ins.length < 12 := h.2.2.1
  rcases rw_addLink h hk with ⟨e, al⟩ | ⟨e, s, al, ti⟩
  · have fq := PIfail h
    have de := fq.2.de
    have okd := rd_ok de.1 (by have := de.2.2; omega) de.2.1
    have e : 16 ≤ ls.length := e
    unfold sp_olink
    rw [if_pos e]
    refine Rr.er (v := ()) (σ' := fl P σ p) ?_ fq
    unfold dm_X12_takeOrdered
    simp only [a0, ck_T, eq_self, al, bd_l, ri_0 de.1, rd_isSign de, lit_nI, if_true, okd, rd_p46 de]
  · have e : ls.length < 16 := e
    have lw := fun q hq => LW.olink hT (lng := lng) (q := q) hl rfl hq
    unfold sp_olink at lw ⊢
    rw [if_neg (by omega)] at lw ⊢
    have is := rw_isSign ti.tr.1 ti.tr.2 hk (s := 45) (by omega)
    have a1 := ri_0 ti.tr.1.1
    by_cases e1 : sp_is T 45 p = true
    · rw [if_pos e1] at lw ⊢
      rw [e1] at is
      obtain ⟨s2, u1, t2⟩ := ti.next hk (is_lt e1)
      have pi := t2.fin ([], p, none) (lw _ rfl).1 (FKi.refl P _ _ s2) (fun _ _ _ => rfl) (by obtain ⟨-, -, -, -, -, n, -, -, -, -, z, -⟩ := t2; exact z) rfl (fun z => by cases z) (fun _ => rfl)
      refine Rr.ok (v := ()) (σ' := s2) ?_ ⟨fun _ => pi, fun z => pi.bad z⟩
      unfold dm_X12_takeOrdered
      simp only [a0, ck_T, eq_self, al, bd_l, a1, is, bI_tt, lit_nI, n10, if_false, u1]
    · rw [if_neg e1] at lw ⊢
      have e1' : sp_is T 45 p = false := by simpa using e1
      rw [e1'] at is
      have ok := rw_ok ti.tr.1.1 (ti.tr.2.ok hk)
      have st : dm_X12_takeOrdered P (P.base + 11) (nI m.ins.length) (bI lng) σ = x_bind (rRef P lng s) (fun w s2 => dm_X12_takeOrdered_p46 P (P.base + 11) (nI (16 * (12 * (8 * hv + ms.length) + m.ins.length) + ls.length)) w s2) (fun E s2 => some (.inr E, s2)) := by
        unfold dm_X12_takeOrdered rRef
        cases lng with
        | true => simp only [a0, ck_T, eq_self, al, bd_l, a1, is, bI_ff, bI_tt, lit_nI, if_true, ok, n10, if_false]
        | false => simp only [a0, ck_T, eq_self, al, bd_l, a1, is, bI_ff, lit_nI, if_true, ok, n10, if_false, Bool.false_eq_true]
      refine Rr.eq ?_ st
      refine (ti.part hk).last (fun w s2 q hb hq => ?_) (fun w g s2 hq => ⟨(), rd_p46 hq.2.de _ _, hq⟩)
      by_cases k2 : lx_kind T q.2 = 4
      · have dq := hq.2 k2
        exact Rr.ok (rd_p46 dq.2.de _ _) ⟨fun z => absurd k2 z, fun _ => dq⟩
      · have t2 := hq.1 k2
        have a2 := t2.tr.1.1
        have ok2 := rw_ok a2 (t2.tr.2.ok k2)
        have lw' := (lw (ls ++ [([], p, some q.1)], q.2) (by rw [hb, eb_ok])).1
        have fk : FKi P (8 * hv + ms.length) m.ins.length s2 (s2.setAI (P.base + 39) (16 * (12 * (8 * hv + ms.length) + m.ins.length) + ls.length) w) := (FKi.refl P _ _ s2).set (by omega)
        have pi := t2.fin ([], p, some q.1) lw' fk (fun k j hj => by rw [q_AI_setAI]; exact up2_ne (by omega)) (by simp [q_K_setI, q_I_setI, q_J_setI, q_R_setI, q_L_setI, q_AI_setI, q_AJ_setI, q_AR_setI, q_sz_setI, q_su_setI, q_K_setJ, q_I_setJ, q_J_setJ, q_R_setJ, q_L_setJ, q_AI_setJ, q_AJ_setJ, q_AR_setJ, q_sz_setJ, q_su_setJ, q_K_setR, q_I_setR, q_J_setR, q_R_setR, q_L_setR, q_AI_setR, q_AJ_setR, q_AR_setR, q_sz_setR, q_su_setR, q_K_setAI, q_I_setAI, q_J_setAI, q_R_setAI, q_L_setAI, q_AI_setAI, q_AJ_setAI, q_AR_setAI, q_sz_setAI, q_su_setAI, q_K_setAJ, q_I_setAJ, q_J_setAJ, q_R_setAJ, q_L_setAJ, q_AI_setAJ, q_AJ_setAJ, q_AR_setAJ, q_sz_setAJ, q_su_setAJ, q_K_setAR, q_I_setAR, q_J_setAR, q_R_setAR, q_L_setAR, q_AI_setAR, q_AJ_setAR, q_AR_setAR, q_sz_setAR, q_su_setAR, q_K_newO, q_I_newO, q_J_newO, q_R_newO, q_L_newO, q_AI_newO, q_AJ_newO, q_AR_newO, q_sz_newO, q_su_newO, q_K_newA, q_I_newA, q_J_newA, q_R_newA, q_L_newA, q_AI_newA, q_AJ_newA, q_AR_newA, q_sz_newA, q_su_newA, q_K_skip, q_I_skip, q_J_skip, q_R_skip, q_L_skip, q_AI_skip, q_AJ_skip, q_AR_skip, q_sz_skip, q_su_skip, q_up2, q_up]) rfl (fun z => by cases z) (fun _ => rfl)
        refine Rr.ok (v := ()) ?_ ⟨fun _ => pi, fun z => absurd z k2⟩
        unfold dm_X12_takeOrdered_p46 dm_X12_takeOrdered_p63
        simp (disch := first | assumption | omega) [ck_T, sm_s, bd_l, bd_r, lt_e, eq_self, and_self, if_true, true_and, and_true, lit_nI, nI_add, nI_mul, nI_sub, nI_clamp, nI_eq, nI_ltI, nI_leI, nN_e, nI_nN, nN_nI, bI_0, bI_1, bI_n, bool_0, bool_1, in_T, lg_cmp0, ofN_nI, ri_0 a2, ri_82 a2, ri_83 a2, ri_84 a2, ok2, x_in, dlt_T, dle_T]
