/-! ===== the reference: constants, shortRef ===== -/
theorem rw_longRef {P : xP} {T : xT} {hv : Nat} {lng : Bool} {ms : List xMod} {m : xMod} {n : Nat} {σ : xS} {p : Nat} (h : RX P T hv lng ms m n σ p) (hk : lx_kind T p ≠ 4) : Rr (dm_X12_longRef P (P.base + 11) σ) (sp_longPart T m.nets p) (QP P T hv lng ms m n σ) (EP P T hv ms m.pl n σ) := by
  have a0 := ri_0 h.1.1
  have ok := rw_ok h.1.1 (h.2.1.ok hk)
  have fr := h.2.1.2.1
  have f0 := FP.refl P hv n σ
  have rs := h.2.2.2.2.1.2
  have hT := h.1.2.1
  have n10 : ¬ nI 1 = nI 0 := by decide
  have rb : rKd T p < 10 := by unfold rKd; split <;> (try split) <;> (try split) <;> omega
  have kd := h.2.1.2.2.2.2.1
  unfold dm_X12_longRef
  simp only [a0, ck_T, eq_self, lit_nI, lt_e, fr, ok, bd_l, n10, if_false]
  by_cases e : lx_kind T p = 2
  · have part : ∀ q, sp_longPart T m.nets p = .ok q → RSl T (n + 1) q.2 := fun q hq => rs.part hT (lng := true) (ns := m.nets) (p := p) hq
    have e2 := (rKd_2 hk).mpr e
    rw [e2] at kd
    have va := h.2.1.2.2.2.2.2.2.1 e
    unfold sp_longPart at part ⊢
    rw [if_pos e] at part ⊢
    simp only [kd, if_true, va]
    have nb := num_le e
    rcases rx_num (lo := 1) (hi := 7) h hk (by omega) (by omega) with ⟨n1, n2, n3, n4, n5, n6⟩ | ⟨n1, n2⟩
    · rw [n1] at part ⊢
      simp only [eb_ok] at part ⊢
      rw [n2, bd_l]
      obtain ⟨s1, u1, u2, u3⟩ := rw_next h.1 h.2.1 hk
      have pgt := nx_gt n4
      have g1 := h.fl u2 u3 (by omega)
      have f1 : FP P hv n σ s1 := u2.fp
      have b1 := ri_0 g1.1.1
      simp only [a0, ck_T, eq_self, u1, bd_l, b1]
      -- behind the sign '
      have back : ∀ s2 f, EP P T hv ms m.pl n σ f s2 → ∃ v, (x_chk (s2.K (P.base + 11) = 12) <| x_let (s2.I 1136 (P.base + 11)) fun v_22 => x_bind (dm_X12_takeDigits P (P.base + 11) (nI (lx_num T p)) s2) (fun v_23 σ_24 => x_chk (σ_24.K (P.base + 11) = 12) <| x_bind (dm_X12_next P (P.base + 11) σ_24) (fun _ σ_27 => x_chk (σ_27.K (P.base + 11) = 12) <| x_bind (dm_X12_ok P (P.base + 11) σ_27) (fun v_30 σ_31 => if v_30 = nI 0 then dm_X12_longRef_p77 P (P.base + 11) (-nI 1) σ_31 else x_chk (σ_31.K (P.base + 11) = 12) <| x_bind (dm_X12_addRef P (P.base + 11) (nI 3) (nI p) (-nI 1) v_22 (nI (lx_num T p)) σ_31) (fun v_35 σ_36 => dm_X12_longRef_p77 P (P.base + 11) v_35 σ_36) (fun E_39 σ_36 => some (.inr E_39, σ_36))) (fun E_40 σ_31 => some (.inr E_40, σ_31))) (fun E_41 σ_27 => some (.inr E_41, σ_27))) (fun E_42 σ_24 => some (.inr E_42, σ_24)) : xO Int32) = some (.inl v, s2) := by
        intro s2 f hq
        have dq := hq.2
        have c0 := ri_0 dq.de.1
        obtain ⟨v, hv'⟩ := rd_takeDigits dq (w := lx_num T p) (by omega)
        have nx := rd_next dq.de
        have okd := rd_ok dq.de.1 (by have := dq.de.2.2; omega) dq.de.2.1
        refine ⟨nN, ?_⟩
        simp only [c0, ck_T, eq_self, lt_e, hv', bd_l, nx, okd, if_true]
        rfl
      by_cases d1 : lx_kind T (lx_nx T p) = 4
      · have dq := g1.bad d1
        have ns := rd_needSign dq.de
        obtain ⟨v, hb⟩ := back s1 _ ⟨f1, dq⟩
        rw [dz_sign d1, eb_er]
        refine Rr.er (v := v) (σ' := s1) ?_ ⟨f1, dq⟩
        rw [ns, bd_l]
        exact hb
      · obtain ⟨v, s2, q1, q2⟩ := rx_sign (σ0 := σ) (c := 39) g1 d1 (by omega) f1
        rw [q1, bd_l]
        cases e3 : sp_sign T 39 (lx_nx T p) with
        | error g =>
          rw [e3] at q2
          obtain ⟨v, hb⟩ := back s2 _ q2
          exact Rr.er hb q2
        | ok p2 =>
          rw [e3] at q2 part
          obtain ⟨f2, g2⟩ := q2
          simp only [eb_ok] at part ⊢
          by_cases d2 : lx_kind T p2 = 4
          · have dq := g2.bad d2
            obtain ⟨v, hb⟩ := back s2 _ ⟨f2, dq⟩
            have er : sp_digits T p (lx_num T p) (lx_num T p) p2 = .error p2 := by unfold sp_digits; rw [dz_name d2, eb_er]
            rw [er]
            exact Rr.er hb ⟨f2, dq⟩
          · have b2 := ri_0 g2.1.1
            have fr2 := g2.2.1.2.1
            simp only [b2, ck_T, eq_self, lt_e, fr2]
            obtain ⟨v, s3, w1, w2⟩ := rw_takeDigits (pl := p) (lo := lx_num T p) (hi := lx_num T p) g2 d2 (Or.inr ⟨n5, n6, rfl, rfl⟩)
            rw [w1, bd_l]
            cases e4 : sp_digits T p (lx_num T p) (lx_num T p) p2 with
            | error g =>
              rw [e4] at w2
              obtain ⟨rfl, rfl⟩ := w2
              have fq := RXfail g2
              have c0 := ri_0 fq.de.1
              have nx := rd_next fq.de
              have okd := rd_ok fq.de.1 (by have := fq.de.2.2; omega) fq.de.2.1
              refine Rr.er (v := nN) (σ' := fl P s2 g) ?_ ⟨f2.trans fl_FL.fp (Nat.le_refl _), fq⟩
              unfold dm_X12_longRef_p77
              simp (disch := first | assumption | omega) [ck_T, sm_s, bd_l, bd_r, lt_e, eq_self, and_self, if_true, true_and, and_true, lit_nI, nI_add, nI_mul, nI_sub, nI_clamp, nI_eq, nI_ltI, nI_leI, nN_e, nI_nN, nN_nI, bI_0, bI_1, bI_n, bool_0, bool_1, in_T, lg_cmp0, ofN_nI, c0, nx, okd]
            | ok q =>
              rw [e4] at w2
              obtain ⟨rfl, z1, z2, z3, z4, z5⟩ := w2
              have rq := part q e4
              obtain ⟨s4, y1, y2, y3⟩ := rw_next g2.1 g2.2.1 d2
              have pgt2 := nx_gt z2.lt
              rw [← z4] at y3
              have g4 := g2.fl y2 y3 (by rw [z4]; omega)
              have f4 : FP P hv n σ s4 := f2.trans y2.fp (Nat.le_refl _)
              have b4 := ri_0 g4.1.1
              simp only [b2, ck_T, eq_self, y1, bd_l, b4]
              by_cases d4 : lx_kind T q.2 = 4
              · have dq := g4.bad d4
                have okd := rd_ok dq.de.1 (by have := dq.de.2.2; omega) dq.de.2.1
                refine Rr.ok (v := nN) (σ' := s4) ?_ ⟨f4, fun z => absurd d4 z, fun _ => dq⟩
                unfold dm_X12_longRef_p77
                simp (disch := first | assumption | omega) [ck_T, sm_s, bd_l, bd_r, lt_e, eq_self, and_self, if_true, true_and, and_true, lit_nI, nI_add, nI_mul, nI_sub, nI_clamp, nI_eq, nI_ltI, nI_leI, nN_e, nI_nN, nN_nI, bI_0, bI_1, bI_n, bool_0, bool_1, in_T, lg_cmp0, ofN_nI, okd]
              · have ok4 := rw_ok g4.1.1 (g4.2.1.ok d4)
                have x1 : q.1.1 = 3 := by rw [z3]
                have x2 : q.1.2.1 = p := by rw [z3]
                have lw := z5 (by omega)
                obtain ⟨t1, t2⟩ := QP.mk (p0 := 0) (x := q.1) g4 f4 d4 rq (so := nI 3) (pl := nI p) (k := nN) (a := nI p2) (b := nI (lx_num T p)) (by rw [x1]) (by rw [x2]) (fun _ => ⟨p2, rfl, z2, by rw [lw]⟩) (fun z => absurd x1 z) (fun z => by omega)
                refine Rr.ok (v := nI (512 * hv + n)) (σ' := adR P hv n s4 (nI 3) (nI p) nN (nI p2) (nI (lx_num T p))) ?_ t1
                unfold dm_X12_longRef_p77
                simp (disch := first | assumption | omega) [ck_T, sm_s, bd_l, bd_r, lt_e, eq_self, and_self, if_true, true_and, and_true, lit_nI, nI_add, nI_mul, nI_sub, nI_clamp, nI_eq, nI_ltI, nI_leI, nN_e, nI_nN, nN_nI, bI_0, bI_1, bI_n, bool_0, bool_1, in_T, lg_cmp0, ofN_nI, b4, ok4, t2]
    · rw [n1, eb_er]
      rw [n2, bd_l]
      have fq := RXfail h
      have c0 := ri_0 fq.de.1
      have nx := rd_next fq.de
      have ns := rd_needSign fq.de
      have okd := rd_ok fq.de.1 (by have := fq.de.2.2; omega) fq.de.2.1
      obtain ⟨v, hv'⟩ := rd_takeDigits fq (w := lx_num T p) (by omega)
      refine Rr.er (v := nN) (σ' := fl P σ p) ?_ ⟨f0.trans fl_FL.fp (Nat.le_refl _), fq⟩
      unfold dm_X12_longRef_p77
      simp (disch := first | assumption | omega) [ck_T, sm_s, bd_l, bd_r, lt_e, eq_self, and_self, if_true, true_and, and_true, lit_nI, nI_add, nI_mul, nI_sub, nI_clamp, nI_eq, nI_ltI, nI_leI, nN_e, nI_nN, nN_nI, bI_0, bI_1, bI_n, bool_0, bool_1, in_T, lg_cmp0, ofN_nI, c0, nx, ns, okd, hv']
  · have e2 : ¬ rKd T p = 2 := fun z => e ((rKd_2 hk).mp z)
    have e3 : ¬ σ.I 1135 (P.base + 11) = nI 2 := by
      rw [kd]
      exact fun z => e2 ((nI_eq (by omega) (by omega)).mp z)
    simp only [e3, if_false]
    exact rw_p78 h hk e
theorem rd_longRef {P : xP} {σ : xS} {f : Nat} (h : DE P σ f) : dm_X12_longRef P (P.base + 11) σ = some (.inl nN, σ) := by
  have ok := rd_ok h.1 (by have := h.2.2; omega) h.2.1
  have a0 := ri_0 h.1
  have tn := rd_takeNet h
  have nx := rd_next h
  have is := rd_isSign h
  unfold dm_X12_longRef dm_X12_longRef_p78 dm_X12_longRef_p116
  simp (disch := first | assumption | omega) [ck_T, sm_s, bd_l, bd_r, lt_e, eq_self, and_self, if_true, true_and, and_true, lit_nI, nI_add, nI_mul, nI_sub, nI_clamp, nI_eq, nI_ltI, nI_leI, nN_e, nI_nN, nN_nI, bI_0, bI_1, bI_n, bool_0, bool_1, in_T, lg_cmp0, ofN_nI, a0, ok, tn, nx, is]
theorem rd_shortRef {P : xP} {σ : xS} {f : Nat} (h : DE P σ f) : dm_X12_shortRef P (P.base + 11) σ = some (.inl nN, σ) := by
  have ok := rd_ok h.1 (by have := h.2.2; omega) h.2.1
  have a0 := ri_0 h.1
  have tn := rd_takeNet h
  have nx := rd_next h
  have is := rd_isSign h
  unfold dm_X12_shortRef dm_X12_shortRef_p92
  simp (disch := first | assumption | omega) [ck_T, sm_s, bd_l, bd_r, lt_e, eq_self, and_self, if_true, true_and, and_true, lit_nI, nI_add, nI_mul, nI_sub, nI_clamp, nI_eq, nI_ltI, nI_leI, nN_e, nI_nN, nN_nI, bI_0, bI_1, bI_n, bool_0, bool_1, in_T, lg_cmp0, ofN_nI, a0, ok, tn, nx, is]
theorem rd_p164 {P : xP} {σ : xS} {f : Nat} (h : DE P σ f) (v1 v2 v3 v4 v5 : Int32) : dm_X12_shortRef_p164 P (P.base + 11) v1 v2 v3 v4 v5 σ = some (.inl nN, σ) := by
  have ok := rd_ok h.1 (by have := h.2.2; omega) h.2.1
  have a0 := ri_0 h.1
  unfold dm_X12_shortRef_p164 dm_X12_shortRef_p186
  simp (disch := first | assumption | omega) [ck_T, sm_s, bd_l, bd_r, lt_e, eq_self, and_self, if_true, true_and, and_true, lit_nI, nI_add, nI_mul, nI_sub, nI_clamp, nI_eq, nI_ltI, nI_leI, nN_e, nI_nN, nN_nI, bI_0, bI_1, bI_n, bool_0, bool_1, in_T, lg_cmp0, ofN_nI, a0, ok]
theorem sp_net2 {T : xT} {ns : List xNet} {p : Nat} : sp_netPart T 46 46 ns p = eb (sp_tn T ns p) fun x => if sp_is T 46 (lx_nx T p) = true then eb (sp_num T 0 (x.2.2 - 1) (lx_nx T (lx_nx T p))) fun q => if sp_is T 46 q.2 = true then eb (sp_num T 0 q.1 (lx_nx T q.2)) fun q2 => .ok ((2, p, lx_nm T p, q.1, q2.1, []), q2.2) else .ok ((1, p, lx_nm T p, q.1, q.1, []), q.2) else .ok ((0, p, lx_nm T p, x.2.2 - 1, 0, []), lx_nx T p) := by
  unfold sp_netPart sp_tn
  cases e : sp_name T p with
  | error f => rfl
  | ok nm =>
    have en := (sp_name_ok e).2
    subst en
    simp only [eb_ok]
    cases ef : sp_find ns (lx_nm T p) with
    | none => rfl
    | some x =>
      simp only
      by_cases e3 : x.2.1 = 3
      · rw [if_pos e3, if_pos e3]; rfl
      · rw [if_neg e3, if_neg e3, eb_ok]
theorem rw_p164 {P : xP} {T : xT} {hv : Nat} {lng : Bool} {ms : List xMod} {m : xMod} {n : Nat} {σ0 σ : xS} {p : Nat} (h : RX P T hv lng ms m n σ p) (f : FP P hv n σ0 σ) {x : xPart} {j : Nat} (hs : RSl T (n + 1) p) (hx : x.1 = 1 ∨ x.1 = 2) (hj : j < 16) (hj2 : (m.nets[j]?).map (fun y => y.1) = some x.2.2.1) : Rr (dm_X12_shortRef_p164 P (P.base + 11) (nI x.2.1) (nI j) (nI x.2.2.2.1) (nI x.2.2.2.2.1) (nI x.1) σ) (.ok (x, p)) (QP P T hv lng ms m n σ0) (EP P T hv ms m.pl n σ0) := by
  have a0 := ri_0 h.1.1
  by_cases hk : lx_kind T p = 4
  · have dq := h.bad hk
    exact Rr.ok (rd_p164 dq.de _ _ _ _ _) ⟨f, fun z => absurd hk z, fun _ => dq⟩
  · have ok := rw_ok h.1.1 (h.2.1.ok hk)
    obtain ⟨w1, w2⟩ := QP.mk (p0 := 0) (x := x) h f hk hs (so := nI x.1) (pl := nI x.2.1) (k := nI j) (a := nI x.2.2.2.1) (b := nI x.2.2.2.2.1) rfl rfl (fun z => by omega) (fun _ => ⟨j, rfl, hj, hj2⟩) (fun _ => ⟨rfl, rfl⟩)
    refine Rr.ok (v := nI (512 * hv + n)) (σ' := adR P hv n σ (nI x.1) (nI x.2.1) (nI j) (nI x.2.2.2.1) (nI x.2.2.2.2.1)) ?_ w1
    unfold dm_X12_shortRef_p164 dm_X12_shortRef_p186
    simp (disch := first | assumption | omega) [ck_T, sm_s, bd_l, bd_r, lt_e, eq_self, and_self, if_true, true_and, and_true, lit_nI, nI_add, nI_mul, nI_sub, nI_clamp, nI_eq, nI_ltI, nI_leI, nN_e, nI_nN, nN_nI, bI_0, bI_1, bI_n, bool_0, bool_1, in_T, lg_cmp0, ofN_nI, a0, ok, w2]
theorem rw_shortRef {P : xP} {T : xT} {hv : Nat} {lng : Bool} {ms : List xMod} {m : xMod} {n : Nat} {σ : xS} {p : Nat} (h : RX P T hv lng ms m n σ p) (hk : lx_kind T p ≠ 4) : Rr (dm_X12_shortRef P (P.base + 11) σ) (sp_shortPart T m.nets p) (QP P T hv lng ms m n σ) (EP P T hv ms m.pl n σ) := by
  have a0 := ri_0 h.1.1
  have t1 := h.1.2.1.1
  have fr := h.2.1.2.1
  have f0 := FP.refl P hv n σ
  have rs := h.2.2.2.2.1.2
  have hT := h.1.2.1
  have n10 : ¬ nI 1 = nI 0 := by decide
  have part : ∀ q, sp_shortPart T m.nets p = .ok q → RSl T (n + 1) q.2 := fun q hq => rs.part hT (lng := false) (ns := m.nets) (p := p) hq
  have is0 := rw_isSign h.1 h.2.1 hk (s := 39) (by omega)
  unfold sp_shortPart at part ⊢
  unfold dm_X12_shortRef
  simp only [a0, ck_T, eq_self, lit_nI, lt_e, fr, is0, bd_l]
  by_cases e : sp_is T 39 p = true
  · rw [if_pos e] at part ⊢
    rw [e]
    simp only [bI_tt, n10, if_false]
    obtain ⟨s1, u1, u2, u3⟩ := rw_next h.1 h.2.1 hk
    have pgt := is_p e
    have g1 := h.fl u2 u3 (by omega)
    have f1 : FP P hv n σ s1 := u2.fp
    have b1 := ri_0 g1.1.1
    have fr1 := g1.2.1.2.1
    simp only [u1, bd_l, b1, ck_T, eq_self, lt_e, fr1]
    by_cases d1 : lx_kind T (lx_nx T p) = 4
    · have dq := g1.bad d1
      obtain ⟨v, hv'⟩ := rd_takeDigits dq (w := 0) (by omega)
      have nx := rd_next dq.de
      have okd := rd_ok dq.de.1 (by have := dq.de.2.2; omega) dq.de.2.1
      have er : sp_digits T p 1 7 (lx_nx T p) = .error (lx_nx T p) := by unfold sp_digits; rw [dz_name d1, eb_er]
      rw [er]
      refine Rr.er (v := nN) (σ' := s1) ?_ ⟨f1, dq⟩
      unfold dm_X12_shortRef_p53
      simp (disch := first | assumption | omega) [ck_T, sm_s, bd_l, bd_r, lt_e, eq_self, and_self, if_true, true_and, and_true, lit_nI, nI_add, nI_mul, nI_sub, nI_clamp, nI_eq, nI_ltI, nI_leI, nN_e, nI_nN, nN_nI, bI_0, bI_1, bI_n, bool_0, bool_1, in_T, lg_cmp0, ofN_nI, b1, hv', nx, okd]
    · obtain ⟨v, s3, w1, w2⟩ := rw_takeDigits (pl := p) (lo := 1) (hi := 7) (w := 0) g1 d1 (Or.inl ⟨rfl, rfl, rfl⟩)
      rw [w1, bd_l]
      cases e4 : sp_digits T p 1 7 (lx_nx T p) with
      | error g =>
        rw [e4] at w2
        obtain ⟨rfl, rfl⟩ := w2
        have fq := RXfail g1
        have c0 := ri_0 fq.de.1
        have nx := rd_next fq.de
        have okd := rd_ok fq.de.1 (by have := fq.de.2.2; omega) fq.de.2.1
        refine Rr.er (v := nN) (σ' := fl P s1 _) ?_ ⟨f1.trans fl_FL.fp (Nat.le_refl _), fq⟩
        unfold dm_X12_shortRef_p53
        simp (disch := first | assumption | omega) [ck_T, sm_s, bd_l, bd_r, lt_e, eq_self, and_self, if_true, true_and, and_true, lit_nI, nI_add, nI_mul, nI_sub, nI_clamp, nI_eq, nI_ltI, nI_leI, nN_e, nI_nN, nN_nI, bI_0, bI_1, bI_n, bool_0, bool_1, in_T, lg_cmp0, ofN_nI, c0, nx, okd]
      | ok q =>
        rw [e4] at w2
        obtain ⟨rfl, z1, z2, z3, z4, z5⟩ := w2
        have rq := part q e4
        obtain ⟨s4, y1, y2, y3⟩ := rw_next g1.1 g1.2.1 d1
        have pgt2 := nx_gt z2.lt
        rw [← z4] at y3
        have g4 := g1.fl y2 y3 (by rw [z4]; omega)
        have f4 : FP P hv n σ s4 := f1.trans y2.fp (Nat.le_refl _)
        have b4 := ri_0 g4.1.1
        simp only [b1, ck_T, eq_self, y1, bd_l, b4]
        by_cases d4 : lx_kind T q.2 = 4
        · have dq := g4.bad d4
          have okd := rd_ok dq.de.1 (by have := dq.de.2.2; omega) dq.de.2.1
          refine Rr.ok (v := nN) (σ' := s4) ?_ ⟨f4, fun z => absurd d4 z, fun _ => dq⟩
          unfold dm_X12_shortRef_p53
          simp (disch := first | assumption | omega) [ck_T, sm_s, bd_l, bd_r, lt_e, eq_self, and_self, if_true, true_and, and_true, lit_nI, nI_add, nI_mul, nI_sub, nI_clamp, nI_eq, nI_ltI, nI_leI, nN_e, nI_nN, nN_nI, bI_0, bI_1, bI_n, bool_0, bool_1, in_T, lg_cmp0, ofN_nI, okd]
        · have ok4 := rw_ok g4.1.1 (g4.2.1.ok d4)
          have x1 : q.1.1 = 3 := by rw [z3]
          have x2 : q.1.2.1 = p := by rw [z3]
          obtain ⟨t1, t2⟩ := QP.mk (p0 := 0) (x := q.1) g4 f4 d4 rq (so := nI 3) (pl := nI p) (k := nN) (a := nI (lx_nx T p)) (b := v) (by rw [x1]) (by rw [x2]) (fun _ => ⟨_, rfl, z2, z1⟩) (fun z => absurd x1 z) (fun z => by omega)
          refine Rr.ok (v := nI (512 * hv + n)) (σ' := adR P hv n s4 (nI 3) (nI p) nN (nI (lx_nx T p)) v) ?_ t1
          unfold dm_X12_shortRef_p53
          simp (disch := first | assumption | omega) [ck_T, sm_s, bd_l, bd_r, lt_e, eq_self, and_self, if_true, true_and, and_true, lit_nI, nI_add, nI_mul, nI_sub, nI_clamp, nI_eq, nI_ltI, nI_leI, nN_e, nI_nN, nN_nI, bI_0, bI_1, bI_n, bool_0, bool_1, in_T, lg_cmp0, ofN_nI, b4, ok4, t2]
  · have e' : sp_is T 39 p = false := by simpa using e
    rw [if_neg e] at part ⊢
    rw [e']
    rw [sp_net2] at part ⊢
    simp only [bI_ff, if_true, a0, ck_T, eq_self]
    obtain ⟨v, s, q1, q2⟩ := rw_takeNet h hk
    rw [q1, bd_l]
    cases e : sp_tn T m.nets p with
    | error g =>
      rw [e] at q2
      obtain ⟨rfl, rfl⟩ := q2
      have fq := RXfail h
      have b0 := ri_0 fq.de.1
      have nx := rd_next fq.de
      have is := rd_isSign fq.de
      have ok := rd_ok fq.de.1 (by have := fq.de.2.2; omega) fq.de.2.1
      refine Rr.er (v := nN) (σ' := fl P σ g) ?_ ⟨f0.trans fl_FL.fp (Nat.le_refl _), fq⟩
      unfold dm_X12_shortRef_p92
      simp (disch := first | assumption | omega) [ck_T, sm_s, bd_l, bd_r, lt_e, eq_self, and_self, if_true, true_and, and_true, lit_nI, nI_add, nI_mul, nI_sub, nI_clamp, nI_eq, nI_ltI, nI_leI, nN_e, nI_nN, nN_nI, bI_0, bI_1, bI_n, bool_0, bool_1, in_T, lg_cmp0, ofN_nI, b0, nx, is, ok]
    | ok x =>
      rw [e] at q2 part
      obtain ⟨rfl, x1, x2, x3, xm, j, rfl, j2, j16⟩ := q2
      simp only [eb_ok] at part ⊢
      have hp := (kind_nm (Or.inl x2)).1
      obtain ⟨s1, u1, u2, u3⟩ := rw_next h.1 h.2.1 hk
      have pgt := nx_gt hp
      have g1 := h.fl u2 u3 (by omega)
      have f1 : FP P hv n s s1 := u2.fp
      have b1 := ri_0 g1.1.1
      have nw := h.2.2.2.2.2.2.1.2.1.1 x xm
      have wx := nw.2.2.2 x3
      have w8 := nw.2.2.1
      have nmj : (m.nets[j]?).map (fun y => y.1) = some (lx_nm T p) := by rw [j2]; simp [x1]
      simp only [a0, ck_T, eq_self, u1, bd_l, b1]
      by_cases d1 : lx_kind T (lx_nx T p) = 4
      · have dq := g1.bad d1
        have is := rd_isSign dq.de
        have ok := rd_ok dq.de.1 (by have := dq.de.2.2; omega) dq.de.2.1
        rw [if_neg (by rw [dz_is d1]; simp)]
        refine Rr.ok (v := nN) (σ' := s1) ?_ ⟨f1, fun z => absurd d1 z, fun _ => dq⟩
        unfold dm_X12_shortRef_p92
        simp (disch := first | assumption | omega) [ck_T, sm_s, bd_l, bd_r, lt_e, eq_self, and_self, if_true, true_and, and_true, lit_nI, nI_add, nI_mul, nI_sub, nI_clamp, nI_eq, nI_ltI, nI_leI, nN_e, nI_nN, nN_nI, bI_0, bI_1, bI_n, bool_0, bool_1, in_T, lg_cmp0, ofN_nI, b1, is, ok]
      have is1 := rw_isSign g1.1 g1.2.1 d1 (s := 46) (by omega)
      rw [is1, bd_l]
      by_cases i1 : sp_is T 46 (lx_nx T p) = true
      · rw [if_pos i1] at part ⊢
        rw [i1]
        simp only [bI_tt, n10, if_false, b1, ck_T, eq_self]
        obtain ⟨s2, v1, v2, v3⟩ := rw_next g1.1 g1.2.1 d1
        have pgt2 := is_p i1
        have g2 := g1.fl v2 v3 (by omega)
        have f2 : FP P hv n s s2 := f1.trans v2.fp (Nat.le_refl _)
        have b2 := ri_0 g2.1.1
        have nc := rw_netCell g2.1 g2.2.2.1 j
        have a28 := ri_28 g2.1.1
        have a29 := ri_29 g2.1.1
        have a30 := ri_30 g2.1.1
        have hv1 := g2.1.2.2.1
        have m8 := g2.2.2.2.1
        have wd : s2.AI (P.base + 21) (16 * (8 * hv + ms.length) + j) = nI x.2.2 := (g2.net j2).2.2.1
        rw [v1, bd_l]
        simp (disch := first | assumption | omega) [ck_T, sm_s, bd_l, bd_r, lt_e, eq_self, and_self, if_true, true_and, and_true, lit_nI, nI_add, nI_mul, nI_sub, nI_clamp, nI_eq, nI_ltI, nI_leI, nN_e, nI_nN, nN_nI, bI_0, bI_1, bI_n, bool_0, bool_1, in_T, lg_cmp0, ofN_nI, b2, nc, a28, a29, a30, x_in, dlt_T, wd]
        by_cases d2 : lx_kind T (lx_nx T (lx_nx T p)) = 4
        · have dq := g2.bad d2
          have nn := rd_needNumber dq.de
          have nx := rd_next dq.de
          have is := rd_isSign dq.de
          rw [dz_num d2, eb_er]
          refine Rr.er (v := nN) (σ' := s2) ?_ ⟨f2, dq⟩
          simp (disch := first | assumption | omega) [ck_T, sm_s, bd_l, bd_r, lt_e, eq_self, and_self, if_true, true_and, and_true, lit_nI, nI_add, nI_mul, nI_sub, nI_clamp, nI_eq, nI_ltI, nI_leI, nN_e, nI_nN, nN_nI, bI_0, bI_1, bI_n, bool_0, bool_1, in_T, lg_cmp0, ofN_nI, b2, nn, nx, is, rd_p164 dq.de]
        · rcases rx_num (lo := 0) (hi := x.2.2 - 1) g2 d2 (by omega) (by omega) with ⟨n1, n2, n3, n4, n5, n6⟩ | ⟨n1, n2⟩
          · rw [n1] at part ⊢
            simp only [eb_ok] at part ⊢
            rw [n2, bd_l]
            obtain ⟨s3, w1, w2, w3⟩ := rw_next g2.1 g2.2.1 d2
            have pgt3 := nx_gt n4
            have g3 := g2.fl w2 w3 (by omega)
            have f3 : FP P hv n s s3 := f2.trans w2.fp (Nat.le_refl _)
            have b3 := ri_0 g3.1.1
            simp only [b2, ck_T, eq_self, lt_e, n3, w1, bd_l, b3]
            by_cases d3 : lx_kind T (lx_nx T (lx_nx T (lx_nx T p))) = 4
            · have dq := g3.bad d3
              have is := rd_isSign dq.de
              rw [if_neg (by rw [dz_is d3]; simp)]
              refine Rr.ok (v := nN) (σ' := s3) ?_ ⟨f3, fun z => absurd d3 z, fun _ => dq⟩
              simp (disch := first | assumption | omega) [ck_T, sm_s, bd_l, bd_r, lt_e, eq_self, and_self, if_true, true_and, and_true, lit_nI, nI_add, nI_mul, nI_sub, nI_clamp, nI_eq, nI_ltI, nI_leI, nN_e, nI_nN, nN_nI, bI_0, bI_1, bI_n, bool_0, bool_1, in_T, lg_cmp0, ofN_nI, is, rd_p164 dq.de]
            · have is3 := rw_isSign g3.1 g3.2.1 d3 (s := 46) (by omega)
              rw [is3, bd_l]
              by_cases i3 : sp_is T 46 (lx_nx T (lx_nx T (lx_nx T p))) = true
              · rw [if_pos i3] at part ⊢
                rw [i3]
                simp only [bI_tt, n10, if_false, b3, ck_T, eq_self]
                obtain ⟨s4, y1, y2, y3⟩ := rw_next g3.1 g3.2.1 d3
                have pgt4 := is_p i3
                have g4 := g3.fl y2 y3 (by omega)
                have f4 : FP P hv n s s4 := f3.trans y2.fp (Nat.le_refl _)
                have b4 := ri_0 g4.1.1
                rw [y1, bd_l]
                simp only [b4, ck_T, eq_self]
                by_cases d4 : lx_kind T (lx_nx T (lx_nx T (lx_nx T (lx_nx T p)))) = 4
                · have dq := g4.bad d4
                  have nn := rd_needNumber dq.de
                  have nx := rd_next dq.de
                  rw [dz_num d4, eb_er]
                  refine Rr.er (v := nN) (σ' := s4) ?_ ⟨f4, dq⟩
                  simp (disch := first | assumption | omega) [ck_T, sm_s, bd_l, bd_r, lt_e, eq_self, and_self, if_true, true_and, and_true, lit_nI, nI_add, nI_mul, nI_sub, nI_clamp, nI_eq, nI_ltI, nI_leI, nN_e, nI_nN, nN_nI, bI_0, bI_1, bI_n, bool_0, bool_1, in_T, lg_cmp0, ofN_nI, b4, nn, nx, rd_p164 dq.de]
                · have nb := num_le (show lx_kind T (lx_nx T (lx_nx T p)) = 2 by unfold sp_num at n1; split at n1; rename_i z; exact z.1; cases n1)
                  rcases rx_num (lo := 0) (hi := lx_num T (lx_nx T (lx_nx T p))) g4 d4 (by omega) (by omega) with ⟨m1, m2, m3, m4, m5, m6⟩ | ⟨m1, m2⟩
                  · rw [m1] at part ⊢
                    simp only [eb_ok] at part ⊢
                    rw [m2, bd_l]
                    obtain ⟨s5, z1, z2, z3⟩ := rw_next g4.1 g4.2.1 d4
                    have pgt5 := nx_gt m4
                    have g5 := g4.fl z2 z3 (by omega)
                    have f5 : FP P hv n s s5 := f4.trans z2.fp (Nat.le_refl _)
                    simp only [b4, ck_T, eq_self, lt_e, m3, z1, bd_l]
                    exact rw_p164 (x := (2, p, lx_nm T p, lx_num T (lx_nx T (lx_nx T p)), lx_num T (lx_nx T (lx_nx T (lx_nx T (lx_nx T p)))), [])) g5 f5 (part _ rfl) (Or.inr rfl) j16 nmj
                  · rw [m1, eb_er]
                    rw [m2, bd_l]
                    have fq := RXfail g4
                    have c0 := ri_0 fq.de.1
                    have nx := rd_next fq.de
                    refine Rr.er (v := nN) (σ' := fl P s4 _) ?_ ⟨f4.trans fl_FL.fp (Nat.le_refl _), fq⟩
                    simp (disch := first | assumption | omega) [ck_T, sm_s, bd_l, bd_r, lt_e, eq_self, and_self, if_true, true_and, and_true, lit_nI, nI_add, nI_mul, nI_sub, nI_clamp, nI_eq, nI_ltI, nI_leI, nN_e, nI_nN, nN_nI, bI_0, bI_1, bI_n, bool_0, bool_1, in_T, lg_cmp0, ofN_nI, c0, nx, rd_p164 fq.de]
              · have i3' : sp_is T 46 (lx_nx T (lx_nx T (lx_nx T p))) = false := by simpa using i3
                rw [if_neg i3] at part ⊢
                rw [i3']
                simp only [bI_ff, if_true]
                exact rw_p164 (x := (1, p, lx_nm T p, lx_num T (lx_nx T (lx_nx T p)), lx_num T (lx_nx T (lx_nx T p)), [])) g3 f3 (part _ rfl) (Or.inl rfl) j16 nmj
          · rw [n1, eb_er]
            rw [n2, bd_l]
            have fq := RXfail g2
            have c0 := ri_0 fq.de.1
            have nx := rd_next fq.de
            have is := rd_isSign fq.de
            refine Rr.er (v := nN) (σ' := fl P s2 _) ?_ ⟨f2.trans fl_FL.fp (Nat.le_refl _), fq⟩
            simp (disch := first | assumption | omega) [ck_T, sm_s, bd_l, bd_r, lt_e, eq_self, and_self, if_true, true_and, and_true, lit_nI, nI_add, nI_mul, nI_sub, nI_clamp, nI_eq, nI_ltI, nI_leI, nN_e, nI_nN, nN_nI, bI_0, bI_1, bI_n, bool_0, bool_1, in_T, lg_cmp0, ofN_nI, c0, nx, is, rd_p164 fq.de]
      · have i1' : sp_is T 46 (lx_nx T p) = false := by simpa using i1
        rw [if_neg i1] at part ⊢
        rw [i1']
        have ok := rw_ok g1.1.1 (g1.2.1.ok d1)
        obtain ⟨w1, w2⟩ := QP.mk (p0 := 0) (x := (0, p, lx_nm T p, x.2.2 - 1, 0, [])) g1 f1 d1 (part _ rfl) (so := nI 0) (pl := nI p) (k := nI j) (a := nI 0) (b := nI 0) rfl rfl (fun z => by simp at z) (fun _ => ⟨j, rfl, j16, nmj⟩) (fun z => by simp at z)
        refine Rr.ok (v := nI (512 * hv + n)) (σ' := adR P hv n s1 (nI 0) (nI p) (nI j) (nI 0) (nI 0)) ?_ w1
        unfold dm_X12_shortRef_p92
        simp (disch := first | assumption | omega) [ck_T, sm_s, bd_l, bd_r, lt_e, eq_self, and_self, if_true, true_and, and_true, lit_nI, nI_add, nI_mul, nI_sub, nI_clamp, nI_eq, nI_ltI, nI_leI, nN_e, nI_nN, nN_nI, bI_0, bI_1, bI_n, bool_0, bool_1, in_T, lg_cmp0, ofN_nI, b1, bI_ff, ok, w2]
