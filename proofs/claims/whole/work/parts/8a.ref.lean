/-! ===== the reference: longRef ===== -/
theorem rx_num {P : xP} {T : xT} {hv : Nat} {lng : Bool} {ms : List xMod} {m : xMod} {n : Nat} {σ : xS} {p lo hi : Nat} (h : RX P T hv lng ms m n σ p) (hk : lx_kind T p ≠ 4) (hlo : lo < 2 ^ 31) (hhi : hi < 2 ^ 31) : (sp_num T lo hi p = .ok (lx_num T p, lx_nx T p) ∧ dm_X12_needNumber P (P.base + 11) (nI lo) (nI hi) σ = some (.inl (), σ) ∧ σ.I 1138 (P.base + 11) = nI (lx_num T p) ∧ p < T.2 ∧ lo ≤ lx_num T p ∧ lx_num T p ≤ hi) ∨ (sp_num T lo hi p = .error p ∧ dm_X12_needNumber P (P.base + 11) (nI lo) (nI hi) σ = some (.inl (), fl P σ p)) := by
  have q := rw_needNumber h.1 h.2.1 hk hlo hhi
  unfold sp_num
  by_cases e : lx_kind T p = 2 ∧ lo ≤ lx_num T p ∧ lx_num T p ≤ hi
  · left
    rw [if_pos e] at q ⊢
    exact ⟨rfl, q, h.2.1.2.2.2.2.2.2.1 e.1, (kind_num e.1).1, e.2.1, e.2.2⟩
  · right
    rw [if_neg e] at q ⊢
    exact ⟨rfl, q⟩
theorem dz_is {T : xT} {c p : Nat} (h : lx_kind T p = 4) : sp_is T c p = false := by unfold sp_is; rw [h]; rfl
theorem dz_num {T : xT} {lo hi p : Nat} (h : lx_kind T p = 4) : sp_num T lo hi p = .error p := by unfold sp_num; rw [if_neg (by rw [h]; simp)]
theorem dz_sign {T : xT} {c p : Nat} (h : lx_kind T p = 4) : sp_sign T c p = .error p := by unfold sp_sign; rw [dz_is h]; rfl
theorem dz_name {T : xT} {p : Nat} (h : lx_kind T p = 4) : sp_name T p = .error p := by unfold sp_name; rw [if_neg (by rw [h]; simp)]
theorem dz_txt {T : xT} {l : List Nat} {p : Nat} (h : lx_kind T p = 4) : sp_txt T l p = false := by unfold sp_txt; rw [h]; rfl
theorem lp_net {T : xT} {ns : List xNet} {p : Nat} (hk : lx_kind T p ≠ 2) : sp_longPart T ns p = eb (sp_tn T ns p) fun x => if sp_is T 91 (lx_nx T p) = true then eb (sp_num T 0 (x.2.2 - 1) (lx_nx T (lx_nx T p))) fun q => if sp_is T 58 q.2 = true then eb (sp_num T 0 q.1 (lx_nx T q.2)) fun q2 => eb (sp_sign T 93 q2.2) fun p4 => .ok ((2, p, lx_nm T p, q.1, q2.1, []), p4) else eb (sp_sign T 93 q.2) fun p4 => .ok ((1, p, lx_nm T p, q.1, q.1, []), p4) else .ok ((0, p, lx_nm T p, x.2.2 - 1, 0, []), lx_nx T p) := by
  unfold sp_longPart sp_netPart sp_tn
  rw [if_neg hk]
  cases e : sp_name T p with
  | error f => rfl
  | ok nm =>
    have en := (sp_name_ok e).2
    subst en
    simp only [eb_ok]
    cases ef : sp_find ns (lx_nm T p) with
    | none => rfl
    | some x =>
      simp only
      by_cases e3 : x.2.1 = 3
      · rw [if_pos e3, if_pos e3]; rfl
      · rw [if_neg e3, if_neg e3, eb_ok]
        by_cases e4 : sp_is T 91 (lx_nx T p) = true
        · rw [if_pos e4, if_pos e4]
          cases e5 : sp_num T 0 (x.2.2 - 1) (lx_nx T (lx_nx T p)) with
          | error f => rfl
          | ok q =>
            simp only [eb_ok]
            by_cases e6 : sp_is T 58 q.2 = true
            · rw [if_pos e6, if_pos e6]
              cases e7 : sp_num T 0 q.1 (lx_nx T q.2) with
              | error f => rfl
              | ok q2 =>
                simp only [eb_ok]
                rw [if_neg (by simp)]
            · rw [if_neg e6, if_neg e6, eb_ok, if_neg (by simp)]
        · rw [if_neg e4, if_neg e4, eb_ok, if_pos rfl]
theorem rd_p188 {P : xP} {σ : xS} {f : Nat} (h : DE P σ f) (v1 v2 v3 v4 v5 : Int32) : dm_X12_longRef_p188 P (P.base + 11) v1 v2 v3 v4 v5 σ = some (.inl nN, σ) := by
  have ok := rd_ok h.1 (by have := h.2.2; omega) h.2.1
  have a0 := ri_0 h.1
  have ns := rd_needSign h
  unfold dm_X12_longRef_p188 dm_X12_longRef_p216
  simp (disch := first | assumption | omega) [ck_T, sm_s, bd_l, bd_r, lt_e, eq_self, and_self, if_true, true_and, and_true, lit_nI, nI_add, nI_mul, nI_sub, nI_clamp, nI_eq, nI_ltI, nI_leI, nN_e, nI_nN, nN_nI, bI_0, bI_1, bI_n, bool_0, bool_1, in_T, lg_cmp0, ofN_nI, a0, ok, ns]
/-- the ] and the end of a part -/
theorem rw_p188 {P : xP} {T : xT} {hv : Nat} {lng : Bool} {ms : List xMod} {m : xMod} {n : Nat} {σ0 σ : xS} {p : Nat} (h : RX P T hv lng ms m n σ p) (f : FP P hv n σ0 σ) {x : xPart} {j : Nat} (hs : ∀ p', p < p' → RSl T (n + 1) p') (hx : x.1 = 1 ∨ x.1 = 2) (hj : j < 16) (hj2 : (m.nets[j]?).map (fun y => y.1) = some x.2.2.1) : Rr (dm_X12_longRef_p188 P (P.base + 11) (nI x.2.1) (nI j) (nI x.2.2.2.1) (nI x.2.2.2.2.1) (nI x.1) σ) (eb (sp_sign T 93 p) fun p4 => .ok (x, p4)) (QP P T hv lng ms m n σ0) (EP P T hv ms m.pl n σ0) := by
  have a0 := ri_0 h.1.1
  by_cases hk : lx_kind T p = 4
  · rw [dz_sign hk, eb_er]
    have dq := h.bad hk
    exact Rr.er (rd_p188 dq.de _ _ _ _ _) ⟨f, dq⟩
  unfold dm_X12_longRef_p188
  simp only [a0, ck_T, eq_self, lit_nI]
  obtain ⟨v, s, q1, q2⟩ := rx_sign (σ0 := σ0) (c := 93) h hk (by omega) f
  rw [q1, bd_l]
  cases e : sp_sign T 93 p with
  | error g =>
    rw [e] at q2
    obtain ⟨q2, q3⟩ := q2
    have ok := rd_ok q3.de.1 (by have := q3.de.2.2; omega) q3.de.2.1
    have b0 := ri_0 q3.de.1
    refine Rr.er (v := nN) (σ' := s) ?_ ⟨q2, q3⟩
    unfold dm_X12_longRef_p216
    simp (disch := first | assumption | omega) [ck_T, sm_s, bd_l, bd_r, lt_e, eq_self, and_self, if_true, true_and, and_true, lit_nI, nI_add, nI_mul, nI_sub, nI_clamp, nI_eq, nI_ltI, nI_leI, nN_e, nI_nN, nN_nI, bI_0, bI_1, bI_n, bool_0, bool_1, in_T, lg_cmp0, ofN_nI, b0, ok]
  | ok p4 =>
    rw [e] at q2
    obtain ⟨q2, q3⟩ := q2
    have lt := (po_sign e).1
    have b0 := ri_0 q3.1.1
    rw [eb_ok]
    by_cases hk4 : lx_kind T p4 = 4
    · have dq := q3.bad hk4
      have ok := rd_ok dq.de.1 (by have := dq.de.2.2; omega) dq.de.2.1
      refine Rr.ok (v := nN) (σ' := s) ?_ ⟨q2, fun z => absurd hk4 z, fun _ => dq⟩
      unfold dm_X12_longRef_p216
      simp (disch := first | assumption | omega) [ck_T, sm_s, bd_l, bd_r, lt_e, eq_self, and_self, if_true, true_and, and_true, lit_nI, nI_add, nI_mul, nI_sub, nI_clamp, nI_eq, nI_ltI, nI_leI, nN_e, nI_nN, nN_nI, bI_0, bI_1, bI_n, bool_0, bool_1, in_T, lg_cmp0, ofN_nI, b0, ok]
    · have ok := rw_ok q3.1.1 (q3.2.1.ok hk4)
      obtain ⟨w1, w2⟩ := QP.mk (p0 := 0) (x := x) q3 q2 hk4 (hs p4 lt) (so := nI x.1) (pl := nI x.2.1) (k := nI j) (a := nI x.2.2.2.1) (b := nI x.2.2.2.2.1) rfl rfl (fun z => by omega) (fun _ => ⟨j, rfl, hj, hj2⟩) (fun _ => ⟨rfl, rfl⟩)
      refine Rr.ok (v := nI (512 * hv + n)) (σ' := adR P hv n s (nI x.1) (nI x.2.1) (nI j) (nI x.2.2.2.1) (nI x.2.2.2.2.1)) ?_ w1
      unfold dm_X12_longRef_p216
      simp (disch := first | assumption | omega) [ck_T, sm_s, bd_l, bd_r, lt_e, eq_self, and_self, if_true, true_and, and_true, lit_nI, nI_add, nI_mul, nI_sub, nI_clamp, nI_eq, nI_ltI, nI_leI, nN_e, nI_nN, nN_nI, bI_0, bI_1, bI_n, bool_0, bool_1, in_T, lg_cmp0, ofN_nI, b0, ok, w2]
theorem rw_p78 {P : xP} {T : xT} {hv : Nat} {lng : Bool} {ms : List xMod} {m : xMod} {n : Nat} {σ : xS} {p : Nat} (h : RX P T hv lng ms m n σ p) (hk : lx_kind T p ≠ 4) (hk2 : lx_kind T p ≠ 2) : Rr (dm_X12_longRef_p78 P (P.base + 11) (nI p) σ) (sp_longPart T m.nets p) (QP P T hv lng ms m n σ) (EP P T hv ms m.pl n σ) := by
  have a0 := ri_0 h.1.1
  have t1 := h.1.2.1.1
  have f0 := FP.refl P hv n σ
  have rs := h.2.2.2.2.1.2
  have hT := h.1.2.1
  have part : ∀ q, sp_longPart T m.nets p = .ok q → RSl T (n + 1) q.2 := fun q hq => rs.part hT (lng := true) (ns := m.nets) (p := p) hq
  rw [lp_net hk2] at part ⊢
  unfold dm_X12_longRef_p78
  simp only [a0, ck_T, eq_self, lit_nI]
  obtain ⟨v, s, q1, q2⟩ := rw_takeNet h hk
  rw [q1, bd_l]
  cases e : sp_tn T m.nets p with
  | error g =>
    rw [e] at q2
    obtain ⟨rfl, rfl⟩ := q2
    have fq := RXfail h
    have b0 := ri_0 fq.de.1
    have nx := rd_next fq.de
    have is := rd_isSign fq.de
    have ok := rd_ok fq.de.1 (by have := fq.de.2.2; omega) fq.de.2.1
    refine Rr.er (v := nN) (σ' := fl P σ g) ?_ ⟨f0.trans fl_FL.fp (Nat.le_refl _), fq⟩
    unfold dm_X12_longRef_p116
    simp (disch := first | assumption | omega) [ck_T, sm_s, bd_l, bd_r, lt_e, eq_self, and_self, if_true, true_and, and_true, lit_nI, nI_add, nI_mul, nI_sub, nI_clamp, nI_eq, nI_ltI, nI_leI, nN_e, nI_nN, nN_nI, bI_0, bI_1, bI_n, bool_0, bool_1, in_T, lg_cmp0, ofN_nI, b0, nx, is, ok]
  | ok x =>
    rw [e] at q2 part
    obtain ⟨rfl, x1, x2, x3, xm, j, rfl, j2, j16⟩ := q2
    simp only [eb_ok] at part ⊢
    have hp := (kind_nm (Or.inl x2)).1
    obtain ⟨s1, u1, u2, u3⟩ := rw_next h.1 h.2.1 hk
    have pgt := nx_gt hp
    have g1 := h.fl u2 u3 (by omega)
    have f1 : FP P hv n s s1 := u2.fp
    have b1 := ri_0 g1.1.1
    have nw := h.2.2.2.2.2.2.1.2.1.1 x xm
    have wx := nw.2.2.2 x3
    have w8 := nw.2.2.1
    have nmj : (m.nets[j]?).map (fun y => y.1) = some (lx_nm T p) := by rw [j2]; simp [x1]
    simp only [a0, ck_T, eq_self, u1, bd_l, b1]
    by_cases d1 : lx_kind T (lx_nx T p) = 4
    · have dq := g1.bad d1
      have is := rd_isSign dq.de
      have ok := rd_ok dq.de.1 (by have := dq.de.2.2; omega) dq.de.2.1
      rw [if_neg (by rw [dz_is d1]; simp)]
      refine Rr.ok (v := nN) (σ' := s1) ?_ ⟨f1, fun z => absurd d1 z, fun _ => dq⟩
      unfold dm_X12_longRef_p116
      simp (disch := first | assumption | omega) [ck_T, sm_s, bd_l, bd_r, lt_e, eq_self, and_self, if_true, true_and, and_true, lit_nI, nI_add, nI_mul, nI_sub, nI_clamp, nI_eq, nI_ltI, nI_leI, nN_e, nI_nN, nN_nI, bI_0, bI_1, bI_n, bool_0, bool_1, in_T, lg_cmp0, ofN_nI, b1, is, ok]
    have is1 := rw_isSign g1.1 g1.2.1 d1 (s := 91) (by omega)
    rw [is1, bd_l]
    by_cases i1 : sp_is T 91 (lx_nx T p) = true
    · rw [if_pos i1] at part ⊢
      rw [i1]
      have n10 : ¬ nI 1 = nI 0 := by decide
      simp only [bI_tt, n10, if_false, b1, ck_T, eq_self]
      obtain ⟨s2, v1, v2, v3⟩ := rw_next g1.1 g1.2.1 d1
      have pgt2 := is_p i1
      have g2 := g1.fl v2 v3 (by omega)
      have f2 : FP P hv n s s2 := f1.trans v2.fp (Nat.le_refl _)
      have b2 := ri_0 g2.1.1
      have nc := rw_netCell g2.1 g2.2.2.1 j
      have a28 := ri_28 g2.1.1
      have a29 := ri_29 g2.1.1
      have a30 := ri_30 g2.1.1
      have hv1 := g2.1.2.2.1
      have m8 := g2.2.2.2.1
      have wd : s2.AI (P.base + 21) (16 * (8 * hv + ms.length) + j) = nI x.2.2 := (g2.net j2).2.2.1
      rw [v1, bd_l]
      have red : ∀ (K : Int32 → xS → xO Int32) (kx : String → xS → xO Int32), True := fun _ _ => trivial
      simp (disch := first | assumption | omega) [ck_T, sm_s, bd_l, bd_r, lt_e, eq_self, and_self, if_true, true_and, and_true, lit_nI, nI_add, nI_mul, nI_sub, nI_clamp, nI_eq, nI_ltI, nI_leI, nN_e, nI_nN, nN_nI, bI_0, bI_1, bI_n, bool_0, bool_1, in_T, lg_cmp0, ofN_nI, b2, nc, a28, a29, a30, x_in, dlt_T, wd]
      by_cases d2 : lx_kind T (lx_nx T (lx_nx T p)) = 4
      · have dq := g2.bad d2
        have nn := rd_needNumber dq.de
        have nx := rd_next dq.de
        have is := rd_isSign dq.de
        rw [dz_num d2, eb_er]
        refine Rr.er (v := nN) (σ' := s2) ?_ ⟨f2, dq⟩
        simp (disch := first | assumption | omega) [ck_T, sm_s, bd_l, bd_r, lt_e, eq_self, and_self, if_true, true_and, and_true, lit_nI, nI_add, nI_mul, nI_sub, nI_clamp, nI_eq, nI_ltI, nI_leI, nN_e, nI_nN, nN_nI, bI_0, bI_1, bI_n, bool_0, bool_1, in_T, lg_cmp0, ofN_nI, b2, nn, nx, is, rd_p188 dq.de]
      · rcases rx_num (lo := 0) (hi := x.2.2 - 1) g2 d2 (by omega) (by omega) with ⟨n1, n2, n3, n4, n5, n6⟩ | ⟨n1, n2⟩
        · rw [n1] at part ⊢
          simp only [eb_ok] at part ⊢
          rw [n2, bd_l]
          obtain ⟨s3, w1, w2, w3⟩ := rw_next g2.1 g2.2.1 d2
          have pgt3 := nx_gt n4
          have g3 := g2.fl w2 w3 (by omega)
          have f3 : FP P hv n s s3 := f2.trans w2.fp (Nat.le_refl _)
          have b3 := ri_0 g3.1.1
          simp only [b2, ck_T, eq_self, lt_e, n3, w1, bd_l, b3]
          by_cases d3 : lx_kind T (lx_nx T (lx_nx T (lx_nx T p))) = 4
          · have dq := g3.bad d3
            have is := rd_isSign dq.de
            rw [if_neg (by rw [dz_is d3]; simp), dz_sign d3, eb_er]
            refine Rr.er (v := nN) (σ' := s3) ?_ ⟨f3, dq⟩
            simp (disch := first | assumption | omega) [ck_T, sm_s, bd_l, bd_r, lt_e, eq_self, and_self, if_true, true_and, and_true, lit_nI, nI_add, nI_mul, nI_sub, nI_clamp, nI_eq, nI_ltI, nI_leI, nN_e, nI_nN, nN_nI, bI_0, bI_1, bI_n, bool_0, bool_1, in_T, lg_cmp0, ofN_nI, is, rd_p188 dq.de]
          · have is3 := rw_isSign g3.1 g3.2.1 d3 (s := 58) (by omega)
            rw [is3, bd_l]
            by_cases i3 : sp_is T 58 (lx_nx T (lx_nx T (lx_nx T p))) = true
            · rw [if_pos i3] at part ⊢
              rw [i3]
              simp only [bI_tt, n10, if_false, b3, ck_T, eq_self]
              obtain ⟨s4, y1, y2, y3⟩ := rw_next g3.1 g3.2.1 d3
              have pgt4 := is_p i3
              have g4 := g3.fl y2 y3 (by omega)
              have f4 : FP P hv n s s4 := f3.trans y2.fp (Nat.le_refl _)
              have b4 := ri_0 g4.1.1
              rw [y1, bd_l]
              simp only [b4, ck_T, eq_self]
              by_cases d4 : lx_kind T (lx_nx T (lx_nx T (lx_nx T (lx_nx T p)))) = 4
              · have dq := g4.bad d4
                have nn := rd_needNumber dq.de
                have nx := rd_next dq.de
                rw [dz_num d4, eb_er]
                refine Rr.er (v := nN) (σ' := s4) ?_ ⟨f4, dq⟩
                simp (disch := first | assumption | omega) [ck_T, sm_s, bd_l, bd_r, lt_e, eq_self, and_self, if_true, true_and, and_true, lit_nI, nI_add, nI_mul, nI_sub, nI_clamp, nI_eq, nI_ltI, nI_leI, nN_e, nI_nN, nN_nI, bI_0, bI_1, bI_n, bool_0, bool_1, in_T, lg_cmp0, ofN_nI, b4, nn, nx, rd_p188 dq.de]
              · have nb := num_le (show lx_kind T (lx_nx T (lx_nx T p)) = 2 by unfold sp_num at n1; split at n1; rename_i z; exact z.1; cases n1)
                rcases rx_num (lo := 0) (hi := lx_num T (lx_nx T (lx_nx T p))) g4 d4 (by omega) (by omega) with ⟨m1, m2, m3, m4, m5, m6⟩ | ⟨m1, m2⟩
                · rw [m1] at part ⊢
                  simp only [eb_ok] at part ⊢
                  rw [m2, bd_l]
                  obtain ⟨s5, z1, z2, z3⟩ := rw_next g4.1 g4.2.1 d4
                  have pgt5 := nx_gt m4
                  have g5 := g4.fl z2 z3 (by omega)
                  have f5 : FP P hv n s s5 := f4.trans z2.fp (Nat.le_refl _)
                  simp only [b4, ck_T, eq_self, lt_e, m3, z1, bd_l]
                  exact rw_p188 (x := (2, p, lx_nm T p, lx_num T (lx_nx T (lx_nx T p)), lx_num T (lx_nx T (lx_nx T (lx_nx T (lx_nx T p)))), [])) g5 f5 (fun p' hp' => Or.inl (by
                    have := rs.on (p' := p + 1) (by omega)
                    rcases this with q | q <;> omega)) (Or.inr rfl) j16 nmj
                · rw [m1, eb_er]
                  rw [m2, bd_l]
                  have fq := RXfail g4
                  have c0 := ri_0 fq.de.1
                  have nx := rd_next fq.de
                  refine Rr.er (v := nN) (σ' := fl P s4 _) ?_ ⟨f4.trans fl_FL.fp (Nat.le_refl _), fq⟩
                  simp (disch := first | assumption | omega) [ck_T, sm_s, bd_l, bd_r, lt_e, eq_self, and_self, if_true, true_and, and_true, lit_nI, nI_add, nI_mul, nI_sub, nI_clamp, nI_eq, nI_ltI, nI_leI, nN_e, nI_nN, nN_nI, bI_0, bI_1, bI_n, bool_0, bool_1, in_T, lg_cmp0, ofN_nI, c0, nx, rd_p188 fq.de]
            · have i3' : sp_is T 58 (lx_nx T (lx_nx T (lx_nx T p))) = false := by simpa using i3
              rw [if_neg i3] at part ⊢
              rw [i3']
              simp only [bI_ff, if_true]
              exact rw_p188 (x := (1, p, lx_nm T p, lx_num T (lx_nx T (lx_nx T p)), lx_num T (lx_nx T (lx_nx T p)), [])) g3 f3 (fun p' hp' => Or.inl (by
                have := rs.on (p' := p + 1) (by omega)
                rcases this with q | q <;> omega)) (Or.inl rfl) j16 nmj
        · rw [n1, eb_er]
          rw [n2, bd_l]
          have fq := RXfail g2
          have c0 := ri_0 fq.de.1
          have nx := rd_next fq.de
          have is := rd_isSign fq.de
          refine Rr.er (v := nN) (σ' := fl P s2 _) ?_ ⟨f2.trans fl_FL.fp (Nat.le_refl _), fq⟩
          simp (disch := first | assumption | omega) [ck_T, sm_s, bd_l, bd_r, lt_e, eq_self, and_self, if_true, true_and, and_true, lit_nI, nI_add, nI_mul, nI_sub, nI_clamp, nI_eq, nI_ltI, nI_leI, nN_e, nI_nN, nN_nI, bI_0, bI_1, bI_n, bool_0, bool_1, in_T, lg_cmp0, ofN_nI, c0, nx, is, rd_p188 fq.de]
    · have i1' : sp_is T 91 (lx_nx T p) = false := by simpa using i1
      rw [if_neg i1] at part ⊢
      rw [i1']
      have ok := rw_ok g1.1.1 (g1.2.1.ok d1)
      obtain ⟨w1, w2⟩ := QP.mk (p0 := 0) (x := (0, p, lx_nm T p, x.2.2 - 1, 0, [])) g1 f1 d1 (part _ rfl) (so := nI 0) (pl := nI p) (k := nI j) (a := nI 0) (b := nI 0) rfl rfl (fun z => by simp at z) (fun _ => ⟨j, rfl, j16, nmj⟩) (fun z => by simp at z)
      refine Rr.ok (v := nI (512 * hv + n)) (σ' := adR P hv n s1 (nI 0) (nI p) (nI j) (nI 0) (nI 0)) ?_ w1
      unfold dm_X12_longRef_p116
      simp (disch := first | assumption | omega) [ck_T, sm_s, bd_l, bd_r, lt_e, eq_self, and_self, if_true, true_and, and_true, lit_nI, nI_add, nI_mul, nI_sub, nI_clamp, nI_eq, nI_ltI, nI_leI, nN_e, nI_nN, nN_nI, bI_0, bI_1, bI_n, bool_0, bool_1, in_T, lg_cmp0, ofN_nI, b1, bI_ff, ok, w2]
