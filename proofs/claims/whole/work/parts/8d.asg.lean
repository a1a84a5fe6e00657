/-! ===== the reference: assigns as a whole ===== -/
theorem WX.asg {lng : Bool} {m : xMod} {p p' : Nat} {a : xPart × xPart} (h : WX lng m p) (hp : p ≤ p') (h1 : PW m.nets a.1) (h2 : PW m.nets a.2) (h3 : m.asg.length < 8) (h4 : p ≤ a.1.2.1 ∧ a.1.2.1 < p') (h5 : p ≤ a.2.2.1 ∧ a.2.2.1 < p') : WX lng (m.wAsg a) p' := by
  have hpl := h.2.2.2.2.1.1
  obtain ⟨⟨w1, w2, w3, w4, w5⟩, u2, u3, ⟨u4, u5, u6⟩, ⟨u7, u8, u9⟩, u10⟩ := h.up hp
  refine ⟨⟨fun y hy => ?_, w2, w3, w4, w5⟩, u2, u3, ⟨u4, ?_, u6⟩, ⟨u7, fun y hy => ?_, u9⟩, u10⟩
  · rcases List.mem_append.mp hy with z | z
    · exact w1 y z
    · rw [List.mem_singleton.mp z]; exact ⟨h1, h2⟩
  · show (m.asg ++ [a]).length ≤ 8
    simp; omega
  · rcases List.mem_append.mp hy with z | z
    · exact u8 y z
    · rw [List.mem_singleton.mp z]
      have e : (m.wAsg a).pl = m.pl := rfl
      omega
theorem RRef.fp {P : xP} {T : xT} {hv n n' n2 : Nat} {σ σ' : xS} {ns : List xNet} {r : Nat} {x : xPart} (h : RRef P σ T hv n ns r x) (f : FP P hv n2 σ σ') (hn : n ≤ n2) (hn' : n ≤ n') : RRef P σ' T hv n' ns r x := by
  obtain ⟨c1, c2, c3, c4, c5, c6⟩ := h
  have q : ∀ c, 25 ≤ c → c ≤ 29 → σ'.AI (P.base + c) r = σ.AI (P.base + c) r := fun c _ _ => f.2.2 _ _ (fun k hk => by omega)
  unfold RRef
  rw [q 25 (by omega) (by omega), q 26 (by omega) (by omega), q 27 (by omega) (by omega), q 28 (by omega) (by omega), q 29 (by omega) (by omega)]
  exact ⟨⟨c1.1, by omega⟩, c2, c3, c4, c5, c6⟩
theorem p52_eq {P : xP} {lng : Bool} {σ : xS} {v : Int32} (a0 : σ.K (P.base + 11) = 12) : dm_X12_readAssign_p52 P (P.base + 11) (bI lng) v σ = x_bind (rRef P lng σ) (fun w s => dm_X12_readAssign_p67 P (P.base + 11) v w s) (fun E s => some (.inr E, s)) := by
  have n10 : ¬ nI 1 = nI 0 := by decide
  unfold dm_X12_readAssign_p52 rRef
  cases lng with
  | true => simp only [bI_tt, lit_nI, n10, if_false, if_true, a0, ck_T, eq_self]
  | false => simp only [bI_ff, lit_nI, Bool.false_eq_true, if_false, if_true, a0, ck_T, eq_self]
theorem rd_p52 {P : xP} {σ : xS} {f : Nat} (h : DE P σ f) (lng : Bool) (v : Int32) : dm_X12_readAssign_p52 P (P.base + 11) (bI lng) v σ = some (.inl (), σ) := by
  rw [p52_eq (ri_0 h.1), rd_ref h, bd_l, rd_p67 h]
theorem rw_p52 {P : xP} {T : xT} {hv : Nat} {lng : Bool} {ms : List xMod} {m : xMod} {n n0 : Nat} {σ0 σ : xS} {p p0 : Nat} (h : RXf P T hv lng ms m n σ p) (f : FM P hv (8 * hv + ms.length) m.pl n0 σ0 σ) (hn : n0 ≤ n) {x : xPart} {r1 : Nat} (h1 : RRef P σ T hv n m.nets r1 x) (hl : m.asg.length < 8) (hw0 : WX lng m p0) (hx : PW m.nets x) (hp0 : p0 ≤ x.2.1 ∧ x.2.1 < p) (hk : lx_kind T p ≠ 4) : Rr (dm_X12_readAssign_p52 P (P.base + 11) (bI lng) (nI r1) σ) (eb (sp_part T lng m.nets p) fun b => eb (sp_sign T 59 b.2) fun p3 => .ok (m.wAsg (x, b.1), p3)) (QI P T hv lng ms m.pl n0 σ0) (EI P T hv ms m.pl n0 σ0) := by
  rw [p52_eq (ri_0 h.1.1.1)]
  refine Rr.bind T (fun b => b.2) (rw_ref h.1 hk) (fun v s b hb hq hk2 => ?_) (fun v g s hq => ⟨(), ?_, ?_⟩) (fun v s b hq hk2 => ⟨hq.1, hq.2.2 hk2⟩) (fun b hk2 => ?_)
  · obtain ⟨z1, z2, z3⟩ := hq.2.1 hk2
    obtain ⟨b1, b2, b3, b4, b5⟩ := po_part h.1.1.2.1 hb
    rw [z1]
    exact rw_p67 (a := (x, b.1)) (h.fp hq.1 z2) (f.trans hq.1.fm hn) (by omega) (h1.fp hq.1 (Nat.le_refl _) (by omega)) z3 hl (fun p' hp' => hw0.asg (by omega) hx b4 hl ⟨hp0.1, by simp only; omega⟩ ⟨by simp only; omega, by simp only; omega⟩)
  · exact rd_p67 hq.2.de _ _
  · exact ⟨f.trans hq.1.fm hn, hq.2⟩
  · simp only [dz_sign hk2, eb_er]
theorem rw_readAssign {P : xP} {T : xT} {hv : Nat} {lng : Bool} {ms : List xMod} {m : xMod} {n : Nat} {σ : xS} {p : Nat} (h : RXf P T hv lng ms m n σ p) (hk : lx_kind T p ≠ 4) (hp : p < T.2) : Rr (dm_X12_readAssign P (P.base + 11) (bI lng) σ) (sp_assign T lng m p) (QI P T hv lng ms m.pl n σ) (EI P T hv ms m.pl n σ) := by
  have a0 := ri_0 h.1.1.1
  have md := rw_mod h.1.1 h.1.2.2.1
  obtain ⟨ni, rm⟩ := h.1.2.2.2.2.2.1
  have cnt := rm.1.2.2.2.2.1
  have hv1 := h.1.1.2.2.1
  have m8 := h.1.2.2.2.1
  have c1 := ri_55 h.1.1.1
  have c2 := ri_56 h.1.1.1
  have c3 := ri_57 h.1.1.1
  have fr := h.1.2.1.2.1
  have ff : dm_X12_fail P (P.base + 11) (nI p) σ = some (.inl (), fl P σ p) := rw_fail h.1.1.1 (h.1.2.1.ok hk) (nI p)
  have l8 := h.1.2.2.2.2.2.2.1.2.2.2.1.2.1
  have n10 : ¬ nI 1 = nI 0 := by decide
  unfold sp_assign
  by_cases e8 : 8 ≤ m.asg.length
  · rw [if_pos e8]
    have e : m.asg.length = 8 := by omega
    rw [e] at cnt
    have fq := RXfail h.1
    have b0 := ri_0 fq.de.1
    have nx := rd_next fq.de
    have rf := rd_ref (lng := lng) fq.de
    have ns := rd_needSign fq.de
    have r5 := fun v => rd_p52 fq.de lng v
    refine Rr.er (v := ()) (σ' := fl P σ p) ?_ ⟨fl_FL.fm, fq⟩
    unfold rRef at rf
    unfold dm_X12_readAssign dm_X12_readAssign_p22 dm_X12_readAssign_p41
    cases lng with
    | true =>
      simp only [if_true] at rf
      simp only [bI_tt] at r5 ⊢
      simp (disch := first | assumption | omega) [ck_T, sm_s, bd_l, bd_r, lt_e, eq_self, and_self, if_true, true_and, and_true, lit_nI, nI_add, nI_mul, nI_sub, nI_clamp, nI_eq, nI_ltI, nI_leI, nN_e, nI_nN, nN_nI, bI_0, bI_1, bI_n, bool_0, bool_1, in_T, lg_cmp0, ofN_nI, a0, md, c1, c2, c3, cnt, x_in, dlt_T, ff, fr, b0, nx, rf, ns, r5]
    | false =>
      simp only [Bool.false_eq_true, if_false] at rf
      simp only [bI_ff] at r5 ⊢
      simp (disch := first | assumption | omega) [ck_T, sm_s, bd_l, bd_r, lt_e, eq_self, and_self, if_true, true_and, and_true, lit_nI, nI_add, nI_mul, nI_sub, nI_clamp, nI_eq, nI_ltI, nI_leI, nN_e, nI_nN, nN_nI, bI_0, bI_1, bI_n, bool_0, bool_1, in_T, lg_cmp0, ofN_nI, a0, md, c1, c2, c3, cnt, x_in, dlt_T, ff, fr, b0, nx, rf, ns, r5]
  · rw [if_neg e8]
    have e : ¬ m.asg.length = 8 := by omega
    have st : dm_X12_readAssign P (P.base + 11) (bI lng) σ = dm_X12_readAssign_p22 P (P.base + 11) (bI lng) σ := by
      unfold dm_X12_readAssign
      simp (disch := first | assumption | omega) [ck_T, sm_s, bd_l, bd_r, lt_e, eq_self, and_self, if_true, true_and, and_true, lit_nI, nI_add, nI_mul, nI_sub, nI_clamp, nI_eq, nI_ltI, nI_leI, nN_e, nI_nN, nN_nI, bI_0, bI_1, bI_n, bool_0, bool_1, in_T, lg_cmp0, ofN_nI, a0, md, c1, c2, c3, cnt, x_in, dlt_T, e]
    rw [st]
    have ep : dm_X12_readAssign_p22 P (P.base + 11) (bI lng) σ = x_bind (dm_X12_next P (P.base + 11) σ) (fun _ s => x_chk (s.K (P.base + 11) = 12) (x_bind (rRef P lng s) (fun w s2 => dm_X12_readAssign_p41 P (P.base + 11) (bI lng) w s2) (fun E s2 => some (.inr E, s2)))) (fun E s => some (.inr E, s)) := by
      unfold dm_X12_readAssign_p22 rRef
      cases lng with
      | true => simp only [bI_tt, lit_nI, n10, if_false, if_true, a0, ck_T, eq_self]
      | false => simp only [bI_ff, lit_nI, Bool.false_eq_true, if_false, if_true, a0, ck_T, eq_self]
    rw [ep]
    have w := h.1.2.2.2.2.2.2.1
    have d41 : ∀ v s g, DE P s g → dm_X12_readAssign_p41 P (P.base + 11) (bI lng) v s = some (.inl (), s) := by
      intro v s g hd
      have b0 := ri_0 hd.1
      have ns := rd_needSign hd
      have r5 := fun v => rd_p52 hd lng v
      unfold dm_X12_readAssign_p41
      cases lng with
      | true =>
        simp only [bI_tt] at r5 ⊢
        simp (disch := first | assumption | omega) [ck_T, sm_s, bd_l, bd_r, lt_e, eq_self, and_self, if_true, true_and, and_true, lit_nI, nI_add, nI_mul, nI_sub, nI_clamp, nI_eq, nI_ltI, nI_leI, nN_e, nI_nN, nN_nI, bI_0, bI_1, bI_n, bool_0, bool_1, in_T, lg_cmp0, ofN_nI, b0, ns, r5]
      | false =>
        simp only [bI_ff] at r5 ⊢
        simp (disch := first | assumption | omega) [ck_T, sm_s, bd_l, bd_r, lt_e, eq_self, and_self, if_true, true_and, and_true, lit_nI, nI_add, nI_mul, nI_sub, nI_clamp, nI_eq, nI_ltI, nI_leI, nN_e, nI_nN, nN_nI, bI_0, bI_1, bI_n, bool_0, bool_1, in_T, lg_cmp0, ofN_nI, b0, ns, r5]
    have key := Rr.bind (F := fun p1 => eb (sp_part T lng m.nets p1) fun a => eb (if lng = true then sp_sign T 61 a.2 else .ok a.2) fun p2 => eb (sp_part T lng m.nets p2) fun b => eb (sp_sign T 59 b.2) fun p3 => .ok ((m.nm, m.pl, m.ports, m.wires, m.asg ++ [(a.1, b.1)], m.ins), p3)) (k := fun _ s => x_chk (s.K (P.base + 11) = 12) (x_bind (rRef P lng s) (fun w s2 => dm_X12_readAssign_p41 P (P.base + 11) (bI lng) w s2) (fun E s2 => some (.inr E, s2)))) (kx := fun E s => some (.inr E, s)) (Q' := QI P T hv lng ms m.pl n σ) (QE' := EI P T hv ms m.pl n σ) T (fun b => b) (rx_next h.1 hk hp (FP.refl P hv n σ)) ?_ ?_ ?_ ?_
    · rw [eb_ok] at key
      exact key
    · intro v s b hb hq hk2
      cases hb
      have b0 := ri_0 hq.2.1.1
      have n0 := nx_gt hp
      simp only [b0, ck_T, eq_self]
      refine Rr.bind T (fun b => b.2) (rw_ref hq.2 hk2) (fun v s2 b hb hq2 hk3 => ?_) (fun v g s hq2 => ⟨(), d41 _ _ _ hq2.2.de, ?_⟩) (fun v s b hq hk2 => ⟨hq.1, hq.2.2 hk2⟩) (fun b hk2 => ?_)
      · obtain ⟨z1, z2, z3⟩ := hq2.2.1 hk3
        have c0 := ri_0 z2.1.1
        obtain ⟨b1, b2, b3, b4, b5⟩ := po_part h.1.1.2.1 hb
        have fx := (h.fp hq.1 hq.2).fp hq2.1 z2
        have fm := hq.1.fm (M := 8 * hv + ms.length) (pl := m.pl) |>.trans hq2.1.fm (Nat.le_refl _)
        rw [z1]
        unfold dm_X12_readAssign_p41
        cases lng with
        | false =>
          simp only [bI_ff, lit_nI, Bool.false_eq_true, if_false, if_true, eb_ok]
          have := rw_p52 (p0 := p) fx fm (by omega) z3 (by omega) w b4 (by omega) hk3
          simp only [bI_ff] at this
          exact this
        | true =>
          simp only [bI_tt, lit_nI, n10, if_false, if_true, c0, ck_T, eq_self]
          refine Rr.bind T (fun b => b) (rx_sign (σ0 := s2) (c := 61) z2 hk3 (by omega) (FP.refl P hv _ s2)) (fun v s3 p2 hb3 hq3 hk4 => ?_) (fun v g s hq3 => ⟨(), ?_, ?_⟩) (fun v s b hq hk2 => ⟨hq.1, hq.2.bad hk2⟩) (fun b hk2 => ?_)
          · have := po_sign hb3
            have := rw_p52 (p0 := p) (fx.fp hq3.1 hq3.2) (fm.trans hq3.1.fm (by omega)) (by omega) (z3.fp hq3.1 (Nat.le_refl _) (Nat.le_refl _)) (by omega) w b4 (by omega) hk4
            simp only [bI_tt] at this
            exact this
          · exact rd_p52 hq3.2.de true _
          · exact ⟨fm.trans hq3.1.fm (by omega), hq3.2⟩
          · simp only [dz_part hk2, eb_er]
      · exact ⟨hq.1.fm.trans hq2.1.fm (Nat.le_refl _), hq2.2⟩
      · cases lng with
        | true => simp only [if_true, dz_sign hk2, eb_er]
        | false => simp only [Bool.false_eq_true, if_false, eb_ok, dz_part hk2, eb_er]
    · intro v g s hq
      have b0 := ri_0 hq.2.de.1
      exact ⟨(), by simp only [b0, ck_T, eq_self, rd_ref hq.2.de, bd_l, d41 _ _ _ hq.2.de], hq.1.fm, hq.2⟩
    · intro v s b hq hk2
      exact ⟨hq.1, hq.2.bad hk2⟩
    · intro b hk2
      simp only [dz_part hk2, eb_er]
