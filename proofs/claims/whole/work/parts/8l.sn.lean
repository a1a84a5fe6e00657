/-! ===== the reference: shortNet as a whole ===== -/
theorem Rr.eq {α β : Type} {o o' : xO α} {e : Except Nat β} {Q : α → xS → β → Prop} {QE : Nat → xS → Prop} (h : Rr o' e Q QE) (ho : o = o') : Rr o e Q QE := ho ▸ h
theorem rd_p49 {P : xP} {σ : xS} {f : Nat} (h : DE P σ f) (v : Int32) : dm_X12_shortNet_p49 P (P.base + 11) v σ = some (.inl (), σ) := by
  have ok := rd_ok h.1 (by have := h.2.2; omega) h.2.1
  unfold dm_X12_shortNet_p49
  simp only [ri_0 h.1, ck_T, eq_self, lt_e, bd_l, rd_next h, rd_needSign h, rd_needNumber h, ok, lit_nI, if_true]
theorem MV.refl (P : xP) (hv M pl n N : Nat) (σ : xS) : MV P hv M pl n N N σ σ := ⟨FM.refl _ _ _ _ _ _, rfl, fun c i _ h1 h2 => by omega, fun _ _ _ => rfl⟩
theorem rw_snEnd {P : xP} {T : xT} {hv : Nat} {ms : List xMod} {pl n0 : Nat} {σ0 : xS} {m : xMod} {σ : xS} {p s w q : Nat} {nm : List Nat} (h : SI P T hv false ms pl n0 σ0 m σ p) (hs : s ≤ 2) (hq : NmAt T q nm) (hc : sp_can m nm = true) (hw1 : 1 ≤ w) (hw : w ≤ 8) : ∃ σ', dm_X12_shortNet_p114 P (P.base + 11) (nI s) (nI q) (nI w) (nI (if s = 2 then m.nets.length else m.ports.length)) σ = some (.inl (), σ') ∧ SI P T hv false ms pl n0 σ0 (if s = 2 then (m.nm, m.pl, m.ports, m.wires ++ [(nm, s, w)], m.asg, m.ins) else (m.nm, m.pl, m.ports ++ [(nm, s, w)], m.wires, m.asg, m.ins)) σ' p := by
  obtain ⟨hpl, fm, n, hn, hr⟩ := h
  have r0 := hr.1.1.1
  have a0 := ri_0 r0
  have hv1 := hr.1.1.2.2.1
  have m8 := hr.1.2.2.2.1
  have hm := hr.1.2.2.1
  have md := rw_mod hr.1.1 hm
  have rm := (hr.1.2.2.2.2.2.1).choose_spec
  have cnt := rm.1.2.2.2.1
  have cnp := rm.1.2.2.1
  have wx := hr.1.2.2.2.2.2.2.1
  have hN := hr.1.1.2.2.2.2.2.2
  have hT := hr.1.1.2.1
  have hc' := hc
  simp only [sp_can, Bool.and_eq_true, decide_eq_true_eq] at hc'
  obtain ⟨c1, c2⟩ := hc'
  have pn : m.ports.length ≤ m.nets.length := by unfold xMod.nets; simp
  have nok : nm_ok nm := by
    have := kind_nm_ok hT (p := q) (Or.inl hq.1)
    rw [hq.2] at this
    exact this
  have st : ∀ k, dm_X12_shortNet_p114 P (P.base + 11) (nI s) (nI q) (nI w) k σ = dm_X12_shortNet_L127 P (P.base + 11) P.N (nI s) (nI q) (nI w) k (nI m.nets.length) σ := by
    intro k
    unfold dm_X12_shortNet_p114
    simp (disch := first | assumption | omega) [ck_T, sm_s, bd_l, bd_r, lt_e, eq_self, and_self, if_true, true_and, and_true, lit_nI, nI_add, nI_mul, nI_sub, nI_clamp, nI_eq, nI_ltI, nI_leI, nN_e, nI_nN, nN_nI, bI_0, bI_1, bI_n, bool_0, bool_1, in_T, lg_cmp0, ofN_nI, ri_0 r0, ri_19 r0, ri_20 r0, ri_21 r0, md, cnt, x_in, dlt_T, dle_T]
  rw [st]
  by_cases e2 : s = 2
  · rw [if_pos e2, if_pos e2]
    subst e2
    have g1 := rw_sn2 (a := nI q) (w := nI w) (k := m.nets.length) (f := P.N) hr.1.1 hm m8 c1 (by omega) cnt c1
    have w' := wx.net (x := (nm, 2, w)) hc ⟨nok, by simp, by simpa using hw, by simpa using hw1⟩ (by simp)
    have wp := wNet_w (m := m) (x := (nm, 2, w)) (by simp)
    have en : (m.wNet (nm, 2, w)).nets = m.nets ++ [(nm, 2, w)] := by rw [wp.1]; simp
    have em : m.wNet (nm, 2, w) = (m.nm, m.pl, m.ports, m.wires ++ [(nm, 2, w)], m.asg, m.ins) := by
      unfold xMod.wNet; rw [if_pos (by simp)]
    obtain ⟨g, fm'⟩ := hr.add (m' := m.wNet (nm, 2, w)) (nm, 2, w) hq c1 wp.2.2 en w' (s := adM P (8 * hv + ms.length) m.nets.length m.nets.length σ (nI q) (nI 2) (nI w)) (by
      have e : (adN P (8 * hv + ms.length) m.nets.length σ (nI q) (nI 2) (nI w) (nI 1)).AI (P.base + 17) (8 * hv + ms.length) = nI (m.wNet (nm, 2, w)).ports.length := by
        rw [wp.2.1]
        exact (adN_AI (by omega) (by omega)).trans cnp
      rw [← e]
      exact (q_selfAI _ _ _).symm)
    rw [em] at g
    exact ⟨_, g1, hpl, fm.trans (hpl ▸ fm') hn, n, hn, g⟩
  · rw [if_neg e2, if_neg e2]
    have hb : ∀ i, i < m.nets.length → x_bool (σ.AI (P.base + 23) (16 * (8 * hv + ms.length) + i)) := by
      intro i hi
      have := (rm.2.1 i _ (List.getElem?_eq_getElem hi)).2.2.2
      rw [this]
      cases decide ((m.nets[i]'hi).2.1 ≠ 3)
      · exact Or.inl rfl
      · exact Or.inr rfl
    obtain ⟨f', σ1, z1, z2, mv⟩ := rw_mvL (pl := m.pl) (n := n) (k := m.ports.length) (v1 := nI s) (v2 := nI q) (v3 := nI w) hr.1.1 hm m8 c1 hb (m.nets.length - m.ports.length) m.nets.length P.N σ (by omega) (by omega) (by omega) (MV.refl _ _ _ _ _ _ _)
    rw [z2]
    have tx1 := mv.1.tx hr.1.1
    have hm1 : σ1.I 1141 (P.base + 11) = nI ms.length := by rw [mv.2.1]; exact hm
    have g1 := rw_sn1 (a := nI q) (w := nI w) (k := m.ports.length) (s := s) (f := f') (N := m.nets.length) tx1 hm1 m8 (by omega) z1 (by omega) (by rw [mv.2.2.2 18 _ (by omega)]; exact cnt) c1 (by rw [mv.2.2.2 17 _ (by omega)]; exact cnp)
    have n500 := hr.1.2.2.2.2.1.2.b hT hr.1.2.1.1
    have f2 : FM P hv (8 * hv + ms.length) m.pl n σ1 ((adM P (8 * hv + ms.length) m.ports.length m.nets.length σ1 (nI q) (nI s) (nI w)).setAI (P.base + 17) (8 * hv + ms.length) (nI (m.ports.length + 1))) := (adM_FM (by omega)).trans (FM.set (by unfold cl; omega)) (Nat.le_refl _)
    obtain ⟨σ3, y1, y2⟩ := rw_shift (K := ms.length) (n := n) (k := m.ports.length) (f2.tx tx1) hm1 m8 (by omega) (by omega) (by
      rw [q_AI_setAI, up2_ne (by omega), adM_AI (by omega) (by omega), mv.2.2.2 24 _ (by omega)]
      exact hr.1.2.2.2.2.1.1)
    rw [y1, bd_l] at g1
    obtain ⟨g, fm'⟩ := hr.ins hq (by omega) hc hw1 hw mv y2
    exact ⟨_, g1, hpl, fm.trans (hpl ▸ fm') hn, n, hn, g⟩
theorem rw_p49 {P : xP} {T : xT} {hv : Nat} {ms : List xMod} {pl n0 : Nat} {σ0 : xS} {m : xMod} {σ : xS} {p s : Nat} {nm : List Nat} (h : SI P T hv false ms pl n0 σ0 m σ p) (hs : s ≤ 2) (hq : NmAt T p nm) (hc : sp_can m nm = true) : Rr (dm_X12_shortNet_p49 P (P.base + 11) (nI s) σ) (eb (sp_num T 1 8 (lx_nx T p)) fun w => eb (sp_sign T 59 w.2) fun p3 => .ok (if s = 2 then (m.nm, m.pl, m.ports, m.wires ++ [(nm, s, w.1)], m.asg, m.ins) else (m.nm, m.pl, m.ports ++ [(nm, s, w.1)], m.wires, m.asg, m.ins), p3)) (QS P T hv false ms pl n0 σ0) (EI P T hv ms pl n0 σ0) := by
  have a0 := ri_0 h.tr.1.1
  have k0 : lx_kind T p ≠ 4 := by rw [hq.1]; decide
  have n10 : ¬ nI 1 = nI 0 := by decide
  obtain ⟨s1, u1, h1⟩ := h.next k0 hq.lt
  have a1 := ri_0 h1.tr.1.1
  have fr := h.tr.2.2.1
  have dead : ∀ (t : xS) (g : Nat) (v w : Int32), EI P T hv ms pl n0 σ0 g t → (x_chk (t.K (P.base + 11) = 12) <| x_bind (dm_X12_ok P (P.base + 11) t) (fun v_19 σ_20 => if v_19 = nI 0 then some (.inl (), σ_20) else if nI 2 ≤ nI s then x_chk (σ_20.K (P.base + 11) = 12) <| x_bind (dm_X12_mod P (P.base + 11) σ_20) (fun v_26 σ_27 => x_some (σ_20.R 1109 (P.base + 11)) fun a_29 => x_chk (σ_27.K a_29 = 31 ∧ x_in v_26 (σ_27.L a_29)) <| dm_X12_shortNet_p114 P (P.base + 11) (nI s) v w (σ_27.AI a_29 (Int32.toNatClampNeg v_26)) σ_27) (fun E_31 σ_27 => some (.inr E_31, σ_27)) else x_chk (σ_20.K (P.base + 11) = 12) <| x_bind (dm_X12_mod P (P.base + 11) σ_20) (fun v_33 σ_34 => x_some (σ_20.R 1108 (P.base + 11)) fun a_36 => x_chk (σ_34.K a_36 = 31 ∧ x_in v_33 (σ_34.L a_36)) <| dm_X12_shortNet_p114 P (P.base + 11) (nI s) v w (σ_34.AI a_36 (Int32.toNatClampNeg v_33)) σ_34) (fun E_38 σ_34 => some (.inr E_38, σ_34))) (fun E_39 σ_20 => some (.inr E_39, σ_20)) : xO Unit) = some (.inl (), t) := by
    intro t g v w hd
    have ok := rd_ok hd.2.de.1 (by have := hd.2.de.2.2; omega) hd.2.de.2.1
    simp only [ri_0 hd.2.de.1, ck_T, eq_self, ok, bd_l, if_true]
  unfold dm_X12_shortNet_p49
  simp only [a0, ck_T, eq_self, lt_e, lit_nI, fr, u1, bd_l, a1]
  by_cases k1 : lx_kind T (lx_nx T p) = 4
  · have dq := h1.bad k1
    rw [dz_num k1, eb_er]
    refine Rr.er (v := ()) (σ' := s1) ?_ dq
    have de := dq.2.de
    have okd := rd_ok de.1 (by have := de.2.2; omega) de.2.1
    simp only [ri_0 de.1, ck_T, eq_self, lt_e, bd_l, rd_next de, rd_needSign de, rd_needNumber de, okd, if_true]
  · rcases SInum (lo := 1) (hi := 8) h1 k1 (by omega) (by omega) with ⟨s2, n1, n2, n3, n4, n5, n6, h2⟩ | ⟨n1, n2, dq⟩
    · rw [n1, n2]
      have a2 := ri_0 h2.tr.1.1
      simp only [eb_ok, bd_l, lt_e, a1, ck_T, eq_self, n3, n6, a2]
      by_cases k2 : lx_kind T (lx_nx T (lx_nx T p)) = 4
      · have dq := h2.bad k2
        rw [dz_sign k2, eb_er]
        refine Rr.er (v := ()) (σ' := s2) ?_ dq
        have de := dq.2.de
        have okd := rd_ok de.1 (by have := de.2.2; omega) de.2.1
        simp only [ri_0 de.1, ck_T, eq_self, rd_needSign de, bd_l, okd, if_true]
      · refine (h2.sign (c := 59) k2 (by omega)).last (fun v s3 p3 hb h3 => ?_) (fun v g s3 hq => ⟨(), dead s3 g _ _ hq, hq⟩)
        by_cases k3 : lx_kind T p3 = 4
        · have dq := h3.bad k3
          exact Rr.ok (v := ()) (dead s3 p3 _ _ dq) ⟨fun z => absurd k3 z, fun _ => dq⟩
        · obtain ⟨σ', e1, e2⟩ := rw_snEnd h3 hs hq hc n4 n5
          have ok := rw_ok h3.tr.1.1 (h3.tr.2.ok k3)
          refine Rr.ok (v := ()) (σ' := σ') ?_ e2.qs
          obtain ⟨-, -, n, -, hr⟩ := h3
          have r0 := hr.1.1.1
          have hv1 := hr.1.1.2.2.1
          have m8 := hr.1.2.2.2.1
          have md := rw_mod hr.1.1 hr.1.2.2.1
          have rm := (hr.1.2.2.2.2.2.1).choose_spec
          have cnt := rm.1.2.2.2.1
          have cnp := rm.1.2.2.1
          by_cases c2 : s = 2
          · rw [if_pos c2] at e1
            have c2' : 2 ≤ s := by omega
            simp (disch := first | assumption | omega) [ck_T, sm_s, bd_l, bd_r, lt_e, eq_self, and_self, if_true, true_and, and_true, lit_nI, nI_add, nI_mul, nI_sub, nI_clamp, nI_eq, nI_ltI, nI_leI, nN_e, nI_nN, nN_nI, bI_0, bI_1, bI_n, bool_0, bool_1, in_T, lg_cmp0, ofN_nI, ri_0 r0, ri_19 r0, ri_20 r0, ri_21 r0, ok, c2', md, cnt, e1, x_in, dlt_T, dle_T]
          · rw [if_neg c2] at e1
            have c2' : ¬ 2 ≤ s := by omega
            simp (disch := first | assumption | omega) [ck_T, sm_s, bd_l, bd_r, lt_e, eq_self, and_self, if_true, true_and, and_true, lit_nI, nI_add, nI_mul, nI_sub, nI_clamp, nI_eq, nI_ltI, nI_leI, nN_e, nI_nN, nN_nI, bI_0, bI_1, bI_n, bool_0, bool_1, in_T, lg_cmp0, ofN_nI, ri_0 r0, ri_16 r0, ri_17 r0, ri_18 r0, ok, c2', md, cnp, e1, x_in, dlt_T, dle_T]
    · rw [n1, n2, eb_er]
      refine Rr.er (v := ()) (σ' := fl P s1 (lx_nx T p)) ?_ dq
      have de := dq.2.de
      have okd := rd_ok de.1 (by have := de.2.2; omega) de.2.1
      simp only [ri_0 de.1, ck_T, eq_self, lt_e, bd_l, rd_next de, rd_needSign de, okd, if_true]
theorem rw_shortNet {P : xP} {T : xT} {hv : Nat} {ms : List xMod} {pl n0 : Nat} {σ0 : xS} {m : xMod} {σ : xS} {p s : Nat} (h : SI P T hv false ms pl n0 σ0 m σ p) (hs : s ≤ 2) (hk : lx_kind T p ≠ 4) (hp : p < T.2) : Rr (dm_X12_shortNet P (P.base + 11) (nI s) σ) (sp_shortNet T s m p) (QS P T hv false ms pl n0 σ0) (EI P T hv ms pl n0 σ0) := by
  have a0 := ri_0 h.tr.1.1
  obtain ⟨s1, u1, h1⟩ := h.next hk hp
  have a1 := ri_0 h1.tr.1.1
  unfold sp_shortNet dm_X12_shortNet
  simp only [a0, ck_T, eq_self, lit_nI, u1, bd_l, a1]
  by_cases k1 : lx_kind T (lx_nx T p) = 4
  · have dq := h1.bad k1
    rw [dz_name k1, eb_er]
    refine Rr.er (v := ()) (σ' := s1) ?_ dq
    have de := dq.2.de
    have ok := rd_ok de.1 (by have := de.2.2; omega) de.2.1
    simp only [rd_needName de, bd_l, a1, ck_T, eq_self, ok, if_true, rd_p49 de]
  · have nn := rw_needName h1.tr.1 h1.tr.2 k1
    have fq := SIfail h1
    have de := fq.2.de
    have okd := rd_ok de.1 (by have := de.2.2; omega) de.2.1
    have b0 := ri_0 de.1
    have ok := rw_ok h1.tr.1.1 (h1.tr.2.ok k1)
    have fr := h1.tr.2.2.1
    have ff : dm_X12_fail P (P.base + 11) (nI (lx_nx T p)) s1 = some (.inl (), fl P s1 (lx_nx T p)) := rw_fail h1.tr.1.1 (h1.tr.2.ok k1) _
    have r4 := rd_p49 de (nI s)
    by_cases k0 : lx_kind T (lx_nx T p) = 0
    · rw [if_pos k0] at nn
      have hq : NmAt T (lx_nx T p) (lx_nm T (lx_nx T p)) := ⟨k0, rfl⟩
      have sn : sp_name T (lx_nx T p) = .ok (lx_nm T (lx_nx T p)) := by unfold sp_name; rw [if_pos k0]
      rw [sn]
      simp only [eb_ok]
      obtain ⟨-, -, n, -, hr⟩ := id h1
      have r0 := hr.1.1.1
      have nd := rw_netNamed hr.1 hq
      have hv1 := hr.1.1.2.2.1
      have m8 := hr.1.2.2.2.1
      have md := rw_mod hr.1.1 hr.1.2.2.1
      have rm := (hr.1.2.2.2.2.2.1).choose_spec
      have cnt := rm.1.2.2.2.1
      have l16 := hr.1.2.2.2.2.2.2.1.2.2.2.1.1
      have fn := fIx_N (ns := m.nets) (nm := lx_nm T (lx_nx T p)) (by omega)
      by_cases c : sp_can m (lx_nm T (lx_nx T p)) = true
      · rw [if_pos c]
        have c' := c
        simp only [sp_can, Bool.and_eq_true, decide_eq_true_eq] at c'
        rw [fn.mpr c'.2] at nd
        have e16 : ¬ m.nets.length = 16 := by omega
        have key := rw_p49 h1 hs hq c
        refine key.eq ?_
        simp (disch := first | assumption | omega) [ck_T, sm_s, bd_l, bd_r, lt_e, eq_self, and_self, if_true, true_and, and_true, lit_nI, nI_add, nI_mul, nI_sub, nI_clamp, nI_eq, nI_ltI, nI_leI, nN_e, nI_nN, nN_nI, bI_0, bI_1, bI_n, bool_0, bool_1, in_T, lg_cmp0, ofN_nI, ri_0 r0, ri_19 r0, ri_20 r0, ri_21 r0, nn, ok, fr, nd, md, cnt, e16, x_in, dlt_T, dle_T]
      · rw [if_neg c]
        refine Rr.er (v := ()) (σ' := fl P s1 (lx_nx T p)) ?_ fq
        unfold dm_X12_shortNet_p41
        by_cases z : fIx m.nets (lx_nm T (lx_nx T p)) = nN
        · have z16 : m.nets.length = 16 := by
            by_cases y : m.nets.length = 16
            · exact y
            · exfalso
              apply c
              simp only [sp_can, Bool.and_eq_true, decide_eq_true_eq]
              exact ⟨by omega, fn.mp z⟩
          rw [z16] at cnt
          simp (disch := first | assumption | omega) [ck_T, sm_s, bd_l, bd_r, lt_e, eq_self, and_self, if_true, true_and, and_true, lit_nI, nI_add, nI_mul, nI_sub, nI_clamp, nI_eq, nI_ltI, nI_leI, nN_e, nI_nN, nN_nI, bI_0, bI_1, bI_n, bool_0, bool_1, in_T, lg_cmp0, ofN_nI, ri_0 r0, ri_19 r0, ri_20 r0, ri_21 r0, nn, ok, fr, nd, z, md, cnt, ff, b0, r4, x_in, dlt_T, dle_T]
        · simp (disch := first | assumption | omega) [ck_T, sm_s, bd_l, bd_r, lt_e, eq_self, and_self, if_true, true_and, and_true, lit_nI, nI_add, nI_mul, nI_sub, nI_clamp, nI_eq, nI_ltI, nI_leI, nN_e, nI_nN, nN_nI, bI_0, bI_1, bI_n, bool_0, bool_1, in_T, lg_cmp0, ofN_nI, a1, nn, ok, fr, nd, z, ff, b0, r4]
    · rw [if_neg k0] at nn
      have sn : sp_name T (lx_nx T p) = .error (lx_nx T p) := by unfold sp_name; rw [if_neg k0]
      rw [sn, eb_er]
      refine Rr.er (v := ()) (σ' := fl P s1 (lx_nx T p)) ?_ fq
      simp only [nn, bd_l, b0, ck_T, eq_self, okd, if_true, r4]
