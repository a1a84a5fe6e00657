/-! ===== the reference: takePort, takeLongNet ===== -/
theorem RXf.fl {P : xP} {T : xT} {hv : Nat} {lng : Bool} {ms : List xMod} {m : xMod} {n : Nat} {σ σ' : xS} {p p' : Nat} (h : RXf P T hv lng ms m n σ p) (f : FL P σ σ') (c : RC P T σ' p') (hp : p ≤ p') : RXf P T hv lng ms m n σ' p' := by
  refine ⟨h.1.fl f c hp, ?_⟩
  have e : σ'.AI = σ.AI := f.2.2.2.2.1
  rw [e]
  exact h.2
theorem QI.next {P : xP} {T : xT} {hv : Nat} {lng : Bool} {ms : List xMod} {m' : xMod} {pl n0 n : Nat} {σ0 σ : xS} {p : Nat} (h : RXf P T hv lng ms m' n σ p) (f : FM P hv (8 * hv + ms.length) pl n0 σ0 σ) (hn : n0 ≤ n) (hk : lx_kind T p ≠ 4) (hp : p < T.2) : ∃ s, dm_X12_next P (P.base + 11) σ = some (.inl (), s) ∧ QI P T hv lng ms pl n0 σ0 () s (m', lx_nx T p) := by
  obtain ⟨s, u1, u2, u3⟩ := rw_next h.1.1 h.1.2.1 hk
  have := nx_gt hp
  have g := h.fl u2 u3 (by omega)
  exact ⟨s, u1, f.trans u2.fm hn, fun _ => ⟨n, hn, g⟩, fun z => g.1.bad z⟩
theorem EI.fail {P : xP} {T : xT} {hv : Nat} {lng : Bool} {ms : List xMod} {m : xMod} {pl n0 n : Nat} {σ0 σ : xS} {p : Nat} (h : RX P T hv lng ms m n σ p) (f : FM P hv (8 * hv + ms.length) pl n0 σ0 σ) (hn : n0 ≤ n) : EI P T hv ms pl n0 σ0 p (fl P σ p) := ⟨f.trans fl_FL.fm hn, RXfail h⟩
theorem rw_takePort {P : xP} {T : xT} {hv : Nat} {ms : List xMod} {m : xMod} {n : Nat} {σ : xS} {p : Nat} (h : RXf P T hv true ms m n σ p) (hk : lx_kind T p ≠ 4) (hw0 : m.wires = []) : Rr (dm_X12_takePort P (P.base + 11) σ) (sp_port T m p) (QI P T hv true ms m.pl n σ) (EI P T hv ms m.pl n σ) := by
  have r0 := h.1.1.1
  have a0 := ri_0 r0
  have ok := rw_ok r0 (h.1.2.1.ok hk)
  have nn := rw_needName h.1.1 h.1.2.1 hk
  have fr := h.1.2.1.2.1
  have ff : dm_X12_fail P (P.base + 11) (nI p) σ = some (.inl (), fl P σ p) := rw_fail r0 (h.1.2.1.ok hk) (nI p)
  have fq := RXfail h.1
  have nx := rd_next fq.de
  have okd := rd_ok fq.de.1 (by have := fq.de.2.2; omega) fq.de.2.1
  have b0 := ri_0 fq.de.1
  have hv1 := h.1.1.2.2.1
  have m8 := h.1.2.2.2.1
  have md := rw_mod h.1.1 h.1.2.2.1
  obtain ⟨ni, rm⟩ := h.1.2.2.2.2.2.1
  have cnt := rm.1.2.2.2.1
  have cnp := rm.1.2.2.1
  have l16 := h.1.2.2.2.2.2.2.1.2.2.2.1.1
  have f0 := FM.refl P hv (8 * hv + ms.length) m.pl n σ
  unfold sp_port
  by_cases k0 : lx_kind T p = 0
  · rw [if_pos k0] at nn
    have hq : NmAt T p (lx_nm T p) := ⟨k0, rfl⟩
    have plt := hq.lt
    have nd := rw_netNamed h.1 hq
    have sn : sp_name T p = .ok (lx_nm T p) := by unfold sp_name; rw [if_pos k0]
    rw [sn]
    simp only [eb_ok]
    have fn := fIx_N (ns := m.nets) (nm := lx_nm T p) (by omega)
    by_cases c : sp_can m (lx_nm T p) = true
    · rw [if_pos c]
      have c' := c
      simp only [sp_can, Bool.and_eq_true, decide_eq_true_eq] at c'
      obtain ⟨c1, c2⟩ := c'
      have e16 : ¬ m.nets.length = 16 := by omega
      rw [fn.mpr c2] at nd
      have w := h.1.2.2.2.2.2.2.1.net (x := (lx_nm T p, 3, 0)) c ⟨kind_nm_ok h.1.1.2.1 (Or.inl k0), by simp, by simp, by simp⟩ (by simp)
      have wp := wNet_p (m := m) (x := (lx_nm T p, 3, 0)) (by simp)
      have en : (m.wNet (lx_nm T p, 3, 0)).nets = m.nets ++ [(lx_nm T p, 3, 0)] := by
        rw [wp.1, hw0]; unfold xMod.nets; rw [hw0]; simp
      have em : m.wNet (lx_nm T p, 3, 0) = (m.nm, m.pl, m.ports ++ [(lx_nm T p, 3, 0)], m.wires, m.asg, m.ins) := by
        unfold xMod.wNet; rw [if_neg (by simp)]
      obtain ⟨g, fm⟩ := h.add (m' := m.wNet (lx_nm T p, 3, 0)) (lx_nm T p, 3, 0) hq c1 wp.2.2 en w rfl
      rw [em] at g
      obtain ⟨s, q1, q2⟩ := QI.next g fm (Nat.le_refl _) hk plt
      refine Rr.ok (v := ()) (σ' := s) ?_ q2
      have ad := rw_addNet (s := nI 0) (w := nI 0) (t := nI 0) h.1.1 h.1.2.2.1 m8 cnt c1 fr (Or.inl rfl)
      have pe : (xMod.ports (m.nm, m.pl, m.ports ++ [(lx_nm T p, 3, 0)], m.wires, m.asg, m.ins)).length = m.ports.length + 1 := by
        show (m.ports ++ [(lx_nm T p, 3, 0)]).length = _
        simp
      rw [pe] at q1
      have q1' : dm_X12_next P (P.base + 11) ((adN P (8 * hv + ms.length) m.nets.length σ (nI p) (nI 0) (nI 0) (nI 0)).setAI (P.base + 17) (8 * hv + ms.length) (nI (m.ports.length + 1))) = some (.inl (), s) := q1
      have r1 : RI P (adN P (8 * hv + ms.length) m.nets.length σ (nI p) (nI 0) (nI 0) (nI 0)) := r0
      have md1 := rw_modI (hv := hv) (k := ms.length) r1 h.1.1.2.2.2.1 h.1.2.2.1
      have cp1 : (adN P (8 * hv + ms.length) m.nets.length σ (nI p) (nI 0) (nI 0) (nI 0)).AI (P.base + 17) (8 * hv + ms.length) = nI m.ports.length := (adN_AI (by omega) (by omega)).trans cnp
      unfold dm_X12_takePort dm_X12_takePort_p45 dm_X12_takePort_p72
      simp (config := { maxSteps := 2000000 }) (disch := first | assumption | omega) [ck_T, sm_s, bd_l, bd_r, lt_e, eq_self, and_self, if_true, true_and, and_true, lit_nI, nI_add, nI_mul, nI_sub, nI_clamp, nI_eq, nI_ltI, nI_leI, nN_e, nI_nN, nN_nI, bI_0, bI_1, bI_n, bool_0, bool_1, in_T, lg_cmp0, ofN_nI, q_K_setI, q_I_setI, q_J_setI, q_R_setI, q_L_setI, q_AI_setI, q_AJ_setI, q_AR_setI, q_sz_setI, q_su_setI, q_K_setJ, q_I_setJ, q_J_setJ, q_R_setJ, q_L_setJ, q_AI_setJ, q_AJ_setJ, q_AR_setJ, q_sz_setJ, q_su_setJ, q_K_setR, q_I_setR, q_J_setR, q_R_setR, q_L_setR, q_AI_setR, q_AJ_setR, q_AR_setR, q_sz_setR, q_su_setR, q_K_setAI, q_I_setAI, q_J_setAI, q_R_setAI, q_L_setAI, q_AI_setAI, q_AJ_setAI, q_AR_setAI, q_sz_setAI, q_su_setAI, q_K_setAJ, q_I_setAJ, q_J_setAJ, q_R_setAJ, q_L_setAJ, q_AI_setAJ, q_AJ_setAJ, q_AR_setAJ, q_sz_setAJ, q_su_setAJ, q_K_setAR, q_I_setAR, q_J_setAR, q_R_setAR, q_L_setAR, q_AI_setAR, q_AJ_setAR, q_AR_setAR, q_sz_setAR, q_su_setAR, q_K_newO, q_I_newO, q_J_newO, q_R_newO, q_L_newO, q_AI_newO, q_AJ_newO, q_AR_newO, q_sz_newO, q_su_newO, q_K_newA, q_I_newA, q_J_newA, q_R_newA, q_L_newA, q_AI_newA, q_AJ_newA, q_AR_newA, q_sz_newA, q_su_newA, q_K_skip, q_I_skip, q_J_skip, q_R_skip, q_L_skip, q_AI_skip, q_AJ_skip, q_AR_skip, q_sz_skip, q_su_skip, ri_0 r0, ri_19 r0, ri_20 r0, ri_21 r0, ri_0 r1, ri_16 r1, ri_17 r1, ri_18 r1, ok, nn, md, cnt, e16, fr, nd, ad, md1, cp1, q1', x_in, dlt_T, dle_T]
    · rw [if_neg c]
      refine Rr.er (v := ()) (σ' := fl P σ p) ?_ (EI.fail h.1 f0 (Nat.le_refl _))
      have c' : m.nets.length = 16 ∨ ¬ fIx m.nets (lx_nm T p) = nN := by
        by_cases z : m.nets.length = 16
        · exact Or.inl z
        · right
          intro y
          apply c
          simp only [sp_can, Bool.and_eq_true, decide_eq_true_eq]
          exact ⟨by omega, fn.mp y⟩
      unfold dm_X12_takePort dm_X12_takePort_p37 dm_X12_takePort_p45 dm_X12_takePort_p72
      by_cases z : m.nets.length = 16
      · rw [z] at cnt
        simp (disch := first | assumption | omega) [ck_T, sm_s, bd_l, bd_r, lt_e, eq_self, and_self, if_true, true_and, and_true, lit_nI, nI_add, nI_mul, nI_sub, nI_clamp, nI_eq, nI_ltI, nI_leI, nN_e, nI_nN, nN_nI, bI_0, bI_1, bI_n, bool_0, bool_1, in_T, lg_cmp0, ofN_nI, ri_0 r0, ri_19 r0, ri_20 r0, ri_21 r0, ok, nn, md, cnt, fr, ff, okd, b0, nx, x_in, dlt_T, dle_T]
      · have c2 := c'.resolve_left z
        simp (disch := first | assumption | omega) [ck_T, sm_s, bd_l, bd_r, lt_e, eq_self, and_self, if_true, true_and, and_true, lit_nI, nI_add, nI_mul, nI_sub, nI_clamp, nI_eq, nI_ltI, nI_leI, nN_e, nI_nN, nN_nI, bI_0, bI_1, bI_n, bool_0, bool_1, in_T, lg_cmp0, ofN_nI, ri_0 r0, ri_19 r0, ri_20 r0, ri_21 r0, ok, nn, md, cnt, z, fr, ff, nd, c2, okd, b0, nx, x_in, dlt_T, dle_T]
  · rw [if_neg k0] at nn
    have sn : sp_name T p = .error p := by unfold sp_name; rw [if_neg k0]
    rw [sn, eb_er]
    refine Rr.er (v := ()) (σ' := fl P σ p) ?_ (EI.fail h.1 f0 (Nat.le_refl _))
    unfold dm_X12_takePort dm_X12_takePort_p45 dm_X12_takePort_p72
    simp (disch := first | assumption | omega) [ck_T, sm_s, bd_l, bd_r, lt_e, eq_self, and_self, if_true, true_and, and_true, lit_nI, nI_add, nI_mul, nI_sub, nI_clamp, nI_eq, nI_ltI, nI_leI, nN_e, nI_nN, nN_nI, bI_0, bI_1, bI_n, bool_0, bool_1, in_T, lg_cmp0, ofN_nI, a0, nn, okd, b0, nx]
/-- a port is told -/
def tlN (P : xP) (M k : Nat) (σ : xS) (s w : Int32) : xS := ((σ.setAI (P.base + 20) (16 * M + k) s).setAI (P.base + 21) (16 * M + k) w).setAI (P.base + 23) (16 * M + k) (nI 1)
theorem tlN_AI {P : xP} {M k : Nat} {σ : xS} {s w : Int32} {c i : Nat} (h1 : ¬ ((c = 20 ∨ c = 21 ∨ c = 23) ∧ i = 16 * M + k)) : (tlN P M k σ s w).AI (P.base + c) i = σ.AI (P.base + c) i := by
  unfold tlN
  simp only [q_K_setI, q_I_setI, q_J_setI, q_R_setI, q_L_setI, q_AI_setI, q_AJ_setI, q_AR_setI, q_sz_setI, q_su_setI, q_K_setJ, q_I_setJ, q_J_setJ, q_R_setJ, q_L_setJ, q_AI_setJ, q_AJ_setJ, q_AR_setJ, q_sz_setJ, q_su_setJ, q_K_setR, q_I_setR, q_J_setR, q_R_setR, q_L_setR, q_AI_setR, q_AJ_setR, q_AR_setR, q_sz_setR, q_su_setR, q_K_setAI, q_I_setAI, q_J_setAI, q_R_setAI, q_L_setAI, q_AI_setAI, q_AJ_setAI, q_AR_setAI, q_sz_setAI, q_su_setAI, q_K_setAJ, q_I_setAJ, q_J_setAJ, q_R_setAJ, q_L_setAJ, q_AI_setAJ, q_AJ_setAJ, q_AR_setAJ, q_sz_setAJ, q_su_setAJ, q_K_setAR, q_I_setAR, q_J_setAR, q_R_setAR, q_L_setAR, q_AI_setAR, q_AJ_setAR, q_AR_setAR, q_sz_setAR, q_su_setAR, q_K_newO, q_I_newO, q_J_newO, q_R_newO, q_L_newO, q_AI_newO, q_AJ_newO, q_AR_newO, q_sz_newO, q_su_newO, q_K_newA, q_I_newA, q_J_newA, q_R_newA, q_L_newA, q_AI_newA, q_AJ_newA, q_AR_newA, q_sz_newA, q_su_newA, q_K_skip, q_I_skip, q_J_skip, q_R_skip, q_L_skip, q_AI_skip, q_AJ_skip, q_AR_skip, q_sz_skip, q_su_skip]
  rw [up2_ne (by omega), up2_ne (by omega), up2_ne (by omega)]
theorem tlN_FM {P : xP} {hv M pl n k : Nat} {σ : xS} {s w : Int32} (hk : k < 16) : FM P hv M pl n σ (tlN P M k σ s w) := by
  unfold tlN
  refine FM.trans (FM.trans (FM.set (by unfold cl; omega)) (FM.set (by unfold cl; omega)) (Nat.le_refl _)) (FM.set (by unfold cl; omega)) (Nat.le_refl _)
theorem tell_nets {m : xMod} {nm : List Nat} {s w j : Nat} {x : xNet} (hd : (m.nets.map fun x => x.1).Nodup) (hj : m.nets[j]? = some x) (hl : j < m.ports.length) (hx : x.1 = nm) : (m.wTell nm s w).nets = m.nets.map (tellF nm s w) ∧ ∀ i y, m.nets[i]? = some y → y.1 = nm → i = j := by
  have uq : ∀ i y, m.nets[i]? = some y → y.1 = nm → i = j := by
    intro i y hi hy
    have l1 : (m.nets.map fun x => x.1)[i]? = some nm := by rw [List.getElem?_map, hi]; simp [hy]
    have l2 : (m.nets.map fun x => x.1)[j]? = some nm := by rw [List.getElem?_map, hj]; simp [hx]
    exact (List.getElem?_inj (get_lt l1) hd).mp (l1.trans l2.symm)
  refine ⟨?_, uq⟩
  show m.ports.map (tellF nm s w) ++ m.wires = (m.ports ++ m.wires).map (tellF nm s w)
  rw [List.map_append]
  congr 1
  have : ∀ y ∈ m.wires, tellF nm s w y = y := by
    intro y hy
    unfold tellF
    rw [if_neg]
    intro z
    obtain ⟨i, hi⟩ := List.mem_iff_getElem?.mp hy
    have := uq (m.ports.length + i) y (by unfold xMod.nets; rw [List.getElem?_append_right (by omega)]; simpa using hi) z
    omega
  calc m.wires = m.wires.map id := by simp
    _ = m.wires.map (tellF nm s w) := List.map_congr_left (fun y hy => (this y hy).symm)
theorem WX.tellAt {m : xMod} {nm : List Nat} {x : xNet} {s w p : Nat} (h : WX true m p) (hs : s < 2) (hw1 : 1 ≤ w) (hw : w ≤ 8) (hx : sp_find m.nets nm = some x) (h3 : x.2.1 = 3) : WX true (m.wTell nm s w) p := by
  obtain ⟨u1, u2, u3, ⟨u4, u5, u6⟩, u7, u10⟩ := h
  refine ⟨u1.tell (w := w) hx h3 hs, u2.tell hx hs hw1 hw, u3, ⟨?_, u5, u6⟩, u7, by simp⟩
  show ((m.ports.map (tellF nm s w)) ++ m.wires).length ≤ 16
  simp only [xMod.nets, List.length_append] at u4
  simp; omega
theorem RXf.tell {P : xP} {T : xT} {hv : Nat} {ms : List xMod} {m : xMod} {n : Nat} {σ : xS} {p : Nat} (h : RXf P T hv true ms m n σ p) {nm : List Nat} {s w j : Nat} {x : xNet} (hs : s < 2) (hw1 : 1 ≤ w) (hw : w ≤ 8) (hf : sp_find m.nets nm = some x) (h3 : x.2.1 = 3) (hj : m.nets[j]? = some x) (hl : j < m.ports.length) : RXf P T hv true ms (m.wTell nm s w) n (tlN P (8 * hv + ms.length) j σ (nI s) (nI w)) p ∧ FM P hv (8 * hv + ms.length) m.pl n σ (tlN P (8 * hv + ms.length) j σ (nI s) (nI w)) := by
  have wx := h.1.2.2.2.2.2.2.1
  have hx := (sp_find_mem hf).2
  obtain ⟨t1, t2⟩ := tell_nets (s := s) (w := w) wx.1.2.2.2.2 hj hl hx
  have l16 := wx.2.2.2.1.1
  have lj := get_lt hj
  have f := tlN_FM (P := P) (hv := hv) (M := 8 * hv + ms.length) (pl := m.pl) (n := n) (k := j) (σ := σ) (s := nI s) (w := nI w) (by omega)
  have rm := (h.1.2.2.2.2.2.1).choose_spec
  refine ⟨h.nets f rfl (fun k i hk => tlN_AI (by omega)) ⟨rfl, rfl, rfl, rfl⟩ ?_ ?_ ?_ ?_ (wx.tellAt hs hw1 hw hf h3), f⟩
  · rw [tlN_AI (by omega), rm.1.2.2.1]
    show _ = nI (m.ports.map (tellF nm s w)).length
    simp
  · rw [tlN_AI (by omega), rm.1.2.2.2.1, t1]
    simp
  · intro i y hy
    rw [t1, List.getElem?_map] at hy
    cases e : m.nets[i]? with
    | none => rw [e] at hy; cases hy
    | some z =>
      rw [e] at hy
      simp only [Option.map_some, Option.some.injEq] at hy
      obtain ⟨⟨q', y1, y2⟩, y3, y4, y5⟩ := rm.2.1 i z e
      by_cases ez : z.1 = nm
      · have ij := t2 i z e ez
        subst ij
        have ey : y = (nm, s, w) := by rw [← hy]; unfold tellF; rw [if_pos ez]
        subst ey
        have s3 : ¬ s = 3 := by omega
        refine ⟨⟨q', (tlN_AI (by omega)).trans y1, ez ▸ y2⟩, ?_, ?_, ?_⟩
        · unfold tlN; simp [q_K_setI, q_I_setI, q_J_setI, q_R_setI, q_L_setI, q_AI_setI, q_AJ_setI, q_AR_setI, q_sz_setI, q_su_setI, q_K_setJ, q_I_setJ, q_J_setJ, q_R_setJ, q_L_setJ, q_AI_setJ, q_AJ_setJ, q_AR_setJ, q_sz_setJ, q_su_setJ, q_K_setR, q_I_setR, q_J_setR, q_R_setR, q_L_setR, q_AI_setR, q_AJ_setR, q_AR_setR, q_sz_setR, q_su_setR, q_K_setAI, q_I_setAI, q_J_setAI, q_R_setAI, q_L_setAI, q_AI_setAI, q_AJ_setAI, q_AR_setAI, q_sz_setAI, q_su_setAI, q_K_setAJ, q_I_setAJ, q_J_setAJ, q_R_setAJ, q_L_setAJ, q_AI_setAJ, q_AJ_setAJ, q_AR_setAJ, q_sz_setAJ, q_su_setAJ, q_K_setAR, q_I_setAR, q_J_setAR, q_R_setAR, q_L_setAR, q_AI_setAR, q_AJ_setAR, q_AR_setAR, q_sz_setAR, q_su_setAR, q_K_newO, q_I_newO, q_J_newO, q_R_newO, q_L_newO, q_AI_newO, q_AJ_newO, q_AR_newO, q_sz_newO, q_su_newO, q_K_newA, q_I_newA, q_J_newA, q_R_newA, q_L_newA, q_AI_newA, q_AJ_newA, q_AR_newA, q_sz_newA, q_su_newA, q_K_skip, q_I_skip, q_J_skip, q_R_skip, q_L_skip, q_AI_skip, q_AJ_skip, q_AR_skip, q_sz_skip, q_su_skip, q_up2, q_up, s3]
        · unfold tlN; simp [q_K_setI, q_I_setI, q_J_setI, q_R_setI, q_L_setI, q_AI_setI, q_AJ_setI, q_AR_setI, q_sz_setI, q_su_setI, q_K_setJ, q_I_setJ, q_J_setJ, q_R_setJ, q_L_setJ, q_AI_setJ, q_AJ_setJ, q_AR_setJ, q_sz_setJ, q_su_setJ, q_K_setR, q_I_setR, q_J_setR, q_R_setR, q_L_setR, q_AI_setR, q_AJ_setR, q_AR_setR, q_sz_setR, q_su_setR, q_K_setAI, q_I_setAI, q_J_setAI, q_R_setAI, q_L_setAI, q_AI_setAI, q_AJ_setAI, q_AR_setAI, q_sz_setAI, q_su_setAI, q_K_setAJ, q_I_setAJ, q_J_setAJ, q_R_setAJ, q_L_setAJ, q_AI_setAJ, q_AJ_setAJ, q_AR_setAJ, q_sz_setAJ, q_su_setAJ, q_K_setAR, q_I_setAR, q_J_setAR, q_R_setAR, q_L_setAR, q_AI_setAR, q_AJ_setAR, q_AR_setAR, q_sz_setAR, q_su_setAR, q_K_newO, q_I_newO, q_J_newO, q_R_newO, q_L_newO, q_AI_newO, q_AJ_newO, q_AR_newO, q_sz_newO, q_su_newO, q_K_newA, q_I_newA, q_J_newA, q_R_newA, q_L_newA, q_AI_newA, q_AJ_newA, q_AR_newA, q_sz_newA, q_su_newA, q_K_skip, q_I_skip, q_J_skip, q_R_skip, q_L_skip, q_AI_skip, q_AJ_skip, q_AR_skip, q_sz_skip, q_su_skip, q_up2, q_up]
        · unfold tlN; simp [q_K_setI, q_I_setI, q_J_setI, q_R_setI, q_L_setI, q_AI_setI, q_AJ_setI, q_AR_setI, q_sz_setI, q_su_setI, q_K_setJ, q_I_setJ, q_J_setJ, q_R_setJ, q_L_setJ, q_AI_setJ, q_AJ_setJ, q_AR_setJ, q_sz_setJ, q_su_setJ, q_K_setR, q_I_setR, q_J_setR, q_R_setR, q_L_setR, q_AI_setR, q_AJ_setR, q_AR_setR, q_sz_setR, q_su_setR, q_K_setAI, q_I_setAI, q_J_setAI, q_R_setAI, q_L_setAI, q_AI_setAI, q_AJ_setAI, q_AR_setAI, q_sz_setAI, q_su_setAI, q_K_setAJ, q_I_setAJ, q_J_setAJ, q_R_setAJ, q_L_setAJ, q_AI_setAJ, q_AJ_setAJ, q_AR_setAJ, q_sz_setAJ, q_su_setAJ, q_K_setAR, q_I_setAR, q_J_setAR, q_R_setAR, q_L_setAR, q_AI_setAR, q_AJ_setAR, q_AR_setAR, q_sz_setAR, q_su_setAR, q_K_newO, q_I_newO, q_J_newO, q_R_newO, q_L_newO, q_AI_newO, q_AJ_newO, q_AR_newO, q_sz_newO, q_su_newO, q_K_newA, q_I_newA, q_J_newA, q_R_newA, q_L_newA, q_AI_newA, q_AJ_newA, q_AR_newA, q_sz_newA, q_su_newA, q_K_skip, q_I_skip, q_J_skip, q_R_skip, q_L_skip, q_AI_skip, q_AJ_skip, q_AR_skip, q_sz_skip, q_su_skip, q_up2, q_up, s3, bI_tt]
      · have ey : y = z := by rw [← hy]; unfold tellF; rw [if_neg ez]
        subst ey
        have ij : i ≠ j := by
          intro z; subst z
          rw [hj] at e; cases e
          exact ez hx
        exact ⟨⟨q', (tlN_AI (by omega)).trans y1, y2⟩, (tlN_AI (by omega)).trans y3, (tlN_AI (by omega)).trans y4, (tlN_AI (by omega)).trans y5⟩
  · intro r y _ hr
    refine hr.nm (fun c _ _ => tlN_AI (by omega)) (fun i a ha => ?_)
    rw [t1, List.getElem?_map]
    cases e : m.nets[i]? with
    | none => rw [e] at ha; cases ha
    | some z =>
      rw [e] at ha
      simp only [Option.map_some, Option.some.injEq] at ha ⊢
      rw [tellF_1]
      exact ha
