/-! ===== the reference: nets and digits of parts ===== -/
def sp_tn (T : xT) (ns : List xNet) (p : Nat) : Except Nat xNet := eb (sp_name T p) fun nm => match sp_find ns nm with
  | none => .error p
  | some x => if x.2.1 = 3 then .error p else .ok x
theorem rw_takeNet {P : xP} {T : xT} {hv : Nat} {lng : Bool} {ms : List xMod} {m : xMod} {n : Nat} {σ : xS} {p : Nat} (h : RX P T hv lng ms m n σ p) (hk : lx_kind T p ≠ 4) : Rr (dm_X12_takeNet P (P.base + 11) σ) (sp_tn T m.nets p) (fun v s x => s = σ ∧ x.1 = lx_nm T p ∧ lx_kind T p = 0 ∧ x.2.1 ≠ 3 ∧ x ∈ m.nets ∧ ∃ j, v = nI j ∧ m.nets[j]? = some x ∧ j < 16) (fun f s => f = p ∧ s = fl P σ p) := by
  have h0 := h
  obtain ⟨h1, h2, h3, h4, ⟨h5, h6⟩, ⟨ni, h7⟩, h8, h9, h10⟩ := h
  have a0 := ri_0 h1.1
  have ok := rw_ok h1.1 (h2.ok hk)
  have nn := rw_needName h1 h2 hk
  have fr := h2.2.1
  have l16 := h8.2.2.2.1.1
  have hv1 := h1.2.2.1
  have a34 := ri_34 h1.1
  have a35 := ri_35 h1.1
  have a36 := ri_36 h1.1
  have ff : dm_X12_fail P (P.base + 11) (nI p) σ = some (.inl (), fl P σ p) := rw_fail h1.1 (h2.ok hk) (nI p)
  have t1 := h1.2.1.1
  have hp := h2.1
  have de := fl_DE (P := P) (σ := σ) (p := p) h1.1 (by omega)
  have okd := rd_ok de.1 (by omega) de.2.1
  have d0 := ri_0 de.1
  unfold dm_X12_takeNet sp_tn sp_name
  by_cases e : lx_kind T p = 0
  · rw [if_pos e] at nn
    rw [if_pos e, eb_ok]
    have na : NmAt T p (lx_nm T p) := ⟨e, rfl⟩
    have nd := rw_netNamed h0 na
    cases ef : sp_find m.nets (lx_nm T p) with
    | none =>
      have fn := (fIx_N (ns := m.nets) (nm := lx_nm T p) (by omega)).mpr ef
      rw [fn] at nd
      refine Rr.er (v := nN) (σ' := fl P σ p) ?_ ⟨rfl, rfl⟩
      unfold dm_X12_takeNet_p23 dm_X12_takeNet_p49 dm_X12_takeNet_p57
      simp (disch := first | assumption | omega) [ck_T, sm_s, bd_l, bd_r, lt_e, eq_self, and_self, if_true, true_and, and_true, lit_nI, nI_add, nI_mul, nI_sub, nI_clamp, nI_eq, nI_ltI, nI_leI, nN_e, nI_nN, nN_nI, bI_0, bI_1, bI_n, bool_0, bool_1, in_T, lg_cmp0, ofN_nI, a0, nn, ok, fr, nd, ff]
    | some x =>
      obtain ⟨j, j1, j2, j3⟩ := fIx_S ef
      rw [j1] at nd
      have jl := get_lt j2
      have xm := sp_find_mem ef
      have nc := rw_netCell h1 h3 j
      obtain ⟨-, -, -, told⟩ := h7.2.1 j x j2
      simp only
      by_cases e3 : x.2.1 = 3
      · rw [if_pos e3]
        have tf : decide (x.2.1 ≠ 3) = false := by simp [e3]
        rw [tf] at told
        refine Rr.er (v := nI j) (σ' := fl P σ p) ?_ ⟨rfl, rfl⟩
        unfold dm_X12_takeNet_p23 dm_X12_takeNet_p49 dm_X12_takeNet_p57
        simp (disch := first | assumption | omega) [ck_T, sm_s, bd_l, bd_r, lt_e, eq_self, and_self, if_true, true_and, and_true, lit_nI, nI_add, nI_mul, nI_sub, nI_clamp, nI_eq, nI_ltI, nI_leI, nN_e, nI_nN, nN_nI, bI_0, bI_1, bI_n, bool_0, bool_1, in_T, lg_cmp0, ofN_nI, a0, nn, ok, fr, nd, nc, a34, a35, a36, told, bI_ff, x_in, dlt_T, ff]
      · rw [if_neg e3]
        have tf : decide (x.2.1 ≠ 3) = true := by simp [e3]
        rw [tf] at told
        refine Rr.ok (v := nI j) (σ' := σ) ?_ ⟨rfl, xm.2, e, e3, xm.1, j, rfl, j2, by omega⟩
        unfold dm_X12_takeNet_p23 dm_X12_takeNet_p57
        simp (disch := first | assumption | omega) [ck_T, sm_s, bd_l, bd_r, lt_e, eq_self, and_self, if_true, true_and, and_true, lit_nI, nI_add, nI_mul, nI_sub, nI_clamp, nI_eq, nI_ltI, nI_leI, nN_e, nI_nN, nN_nI, bI_0, bI_1, bI_n, bool_0, bool_1, in_T, lg_cmp0, ofN_nI, a0, nn, ok, fr, nd, nc, a34, a35, a36, told, bI_tt, x_in, dlt_T]
  · rw [if_neg e] at nn
    rw [if_neg e, eb_er]
    refine Rr.er (v := nN) (σ' := fl P σ p) ?_ ⟨rfl, rfl⟩
    unfold dm_X12_takeNet_p23 dm_X12_takeNet_p57
    simp (disch := first | assumption | omega) [ck_T, sm_s, bd_l, bd_r, lt_e, eq_self, and_self, if_true, true_and, and_true, lit_nI, nI_add, nI_mul, nI_sub, nI_clamp, nI_eq, nI_ltI, nI_leI, nN_e, nI_nN, nN_nI, bI_0, bI_1, bI_n, bool_0, bool_1, in_T, lg_cmp0, ofN_nI, a0, nn, d0, okd]
theorem rd_takeNet {P : xP} {σ : xS} {f : Nat} (h : DE P σ f) : dm_X12_takeNet P (P.base + 11) σ = some (.inl nN, σ) := by
  have ok := rd_ok h.1 (by have := h.2.2; omega) h.2.1
  have a0 := ri_0 h.1
  have nn := rd_needName h
  unfold dm_X12_takeNet dm_X12_takeNet_p23 dm_X12_takeNet_p57
  simp (disch := first | assumption | omega) [ck_T, sm_s, bd_l, bd_r, lt_e, eq_self, and_self, if_true, true_and, and_true, lit_nI, nI_add, nI_mul, nI_sub, nI_clamp, nI_eq, nI_ltI, nI_leI, nN_e, nI_nN, nN_nI, bI_0, bI_1, bI_n, bool_0, bool_1, in_T, lg_cmp0, ofN_nI, a0, ok, nn]
def dgs (T : xT) (p j r : Nat) : Bool := (List.range' j r).all fun k => decide (sgn T (p + k) = 48) || decide (sgn T (p + k) = 49)
theorem rw_dgL {P : xP} {T : xT} {hv : Nat} {σ : xS} {p n : Nat} (h : TX P T hv σ) (fr : σ.I 1136 (P.base + 11) = nI p) (hp : p ≤ T.2) (hn : p + n ≤ 1001) : ∀ (r j f : Nat) (c : Bool), j + r = n + 1 → r < f → dm_X12_takeDigits_L56 P (P.base + 11) f (nI n) (bI c) (nI j) σ = dm_X12_takeDigits_p110 P (P.base + 11) (nI n) (bI (c && dgs T p j r)) σ := by
  have a0 := ri_0 h.1
  have t1 := h.2.1.1
  intro r
  induction r with
  | zero =>
    intro j f c hj hf
    obtain ⟨f, rfl⟩ : ∃ m, f = m + 1 := ⟨f - 1, by omega⟩
    have e1 : n < j := by omega
    have e2 : (c && dgs T p j 0) = c := by simp [dgs]
    rw [e2]
    unfold dm_X12_takeDigits_L56
    simp (disch := first | assumption | omega) [ck_T, sm_s, bd_l, bd_r, lt_e, eq_self, and_self, if_true, true_and, and_true, lit_nI, nI_add, nI_mul, nI_sub, nI_clamp, nI_eq, nI_ltI, nI_leI, nN_e, nI_nN, nN_nI, bI_0, bI_1, bI_n, bool_0, bool_1, in_T, lg_cmp0, ofN_nI, e1]
  | succ r ih =>
    intro j f c hj hf
    obtain ⟨f, rfl⟩ : ∃ m, f = m + 1 := ⟨f - 1, by omega⟩
    have e1 : ¬ n < j := by omega
    have sg := rw_sign h (k := p + j) (by omega)
    have sl := sgn_lt h.2.1 (p + j)
    have ds : dgs T p j (r + 1) = ((decide (sgn T (p + j) = 48) || decide (sgn T (p + j) = 49)) && dgs T p (j + 1) r) := by
      unfold dgs
      rw [List.range'_succ, List.all_cons]
    cases c with
    | false =>
      rw [Bool.false_and]
      unfold dm_X12_takeDigits_L56
      simp (disch := first | assumption | omega) [ck_T, sm_s, bd_l, bd_r, lt_e, eq_self, and_self, if_true, true_and, and_true, lit_nI, nI_add, nI_mul, nI_sub, nI_clamp, nI_eq, nI_ltI, nI_leI, nN_e, nI_nN, nN_nI, bI_0, bI_1, bI_n, bool_0, bool_1, in_T, lg_cmp0, ofN_nI, e1, bI_ff]
    | true =>
      rw [Bool.true_and, ds]
      unfold dm_X12_takeDigits_L56 dm_X12_takeDigits_p98 dm_X12_takeDigits_p103
      by_cases z1 : sgn T (p + j) = 48
      · have ihh := ih (j + 1) f true (by omega) (by omega)
        have eb1 : ((decide (sgn T (p + j) = 48) || decide (sgn T (p + j) = 49)) && dgs T p (j + 1) r) = (true && dgs T p (j + 1) r) := by simp [z1]
        rw [eb1, ← ihh]
        simp (disch := first | assumption | omega) [ck_T, sm_s, bd_l, bd_r, lt_e, eq_self, and_self, if_true, true_and, and_true, lit_nI, nI_add, nI_mul, nI_sub, nI_clamp, nI_eq, nI_ltI, nI_leI, nN_e, nI_nN, nN_nI, bI_0, bI_1, bI_n, bool_0, bool_1, in_T, lg_cmp0, ofN_nI, a0, e1, fr, sg, z1, bI_tt]
      · by_cases z2 : sgn T (p + j) = 49
        · have ihh := ih (j + 1) f true (by omega) (by omega)
          have eb1 : ((decide (sgn T (p + j) = 48) || decide (sgn T (p + j) = 49)) && dgs T p (j + 1) r) = (true && dgs T p (j + 1) r) := by simp [z2]
          rw [eb1, ← ihh]
          simp (disch := first | assumption | omega) [ck_T, sm_s, bd_l, bd_r, lt_e, eq_self, and_self, if_true, true_and, and_true, lit_nI, nI_add, nI_mul, nI_sub, nI_clamp, nI_eq, nI_ltI, nI_leI, nN_e, nI_nN, nN_nI, bI_0, bI_1, bI_n, bool_0, bool_1, in_T, lg_cmp0, ofN_nI, a0, e1, fr, sg, z2, bI_tt]
        · have ihh := ih (j + 1) f false (by omega) (by omega)
          have eb1 : ((decide (sgn T (p + j) = 48) || decide (sgn T (p + j) = 49)) && dgs T p (j + 1) r) = (false && dgs T p (j + 1) r) := by simp [z1, z2]
          rw [eb1, ← ihh]
          simp (disch := first | assumption | omega) [ck_T, sm_s, bd_l, bd_r, lt_e, eq_self, and_self, if_true, true_and, and_true, lit_nI, nI_add, nI_mul, nI_sub, nI_clamp, nI_eq, nI_ltI, nI_leI, nN_e, nI_nN, nN_nI, bI_0, bI_1, bI_n, bool_0, bool_1, in_T, lg_cmp0, ofN_nI, a0, e1, fr, sg, z1, z2, bI_tt, bI_ff]
/-- all that takeDigits looks at -/
def tdB (T : xT) (p w : Nat) : Bool := decide (rKd T p = 1) && (decide (sgn T p = 98) && (decide (1 ≤ rEnd T p - p - 1) && ((decide (w = 0) || decide (rEnd T p - p - 1 = w)) && dgs T p 1 (rEnd T p - p - 1))))
theorem rw_td {P : xP} {T : xT} {hv : Nat} {σ : xS} {p : Nat} (h : TX P T hv σ) (c : RW P T σ p) {w : Nat} (hw : w < 2 ^ 31) : ∃ v, dm_X12_takeDigits P (P.base + 11) (nI w) σ = dm_X12_takeDigits_p110 P (P.base + 11) v (bI (tdB T p w)) σ ∧ (rKd T p = 1 → v = nI (rEnd T p - p - 1)) := by
  obtain ⟨c1, c2, c3, c4, c5⟩ := c
  have a0 := ri_0 h.1
  have t1 := h.2.1.1
  have hN := h.2.2.2.2.2.2
  have re := rEnd_le c1
  have sg := rw_sign h (k := p) (by omega)
  have sl := sgn_lt h.2.1 p
  have rb : rKd T p < 10 := by unfold rKd; split <;> (try split) <;> (try split) <;> omega
  have stop : ∀ v : Int32, dm_X12_takeDigits_p51 P (P.base + 11) v σ = dm_X12_takeDigits_p110 P (P.base + 11) v (bI false) σ := by
    intro v
    obtain ⟨n, hn⟩ : ∃ n, P.N = n + 1 := ⟨P.N - 1, by omega⟩
    unfold dm_X12_takeDigits_p51 dm_X12_takeDigits_p52
    rw [hn]
    unfold dm_X12_takeDigits_L56
    split
    · rfl
    · rfl
  unfold dm_X12_takeDigits
  by_cases e : rKd T p = 1
  · have lt : p < T.2 := by
      apply Classical.byContradiction
      intro z
      unfold rKd at e
      rw [if_pos (by omega)] at e
      omega
    have er : rEnd T p = lx_end T p := if_pos lt
    have el := end_le lt
    have sub : nI (rEnd T p) - nI p - nI 1 = nI (rEnd T p - p - 1) := by rw [nI_sub (by omega), nI_sub (by omega)]
    have lp := rw_dgL h c2 c1 (n := rEnd T p - p - 1) (by omega) (rEnd T p - p - 1) 1 P.N true (by omega) (by omega)
    rw [Bool.true_and] at lp
    refine ⟨nI (rEnd T p - p - 1), ?_, fun _ => rfl⟩
    rw [e] at c5
    unfold tdB dm_X12_takeDigits_p47 dm_X12_takeDigits_p52
    have n1 : ¬ nI 98 = nI 0 := by decide
    by_cases z1 : sgn T p = 98
    · by_cases z2 : 1 ≤ rEnd T p - p - 1
      · have z2' : ¬ rEnd T p - p - 1 < 1 := by omega
        by_cases z3 : w = 0
        · have eb1 : (decide (rKd T p = 1) && (decide (sgn T p = 98) && (decide (1 ≤ rEnd T p - p - 1) && ((decide (w = 0) || decide (rEnd T p - p - 1 = w)) && dgs T p 1 (rEnd T p - p - 1))))) = dgs T p 1 (rEnd T p - p - 1) := by simp [e, z1, z2, z3]
          rw [eb1, ← lp]
          simp (disch := first | assumption | omega) [ck_T, sm_s, bd_l, bd_r, lt_e, eq_self, and_self, if_true, true_and, and_true, lit_nI, nI_add, nI_mul, nI_sub, nI_clamp, nI_eq, nI_ltI, nI_leI, nN_e, nI_nN, nN_nI, bI_0, bI_1, bI_n, bool_0, bool_1, in_T, lg_cmp0, ofN_nI, a0, c5, c4, c2, sub, sg, z1, z2', z3, bI_tt]
        · by_cases z4 : rEnd T p - p - 1 = w
          · subst z4
            have eb1 : (decide (rKd T p = 1) && (decide (sgn T p = 98) && (decide (1 ≤ rEnd T p - p - 1) && ((decide (rEnd T p - p - 1 = 0) || decide (rEnd T p - p - 1 = rEnd T p - p - 1)) && dgs T p 1 (rEnd T p - p - 1))))) = dgs T p 1 (rEnd T p - p - 1) := by
              rw [decide_eq_true e, decide_eq_true z1, decide_eq_true z2]
              simp
            rw [eb1, ← lp]
            simp (disch := first | assumption | omega) [ck_T, sm_s, bd_l, bd_r, lt_e, eq_self, and_self, if_true, true_and, and_true, lit_nI, nI_add, nI_mul, nI_sub, nI_clamp, nI_eq, nI_ltI, nI_leI, nN_e, nI_nN, nN_nI, bI_0, bI_1, bI_n, bool_0, bool_1, in_T, lg_cmp0, ofN_nI, a0, c5, c4, c2, sub, sg, z1, z2', z3, bI_tt]
          · have eb1 : (decide (rKd T p = 1) && (decide (sgn T p = 98) && (decide (1 ≤ rEnd T p - p - 1) && ((decide (w = 0) || decide (rEnd T p - p - 1 = w)) && dgs T p 1 (rEnd T p - p - 1))))) = false := by simp [z3, z4]
            rw [eb1, ← stop]
            simp (disch := first | assumption | omega) [ck_T, sm_s, bd_l, bd_r, lt_e, eq_self, and_self, if_true, true_and, and_true, lit_nI, nI_add, nI_mul, nI_sub, nI_clamp, nI_eq, nI_ltI, nI_leI, nN_e, nI_nN, nN_nI, bI_0, bI_1, bI_n, bool_0, bool_1, in_T, lg_cmp0, ofN_nI, a0, c5, c4, c2, sub, sg, z1, z2', z3, z4]
      · have z2' : rEnd T p - p - 1 < 1 := by omega
        have eb1 : (decide (rKd T p = 1) && (decide (sgn T p = 98) && (decide (1 ≤ rEnd T p - p - 1) && ((decide (w = 0) || decide (rEnd T p - p - 1 = w)) && dgs T p 1 (rEnd T p - p - 1))))) = false := by simp [z2]
        rw [eb1, ← stop]
        simp (disch := first | assumption | omega) [ck_T, sm_s, bd_l, bd_r, lt_e, eq_self, and_self, if_true, true_and, and_true, lit_nI, nI_add, nI_mul, nI_sub, nI_clamp, nI_eq, nI_ltI, nI_leI, nN_e, nI_nN, nN_nI, bI_0, bI_1, bI_n, bool_0, bool_1, in_T, lg_cmp0, ofN_nI, a0, c5, c4, c2, sub, sg, z1, z2']
    · have eb1 : (decide (rKd T p = 1) && (decide (sgn T p = 98) && (decide (1 ≤ rEnd T p - p - 1) && ((decide (w = 0) || decide (rEnd T p - p - 1 = w)) && dgs T p 1 (rEnd T p - p - 1))))) = false := by simp [z1]
      rw [eb1, ← stop]
      simp (disch := first | assumption | omega) [ck_T, sm_s, bd_l, bd_r, lt_e, eq_self, and_self, if_true, true_and, and_true, lit_nI, nI_add, nI_mul, nI_sub, nI_clamp, nI_eq, nI_ltI, nI_leI, nN_e, nI_nN, nN_nI, bI_0, bI_1, bI_n, bool_0, bool_1, in_T, lg_cmp0, ofN_nI, a0, c5, c4, c2, sub, sg, z1]
  · refine ⟨nI (rEnd T p) - nI p - nI 1, ?_, fun z => absurd z e⟩
    have eb1 : tdB T p w = false := by unfold tdB; simp [e]
    rw [eb1, ← stop]
    simp (disch := first | assumption | omega) [ck_T, sm_s, bd_l, bd_r, lt_e, eq_self, and_self, if_true, true_and, and_true, a0, c5, c4, c2, lit_nI, nI_eq, e]
theorem rd_takeDigits {P : xP} {T : xT} {hv k f : Nat} {σ : xS} (h : DQ P T hv k f σ) {w : Nat} (hw : w < 2 ^ 31) : ∃ v, dm_X12_takeDigits P (P.base + 11) (nI w) σ = some (.inl v, σ) := by
  obtain ⟨p, c⟩ := h.2.1
  obtain ⟨v, v1, -⟩ := rw_td h.1 c hw
  have de := h.de
  have ok := rd_ok de.1 (by have := de.2.2; omega) de.2.1
  have a0 := ri_0 de.1
  refine ⟨v, ?_⟩
  rw [v1]
  unfold dm_X12_takeDigits_p110 dm_X12_takeDigits_p129
  simp (disch := first | assumption | omega) [ck_T, sm_s, bd_l, bd_r, lt_e, eq_self, and_self, if_true, true_and, and_true, lit_nI, nI_add, nI_mul, nI_sub, nI_clamp, nI_eq, nI_ltI, nI_leI, nN_e, nI_nN, nN_nI, bI_0, bI_1, bI_n, bool_0, bool_1, in_T, lg_cmp0, ofN_nI, a0, ok]
