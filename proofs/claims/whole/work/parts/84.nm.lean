/-! ===== the reference: names in the text ===== -/
/-- the text T in the half hv -/
def TH (P : xP) (T : xT) (hv : Nat) (σ : xS) : Prop := RI P σ ∧ TV T ∧ hv ≤ 1 ∧ σ.AI (P.base + 14) hv = nI T.2 ∧ (∀ i, i < T.2 → σ.AI (P.base + 13) (1000 * hv + i) = nI (T.1 i)) ∧ 5000 ≤ P.N
theorem TX.th {P : xP} {T : xT} {hv : Nat} {σ : xS} (h : TX P T hv σ) : TH P T hv σ := ⟨h.1, h.2.1, h.2.2.1, h.2.2.2.2.1, h.2.2.2.2.2.1, h.2.2.2.2.2.2⟩
theorem TH.tx {P : xP} {T : xT} {hv : Nat} {σ : xS} (h : TH P T hv σ) (hh : σ.I 1140 (P.base + 11) = nI hv) : TX P T hv σ := ⟨h.1, h.2.1, h.2.2.1, hh, h.2.2.2.1, h.2.2.2.2.1, h.2.2.2.2.2⟩
/-- a name stands at p -/
def NmAt (T : xT) (p : Nat) (l : List Nat) : Prop := lx_kind T p = 0 ∧ lx_nm T p = l
theorem NmAt.lt {T : xT} {p : Nat} {l : List Nat} (h : NmAt T p l) : p < T.2 := (kind_nm (Or.inl h.1)).1
theorem NmAt.len {T : xT} {p : Nat} {l : List Nat} (h : NmAt T p l) : lx_end T p - p = l.length := by rw [← h.2, nm_len]
theorem NmAt.le8 {T : xT} {p : Nat} {l : List Nat} (h : NmAt T p l) : l.length ≤ 8 := by
  rw [← h.len]
  exact (kind_nm (Or.inl h.1)).2.2.2
theorem NmAt.get {T : xT} {p : Nat} {l : List Nat} (h : NmAt T p l) {i : Nat} (hi : i < l.length) : l[i]? = some (T.1 (p + i)) ∧ p + i < T.2 := by
  have el := end_le h.lt
  have hl := h.len
  refine ⟨?_, by omega⟩
  rw [← h.2]
  unfold lx_nm
  rw [List.getElem?_map, List.getElem?_range (by omega)]
  rfl
/-- letters and digits go on up to the end of the name, and no further -/
theorem NmAt.in {T : xT} {p : Nat} {l : List Nat} (h : NmAt T p l) {i : Nat} (hi : i < l.length) : lx_D (T.1 (p + i)) = true ∨ lx_L (T.1 (p + i)) = true := by
  obtain ⟨k1, k2, k3, k4⟩ := kind_nm (Or.inl h.1)
  have el := end_le k1
  have hl := h.len
  by_cases e : i = 0
  · subst e; exact Or.inr k3
  · have ee : lx_end T p = lx_row T false (T.2 - (p + 1)) := by unfold lx_end; rw [if_neg (by rw [k2]; simp), if_pos k3]
    have := row_all T false (T.2 - (p + 1)) (p + i) (by omega) (by omega) (by omega)
    exact this.imp id (fun z => z.2)
theorem NmAt.out {T : xT} {p : Nat} {l : List Nat} (h : NmAt T p l) (hlt : p + l.length < T.2) : lx_D (T.1 (p + l.length)) = false ∧ lx_L (T.1 (p + l.length)) = false := by
  obtain ⟨k1, k2, k3, k4⟩ := kind_nm (Or.inl h.1)
  have el := end_le k1
  have hl := h.len
  have ee : lx_end T p = lx_row T false (T.2 - (p + 1)) := by unfold lx_end; rw [if_neg (by rw [k2]; simp), if_pos k3]
  have e2 : p + l.length = lx_row T false (T.2 - (p + 1)) := by omega
  have := row_end T false (T.2 - (p + 1)) (by omega) (by omega)
  rw [← e2] at this
  refine ⟨?_, ?_⟩
  · cases z : lx_D (T.1 (p + l.length)) with
    | false => rfl
    | true => exact absurd (Or.inl z) this
  · cases z : lx_L (T.1 (p + l.length)) with
    | false => rfl
    | true => exact absurd (Or.inr ⟨rfl, z⟩) this
theorem rw_lengthL {P : xP} {T : xT} {hv : Nat} {σ : xS} {p : Nat} {l : List Nat} (h : TH P T hv σ) (hn : NmAt T p l) : ∀ (r j n : Nat), j + r = l.length → r < n → dm_X12_length_L2 P (P.base + 11) n (nI hv) (nI p) (nI j) σ = some (.inl (nI l.length), σ) := by
  obtain ⟨h1, h2, h3, h5, h6, h7⟩ := h
  have a0 := ri_0 h1
  have a4 := ri_4 h1
  have a5 := ri_5 h1
  have a6 := ri_6 h1
  have a7 := ri_7 h1
  have a8 := ri_8 h1
  have a9 := ri_9 h1
  have t1 := h2.1
  have plt := hn.lt
  have el := end_le plt
  have hl := hn.len
  intro r
  induction r with
  | zero =>
    intro j n hj hn'
    obtain ⟨n, rfl⟩ : ∃ m, n = m + 1 := ⟨n - 1, by omega⟩
    have ej : j = l.length := by omega
    subst ej
    unfold dm_X12_length_L2 dm_X12_length_p60
    by_cases e : T.2 ≤ p + l.length
    · simp (disch := first | assumption | omega) [ck_T, sm_s, bd_l, bd_r, lt_e, eq_self, and_self, if_true, true_and, and_true, lit_nI, nI_add, nI_mul, nI_sub, nI_clamp, nI_eq, nI_ltI, nI_leI, nN_e, nI_nN, nN_nI, bI_0, bI_1, bI_n, bool_0, bool_1, in_T, lg_cmp0, ofN_nI, a0, a7, a8, a9, h5, e, x_in, dlt_T]
    · obtain ⟨o1, o2⟩ := hn.out (by omega)
      have tv := h6 (p + l.length) (by omega)
      have cc := (h2.c (show p + l.length < T.2 by omega)).2
      have dl := rw_isLetter P σ (c := T.1 (p + l.length)) (by omega)
      have dd := rw_isDigit P σ (c := T.1 (p + l.length)) (by omega)
      rw [o2] at dl
      rw [o1] at dd
      rw [← Nat.add_assoc] at tv
      simp (disch := first | assumption | omega) [ck_T, sm_s, bd_l, bd_r, lt_e, eq_self, and_self, if_true, true_and, and_true, lit_nI, nI_add, nI_mul, nI_sub, nI_clamp, nI_eq, nI_ltI, nI_leI, nN_e, nI_nN, nN_nI, bI_0, bI_1, bI_n, bool_0, bool_1, in_T, lg_cmp0, ofN_nI, a0, a4, a5, a6, a7, a8, a9, h5, e, x_in, dlt_T, tv, dl, dd, bI_ff]
  | succ r ih =>
    intro j n hj hn'
    obtain ⟨n, rfl⟩ : ∃ m, n = m + 1 := ⟨n - 1, by omega⟩
    have e : ¬ T.2 ≤ p + j := by omega
    have tv := h6 (p + j) (by omega)
    have cc := (h2.c (show p + j < T.2 by omega)).2
    have dl := rw_isLetter P σ (c := T.1 (p + j)) (by omega)
    have dd := rw_isDigit P σ (c := T.1 (p + j)) (by omega)
    have ihh := ih (j + 1) n (by omega) (by omega)
    rw [← Nat.add_assoc] at tv
    conv => lhs; unfold dm_X12_length_L2 dm_X12_length_p54
    cases eL : lx_L (T.1 (p + j)) with
    | true =>
      rw [eL] at dl
      simp (disch := first | assumption | omega) [ck_T, sm_s, bd_l, bd_r, lt_e, eq_self, and_self, if_true, true_and, and_true, lit_nI, nI_add, nI_mul, nI_sub, nI_clamp, nI_eq, nI_ltI, nI_leI, nN_e, nI_nN, nN_nI, bI_0, bI_1, bI_n, bool_0, bool_1, in_T, lg_cmp0, ofN_nI, a0, a4, a5, a6, a7, a8, a9, h5, e, x_in, dlt_T, tv, dl, bI_tt, ihh]
    | false =>
      have eD : lx_D (T.1 (p + j)) = true := by
        rcases hn.in (show j < l.length by omega) with q | q
        · exact q
        · rw [eL] at q; cases q
      rw [eL] at dl
      rw [eD] at dd
      simp (disch := first | assumption | omega) [ck_T, sm_s, bd_l, bd_r, lt_e, eq_self, and_self, if_true, true_and, and_true, lit_nI, nI_add, nI_mul, nI_sub, nI_clamp, nI_eq, nI_ltI, nI_leI, nN_e, nI_nN, nN_nI, bI_0, bI_1, bI_n, bool_0, bool_1, in_T, lg_cmp0, ofN_nI, a0, a4, a5, a6, a7, a8, a9, h5, e, x_in, dlt_T, tv, dl, dd, bI_tt, bI_ff, ihh]
theorem rw_length {P : xP} {T : xT} {hv : Nat} {σ : xS} {p : Nat} {l : List Nat} (h : TH P T hv σ) (hn : NmAt T p l) : dm_X12_length P (P.base + 11) (nI hv) (nI p) σ = some (.inl (nI l.length), σ) := rw_lengthL h hn l.length 0 P.N (by omega) (by have := h.2.2.2.2.2; have := hn.le8; omega)
theorem rw_sameL {P : xP} {T : xT} {hv : Nat} {σ : xS} {a b : Nat} {la lb : List Nat} (h : TX P T hv σ) (ha : NmAt T a la) (hb : NmAt T b lb) (hl : la.length = lb.length) : ∀ (r j n : Nat), j + r = la.length → r < n → dm_X12_areSame_L33 P (P.base + 11) n (nI a) (nI b) (nI la.length) (nI 1) (nI j) σ = some (.inl (bI (decide (la.drop j = lb.drop j))), σ) := by
  have a0 := ri_0 h.1
  have t1 := h.2.1.1
  have l8 := ha.le8
  have p1 := ha.lt
  have p2 := hb.lt
  intro r
  induction r with
  | zero =>
    intro j n hj hn
    obtain ⟨n, rfl⟩ : ∃ m, n = m + 1 := ⟨n - 1, by omega⟩
    have e : la.drop j = lb.drop j := by rw [List.drop_eq_nil_of_le (by omega), List.drop_eq_nil_of_le (by omega)]
    rw [decide_eq_true e]
    have ej : la.length ≤ j := by omega
    unfold dm_X12_areSame_L33 dm_X12_areSame_p76
    simp (disch := first | assumption | omega) [ck_T, sm_s, bd_l, bd_r, lt_e, eq_self, and_self, if_true, true_and, and_true, lit_nI, nI_add, nI_mul, nI_sub, nI_clamp, nI_eq, nI_ltI, nI_leI, nN_e, nI_nN, nN_nI, bI_0, bI_1, bI_n, bool_0, bool_1, in_T, lg_cmp0, ofN_nI, ej, bI_tt]
  | succ r ih =>
    intro j n hj hn
    obtain ⟨n, rfl⟩ : ∃ m, n = m + 1 := ⟨n - 1, by omega⟩
    obtain ⟨g1, g2⟩ := ha.get (show j < la.length by omega)
    obtain ⟨g3, g4⟩ := hb.get (show j < lb.length by omega)
    have s1 := rw_sign h (k := a + j) (by omega)
    have s2 := rw_sign h (k := b + j) (by omega)
    have v1 : sgn T (a + j) = T.1 (a + j) := if_pos g2
    have v2 : sgn T (b + j) = T.1 (b + j) := if_pos g4
    rw [v1] at s1
    rw [v2] at s2
    have c1 := (h.2.1.c g2).2
    have c2 := (h.2.1.c g4).2
    have ej : ¬ la.length ≤ j := by omega
    have n1 : ¬ nI 1 = nI 0 := by decide
    have d1 := drop_get g1
    have d2 := drop_get g3
    unfold dm_X12_areSame_L33 dm_X12_areSame_p68
    by_cases e : T.1 (a + j) = T.1 (b + j)
    · have ihh := ih (j + 1) n (by omega) (by omega)
      have eq : decide (la.drop j = lb.drop j) = decide (la.drop (j + 1) = lb.drop (j + 1)) := by
        rw [d1, d2, e]
        simp
      rw [eq]
      simp (disch := first | assumption | omega) [ck_T, sm_s, bd_l, bd_r, lt_e, eq_self, and_self, if_true, true_and, and_true, lit_nI, nI_add, nI_mul, nI_sub, nI_clamp, nI_eq, nI_ltI, nI_leI, nN_e, nI_nN, nN_nI, bI_0, bI_1, bI_n, bool_0, bool_1, in_T, lg_cmp0, ofN_nI, a0, ej, s1, s2, e, ihh]
    · have ne : ¬ la.drop j = lb.drop j := by
        rw [d1, d2]
        intro z
        simp only [List.cons.injEq] at z
        exact e z.1
      rw [decide_eq_false ne]
      obtain ⟨n', rfl⟩ : ∃ m, n = m + 1 := ⟨n - 1, by omega⟩
      have stop : dm_X12_areSame_L33 P (P.base + 11) (n' + 1) (nI a) (nI b) (nI la.length) (nI 0) (nI (j + 1)) σ = some (.inl (nI 0), σ) := by
        unfold dm_X12_areSame_L33 dm_X12_areSame_p76
        by_cases z : la.length ≤ j + 1
        · simp (disch := first | assumption | omega) [ck_T, sm_s, bd_l, bd_r, lt_e, eq_self, and_self, if_true, true_and, and_true, lit_nI, nI_add, nI_mul, nI_sub, nI_clamp, nI_eq, nI_ltI, nI_leI, nN_e, nI_nN, nN_nI, bI_0, bI_1, bI_n, bool_0, bool_1, in_T, lg_cmp0, ofN_nI, z]
        · simp (disch := first | assumption | omega) [ck_T, sm_s, bd_l, bd_r, lt_e, eq_self, and_self, if_true, true_and, and_true, lit_nI, nI_add, nI_mul, nI_sub, nI_clamp, nI_eq, nI_ltI, nI_leI, nN_e, nI_nN, nN_nI, bI_0, bI_1, bI_n, bool_0, bool_1, in_T, lg_cmp0, ofN_nI, z]
      simp (disch := first | assumption | omega) [ck_T, sm_s, bd_l, bd_r, lt_e, eq_self, and_self, if_true, true_and, and_true, lit_nI, nI_add, nI_mul, nI_sub, nI_clamp, nI_eq, nI_ltI, nI_leI, nN_e, nI_nN, nN_nI, bI_0, bI_1, bI_n, bool_0, bool_1, in_T, lg_cmp0, ofN_nI, a0, ej, s1, s2, e, stop, bI_ff]
theorem rw_areSame {P : xP} {T : xT} {hv : Nat} {σ : xS} {a b : Nat} {la lb : List Nat} (h : TX P T hv σ) (ha : NmAt T a la) (hb : NmAt T b lb) : dm_X12_areSame P (P.base + 11) (nI a) (nI b) σ = some (.inl (bI (decide (la = lb))), σ) := by
  have a0 := ri_0 h.1
  have hh := h.2.2.2.1
  have h1 := rw_length h.th ha
  have h2 := rw_length h.th hb
  have l1 := ha.le8
  have l2 := hb.le8
  have hN := h.2.2.2.2.2.2
  unfold dm_X12_areSame dm_X12_areSame_p28
  by_cases e : la.length = lb.length
  · have q := rw_sameL h ha hb e la.length 0 P.N (by omega) (by omega)
    rw [List.drop_zero, List.drop_zero] at q
    rw [← e] at h2
    simp (disch := first | assumption | omega) [ck_T, sm_s, bd_l, bd_r, lt_e, eq_self, and_self, if_true, true_and, and_true, lit_nI, nI_add, nI_mul, nI_sub, nI_clamp, nI_eq, nI_ltI, nI_leI, nN_e, nI_nN, nN_nI, bI_0, bI_1, bI_n, bool_0, bool_1, in_T, lg_cmp0, ofN_nI, a0, hh, h1, h2, q]
  · have ne : ¬ la = lb := fun z => e (by rw [z])
    rw [decide_eq_false ne]
    obtain ⟨n, hn⟩ : ∃ n, P.N = n + 1 := ⟨P.N - 1, by omega⟩
    have stop : dm_X12_areSame_L33 P (P.base + 11) P.N (nI a) (nI b) (nI la.length) (nI 0) (nI 0) σ = some (.inl (nI 0), σ) := by
      rw [hn]
      unfold dm_X12_areSame_L33 dm_X12_areSame_p76
      by_cases z : la.length ≤ 0
      · simp (disch := first | assumption | omega) [ck_T, sm_s, bd_l, bd_r, lt_e, eq_self, and_self, if_true, true_and, and_true, lit_nI, nI_add, nI_mul, nI_sub, nI_clamp, nI_eq, nI_ltI, nI_leI, nN_e, nI_nN, nN_nI, bI_0, bI_1, bI_n, bool_0, bool_1, in_T, lg_cmp0, ofN_nI, z]
      · simp (disch := first | assumption | omega) [ck_T, sm_s, bd_l, bd_r, lt_e, eq_self, and_self, if_true, true_and, and_true, lit_nI, nI_add, nI_mul, nI_sub, nI_clamp, nI_eq, nI_ltI, nI_leI, nN_e, nI_nN, nN_nI, bI_0, bI_1, bI_n, bool_0, bool_1, in_T, lg_cmp0, ofN_nI, z]
    simp (disch := first | assumption | omega) [ck_T, sm_s, bd_l, bd_r, lt_e, eq_self, and_self, if_true, true_and, and_true, lit_nI, nI_add, nI_mul, nI_sub, nI_clamp, nI_eq, nI_ltI, nI_leI, nN_e, nI_nN, nN_nI, bI_0, bI_1, bI_n, bool_0, bool_1, in_T, lg_cmp0, ofN_nI, a0, hh, h1, h2, e, stop, bI_ff]
