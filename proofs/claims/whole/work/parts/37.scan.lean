/-! ===== the class: the words of a tape ===== -/
def TP (P : xP) (T : xT) (σ : xS) : Prop := σ.I 901 (P.base + 1) = nI T.2 ∧ ∀ i, i < T.2 → σ.AI (P.base + 2) i = nI (T.1 i)
theorem cw_blanksL {P : xP} {T : xT} {σ : xS} (C : CI P σ) (hT : TV T) (h : TP P T σ) : ∀ (r n : Nat) (com : Bool), r ≤ T.2 → r < n → dm_X10_behindBlanks_L4 P (P.base + 1) n (bI com) (nI (T.2 - r)) σ = some (.inl (nI (lx_skip T r com)), σ) := by
  have h1 := h.1
  have t1 := hT.1
  intro r
  induction r with
  | zero =>
    intro n com _ hn
    obtain ⟨n, rfl⟩ : ∃ m, n = m + 1 := ⟨n - 1, by omega⟩
    simp (disch := first | assumption | omega) [dm_X10_behindBlanks_L4, x_chk, x_some, x_bind, x_let, lit_nI, nI_add, nI_mul, nI_sub, nI_clamp, nI_eq, nI_ltI, nI_leI, nN_e, nI_nN, nN_nI, bI_0, bI_1, bI_n, bool_0, bool_1, in_T, lg_cmp0, ofN_nI, ci_0, ci_1, ci_2, ci_3, ci_4, ci_5, ci_6, ci_7, ci_8, ci_9, ci_10, ci_11, ci_12, ci_13, ci_14, ci_15, ci_16, ci_17, ci_18, ci_19, ci_20, ci_21, ci_22, h1, lx_skip]
  | succ r ih =>
    intro n com hr hn
    obtain ⟨n, rfl⟩ : ∃ m, n = m + 1 := ⟨n - 1, by omega⟩
    obtain ⟨p, hp⟩ : ∃ p, p = T.2 - (r + 1) := ⟨_, rfl⟩
    have c1 := h.2 p (by omega)
    have c2 := hT.c (i := p) (by omega)
    have ep : T.2 - r = p + 1 := by omega
    have iT := ih n true (by omega) (by omega)
    have iF := ih n false (by omega) (by omega)
    rw [ep] at iT iF
    simp only [bI_tt, bI_ff] at iT iF
    simp only [lx_skip, ← hp]
    unfold dm_X10_behindBlanks_L4 dm_X10_behindBlanks_p84 dm_X10_behindBlanks_p71 dm_X10_behindBlanks_p84
    have e0 : ¬ T.2 ≤ p := by omega
    by_cases e1 : T.1 p = 10
    · simp (disch := first | assumption | omega) [x_chk, x_some, x_bind, x_let, lit_nI, nI_add, nI_mul, nI_sub, nI_clamp, nI_eq, nI_ltI, nI_leI, nN_e, nI_nN, nN_nI, bI_0, bI_1, bI_n, bool_0, bool_1, in_T, lg_cmp0, ofN_nI, ci_0, ci_1, ci_2, ci_3, ci_4, ci_5, ci_6, ci_7, ci_8, ci_9, ci_10, ci_11, ci_12, ci_13, ci_14, ci_15, ci_16, ci_17, ci_18, ci_19, ci_20, ci_21, ci_22, h1, c1, e0, e1, iT, iF, dlt_T]
    · cases com with
      | true =>
        simp (disch := first | assumption | omega) [x_chk, x_some, x_bind, x_let, lit_nI, nI_add, nI_mul, nI_sub, nI_clamp, nI_eq, nI_ltI, nI_leI, nN_e, nI_nN, nN_nI, bI_0, bI_1, bI_n, bool_0, bool_1, in_T, lg_cmp0, ofN_nI, ci_0, ci_1, ci_2, ci_3, ci_4, ci_5, ci_6, ci_7, ci_8, ci_9, ci_10, ci_11, ci_12, ci_13, ci_14, ci_15, ci_16, ci_17, ci_18, ci_19, ci_20, ci_21, ci_22, h1, c1, e0, e1, iT, iF, bI_tt, dlt_T]
      | false =>
        by_cases e2 : T.1 p = 47
        · by_cases e3 : T.2 ≤ p + 1
          · have e4 : ¬ p + 1 < T.2 := by omega
            simp (disch := first | assumption | omega) [x_chk, x_some, x_bind, x_let, lit_nI, nI_add, nI_mul, nI_sub, nI_clamp, nI_eq, nI_ltI, nI_leI, nN_e, nI_nN, nN_nI, bI_0, bI_1, bI_n, bool_0, bool_1, in_T, lg_cmp0, ofN_nI, ci_0, ci_1, ci_2, ci_3, ci_4, ci_5, ci_6, ci_7, ci_8, ci_9, ci_10, ci_11, ci_12, ci_13, ci_14, ci_15, ci_16, ci_17, ci_18, ci_19, ci_20, ci_21, ci_22, h1, c1, e0, e1, e2, e3, e4, iT, iF, bI_ff, dlt_T]
          · have e4 : p + 1 < T.2 := by omega
            have c3 := h.2 (p + 1) e4
            have c4 := hT.c (i := p + 1) e4
            by_cases e5 : T.1 (p + 1) = 47
            · simp (disch := first | assumption | omega) [x_chk, x_some, x_bind, x_let, lit_nI, nI_add, nI_mul, nI_sub, nI_clamp, nI_eq, nI_ltI, nI_leI, nN_e, nI_nN, nN_nI, bI_0, bI_1, bI_n, bool_0, bool_1, in_T, lg_cmp0, ofN_nI, ci_0, ci_1, ci_2, ci_3, ci_4, ci_5, ci_6, ci_7, ci_8, ci_9, ci_10, ci_11, ci_12, ci_13, ci_14, ci_15, ci_16, ci_17, ci_18, ci_19, ci_20, ci_21, ci_22, h1, c1, c3, e0, e1, e2, e3, e4, e5, iT, iF, bI_ff, dlt_T]
            · simp (disch := first | assumption | omega) [x_chk, x_some, x_bind, x_let, lit_nI, nI_add, nI_mul, nI_sub, nI_clamp, nI_eq, nI_ltI, nI_leI, nN_e, nI_nN, nN_nI, bI_0, bI_1, bI_n, bool_0, bool_1, in_T, lg_cmp0, ofN_nI, ci_0, ci_1, ci_2, ci_3, ci_4, ci_5, ci_6, ci_7, ci_8, ci_9, ci_10, ci_11, ci_12, ci_13, ci_14, ci_15, ci_16, ci_17, ci_18, ci_19, ci_20, ci_21, ci_22, h1, c1, c3, e0, e1, e2, e3, e4, e5, iT, iF, bI_ff, dlt_T]
        · by_cases e3 : T.1 p = 32
          · simp (disch := first | assumption | omega) [x_chk, x_some, x_bind, x_let, lit_nI, nI_add, nI_mul, nI_sub, nI_clamp, nI_eq, nI_ltI, nI_leI, nN_e, nI_nN, nN_nI, bI_0, bI_1, bI_n, bool_0, bool_1, in_T, lg_cmp0, ofN_nI, ci_0, ci_1, ci_2, ci_3, ci_4, ci_5, ci_6, ci_7, ci_8, ci_9, ci_10, ci_11, ci_12, ci_13, ci_14, ci_15, ci_16, ci_17, ci_18, ci_19, ci_20, ci_21, ci_22, h1, c1, e0, e1, e2, e3, iT, iF, bI_ff, dlt_T]
          · simp (disch := first | assumption | omega) [x_chk, x_some, x_bind, x_let, lit_nI, nI_add, nI_mul, nI_sub, nI_clamp, nI_eq, nI_ltI, nI_leI, nN_e, nI_nN, nN_nI, bI_0, bI_1, bI_n, bool_0, bool_1, in_T, lg_cmp0, ofN_nI, ci_0, ci_1, ci_2, ci_3, ci_4, ci_5, ci_6, ci_7, ci_8, ci_9, ci_10, ci_11, ci_12, ci_13, ci_14, ci_15, ci_16, ci_17, ci_18, ci_19, ci_20, ci_21, ci_22, h1, c1, e0, e1, e2, e3, iT, iF, bI_ff, dlt_T]
theorem cw_blanks {P : xP} {T : xT} {σ : xS} (C : CI P σ) (hT : TV T) (h : TP P T σ) {p : Nat} (hp : p ≤ T.2) : dm_X10_behindBlanks P (P.base + 1) (nI p) σ = some (.inl (nI (lx_skip T (T.2 - p) false)), σ) := by
  have q := cw_blanksL C hT h (T.2 - p) P.N false (by omega) (by have := C.N; have := hT.1; omega)
  have e : T.2 - (T.2 - p) = p := by omega
  rw [e] at q
  exact q
theorem cw_rowL {P : xP} {T : xT} {σ : xS} (C : CI P σ) (hT : TV T) (h : TP P T σ) (dig : Bool) : ∀ (r n : Nat), r ≤ T.2 → r < n → dm_X10_rowEnd_L34 P (P.base + 1) n (bI dig) (nI (T.2 - r)) σ = some (.inl (nI (lx_row T dig r)), σ) := by
  have h1 := h.1
  have t1 := hT.1
  intro r
  induction r with
  | zero =>
    intro n _ hn
    obtain ⟨n, rfl⟩ : ∃ m, n = m + 1 := ⟨n - 1, by omega⟩
    simp (disch := first | assumption | omega) [dm_X10_rowEnd_L34, x_chk, x_some, x_bind, x_let, lit_nI, nI_add, nI_mul, nI_sub, nI_clamp, nI_eq, nI_ltI, nI_leI, nN_e, nI_nN, nN_nI, bI_0, bI_1, bI_n, bool_0, bool_1, in_T, lg_cmp0, ofN_nI, ci_0, ci_1, ci_2, ci_3, ci_4, ci_5, ci_6, ci_7, ci_8, ci_9, ci_10, ci_11, ci_12, ci_13, ci_14, ci_15, ci_16, ci_17, ci_18, ci_19, ci_20, ci_21, ci_22, h1, lx_row]
  | succ r ih =>
    intro n hr hn
    obtain ⟨n, rfl⟩ : ∃ m, n = m + 1 := ⟨n - 1, by omega⟩
    obtain ⟨p, hp⟩ : ∃ p, p = T.2 - (r + 1) := ⟨_, rfl⟩
    have c1 := h.2 p (by omega)
    have c2 := hT.c (i := p) (by omega)
    have ep : T.2 - r = p + 1 := by omega
    have iT := ih n (by omega) (by omega)
    rw [ep] at iT
    simp only [lx_row, ← hp]
    have d := cw_isDigit P σ (c := T.1 p) (by omega)
    have l := cw_isLetter P σ (c := T.1 p) (by omega)
    unfold dm_X10_rowEnd_L34 dm_X10_rowEnd_p70 dm_X10_rowEnd_p72
    have e0 : ¬ T.2 ≤ p := by omega
    cases e1 : lx_D (T.1 p) with
    | true => 
      simp (disch := first | assumption | omega) [x_chk, x_some, x_bind, x_let, lit_nI, nI_add, nI_mul, nI_sub, nI_clamp, nI_eq, nI_ltI, nI_leI, nN_e, nI_nN, nN_nI, bI_0, bI_1, bI_n, bool_0, bool_1, in_T, lg_cmp0, ofN_nI, ci_0, ci_1, ci_2, ci_3, ci_4, ci_5, ci_6, ci_7, ci_8, ci_9, ci_10, ci_11, ci_12, ci_13, ci_14, ci_15, ci_16, ci_17, ci_18, ci_19, ci_20, ci_21, ci_22, h1, c1, e0, e1, d, iT, dlt_T]
    | false =>
      cases dig with
      | true => simp (disch := first | assumption | omega) [x_chk, x_some, x_bind, x_let, lit_nI, nI_add, nI_mul, nI_sub, nI_clamp, nI_eq, nI_ltI, nI_leI, nN_e, nI_nN, nN_nI, bI_0, bI_1, bI_n, bool_0, bool_1, in_T, lg_cmp0, ofN_nI, ci_0, ci_1, ci_2, ci_3, ci_4, ci_5, ci_6, ci_7, ci_8, ci_9, ci_10, ci_11, ci_12, ci_13, ci_14, ci_15, ci_16, ci_17, ci_18, ci_19, ci_20, ci_21, ci_22, h1, c1, e0, e1, d, bI_tt, bI_ff, dlt_T]
      | false =>
        cases e2 : lx_L (T.1 p) with
        | true =>
          simp only [bI_ff] at iT
          simp (disch := first | assumption | omega) [x_chk, x_some, x_bind, x_let, lit_nI, nI_add, nI_mul, nI_sub, nI_clamp, nI_eq, nI_ltI, nI_leI, nN_e, nI_nN, nN_nI, bI_0, bI_1, bI_n, bool_0, bool_1, in_T, lg_cmp0, ofN_nI, ci_0, ci_1, ci_2, ci_3, ci_4, ci_5, ci_6, ci_7, ci_8, ci_9, ci_10, ci_11, ci_12, ci_13, ci_14, ci_15, ci_16, ci_17, ci_18, ci_19, ci_20, ci_21, ci_22, h1, c1, e0, e1, e2, d, l, iT, bI_tt, bI_ff, dlt_T]
        | false => simp (disch := first | assumption | omega) [x_chk, x_some, x_bind, x_let, lit_nI, nI_add, nI_mul, nI_sub, nI_clamp, nI_eq, nI_ltI, nI_leI, nN_e, nI_nN, nN_nI, bI_0, bI_1, bI_n, bool_0, bool_1, in_T, lg_cmp0, ofN_nI, ci_0, ci_1, ci_2, ci_3, ci_4, ci_5, ci_6, ci_7, ci_8, ci_9, ci_10, ci_11, ci_12, ci_13, ci_14, ci_15, ci_16, ci_17, ci_18, ci_19, ci_20, ci_21, ci_22, h1, c1, e0, e1, e2, d, l, bI_tt, bI_ff, dlt_T]
theorem cw_rowEnd {P : xP} {T : xT} {σ : xS} (C : CI P σ) (hT : TV T) (h : TP P T σ) {p : Nat} (hp : p < T.2) : dm_X10_rowEnd P (P.base + 1) (nI p) σ = some (.inl (nI (lx_end T p)), σ) := by
  have t1 := hT.1
  have c1 := h.2 p hp
  have c2 := hT.c hp
  have d := cw_isDigit P σ (c := T.1 p) (by omega)
  have l := cw_isLetter P σ (c := T.1 p) (by omega)
  have qT := cw_rowL C hT h true (T.2 - (p + 1)) P.N (by omega) (by have := C.N; omega)
  have qF := cw_rowL C hT h false (T.2 - (p + 1)) P.N (by omega) (by have := C.N; omega)
  have e : T.2 - (T.2 - (p + 1)) = p + 1 := by omega
  rw [e] at qT qF
  simp only [bI_tt, bI_ff] at qT qF
  unfold dm_X10_rowEnd dm_X10_rowEnd_p30 lx_end
  cases e1 : lx_D (T.1 p) with
  | true => simp (disch := first | assumption | omega) [x_chk, x_some, x_bind, x_let, lit_nI, nI_add, nI_mul, nI_sub, nI_clamp, nI_eq, nI_ltI, nI_leI, nN_e, nI_nN, nN_nI, bI_0, bI_1, bI_n, bool_0, bool_1, in_T, lg_cmp0, ofN_nI, ci_0, ci_1, ci_2, ci_3, ci_4, ci_5, ci_6, ci_7, ci_8, ci_9, ci_10, ci_11, ci_12, ci_13, ci_14, ci_15, ci_16, ci_17, ci_18, ci_19, ci_20, ci_21, ci_22, c1, e1, d, qT, bI_tt, dlt_T]
  | false =>
    cases e2 : lx_L (T.1 p) with
    | true => simp (disch := first | assumption | omega) [x_chk, x_some, x_bind, x_let, lit_nI, nI_add, nI_mul, nI_sub, nI_clamp, nI_eq, nI_ltI, nI_leI, nN_e, nI_nN, nN_nI, bI_0, bI_1, bI_n, bool_0, bool_1, in_T, lg_cmp0, ofN_nI, ci_0, ci_1, ci_2, ci_3, ci_4, ci_5, ci_6, ci_7, ci_8, ci_9, ci_10, ci_11, ci_12, ci_13, ci_14, ci_15, ci_16, ci_17, ci_18, ci_19, ci_20, ci_21, ci_22, c1, e1, e2, d, l, qF, bI_tt, bI_ff, dlt_T]
    | false => simp (disch := first | assumption | omega) [x_chk, x_some, x_bind, x_let, lit_nI, nI_add, nI_mul, nI_sub, nI_clamp, nI_eq, nI_ltI, nI_leI, nN_e, nI_nN, nN_nI, bI_0, bI_1, bI_n, bool_0, bool_1, in_T, lg_cmp0, ofN_nI, ci_0, ci_1, ci_2, ci_3, ci_4, ci_5, ci_6, ci_7, ci_8, ci_9, ci_10, ci_11, ci_12, ci_13, ci_14, ci_15, ci_16, ci_17, ci_18, ci_19, ci_20, ci_21, ci_22, c1, e1, e2, d, l, bI_tt, bI_ff, dlt_T]
theorem cw_numberIn {P : xP} {T : xT} {σ : xS} (C : CI P σ) (hT : TV T) (h : TP P T σ) {p : Nat} (hp : p < T.2) (hd : lx_D (T.1 p) = true) : dm_X10_numberIn P (P.base + 1) (nI p) (nI (lx_end T p)) σ = some (.inl (nI (lx_num T p)), σ) := by
  have t1 := hT.1
  have N := C.N
  have c1 := h.2 p hp
  have c2 := hT.c hp
  have el := end_le hp
  have d1 := lx_D_iff.mp hd
  obtain ⟨n, hn⟩ : ∃ n, P.N = n + 3 := ⟨P.N - 3, by omega⟩
  have e0 : ¬ lx_end T p ≤ p := by omega
  have e1 : ¬ p + 2 ≤ p := by omega
  have e1' : ¬ p + 2 ≤ p + 1 := by omega
  unfold dm_X10_numberIn lx_num
  rw [hn]
  unfold dm_X10_numberIn_L5 dm_X10_numberIn_L5 dm_X10_numberIn_L5 dm_X10_numberIn_p41
  by_cases e2 : lx_end T p = p + 1
  · simp (disch := first | assumption | omega) [x_chk, x_some, x_bind, x_let, lit_nI, nI_add, nI_mul, nI_sub, nI_clamp, nI_eq, nI_ltI, nI_leI, nN_e, nI_nN, nN_nI, bI_0, bI_1, bI_n, bool_0, bool_1, in_T, lg_cmp0, ofN_nI, ci_0, ci_1, ci_2, ci_3, ci_4, ci_5, ci_6, ci_7, ci_8, ci_9, ci_10, ci_11, ci_12, ci_13, ci_14, ci_15, ci_16, ci_17, ci_18, ci_19, ci_20, ci_21, ci_22, c1, e0, e1, e2, dlt_T]
    omega
  · have e3 : ¬ lx_end T p ≤ p + 1 := by omega
    have hp1 : p + 1 < T.2 := by omega
    have c3 := h.2 (p + 1) hp1
    have c4 := hT.c hp1
    have ee : lx_end T p = lx_row T true (T.2 - (p + 1)) := by unfold lx_end; rw [if_pos hd]
    have h6 := row_all T true (T.2 - (p + 1)) (p + 1) (by omega) (by omega) (by omega)
    simp only [Bool.true_eq_false, false_and, or_false] at h6
    have d2 := lx_D_iff.mp h6
    have e6 : (T.1 p - 48) * 10 + T.1 (p + 1) - 48 = (T.1 p - 48) * 10 + (T.1 (p + 1) - 48) := by omega
    simp (disch := first | assumption | omega) [x_chk, x_some, x_bind, x_let, lit_nI, nI_add, nI_mul, nI_sub, nI_clamp, nI_eq, nI_ltI, nI_leI, nN_e, nI_nN, nN_nI, bI_0, bI_1, bI_n, bool_0, bool_1, in_T, lg_cmp0, ofN_nI, ci_0, ci_1, ci_2, ci_3, ci_4, ci_5, ci_6, ci_7, ci_8, ci_9, ci_10, ci_11, ci_12, ci_13, ci_14, ci_15, ci_16, ci_17, ci_18, ci_19, ci_20, ci_21, ci_22, c1, c3, e0, e1, e1', e2, e3, e6, dlt_T]
theorem pkn_take : ∀ (k : Nat) (l : List Nat), pkn k (l.take k) = pkn k l
  | 0, l => rfl
  | k + 1, [] => rfl
  | k + 1, c :: l => by simp only [List.take_succ_cons, pkn, pkn_take k l]
theorem nm_getD {T : xT} {p i : Nat} (h : i < lx_end T p - p) : (lx_nm T p).getD i 0 = T.1 (p + i) := by
  rw [List.getD_eq_getElem?_getD, List.getElem?_eq_getElem (by rw [nm_len]; exact h)]
  simp [lx_nm]
theorem take_snoc {l : List Nat} {j : Nat} (h : j < l.length) : l.take j ++ [l.getD j 0] = l.take (j + 1) := by
  rw [List.getD_eq_getElem?_getD, List.getElem?_eq_getElem h]
  simp
theorem cw_nameInL {P : xP} {T : xT} {σ : xS} (C : CI P σ) (hT : TV T) (h : TP P T σ) {p : Nat} (hp : p < T.2) : ∀ (r j n : Nat), j + r = min 8 (lx_end T p - p) → r < n → dm_X10_nameIn_L5 P (P.base + 1) n (nI p) (nI (lx_end T p)) (pk ((lx_nm T p).take j)) (nI j) σ = some (.inl (pk (lx_nm T p)), σ) := by
  have t1 := hT.1
  have el := end_le hp
  intro r
  induction r with
  | zero =>
    intro j n hj hn
    obtain ⟨n, rfl⟩ : ∃ m, n = m + 1 := ⟨n - 1, by omega⟩
    have e : pk ((lx_nm T p).take j) = pk (lx_nm T p) := by
      by_cases q : 8 ≤ lx_end T p - p
      · have : j = 8 := by omega
        subst this
        unfold pk
        rw [pkn_take]
      · rw [List.take_of_length_le (by rw [nm_len]; omega)]
    unfold dm_X10_nameIn_L5 dm_X10_nameIn_p48
    by_cases q : 8 ≤ j
    · simp (disch := first | assumption | omega) [x_chk, x_some, x_bind, x_let, lit_nI, nI_add, nI_mul, nI_sub, nI_clamp, nI_eq, nI_ltI, nI_leI, nN_e, nI_nN, nN_nI, bI_0, bI_1, bI_n, bool_0, bool_1, in_T, lg_cmp0, ofN_nI, ci_0, ci_1, ci_2, ci_3, ci_4, ci_5, ci_6, ci_7, ci_8, ci_9, ci_10, ci_11, ci_12, ci_13, ci_14, ci_15, ci_16, ci_17, ci_18, ci_19, ci_20, ci_21, ci_22, q, e]
    · have q2 : lx_end T p ≤ p + j := by omega
      simp (disch := first | assumption | omega) [x_chk, x_some, x_bind, x_let, lit_nI, nI_add, nI_mul, nI_sub, nI_clamp, nI_eq, nI_ltI, nI_leI, nN_e, nI_nN, nN_nI, bI_0, bI_1, bI_n, bool_0, bool_1, in_T, lg_cmp0, ofN_nI, ci_0, ci_1, ci_2, ci_3, ci_4, ci_5, ci_6, ci_7, ci_8, ci_9, ci_10, ci_11, ci_12, ci_13, ci_14, ci_15, ci_16, ci_17, ci_18, ci_19, ci_20, ci_21, ci_22, q, q2, e]
  | succ r ih =>
    intro j n hj hn
    obtain ⟨n, rfl⟩ : ∃ m, n = m + 1 := ⟨n - 1, by omega⟩
    have pkk := pk_snoc (l := (lx_nm T p).take j) (c := (lx_nm T p).getD j 0) (by rw [List.length_take]; omega) (fun x hx => (nm_ch hT hp x (List.mem_of_mem_take hx)).2) (by rw [nm_getD (by omega)]; exact (hT.c (by omega)).2)
    rw [take_snoc (by rw [nm_len]; omega), List.length_take, nm_len, Nat.min_eq_left (by omega), nm_getD (by omega)] at pkk
    have c1 := h.2 (p + j) (by omega)
    have ihh := ih (j + 1) n (by omega) (by omega)
    have q : ¬ 8 ≤ j := by omega
    have q2 : ¬ lx_end T p ≤ p + j := by omega
    unfold dm_X10_nameIn_L5
    simp (disch := first | assumption | omega) [x_chk, x_some, x_bind, x_let, lit_nI, nI_add, nI_mul, nI_sub, nI_clamp, nI_eq, nI_ltI, nI_leI, nN_e, nI_nN, nN_nI, bI_0, bI_1, bI_n, bool_0, bool_1, in_T, lg_cmp0, ofN_nI, ci_0, ci_1, ci_2, ci_3, ci_4, ci_5, ci_6, ci_7, ci_8, ci_9, ci_10, ci_11, ci_12, ci_13, ci_14, ci_15, ci_16, ci_17, ci_18, ci_19, ci_20, ci_21, ci_22, q, q2, c1, dlt_T]
    rw [pkk]; exact ihh
theorem cw_nameIn {P : xP} {T : xT} {σ : xS} (C : CI P σ) (hT : TV T) (h : TP P T σ) {p : Nat} (hp : p < T.2) : dm_X10_nameIn P (P.base + 1) (nI p) (nI (lx_end T p)) σ = some (.inl (pk (lx_nm T p)), σ) := by
  have q := cw_nameInL C hT h hp (min 8 (lx_end T p - p)) 0 P.N (by omega) (by have := C.N; omega)
  exact q
theorem cw_isKeyword {P : xP} {σ : xS} (C : CI P σ) {l : List Nat} (hl : nm_ok l) : dm_X10_isKeyword P (pk l) σ = some (.inl (bI (lx_kw l)), σ) := by
  have p1 := cw_packed C (q := (19, kw_module)) (by decide)
  have p2 := cw_packed C (q := (15, kw_input)) (by decide)
  have p3 := cw_packed C (q := (23, kw_output)) (by decide)
  have p4 := cw_packed C (q := (29, kw_wire)) (by decide)
  have p5 := cw_packed C (q := (7, kw_assign)) (by decide)
  have p6 := cw_packed C (q := (11, kw_end)) (by decide)
  have k1 : nm_ok kw_module := by unfold nm_ok; decide
  have k2 : nm_ok kw_input := by unfold nm_ok; decide
  have k3 : nm_ok kw_output := by unfold nm_ok; decide
  have k4 : nm_ok kw_wire := by unfold nm_ok; decide
  have k5 : nm_ok kw_assign := by unfold nm_ok; decide
  have k6 : nm_ok kw_end := by unfold nm_ok; decide
  unfold dm_X10_isKeyword dm_X10_isKeyword_p60 dm_X10_isKeyword_p65
  by_cases e1 : l = kw_module
  · simp (disch := first | assumption | omega) [x_chk, x_some, x_bind, x_let, lit_nI, nI_add, nI_mul, nI_sub, nI_clamp, nI_eq, nI_ltI, nI_leI, nN_e, nI_nN, nN_nI, bI_0, bI_1, bI_n, bool_0, bool_1, in_T, lg_cmp0, ofN_nI, p1, lx_kw, pk_iff', e1, bI_tt]
  · by_cases e2 : l = kw_input
    · simp (disch := first | assumption | omega) [x_chk, x_some, x_bind, x_let, lit_nI, nI_add, nI_mul, nI_sub, nI_clamp, nI_eq, nI_ltI, nI_leI, nN_e, nI_nN, nN_nI, bI_0, bI_1, bI_n, bool_0, bool_1, in_T, lg_cmp0, ofN_nI, p1, p2, lx_kw, pk_iff', e1, e2, bI_tt]
    · by_cases e3 : l = kw_output
      · simp (disch := first | assumption | omega) [x_chk, x_some, x_bind, x_let, lit_nI, nI_add, nI_mul, nI_sub, nI_clamp, nI_eq, nI_ltI, nI_leI, nN_e, nI_nN, nN_nI, bI_0, bI_1, bI_n, bool_0, bool_1, in_T, lg_cmp0, ofN_nI, p1, p2, p3, lx_kw, pk_iff', e1, e2, e3, bI_tt]
      · by_cases e4 : l = kw_wire
        · simp (disch := first | assumption | omega) [x_chk, x_some, x_bind, x_let, lit_nI, nI_add, nI_mul, nI_sub, nI_clamp, nI_eq, nI_ltI, nI_leI, nN_e, nI_nN, nN_nI, bI_0, bI_1, bI_n, bool_0, bool_1, in_T, lg_cmp0, ofN_nI, p1, p2, p3, p4, lx_kw, pk_iff', e1, e2, e3, e4, bI_tt]
        · by_cases e5 : l = kw_assign
          · simp (disch := first | assumption | omega) [x_chk, x_some, x_bind, x_let, lit_nI, nI_add, nI_mul, nI_sub, nI_clamp, nI_eq, nI_ltI, nI_leI, nN_e, nI_nN, nN_nI, bI_0, bI_1, bI_n, bool_0, bool_1, in_T, lg_cmp0, ofN_nI, p1, p2, p3, p4, p5, lx_kw, pk_iff', e1, e2, e3, e4, e5, bI_tt]
          · by_cases e6 : l = kw_end
            · simp (disch := first | assumption | omega) [x_chk, x_some, x_bind, x_let, lit_nI, nI_add, nI_mul, nI_sub, nI_clamp, nI_eq, nI_ltI, nI_leI, nN_e, nI_nN, nN_nI, bI_0, bI_1, bI_n, bool_0, bool_1, in_T, lg_cmp0, ofN_nI, p1, p2, p3, p4, p5, p6, lx_kw, pk_iff', e1, e2, e3, e4, e5, e6, bI_tt]
            · simp (disch := first | assumption | omega) [x_chk, x_some, x_bind, x_let, lit_nI, nI_add, nI_mul, nI_sub, nI_clamp, nI_eq, nI_ltI, nI_leI, nN_e, nI_nN, nN_nI, bI_0, bI_1, bI_n, bool_0, bool_1, in_T, lg_cmp0, ofN_nI, p1, p2, p3, p4, p5, p6, lx_kw, pk_iff', e1, e2, e3, e4, e5, e6, bI_ff]
/-- a word more -/
def addw (P : xP) (T : xT) (σ : xS) (k p : Nat) : xS := (((σ.setAI (P.base + 3) k (nI p)).setAJ (P.base + 5) k (lx_val T p)).setAI (P.base + 4) k (nI (lx_kind T p))).setI 905 (P.base + 1) (nI (k + 1))
theorem CI.setAI {P : xP} {σ : xS} (C : CI P σ) {a i : Nat} {v : Int32} (h : P.base ≤ a) : CI P (σ.setAI a i v) := by
  refine ⟨@ci_0 P σ C, @ci_1 P σ C, @ci_2 P σ C, @ci_3 P σ C, @ci_4 P σ C, @ci_5 P σ C, @ci_6 P σ C, @ci_7 P σ C, @ci_8 P σ C, @ci_9 P σ C, @ci_10 P σ C, @ci_11 P σ C, @ci_12 P σ C, @ci_13 P σ C, @ci_14 P σ C, @ci_15 P σ C, @ci_16 P σ C, @ci_17 P σ C, @ci_18 P σ C, @ci_19 P σ C, @ci_20 P σ C, @ci_21 P σ C, @ci_22 P σ C, (ci_s C).1, fun q hq => ?_⟩
  obtain ⟨h1, h2, h3, h4⟩ := (ci_s C).2 q hq
  refine ⟨h1, h2, fun j hj => ?_, h4⟩
  rw [AI_setAI, x_up2_k (by omega)]
  exact h3 j hj
theorem CI.setAJ {P : xP} {σ : xS} (C : CI P σ) {a i : Nat} {v : Int64} : CI P (σ.setAJ a i v) := C
theorem CI.setI {P : xP} {σ : xS} (C : CI P σ) {a i : Nat} {v : Int32} : CI P (σ.setI a i v) := C
theorem TP.setAI {P : xP} {T : xT} {σ : xS} (h : TP P T σ) {a i : Nat} {v : Int32} (ha : a ≠ P.base + 2) : TP P T (σ.setAI a i v) := by
  refine ⟨h.1, fun j hj => ?_⟩
  rw [AI_setAI, x_up2_k (by omega)]
  exact h.2 j hj
theorem TP.setAJ {P : xP} {T : xT} {σ : xS} (h : TP P T σ) {a i : Nat} {v : Int64} : TP P T (σ.setAJ a i v) := h
theorem TP.setI {P : xP} {T : xT} {σ : xS} (h : TP P T σ) {f a : Nat} {v : Int32} (hf : f ≠ 901) : TP P T (σ.setI f a v) := by
  refine ⟨?_, h.2⟩
  rw [I_setI, x_up2_k (by omega)]
  exact h.1
theorem cw_addWord {P : xP} {T : xT} {σ : xS} (C : CI P σ) (hT : TV T) (h : TP P T σ) {p k : Nat} (hp : p < T.2) (hk : σ.I 905 (P.base + 1) = nI k) (hk2 : k ≤ 1000) : dm_X10_addWord P (P.base + 1) (nI p) (nI (lx_end T p)) σ = some (.inl (), addw P T σ k p) := by
  have t1 := hT.1
  have c1 := h.2 p hp
  have c2 := hT.c hp
  have el := end_le hp
  have C1 : CI P (σ.setAI (P.base + 3) k (nI p)) := C.setAI (by omega)
  have h1 : TP P T (σ.setAI (P.base + 3) k (nI p)) := h.setAI (by omega)
  have d := cw_isDigit P (σ.setAI (P.base + 3) k (nI p)) (c := T.1 p) (by omega)
  have l := cw_isLetter P (σ.setAI (P.base + 3) k (nI p)) (c := T.1 p) (by omega)
  unfold dm_X10_addWord dm_X10_addWord_p58 dm_X10_addWord_p123 dm_X10_addWord_p153 addw
  cases e1 : lx_D (T.1 p) with
  | true =>
    have q := cw_numberIn C1 hT h1 hp e1
    have ev : lx_val T p = lN (lx_num T p) := by
      unfold lx_val
      rw [if_neg (by omega), if_pos e1]
    have ln : lx_num T p < 2 ^ 31 := by unfold lx_num; split <;> (have := h.2; have e9 := hT.2; first | omega | (by_cases z : p + 1 < T.2 <;> first | (have := hT.c z; omega) | (have := end_le hp; omega)))
    by_cases e2 : lx_end T p - p ≤ 2
    · have ek : lx_kind T p = 2 := by
        unfold lx_kind
        rw [if_neg (by omega), if_pos e1, if_neg (by omega)]
      simp (disch := first | assumption | omega) [x_chk, x_some, x_bind, x_let, lit_nI, nI_add, nI_mul, nI_sub, nI_clamp, nI_eq, nI_ltI, nI_leI, nN_e, nI_nN, nN_nI, bI_0, bI_1, bI_n, bool_0, bool_1, in_T, lg_cmp0, ofN_nI, ci_0, ci_1, ci_2, ci_3, ci_4, ci_5, ci_6, ci_7, ci_8, ci_9, ci_10, ci_11, ci_12, ci_13, ci_14, ci_15, ci_16, ci_17, ci_18, ci_19, ci_20, ci_21, ci_22, q_K_setI, q_I_setI, q_J_setI, q_R_setI, q_L_setI, q_AI_setI, q_AJ_setI, q_AR_setI, q_sz_setI, q_su_setI, q_K_setJ, q_I_setJ, q_J_setJ, q_R_setJ, q_L_setJ, q_AI_setJ, q_AJ_setJ, q_AR_setJ, q_sz_setJ, q_su_setJ, q_K_setR, q_I_setR, q_J_setR, q_R_setR, q_L_setR, q_AI_setR, q_AJ_setR, q_AR_setR, q_sz_setR, q_su_setR, q_K_setAI, q_I_setAI, q_J_setAI, q_R_setAI, q_L_setAI, q_AI_setAI, q_AJ_setAI, q_AR_setAI, q_sz_setAI, q_su_setAI, q_K_setAJ, q_I_setAJ, q_J_setAJ, q_R_setAJ, q_L_setAJ, q_AI_setAJ, q_AJ_setAJ, q_AR_setAJ, q_sz_setAJ, q_su_setAJ, q_K_setAR, q_I_setAR, q_J_setAR, q_R_setAR, q_L_setAR, q_AI_setAR, q_AJ_setAR, q_AR_setAR, q_sz_setAR, q_su_setAR, q_K_newO, q_I_newO, q_J_newO, q_R_newO, q_L_newO, q_AI_newO, q_AJ_newO, q_AR_newO, q_sz_newO, q_su_newO, q_K_newA, q_I_newA, q_J_newA, q_R_newA, q_L_newA, q_AI_newA, q_AJ_newA, q_AR_newA, q_sz_newA, q_su_newA, q_K_skip, q_I_skip, q_J_skip, q_R_skip, q_L_skip, q_AI_skip, q_AJ_skip, q_AR_skip, q_sz_skip, q_su_skip, q_up2, q_up, c1, hk, d, e1, q, e2, dlt_T, ev, ek, nI_l]
    · have ek : lx_kind T p = 4 := by
        unfold lx_kind
        rw [if_neg (by omega), if_pos e1, if_pos (by omega)]
      simp (disch := first | assumption | omega) [x_chk, x_some, x_bind, x_let, lit_nI, nI_add, nI_mul, nI_sub, nI_clamp, nI_eq, nI_ltI, nI_leI, nN_e, nI_nN, nN_nI, bI_0, bI_1, bI_n, bool_0, bool_1, in_T, lg_cmp0, ofN_nI, ci_0, ci_1, ci_2, ci_3, ci_4, ci_5, ci_6, ci_7, ci_8, ci_9, ci_10, ci_11, ci_12, ci_13, ci_14, ci_15, ci_16, ci_17, ci_18, ci_19, ci_20, ci_21, ci_22, q_K_setI, q_I_setI, q_J_setI, q_R_setI, q_L_setI, q_AI_setI, q_AJ_setI, q_AR_setI, q_sz_setI, q_su_setI, q_K_setJ, q_I_setJ, q_J_setJ, q_R_setJ, q_L_setJ, q_AI_setJ, q_AJ_setJ, q_AR_setJ, q_sz_setJ, q_su_setJ, q_K_setR, q_I_setR, q_J_setR, q_R_setR, q_L_setR, q_AI_setR, q_AJ_setR, q_AR_setR, q_sz_setR, q_su_setR, q_K_setAI, q_I_setAI, q_J_setAI, q_R_setAI, q_L_setAI, q_AI_setAI, q_AJ_setAI, q_AR_setAI, q_sz_setAI, q_su_setAI, q_K_setAJ, q_I_setAJ, q_J_setAJ, q_R_setAJ, q_L_setAJ, q_AI_setAJ, q_AJ_setAJ, q_AR_setAJ, q_sz_setAJ, q_su_setAJ, q_K_setAR, q_I_setAR, q_J_setAR, q_R_setAR, q_L_setAR, q_AI_setAR, q_AJ_setAR, q_AR_setAR, q_sz_setAR, q_su_setAR, q_K_newO, q_I_newO, q_J_newO, q_R_newO, q_L_newO, q_AI_newO, q_AJ_newO, q_AR_newO, q_sz_newO, q_su_newO, q_K_newA, q_I_newA, q_J_newA, q_R_newA, q_L_newA, q_AI_newA, q_AJ_newA, q_AR_newA, q_sz_newA, q_su_newA, q_K_skip, q_I_skip, q_J_skip, q_R_skip, q_L_skip, q_AI_skip, q_AJ_skip, q_AR_skip, q_sz_skip, q_su_skip, q_up2, q_up, c1, hk, d, e1, q, e2, dlt_T, ev, ek, nI_l]
  | false =>
    cases e3 : lx_L (T.1 p) with
    | false =>
      have ev : lx_val T p = lN (T.1 p) := by
        unfold lx_val
        rw [if_neg (by omega), if_neg (by simp [e1]), if_neg (by simp [e3])]
      have ek : lx_kind T p = 3 := by
        unfold lx_kind
        rw [if_neg (by omega), if_neg (by simp [e1]), if_neg (by simp [e3])]
      simp (disch := first | assumption | omega) [x_chk, x_some, x_bind, x_let, lit_nI, nI_add, nI_mul, nI_sub, nI_clamp, nI_eq, nI_ltI, nI_leI, nN_e, nI_nN, nN_nI, bI_0, bI_1, bI_n, bool_0, bool_1, in_T, lg_cmp0, ofN_nI, ci_0, ci_1, ci_2, ci_3, ci_4, ci_5, ci_6, ci_7, ci_8, ci_9, ci_10, ci_11, ci_12, ci_13, ci_14, ci_15, ci_16, ci_17, ci_18, ci_19, ci_20, ci_21, ci_22, q_K_setI, q_I_setI, q_J_setI, q_R_setI, q_L_setI, q_AI_setI, q_AJ_setI, q_AR_setI, q_sz_setI, q_su_setI, q_K_setJ, q_I_setJ, q_J_setJ, q_R_setJ, q_L_setJ, q_AI_setJ, q_AJ_setJ, q_AR_setJ, q_sz_setJ, q_su_setJ, q_K_setR, q_I_setR, q_J_setR, q_R_setR, q_L_setR, q_AI_setR, q_AJ_setR, q_AR_setR, q_sz_setR, q_su_setR, q_K_setAI, q_I_setAI, q_J_setAI, q_R_setAI, q_L_setAI, q_AI_setAI, q_AJ_setAI, q_AR_setAI, q_sz_setAI, q_su_setAI, q_K_setAJ, q_I_setAJ, q_J_setAJ, q_R_setAJ, q_L_setAJ, q_AI_setAJ, q_AJ_setAJ, q_AR_setAJ, q_sz_setAJ, q_su_setAJ, q_K_setAR, q_I_setAR, q_J_setAR, q_R_setAR, q_L_setAR, q_AI_setAR, q_AJ_setAR, q_AR_setAR, q_sz_setAR, q_su_setAR, q_K_newO, q_I_newO, q_J_newO, q_R_newO, q_L_newO, q_AI_newO, q_AJ_newO, q_AR_newO, q_sz_newO, q_su_newO, q_K_newA, q_I_newA, q_J_newA, q_R_newA, q_L_newA, q_AI_newA, q_AJ_newA, q_AR_newA, q_sz_newA, q_su_newA, q_K_skip, q_I_skip, q_J_skip, q_R_skip, q_L_skip, q_AI_skip, q_AJ_skip, q_AR_skip, q_sz_skip, q_su_skip, q_up2, q_up, c1, hk, d, l, e1, e3, dlt_T, ev, ek, nI_l]
    | true =>
      have q := cw_nameIn C1 hT h1 hp
      have ev : lx_val T p = pk (lx_nm T p) := by
        unfold lx_val
        rw [if_neg (by omega), if_neg (by simp [e1]), if_pos e3]
      by_cases e2 : lx_end T p - p ≤ 8
      · have no : nm_ok (lx_nm T p) := ⟨by rw [nm_len]; exact e2, nm_ch hT hp⟩
        have kwq := cw_isKeyword (C1.setAJ (a := P.base + 5) (i := k) (v := pk (lx_nm T p))) no
        cases e4 : lx_kw (lx_nm T p) with
        | true =>
          have ek : lx_kind T p = 1 := by
            unfold lx_kind
            rw [if_neg (by omega), if_neg (by simp [e1]), if_pos e3, if_neg (by omega), if_pos e4]
          simp (disch := first | assumption | omega) [x_chk, x_some, x_bind, x_let, lit_nI, nI_add, nI_mul, nI_sub, nI_clamp, nI_eq, nI_ltI, nI_leI, nN_e, nI_nN, nN_nI, bI_0, bI_1, bI_n, bool_0, bool_1, in_T, lg_cmp0, ofN_nI, ci_0, ci_1, ci_2, ci_3, ci_4, ci_5, ci_6, ci_7, ci_8, ci_9, ci_10, ci_11, ci_12, ci_13, ci_14, ci_15, ci_16, ci_17, ci_18, ci_19, ci_20, ci_21, ci_22, q_K_setI, q_I_setI, q_J_setI, q_R_setI, q_L_setI, q_AI_setI, q_AJ_setI, q_AR_setI, q_sz_setI, q_su_setI, q_K_setJ, q_I_setJ, q_J_setJ, q_R_setJ, q_L_setJ, q_AI_setJ, q_AJ_setJ, q_AR_setJ, q_sz_setJ, q_su_setJ, q_K_setR, q_I_setR, q_J_setR, q_R_setR, q_L_setR, q_AI_setR, q_AJ_setR, q_AR_setR, q_sz_setR, q_su_setR, q_K_setAI, q_I_setAI, q_J_setAI, q_R_setAI, q_L_setAI, q_AI_setAI, q_AJ_setAI, q_AR_setAI, q_sz_setAI, q_su_setAI, q_K_setAJ, q_I_setAJ, q_J_setAJ, q_R_setAJ, q_L_setAJ, q_AI_setAJ, q_AJ_setAJ, q_AR_setAJ, q_sz_setAJ, q_su_setAJ, q_K_setAR, q_I_setAR, q_J_setAR, q_R_setAR, q_L_setAR, q_AI_setAR, q_AJ_setAR, q_AR_setAR, q_sz_setAR, q_su_setAR, q_K_newO, q_I_newO, q_J_newO, q_R_newO, q_L_newO, q_AI_newO, q_AJ_newO, q_AR_newO, q_sz_newO, q_su_newO, q_K_newA, q_I_newA, q_J_newA, q_R_newA, q_L_newA, q_AI_newA, q_AJ_newA, q_AR_newA, q_sz_newA, q_su_newA, q_K_skip, q_I_skip, q_J_skip, q_R_skip, q_L_skip, q_AI_skip, q_AJ_skip, q_AR_skip, q_sz_skip, q_su_skip, q_up2, q_up, c1, hk, d, l, e1, e3, q, e2, dlt_T, ev, ek, kwq, e4]
        | false =>
          have ek : lx_kind T p = 0 := by
            unfold lx_kind
            rw [if_neg (by omega), if_neg (by simp [e1]), if_pos e3, if_neg (by omega), if_neg (by simp [e4])]
          simp (disch := first | assumption | omega) [x_chk, x_some, x_bind, x_let, lit_nI, nI_add, nI_mul, nI_sub, nI_clamp, nI_eq, nI_ltI, nI_leI, nN_e, nI_nN, nN_nI, bI_0, bI_1, bI_n, bool_0, bool_1, in_T, lg_cmp0, ofN_nI, ci_0, ci_1, ci_2, ci_3, ci_4, ci_5, ci_6, ci_7, ci_8, ci_9, ci_10, ci_11, ci_12, ci_13, ci_14, ci_15, ci_16, ci_17, ci_18, ci_19, ci_20, ci_21, ci_22, q_K_setI, q_I_setI, q_J_setI, q_R_setI, q_L_setI, q_AI_setI, q_AJ_setI, q_AR_setI, q_sz_setI, q_su_setI, q_K_setJ, q_I_setJ, q_J_setJ, q_R_setJ, q_L_setJ, q_AI_setJ, q_AJ_setJ, q_AR_setJ, q_sz_setJ, q_su_setJ, q_K_setR, q_I_setR, q_J_setR, q_R_setR, q_L_setR, q_AI_setR, q_AJ_setR, q_AR_setR, q_sz_setR, q_su_setR, q_K_setAI, q_I_setAI, q_J_setAI, q_R_setAI, q_L_setAI, q_AI_setAI, q_AJ_setAI, q_AR_setAI, q_sz_setAI, q_su_setAI, q_K_setAJ, q_I_setAJ, q_J_setAJ, q_R_setAJ, q_L_setAJ, q_AI_setAJ, q_AJ_setAJ, q_AR_setAJ, q_sz_setAJ, q_su_setAJ, q_K_setAR, q_I_setAR, q_J_setAR, q_R_setAR, q_L_setAR, q_AI_setAR, q_AJ_setAR, q_AR_setAR, q_sz_setAR, q_su_setAR, q_K_newO, q_I_newO, q_J_newO, q_R_newO, q_L_newO, q_AI_newO, q_AJ_newO, q_AR_newO, q_sz_newO, q_su_newO, q_K_newA, q_I_newA, q_J_newA, q_R_newA, q_L_newA, q_AI_newA, q_AJ_newA, q_AR_newA, q_sz_newA, q_su_newA, q_K_skip, q_I_skip, q_J_skip, q_R_skip, q_L_skip, q_AI_skip, q_AJ_skip, q_AR_skip, q_sz_skip, q_su_skip, q_up2, q_up, c1, hk, d, l, e1, e3, q, e2, dlt_T, ev, ek, kwq, e4]
      · have ek : lx_kind T p = 4 := by
          unfold lx_kind
          rw [if_neg (by omega), if_neg (by simp [e1]), if_pos e3, if_pos (by omega)]
        simp (disch := first | assumption | omega) [x_chk, x_some, x_bind, x_let, lit_nI, nI_add, nI_mul, nI_sub, nI_clamp, nI_eq, nI_ltI, nI_leI, nN_e, nI_nN, nN_nI, bI_0, bI_1, bI_n, bool_0, bool_1, in_T, lg_cmp0, ofN_nI, ci_0, ci_1, ci_2, ci_3, ci_4, ci_5, ci_6, ci_7, ci_8, ci_9, ci_10, ci_11, ci_12, ci_13, ci_14, ci_15, ci_16, ci_17, ci_18, ci_19, ci_20, ci_21, ci_22, q_K_setI, q_I_setI, q_J_setI, q_R_setI, q_L_setI, q_AI_setI, q_AJ_setI, q_AR_setI, q_sz_setI, q_su_setI, q_K_setJ, q_I_setJ, q_J_setJ, q_R_setJ, q_L_setJ, q_AI_setJ, q_AJ_setJ, q_AR_setJ, q_sz_setJ, q_su_setJ, q_K_setR, q_I_setR, q_J_setR, q_R_setR, q_L_setR, q_AI_setR, q_AJ_setR, q_AR_setR, q_sz_setR, q_su_setR, q_K_setAI, q_I_setAI, q_J_setAI, q_R_setAI, q_L_setAI, q_AI_setAI, q_AJ_setAI, q_AR_setAI, q_sz_setAI, q_su_setAI, q_K_setAJ, q_I_setAJ, q_J_setAJ, q_R_setAJ, q_L_setAJ, q_AI_setAJ, q_AJ_setAJ, q_AR_setAJ, q_sz_setAJ, q_su_setAJ, q_K_setAR, q_I_setAR, q_J_setAR, q_R_setAR, q_L_setAR, q_AI_setAR, q_AJ_setAR, q_AR_setAR, q_sz_setAR, q_su_setAR, q_K_newO, q_I_newO, q_J_newO, q_R_newO, q_L_newO, q_AI_newO, q_AJ_newO, q_AR_newO, q_sz_newO, q_su_newO, q_K_newA, q_I_newA, q_J_newA, q_R_newA, q_L_newA, q_AI_newA, q_AJ_newA, q_AR_newA, q_sz_newA, q_su_newA, q_K_skip, q_I_skip, q_J_skip, q_R_skip, q_L_skip, q_AI_skip, q_AJ_skip, q_AR_skip, q_sz_skip, q_su_skip, q_up2, q_up, c1, hk, d, l, e1, e3, q, e2, dlt_T, ev, ek]
