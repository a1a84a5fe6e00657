/-! ===== the class: texts, letters, the words of a tape ===== -/
theorem CI.N {P : xP} {σ : xS} (C : CI P σ) : 5000 ≤ P.N := (ci_s C).1
theorem strs_ok : ∀ q ∈ sp_strs, q.2.length ≤ 8 ∧ ∀ c ∈ q.2, 0 < c ∧ c < 128 := by decide
theorem cw_packedL {P : xP} {σ : xS} (C : CI P σ) {q : Nat × List Nat} (hq : q ∈ sp_strs) : ∀ (r j n : Nat), j + r = q.2.length → r < n → dm_X10_packed_L4 P n (some (P.ad q.1)) (pk (q.2.take j)) (nI j) σ = some (.inl (pk q.2), σ) := by
  obtain ⟨s1, s2, s3, s4⟩ := (ci_s C).2 q hq
  obtain ⟨k1, k2⟩ := strs_ok q hq
  intro r
  induction r with
  | zero =>
    intro j n hj hn
    obtain ⟨n, rfl⟩ : ∃ m, n = m + 1 := ⟨n - 1, by omega⟩
    have e : q.2.take j = q.2 := List.take_of_length_le (by omega)
    simp only [dm_X10_packed_L4, dm_X10_packed_p41, dm_J0_length_8abf5, e]
    simp (disch := first | assumption | omega) [x_chk, x_some, x_bind, x_let, lit_nI, nI_add, nI_mul, nI_sub, nI_clamp, nI_eq, nI_ltI, nI_leI, nN_e, nI_nN, nN_nI, bI_0, bI_1, bI_n, bool_0, bool_1, in_T, lg_cmp0, ofN_nI, s1, s2, dle_T]
  | succ r ih =>
    intro j n hj hn
    obtain ⟨n, rfl⟩ : ∃ m, n = m + 1 := ⟨n - 1, by omega⟩
    have hc : q.2.getD j 0 < 128 := by
      rw [List.getD_eq_getElem?_getD, List.getElem?_eq_getElem (by omega)]
      exact (k2 _ (List.getElem_mem _)).2
    have et : q.2.take j ++ [q.2.getD j 0] = q.2.take (j + 1) := by
      rw [List.getD_eq_getElem?_getD, List.getElem?_eq_getElem (by omega)]
      simp
    have pkk := pk_snoc (l := q.2.take j) (c := q.2.getD j 0) (by rw [List.length_take]; omega) (fun x hx => (k2 x (List.mem_of_mem_take hx)).2) hc
    rw [et, List.length_take, Nat.min_eq_left (by omega)] at pkk
    have s3' := s3 j (by omega)
    have ihh := ih (j + 1) n (by omega) (by omega)
    simp only [dm_X10_packed_L4, dm_X10_packed_p41, dm_J0_length_8abf5, dm_J0_charAt_5068e]
    generalize q.2.getD j 0 = c at s3' pkk hc et
    simp (disch := first | assumption | omega) [x_chk, x_some, x_bind, x_let, lit_nI, nI_add, nI_mul, nI_sub, nI_clamp, nI_eq, nI_ltI, nI_leI, nN_e, nI_nN, nN_nI, bI_0, bI_1, bI_n, bool_0, bool_1, in_T, lg_cmp0, ofN_nI, s1, s2, s3', dlt_T, dlt_F, dle_T, dle_F]
    rw [pkk]; exact ihh
theorem cw_packed {P : xP} {σ : xS} (C : CI P σ) {q : Nat × List Nat} (hq : q ∈ sp_strs) : dm_X10_packed P (some (P.ad q.1)) σ = some (.inl (pk q.2), σ) := by
  have h := cw_packedL C hq q.2.length 0 P.N (by omega) (by have := C.N; have := (strs_ok q hq).1; omega)
  exact h
theorem pk_iff' {l m : List Nat} (hl : nm_ok l) (hm : nm_ok m) : (pk l = pk m) = (l = m) := propext (pk_iff hl hm)
theorem cw_isText {P : xP} {T : xT} {p : Nat} {σ : xS} (C : CP P T σ p) {q : Nat × List Nat} (hq : q ∈ sp_strs) : dm_X10_isText P (P.base + 1) (some (P.ad q.1)) σ = some (.inl (bI (sp_txt T q.2 p)), σ) := by
  have ci := C.ci
  have kb := kind_b T p
  have pc := cw_packed ci hq
  have so := strs_ok q hq
  have qo : nm_ok q.2 := so
  obtain ⟨wc, k, h1, h2, h3, h4, h5, h6, h7, h8, h9, h10⟩ := C.get
  unfold dm_X10_isText dm_X10_isText_p25 dm_X10_isText_p46 dm_X10_isText_p47
  by_cases e : lx_kind T p = 0 ∨ lx_kind T p = 1
  · have v := val_nm e
    have no := kind_nm_ok C.tv e
    by_cases e2 : lx_nm T p = q.2
    · rcases e with e | e <;> simp (disch := first | assumption | omega) [x_chk, x_some, x_bind, x_let, lit_nI, nI_add, nI_mul, nI_sub, nI_clamp, nI_eq, nI_ltI, nI_leI, nN_e, nI_nN, nN_nI, bI_0, bI_1, bI_n, bool_0, bool_1, in_T, lg_cmp0, ofN_nI, ci_0, ci_1, ci_2, ci_3, ci_4, ci_5, ci_6, ci_7, ci_8, ci_9, ci_10, ci_11, ci_12, ci_13, ci_14, ci_15, ci_16, ci_17, ci_18, ci_19, ci_20, ci_21, ci_22, dlt_T, dlt_F, dle_T, dle_F, h2, h9, h10, e, v, pc, pk_iff', e2, sp_txt, bI_tt]
    · rcases e with e | e <;> simp (disch := first | assumption | omega) [x_chk, x_some, x_bind, x_let, lit_nI, nI_add, nI_mul, nI_sub, nI_clamp, nI_eq, nI_ltI, nI_leI, nN_e, nI_nN, nN_nI, bI_0, bI_1, bI_n, bool_0, bool_1, in_T, lg_cmp0, ofN_nI, ci_0, ci_1, ci_2, ci_3, ci_4, ci_5, ci_6, ci_7, ci_8, ci_9, ci_10, ci_11, ci_12, ci_13, ci_14, ci_15, ci_16, ci_17, ci_18, ci_19, ci_20, ci_21, ci_22, dlt_T, dlt_F, dle_T, dle_F, h2, h9, h10, e, v, pc, pk_iff', e2, sp_txt, bI_ff]
  · have e0 : ¬ lx_kind T p = 0 := fun z => e (Or.inl z)
    have e1 : ¬ lx_kind T p = 1 := fun z => e (Or.inr z)
    simp (disch := first | assumption | omega) [x_chk, x_some, x_bind, x_let, lit_nI, nI_add, nI_mul, nI_sub, nI_clamp, nI_eq, nI_ltI, nI_leI, nN_e, nI_nN, nN_nI, bI_0, bI_1, bI_n, bool_0, bool_1, in_T, lg_cmp0, ofN_nI, ci_0, ci_1, ci_2, ci_3, ci_4, ci_5, ci_6, ci_7, ci_8, ci_9, ci_10, ci_11, ci_12, ci_13, ci_14, ci_15, ci_16, ci_17, ci_18, ci_19, ci_20, ci_21, ci_22, dlt_T, dlt_F, dle_T, dle_F, h2, h9, h10, e0, e1, sp_txt, bI_ff]
theorem txt_lt {T : xT} {l : List Nat} {p : Nat} (h : sp_txt T l p = true) : p < T.2 := by
  simp only [sp_txt, Bool.and_eq_true, Bool.or_eq_true, decide_eq_true_eq] at h
  exact (kind_nm h.1).1
theorem is_lt {T : xT} {c p : Nat} (h : sp_is T c p = true) : p < T.2 := (kind_sign (sp_is_iff.mp h).1).1
theorem cw_takeText {P : xP} {T : xT} {p : Nat} {σ : xS} (C : CP P T σ p) (hR : Rm P σ 1) {q : Nat × List Nat} (hq : q ∈ sp_strs) : dm_X10_takeText P (P.base + 1) (some (P.ad q.1)) σ = if sp_txt T q.2 p = true then some (.inl (), cst P σ) else some (.inr ISE, σ.skip 6) := by
  have ci := C.ci
  have it := cw_isText C hq
  have r0 := cw_refuseIf (a := P.base + 1) (b := false) hR
  have r1 := cw_refuseIf (a := P.base + 1) (b := true) hR
  simp only [bI_tt, bI_ff] at r0 r1
  unfold dm_X10_takeText dm_X10_takeText_p14
  by_cases e : sp_txt T q.2 p = true
  · have st := cw_step C (txt_lt e)
    simp (disch := first | assumption | omega) [x_chk, x_some, x_bind, x_let, lit_nI, nI_add, nI_mul, nI_sub, nI_clamp, nI_eq, nI_ltI, nI_leI, nN_e, nI_nN, nN_nI, bI_0, bI_1, bI_n, bool_0, bool_1, in_T, lg_cmp0, ofN_nI, ci_0, ci_1, ci_2, ci_3, ci_4, ci_5, ci_6, ci_7, ci_8, ci_9, ci_10, ci_11, ci_12, ci_13, ci_14, ci_15, ci_16, ci_17, ci_18, ci_19, ci_20, ci_21, ci_22, it, e, r0, r1, st]
  · simp (disch := first | assumption | omega) [x_chk, x_some, x_bind, x_let, lit_nI, nI_add, nI_mul, nI_sub, nI_clamp, nI_eq, nI_ltI, nI_leI, nN_e, nI_nN, nN_nI, bI_0, bI_1, bI_n, bool_0, bool_1, in_T, lg_cmp0, ofN_nI, ci_0, ci_1, ci_2, ci_3, ci_4, ci_5, ci_6, ci_7, ci_8, ci_9, ci_10, ci_11, ci_12, ci_13, ci_14, ci_15, ci_16, ci_17, ci_18, ci_19, ci_20, ci_21, ci_22, it, e, r0, r1]
theorem cw_letterOf {P : xP} {σ : xS} {l : List Nat} (h : ∀ c ∈ l, c < 128) (h8 : l.length ≤ 8) {i : Nat} (hi : i < 2 ^ 31) : dm_X10_letterOf P (pk l) (nI i) σ = some (.inl (nI (l.getD i 0)), σ) := by
  unfold dm_X10_letterOf dm_X10_letterOf_p10 dm_X10_letterOf_p28
  by_cases e : i < 8
  · have q := pk_letter h e
    simp only [List.getD_eq_getElem?_getD] at q
    simp (disch := first | assumption | omega) [lit_nI, nI_add, nI_mul, nI_sub, nI_clamp, nI_eq, nI_ltI, nI_leI, nN_e, nI_nN, nN_nI, bI_0, bI_1, bI_n, bool_0, bool_1, in_T, lg_cmp0, ofN_nI, dlt_T, dlt_F, dle_T, dle_F]
    exact q
  · have : l[i]? = none := List.getElem?_eq_none (by omega)
    simp (disch := first | assumption | omega) [lit_nI, nI_add, nI_mul, nI_sub, nI_clamp, nI_eq, nI_ltI, nI_leI, nN_e, nI_nN, nN_nI, bI_0, bI_1, bI_n, bool_0, bool_1, in_T, lg_cmp0, ofN_nI, dlt_T, dlt_F, dle_T, dle_F, this]
theorem cw_isDigit (P : xP) (σ : xS) {c : Nat} (h : c < 2 ^ 31) : dm_X10_isDigit P (nI c) σ = some (.inl (bI (lx_D c)), σ) := by
  unfold dm_X10_isDigit dm_X10_isDigit_p16 dm_X10_isDigit_p17
  by_cases e1 : c < 48
  · simp (disch := first | assumption | omega) [x_chk, x_some, x_bind, x_let, lit_nI, nI_add, nI_mul, nI_sub, nI_clamp, nI_eq, nI_ltI, nI_leI, nN_e, nI_nN, nN_nI, bI_0, bI_1, bI_n, bool_0, bool_1, in_T, lg_cmp0, ofN_nI, dlt_T, dlt_F, dle_T, dle_F, lx_D, bI_ff]
  · by_cases e2 : c ≤ 57
    · simp (disch := first | assumption | omega) [x_chk, x_some, x_bind, x_let, lit_nI, nI_add, nI_mul, nI_sub, nI_clamp, nI_eq, nI_ltI, nI_leI, nN_e, nI_nN, nN_nI, bI_0, bI_1, bI_n, bool_0, bool_1, in_T, lg_cmp0, ofN_nI, dlt_T, dlt_F, dle_T, dle_F, lx_D, bI_tt]
    · simp (disch := first | assumption | omega) [x_chk, x_some, x_bind, x_let, lit_nI, nI_add, nI_mul, nI_sub, nI_clamp, nI_eq, nI_ltI, nI_leI, nN_e, nI_nN, nN_nI, bI_0, bI_1, bI_n, bool_0, bool_1, in_T, lg_cmp0, ofN_nI, dlt_T, dlt_F, dle_T, dle_F, lx_D, bI_ff]
theorem cw_isLetter (P : xP) (σ : xS) {c : Nat} (h : c < 2 ^ 31) : dm_X10_isLetter P (nI c) σ = some (.inl (bI (lx_L c)), σ) := by
  unfold dm_X10_isLetter dm_X10_isLetter_p12 dm_X10_isLetter_p24 dm_X10_isLetter_p30 dm_X10_isLetter_p35
  by_cases e1 : c < 65
  · simp (disch := first | assumption | omega) [x_chk, x_some, x_bind, x_let, lit_nI, nI_add, nI_mul, nI_sub, nI_clamp, nI_eq, nI_ltI, nI_leI, nN_e, nI_nN, nN_nI, bI_0, bI_1, bI_n, bool_0, bool_1, in_T, lg_cmp0, ofN_nI, dlt_T, dlt_F, dle_T, dle_F, lx_L, bI_ff, deq_F]
  · by_cases e2 : c ≤ 90
    · simp (disch := first | assumption | omega) [x_chk, x_some, x_bind, x_let, lit_nI, nI_add, nI_mul, nI_sub, nI_clamp, nI_eq, nI_ltI, nI_leI, nN_e, nI_nN, nN_nI, bI_0, bI_1, bI_n, bool_0, bool_1, in_T, lg_cmp0, ofN_nI, dlt_T, dlt_F, dle_T, dle_F, lx_L, bI_tt]
    · by_cases e3 : c = 95
      · subst e3; simp (disch := first | assumption | omega) [x_chk, x_some, x_bind, x_let, lit_nI, nI_add, nI_mul, nI_sub, nI_clamp, nI_eq, nI_ltI, nI_leI, nN_e, nI_nN, nN_nI, bI_0, bI_1, bI_n, bool_0, bool_1, in_T, lg_cmp0, ofN_nI, dlt_T, dlt_F, dle_T, dle_F, lx_L, bI_tt]
      · by_cases e4 : c < 97
        · simp (disch := first | assumption | omega) [x_chk, x_some, x_bind, x_let, lit_nI, nI_add, nI_mul, nI_sub, nI_clamp, nI_eq, nI_ltI, nI_leI, nN_e, nI_nN, nN_nI, bI_0, bI_1, bI_n, bool_0, bool_1, in_T, lg_cmp0, ofN_nI, dlt_T, dlt_F, dle_T, dle_F, lx_L, bI_ff, e3]
        · by_cases e5 : c ≤ 122
          · simp (disch := first | assumption | omega) [x_chk, x_some, x_bind, x_let, lit_nI, nI_add, nI_mul, nI_sub, nI_clamp, nI_eq, nI_ltI, nI_leI, nN_e, nI_nN, nN_nI, bI_0, bI_1, bI_n, bool_0, bool_1, in_T, lg_cmp0, ofN_nI, dlt_T, dlt_F, dle_T, dle_F, lx_L, bI_tt, e3]
          · simp (disch := first | assumption | omega) [x_chk, x_some, x_bind, x_let, lit_nI, nI_add, nI_mul, nI_sub, nI_clamp, nI_eq, nI_ltI, nI_leI, nN_e, nI_nN, nN_nI, bI_0, bI_1, bI_n, bool_0, bool_1, in_T, lg_cmp0, ofN_nI, dlt_T, dlt_F, dle_T, dle_F, lx_L, bI_ff, e3]
