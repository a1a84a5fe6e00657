/-! ===== the reference: keywords and names ===== -/
theorem rw_is {P : xP} {T : xT} {hv : Nat} {σ : xS} {p : Nat} (h : TX P T hv σ) (fr : σ.I 1136 (P.base + 11) = nI p) (hp : p ≤ T.2) {k a b c : Nat} (hk : k < 100) (ha : a < 128) (hb : b < 128) (hc : c < 128) : dm_X12_is P (P.base + 11) (nI k) (nI a) (nI b) (nI c) σ = some (.inl (bI (decide (sgn T (p + k) = a) && (decide (sgn T (p + k + 1) = b) && decide (sgn T (p + k + 2) = c)))), σ) := by
  have a0 := ri_0 h.1
  have t1 := h.2.1.1
  have s0 := rw_sign h (k := p + k) (by omega)
  have s1 := rw_sign h (k := p + k + 1) (by omega)
  have s2 := rw_sign h (k := p + k + 2) (by omega)
  have l0 := sgn_lt h.2.1 (p + k)
  have l1 := sgn_lt h.2.1 (p + k + 1)
  have l2 := sgn_lt h.2.1 (p + k + 2)
  unfold dm_X12_is dm_X12_is_p51 dm_X12_is_p52
  by_cases e0 : sgn T (p + k) = a
  · by_cases e1 : sgn T (p + k + 1) = b
    · by_cases e2 : sgn T (p + k + 2) = c
      · simp (disch := first | assumption | omega) [ck_T, sm_s, bd_l, bd_r, lt_e, eq_self, and_self, if_true, true_and, and_true, lit_nI, nI_add, nI_mul, nI_sub, nI_clamp, nI_eq, nI_ltI, nI_leI, nN_e, nI_nN, nN_nI, bI_0, bI_1, bI_n, bool_0, bool_1, in_T, lg_cmp0, ofN_nI, a0, fr, s0, s1, s2, e0, e1, e2, bI_tt]
      · simp (disch := first | assumption | omega) [ck_T, sm_s, bd_l, bd_r, lt_e, eq_self, and_self, if_true, true_and, and_true, lit_nI, nI_add, nI_mul, nI_sub, nI_clamp, nI_eq, nI_ltI, nI_leI, nN_e, nI_nN, nN_nI, bI_0, bI_1, bI_n, bool_0, bool_1, in_T, lg_cmp0, ofN_nI, a0, fr, s0, s1, s2, e0, e1, e2, bI_ff]
    · simp (disch := first | assumption | omega) [ck_T, sm_s, bd_l, bd_r, lt_e, eq_self, and_self, if_true, true_and, and_true, lit_nI, nI_add, nI_mul, nI_sub, nI_clamp, nI_eq, nI_ltI, nI_leI, nN_e, nI_nN, nN_nI, bI_0, bI_1, bI_n, bool_0, bool_1, in_T, lg_cmp0, ofN_nI, a0, fr, s0, s1, e0, e1, bI_ff]
  · simp (disch := first | assumption | omega) [ck_T, sm_s, bd_l, bd_r, lt_e, eq_self, and_self, if_true, true_and, and_true, lit_nI, nI_add, nI_mul, nI_sub, nI_clamp, nI_eq, nI_ltI, nI_leI, nN_e, nI_nN, nN_nI, bI_0, bI_1, bI_n, bool_0, bool_1, in_T, lg_cmp0, ofN_nI, a0, fr, s0, e0, bI_ff]
def isB (T : xT) (p a b c : Nat) : Bool := decide (sgn T p = a) && (decide (sgn T (p + 1) = b) && decide (sgn T (p + 2) = c))
theorem isB_iff {T : xT} {p a b c : Nat} : isB T p a b c = true ↔ sgn T p = a ∧ sgn T (p + 1) = b ∧ sgn T (p + 2) = c := by simp [isB]
/-- which keyword a word is -/
def kwi (l : List Nat) : Int32 := if l = kw_module then nI 0 else if l = kw_input then nI 1 else if l = kw_output then nI 2 else if l = kw_wire then nI 3 else if l = kw_assign then nI 4 else if l = kw_end then nI 5 else nN
theorem nm_sgn {T : xT} {p n : Nat} (h : lx_end T p - p = n) (hp : p < T.2) : lx_nm T p = (List.range n).map fun i => sgn T (p + i) := by
  have el := end_le hp
  unfold lx_nm
  rw [h]
  apply List.map_congr_left
  intro i hi
  have := List.mem_range.mp hi
  unfold sgn
  rw [if_pos (by omega)]
theorem nm_n {T : xT} {p n : Nat} {l : List Nat} (h : lx_end T p - p = n) (e : lx_nm T p = l) : n = l.length := by
  rw [← e, nm_len, h]
theorem km6 {T : xT} {p n a b c d e f : Nat} (h : lx_end T p - p = n) (hp : p < T.2) : lx_nm T p = [a, b, c, d, e, f] ↔ n = 6 ∧ isB T p a b c = true ∧ isB T (p + 3) d e f = true := by
  rw [isB_iff, isB_iff]
  constructor
  · intro z
    have hn := nm_n h z
    simp only [List.length_cons, List.length_nil] at hn
    subst hn
    rw [nm_sgn h hp] at z
    simp [List.range_succ] at z
    exact ⟨rfl, ⟨z.1, z.2.1, z.2.2.1⟩, z.2.2.2.1, z.2.2.2.2.1, z.2.2.2.2.2⟩
  · rintro ⟨hn, ⟨z1, z2, z3⟩, z4, z5, z6⟩
    subst hn
    rw [nm_sgn h hp]
    simp only [Nat.add_assoc, Nat.reduceAdd] at z5 z6
    simp [List.range_succ, z1, z2, z3, z4, z5, z6]
theorem km5 {T : xT} {p n a b c d e : Nat} (h : lx_end T p - p = n) (hp : p < T.2) : lx_nm T p = [a, b, c, d, e] ↔ n = 5 ∧ isB T p a b c = true ∧ sgn T (p + 3) = d ∧ sgn T (p + 4) = e := by
  rw [isB_iff]
  constructor
  · intro z
    have hn := nm_n h z
    simp only [List.length_cons, List.length_nil] at hn
    subst hn
    rw [nm_sgn h hp] at z
    simp [List.range_succ] at z
    exact ⟨rfl, ⟨z.1, z.2.1, z.2.2.1⟩, z.2.2.2.1, z.2.2.2.2⟩
  · rintro ⟨hn, ⟨z1, z2, z3⟩, z4, z5⟩
    subst hn
    rw [nm_sgn h hp]
    simp [List.range_succ, z1, z2, z3, z4, z5]
theorem km4 {T : xT} {p n a b c d : Nat} (h : lx_end T p - p = n) (hp : p < T.2) : lx_nm T p = [a, b, c, d] ↔ n = 4 ∧ isB T p a b c = true ∧ sgn T (p + 3) = d := by
  rw [isB_iff]
  constructor
  · intro z
    have hn := nm_n h z
    simp only [List.length_cons, List.length_nil] at hn
    subst hn
    rw [nm_sgn h hp] at z
    simp [List.range_succ] at z
    exact ⟨rfl, ⟨z.1, z.2.1, z.2.2.1⟩, z.2.2.2⟩
  · rintro ⟨hn, ⟨z1, z2, z3⟩, z4⟩
    subst hn
    rw [nm_sgn h hp]
    simp [List.range_succ, z1, z2, z3, z4]
theorem km3 {T : xT} {p n a b c : Nat} (h : lx_end T p - p = n) (hp : p < T.2) : lx_nm T p = [a, b, c] ↔ n = 3 ∧ isB T p a b c = true := by
  rw [isB_iff]
  constructor
  · intro z
    have hn := nm_n h z
    simp only [List.length_cons, List.length_nil] at hn
    subst hn
    rw [nm_sgn h hp] at z
    simp [List.range_succ] at z
    exact ⟨rfl, z.1, z.2.1, z.2.2⟩
  · rintro ⟨hn, z1, z2, z3⟩
    subst hn
    rw [nm_sgn h hp]
    simp [List.range_succ, z1, z2, z3]
theorem rw_keyword {P : xP} {T : xT} {hv : Nat} {σ : xS} {p : Nat} (h : TX P T hv σ) (c : RC P T σ p) (hk : lx_kind T p ≠ 4) : dm_X12_keyword P (P.base + 11) σ = some (.inl (if lx_kind T p = 0 ∨ lx_kind T p = 1 then kwi (lx_nm T p) else nN), σ) := by
  have a0 := ri_0 h.1
  have t1 := h.2.1.1
  obtain ⟨c1, c2, c3, c4, c5, c6, c7, c8⟩ := c
  have rb : rKd T p < 10 := by unfold rKd; split <;> (try split) <;> (try split) <;> omega
  by_cases e : lx_kind T p = 0 ∨ lx_kind T p = 1
  · rw [if_pos e]
    have e1 := (rKd_1 hk).mpr e
    rw [e1] at c5
    obtain ⟨k1, k2, k3, k4⟩ := kind_nm e
    have er : rEnd T p = lx_end T p := if_pos k1
    rw [er] at c4
    have el := end_le k1
    have i1 : dm_X12_is P (P.base + 11) (nI 0) (nI 109) (nI 111) (nI 100) σ = some (.inl (bI (isB T p 109 111 100)), σ) := rw_is h c2 c1 (by omega) (by omega) (by omega) (by omega)
    have i2 : dm_X12_is P (P.base + 11) (nI 3) (nI 117) (nI 108) (nI 101) σ = some (.inl (bI (isB T (p + 3) 117 108 101)), σ) := rw_is h c2 c1 (by omega) (by omega) (by omega) (by omega)
    have i3 : dm_X12_is P (P.base + 11) (nI 0) (nI 105) (nI 110) (nI 112) σ = some (.inl (bI (isB T p 105 110 112)), σ) := rw_is h c2 c1 (by omega) (by omega) (by omega) (by omega)
    have i4 : dm_X12_is P (P.base + 11) (nI 0) (nI 111) (nI 117) (nI 116) σ = some (.inl (bI (isB T p 111 117 116)), σ) := rw_is h c2 c1 (by omega) (by omega) (by omega) (by omega)
    have i5 : dm_X12_is P (P.base + 11) (nI 3) (nI 112) (nI 117) (nI 116) σ = some (.inl (bI (isB T (p + 3) 112 117 116)), σ) := rw_is h c2 c1 (by omega) (by omega) (by omega) (by omega)
    have i6 : dm_X12_is P (P.base + 11) (nI 0) (nI 119) (nI 105) (nI 114) σ = some (.inl (bI (isB T p 119 105 114)), σ) := rw_is h c2 c1 (by omega) (by omega) (by omega) (by omega)
    have i7 : dm_X12_is P (P.base + 11) (nI 0) (nI 97) (nI 115) (nI 115) σ = some (.inl (bI (isB T p 97 115 115)), σ) := rw_is h c2 c1 (by omega) (by omega) (by omega) (by omega)
    have i8 : dm_X12_is P (P.base + 11) (nI 3) (nI 105) (nI 103) (nI 110) σ = some (.inl (bI (isB T (p + 3) 105 103 110)), σ) := rw_is h c2 c1 (by omega) (by omega) (by omega) (by omega)
    have i9 : dm_X12_is P (P.base + 11) (nI 0) (nI 101) (nI 110) (nI 100) σ = some (.inl (bI (isB T p 101 110 100)), σ) := rw_is h c2 c1 (by omega) (by omega) (by omega) (by omega)
    have s3 := rw_sign h (k := p + 3) (by omega)
    have s4 := rw_sign h (k := p + 4) (by omega)
    have g3 := sgn_lt h.2.1 (p + 3)
    have g4 := sgn_lt h.2.1 (p + 4)
    have sub : nI (lx_end T p) - nI p = nI (lx_end T p - p) := nI_sub (by omega)
    obtain ⟨n, hn⟩ : ∃ n, lx_end T p - p = n := ⟨_, rfl⟩
    rw [hn] at sub
    have nb : n ≤ 8 := by omega
    have m1 := km6 (a := 109) (b := 111) (c := 100) (d := 117) (e := 108) (f := 101) hn k1
    have m2 := km5 (a := 105) (b := 110) (c := 112) (d := 117) (e := 116) hn k1
    have m3 := km6 (a := 111) (b := 117) (c := 116) (d := 112) (e := 117) (f := 116) hn k1
    have m4 := km4 (a := 119) (b := 105) (c := 114) (d := 101) hn k1
    have m5 := km6 (a := 97) (b := 115) (c := 115) (d := 105) (e := 103) (f := 110) hn k1
    have m6 := km3 (a := 101) (b := 110) (c := 100) hn k1
    generalize isB T p 109 111 100 = b1 at *
    generalize isB T (p + 3) 117 108 101 = b2 at *
    generalize isB T p 105 110 112 = b3 at *
    generalize isB T p 111 117 116 = b4 at *
    generalize isB T (p + 3) 112 117 116 = b5 at *
    generalize isB T p 119 105 114 = b6 at *
    generalize isB T p 97 115 115 = b7 at *
    generalize isB T (p + 3) 105 103 110 = b8 at *
    generalize isB T p 101 110 100 = b9 at *
    generalize sgn T (p + 3) = x3 at *
    generalize sgn T (p + 4) = x4 at *
    have p215 : dm_X12_keyword_p215 P (P.base + 11) (nI n) σ = some (.inl (if lx_nm T p = kw_end then nI 5 else nN), σ) := by
      unfold dm_X12_keyword_p215 dm_X12_keyword_p238 dm_X12_keyword_p239 kw_end
      simp only [m6]
      by_cases z : n = 3
      · cases b9 <;> simp (disch := first | assumption | omega) [ck_T, sm_s, bd_l, bd_r, lt_e, eq_self, and_self, if_true, true_and, and_true, lit_nI, nI_add, nI_mul, nI_sub, nI_clamp, nI_eq, nI_ltI, nI_leI, nN_e, nI_nN, nN_nI, bI_0, bI_1, bI_n, bool_0, bool_1, in_T, lg_cmp0, ofN_nI, a0, z, i9, bI_tt, bI_ff]
      · simp (disch := first | assumption | omega) [ck_T, sm_s, bd_l, bd_r, lt_e, eq_self, and_self, if_true, true_and, and_true, lit_nI, nI_add, nI_mul, nI_sub, nI_clamp, nI_eq, nI_ltI, nI_leI, nN_e, nI_nN, nN_nI, bI_0, bI_1, bI_n, bool_0, bool_1, in_T, lg_cmp0, ofN_nI, z]
    have p179 : dm_X12_keyword_p179 P (P.base + 11) (nI n) σ = some (.inl (if lx_nm T p = kw_assign then nI 4 else if lx_nm T p = kw_end then nI 5 else nN), σ) := by
      unfold dm_X12_keyword_p179
      by_cases z : n = 6 ∧ b7 = true ∧ b8 = true
      · have y := m5.mpr z
        obtain ⟨z1, z2, z3⟩ := z
        subst z1 z2 z3
        rw [if_pos (show lx_nm T p = kw_assign from y)]
        simp (disch := first | assumption | omega) [ck_T, sm_s, bd_l, bd_r, lt_e, eq_self, and_self, if_true, true_and, and_true, lit_nI, nI_add, nI_mul, nI_sub, nI_clamp, nI_eq, nI_ltI, nI_leI, nN_e, nI_nN, nN_nI, bI_0, bI_1, bI_n, bool_0, bool_1, in_T, lg_cmp0, ofN_nI, a0, i7, i8, bI_tt]
      · rw [if_neg (show ¬ lx_nm T p = kw_assign from fun y => z (m5.mp y)), ← p215]
        by_cases z1 : n = 6
        · cases b7 with
          | false => simp (disch := first | assumption | omega) [ck_T, sm_s, bd_l, bd_r, lt_e, eq_self, and_self, if_true, true_and, and_true, lit_nI, nI_add, nI_mul, nI_sub, nI_clamp, nI_eq, nI_ltI, nI_leI, nN_e, nI_nN, nN_nI, bI_0, bI_1, bI_n, bool_0, bool_1, in_T, lg_cmp0, ofN_nI, a0, z1, i7, bI_ff]
          | true =>
            cases b8 with
            | false => simp (disch := first | assumption | omega) [ck_T, sm_s, bd_l, bd_r, lt_e, eq_self, and_self, if_true, true_and, and_true, lit_nI, nI_add, nI_mul, nI_sub, nI_clamp, nI_eq, nI_ltI, nI_leI, nN_e, nI_nN, nN_nI, bI_0, bI_1, bI_n, bool_0, bool_1, in_T, lg_cmp0, ofN_nI, a0, z1, i7, i8, bI_tt, bI_ff]
            | true => exact absurd ⟨z1, rfl, rfl⟩ z
        · simp (disch := first | assumption | omega) [ck_T, sm_s, bd_l, bd_r, lt_e, eq_self, and_self, if_true, true_and, and_true, lit_nI, nI_add, nI_mul, nI_sub, nI_clamp, nI_eq, nI_ltI, nI_leI, nN_e, nI_nN, nN_nI, bI_0, bI_1, bI_n, bool_0, bool_1, in_T, lg_cmp0, ofN_nI, z1]
    have p143 : dm_X12_keyword_p143 P (P.base + 11) (nI n) σ = some (.inl (if lx_nm T p = kw_wire then nI 3 else if lx_nm T p = kw_assign then nI 4 else if lx_nm T p = kw_end then nI 5 else nN), σ) := by
      unfold dm_X12_keyword_p143
      by_cases z : n = 4 ∧ b6 = true ∧ x3 = 101
      · have y := m4.mpr z
        obtain ⟨z1, z2, z3⟩ := z
        subst z1 z2 z3
        rw [if_pos (show lx_nm T p = kw_wire from y)]
        simp (disch := first | assumption | omega) [ck_T, sm_s, bd_l, bd_r, lt_e, eq_self, and_self, if_true, true_and, and_true, lit_nI, nI_add, nI_mul, nI_sub, nI_clamp, nI_eq, nI_ltI, nI_leI, nN_e, nI_nN, nN_nI, bI_0, bI_1, bI_n, bool_0, bool_1, in_T, lg_cmp0, ofN_nI, a0, i6, c2, s3, bI_tt]
      · rw [if_neg (show ¬ lx_nm T p = kw_wire from fun y => z (m4.mp y)), ← p179]
        by_cases z1 : n = 4
        · cases b6 with
          | false => simp (disch := first | assumption | omega) [ck_T, sm_s, bd_l, bd_r, lt_e, eq_self, and_self, if_true, true_and, and_true, lit_nI, nI_add, nI_mul, nI_sub, nI_clamp, nI_eq, nI_ltI, nI_leI, nN_e, nI_nN, nN_nI, bI_0, bI_1, bI_n, bool_0, bool_1, in_T, lg_cmp0, ofN_nI, a0, z1, i6, bI_ff]
          | true =>
            have z2 : ¬ x3 = 101 := fun y => z ⟨z1, rfl, y⟩
            simp (disch := first | assumption | omega) [ck_T, sm_s, bd_l, bd_r, lt_e, eq_self, and_self, if_true, true_and, and_true, lit_nI, nI_add, nI_mul, nI_sub, nI_clamp, nI_eq, nI_ltI, nI_leI, nN_e, nI_nN, nN_nI, bI_0, bI_1, bI_n, bool_0, bool_1, in_T, lg_cmp0, ofN_nI, a0, z1, i6, c2, s3, z2, bI_tt]
        · simp (disch := first | assumption | omega) [ck_T, sm_s, bd_l, bd_r, lt_e, eq_self, and_self, if_true, true_and, and_true, lit_nI, nI_add, nI_mul, nI_sub, nI_clamp, nI_eq, nI_ltI, nI_leI, nN_e, nI_nN, nN_nI, bI_0, bI_1, bI_n, bool_0, bool_1, in_T, lg_cmp0, ofN_nI, z1]
    have p107 : dm_X12_keyword_p107 P (P.base + 11) (nI n) σ = some (.inl (if lx_nm T p = kw_output then nI 2 else if lx_nm T p = kw_wire then nI 3 else if lx_nm T p = kw_assign then nI 4 else if lx_nm T p = kw_end then nI 5 else nN), σ) := by
      unfold dm_X12_keyword_p107
      by_cases z : n = 6 ∧ b4 = true ∧ b5 = true
      · have y := m3.mpr z
        obtain ⟨z1, z2, z3⟩ := z
        subst z1 z2 z3
        rw [if_pos (show lx_nm T p = kw_output from y)]
        simp (disch := first | assumption | omega) [ck_T, sm_s, bd_l, bd_r, lt_e, eq_self, and_self, if_true, true_and, and_true, lit_nI, nI_add, nI_mul, nI_sub, nI_clamp, nI_eq, nI_ltI, nI_leI, nN_e, nI_nN, nN_nI, bI_0, bI_1, bI_n, bool_0, bool_1, in_T, lg_cmp0, ofN_nI, a0, i4, i5, bI_tt]
      · rw [if_neg (show ¬ lx_nm T p = kw_output from fun y => z (m3.mp y)), ← p143]
        by_cases z1 : n = 6
        · cases b4 with
          | false => simp (disch := first | assumption | omega) [ck_T, sm_s, bd_l, bd_r, lt_e, eq_self, and_self, if_true, true_and, and_true, lit_nI, nI_add, nI_mul, nI_sub, nI_clamp, nI_eq, nI_ltI, nI_leI, nN_e, nI_nN, nN_nI, bI_0, bI_1, bI_n, bool_0, bool_1, in_T, lg_cmp0, ofN_nI, a0, z1, i4, bI_ff]
          | true =>
            cases b5 with
            | false => simp (disch := first | assumption | omega) [ck_T, sm_s, bd_l, bd_r, lt_e, eq_self, and_self, if_true, true_and, and_true, lit_nI, nI_add, nI_mul, nI_sub, nI_clamp, nI_eq, nI_ltI, nI_leI, nN_e, nI_nN, nN_nI, bI_0, bI_1, bI_n, bool_0, bool_1, in_T, lg_cmp0, ofN_nI, a0, z1, i4, i5, bI_tt, bI_ff]
            | true => exact absurd ⟨z1, rfl, rfl⟩ z
        · simp (disch := first | assumption | omega) [ck_T, sm_s, bd_l, bd_r, lt_e, eq_self, and_self, if_true, true_and, and_true, lit_nI, nI_add, nI_mul, nI_sub, nI_clamp, nI_eq, nI_ltI, nI_leI, nN_e, nI_nN, nN_nI, bI_0, bI_1, bI_n, bool_0, bool_1, in_T, lg_cmp0, ofN_nI, z1]
    have p56 : dm_X12_keyword_p56 P (P.base + 11) (nI n) σ = some (.inl (if lx_nm T p = kw_input then nI 1 else if lx_nm T p = kw_output then nI 2 else if lx_nm T p = kw_wire then nI 3 else if lx_nm T p = kw_assign then nI 4 else if lx_nm T p = kw_end then nI 5 else nN), σ) := by
      unfold dm_X12_keyword_p56
      by_cases z : n = 5 ∧ b3 = true ∧ x3 = 117 ∧ x4 = 116
      · have y := m2.mpr z
        obtain ⟨z1, z2, z3, z4⟩ := z
        subst z1 z2 z3 z4
        rw [if_pos (show lx_nm T p = kw_input from y)]
        simp (disch := first | assumption | omega) [ck_T, sm_s, bd_l, bd_r, lt_e, eq_self, and_self, if_true, true_and, and_true, lit_nI, nI_add, nI_mul, nI_sub, nI_clamp, nI_eq, nI_ltI, nI_leI, nN_e, nI_nN, nN_nI, bI_0, bI_1, bI_n, bool_0, bool_1, in_T, lg_cmp0, ofN_nI, a0, i3, c2, s3, s4, bI_tt]
      · rw [if_neg (show ¬ lx_nm T p = kw_input from fun y => z (m2.mp y)), ← p107]
        by_cases z1 : n = 5
        · cases b3 with
          | false => simp (disch := first | assumption | omega) [ck_T, sm_s, bd_l, bd_r, lt_e, eq_self, and_self, if_true, true_and, and_true, lit_nI, nI_add, nI_mul, nI_sub, nI_clamp, nI_eq, nI_ltI, nI_leI, nN_e, nI_nN, nN_nI, bI_0, bI_1, bI_n, bool_0, bool_1, in_T, lg_cmp0, ofN_nI, a0, z1, i3, bI_ff]
          | true =>
            by_cases z2 : x3 = 117
            · have z3 : ¬ x4 = 116 := fun y => z ⟨z1, rfl, z2, y⟩
              simp (disch := first | assumption | omega) [ck_T, sm_s, bd_l, bd_r, lt_e, eq_self, and_self, if_true, true_and, and_true, lit_nI, nI_add, nI_mul, nI_sub, nI_clamp, nI_eq, nI_ltI, nI_leI, nN_e, nI_nN, nN_nI, bI_0, bI_1, bI_n, bool_0, bool_1, in_T, lg_cmp0, ofN_nI, a0, z1, i3, c2, s3, s4, z2, z3, bI_tt]
            · simp (disch := first | assumption | omega) [ck_T, sm_s, bd_l, bd_r, lt_e, eq_self, and_self, if_true, true_and, and_true, lit_nI, nI_add, nI_mul, nI_sub, nI_clamp, nI_eq, nI_ltI, nI_leI, nN_e, nI_nN, nN_nI, bI_0, bI_1, bI_n, bool_0, bool_1, in_T, lg_cmp0, ofN_nI, a0, z1, i3, c2, s3, z2, bI_tt]
        · simp (disch := first | assumption | omega) [ck_T, sm_s, bd_l, bd_r, lt_e, eq_self, and_self, if_true, true_and, and_true, lit_nI, nI_add, nI_mul, nI_sub, nI_clamp, nI_eq, nI_ltI, nI_leI, nN_e, nI_nN, nN_nI, bI_0, bI_1, bI_n, bool_0, bool_1, in_T, lg_cmp0, ofN_nI, z1]
    unfold kwi dm_X12_keyword
    by_cases z : n = 6 ∧ b1 = true ∧ b2 = true
    · have y := m1.mpr z
      obtain ⟨z1, z2, z3⟩ := z
      subst z1 z2 z3
      rw [if_pos (show lx_nm T p = kw_module from y)]
      simp (disch := first | assumption | omega) [ck_T, sm_s, bd_l, bd_r, lt_e, eq_self, and_self, if_true, true_and, and_true, lit_nI, nI_add, nI_mul, nI_sub, nI_clamp, nI_eq, nI_ltI, nI_leI, nN_e, nI_nN, nN_nI, bI_0, bI_1, bI_n, bool_0, bool_1, in_T, lg_cmp0, ofN_nI, a0, c5, c4, c2, sub, i1, i2, bI_tt]
    · rw [if_neg (show ¬ lx_nm T p = kw_module from fun y => z (m1.mp y)), ← p56]
      by_cases z1 : n = 6
      · cases b1 with
        | false => simp (disch := first | assumption | omega) [ck_T, sm_s, bd_l, bd_r, lt_e, eq_self, and_self, if_true, true_and, and_true, lit_nI, nI_add, nI_mul, nI_sub, nI_clamp, nI_eq, nI_ltI, nI_leI, nN_e, nI_nN, nN_nI, bI_0, bI_1, bI_n, bool_0, bool_1, in_T, lg_cmp0, ofN_nI, a0, c5, c4, c2, sub, z1, i1, bI_ff]
        | true =>
          cases b2 with
          | false => simp (disch := first | assumption | omega) [ck_T, sm_s, bd_l, bd_r, lt_e, eq_self, and_self, if_true, true_and, and_true, lit_nI, nI_add, nI_mul, nI_sub, nI_clamp, nI_eq, nI_ltI, nI_leI, nN_e, nI_nN, nN_nI, bI_0, bI_1, bI_n, bool_0, bool_1, in_T, lg_cmp0, ofN_nI, a0, c5, c4, c2, sub, z1, i1, i2, bI_tt, bI_ff]
          | true => exact absurd ⟨z1, rfl, rfl⟩ z
      · simp (disch := first | assumption | omega) [ck_T, sm_s, bd_l, bd_r, lt_e, eq_self, and_self, if_true, true_and, and_true, lit_nI, nI_add, nI_mul, nI_sub, nI_clamp, nI_eq, nI_ltI, nI_leI, nN_e, nI_nN, nN_nI, bI_0, bI_1, bI_n, bool_0, bool_1, in_T, lg_cmp0, ofN_nI, a0, c5, c4, c2, sub, z1]
  · rw [if_neg e]
    have e1 : ¬ rKd T p = 1 := fun z => e ((rKd_1 hk).mp z)
    unfold dm_X12_keyword
    simp (disch := first | assumption | omega) [ck_T, sm_s, bd_l, bd_r, lt_e, eq_self, and_self, if_true, true_and, and_true, lit_nI, nI_add, nI_mul, nI_sub, nI_clamp, nI_eq, nI_ltI, nI_leI, nN_e, nI_nN, nN_nI, bI_0, bI_1, bI_n, bool_0, bool_1, in_T, lg_cmp0, ofN_nI, a0, c5, e1]
theorem kwi_N (l : List Nat) : kwi l = nN ↔ lx_kw l = false := by
  by_cases e1 : l = kw_module
  · subst e1; decide
  by_cases e2 : l = kw_input
  · subst e2; decide
  by_cases e3 : l = kw_output
  · subst e3; decide
  by_cases e4 : l = kw_wire
  · subst e4; decide
  by_cases e5 : l = kw_assign
  · subst e5; decide
  by_cases e6 : l = kw_end
  · subst e6; decide
  unfold kwi lx_kw
  simp [e1, e2, e3, e4, e5, e6]
theorem kind_kw {T : xT} {p : Nat} (h : lx_kind T p = 0 ∨ lx_kind T p = 1) : lx_kind T p = 0 ↔ lx_kw (lx_nm T p) = false := by
  obtain ⟨k1, k2, k3, k4⟩ := kind_nm h
  unfold lx_kind
  rw [if_neg (by omega), if_neg (by rw [k2]; simp), if_pos k3, if_neg (by omega)]
  cases e : lx_kw (lx_nm T p) <;> simp
theorem rw_needName {P : xP} {T : xT} {hv : Nat} {σ : xS} {p : Nat} (h : TX P T hv σ) (c : RC P T σ p) (hk : lx_kind T p ≠ 4) : dm_X12_needName P (P.base + 11) σ = some (.inl (), if lx_kind T p = 0 then σ else fl P σ p) := by
  have ok := rw_ok h.1 (c.ok hk)
  have a0 := ri_0 h.1
  have kw := rw_keyword h c hk
  have fr := c.2.1
  have ff : dm_X12_fail P (P.base + 11) (nI p) σ = some (.inl (), fl P σ p) := rw_fail h.1 (c.ok hk) (nI p)
  obtain ⟨c1, c2, c3, c4, c5, c6, c7, c8⟩ := c
  have rb : rKd T p < 10 := by unfold rKd; split <;> (try split) <;> (try split) <;> omega
  unfold dm_X12_needName dm_X12_needName_p23 dm_X12_needName_p31
  by_cases e : lx_kind T p = 0 ∨ lx_kind T p = 1
  · have e1 := (rKd_1 hk).mpr e
    rw [e1] at c5
    rw [if_pos e] at kw
    by_cases z : lx_kw (lx_nm T p) = false
    · have k0 := (kind_kw e).mpr z
      have kn := (kwi_N _).mpr z
      rw [kn] at kw
      rw [if_pos k0]
      simp (disch := first | assumption | omega) [ck_T, sm_s, bd_l, bd_r, lt_e, eq_self, and_self, if_true, true_and, and_true, lit_nI, nI_add, nI_mul, nI_sub, nI_clamp, nI_eq, nI_ltI, nI_leI, nN_e, nI_nN, nN_nI, bI_0, bI_1, bI_n, bool_0, bool_1, in_T, lg_cmp0, ofN_nI, a0, ok, c5, kw]
    · have k0 : ¬ lx_kind T p = 0 := fun y => z ((kind_kw e).mp y)
      have kn : ¬ kwi (lx_nm T p) = nN := fun y => z ((kwi_N _).mp y)
      rw [if_neg k0]
      simp (disch := first | assumption | omega) [ck_T, sm_s, bd_l, bd_r, lt_e, eq_self, and_self, if_true, true_and, and_true, lit_nI, nI_add, nI_mul, nI_sub, nI_clamp, nI_eq, nI_ltI, nI_leI, nN_e, nI_nN, nN_nI, bI_0, bI_1, bI_n, bool_0, bool_1, in_T, lg_cmp0, ofN_nI, a0, ok, c5, kw, kn, fr, ff]
  · have e1 : ¬ rKd T p = 1 := fun z => e ((rKd_1 hk).mp z)
    have k0 : ¬ lx_kind T p = 0 := fun y => e (Or.inl y)
    rw [if_neg k0]
    simp (disch := first | assumption | omega) [ck_T, sm_s, bd_l, bd_r, lt_e, eq_self, and_self, if_true, true_and, and_true, lit_nI, nI_add, nI_mul, nI_sub, nI_clamp, nI_eq, nI_ltI, nI_leI, nN_e, nI_nN, nN_nI, bI_0, bI_1, bI_n, bool_0, bool_1, in_T, lg_cmp0, ofN_nI, a0, ok, c5, e1, fr, ff]
theorem rd_needName {P : xP} {σ : xS} {f : Nat} (h : DE P σ f) : dm_X12_needName P (P.base + 11) σ = some (.inl (), σ) := by
  have ok := rd_ok h.1 (by have := h.2.2; omega) h.2.1
  have a0 := ri_0 h.1
  unfold dm_X12_needName dm_X12_needName_p31
  simp (disch := first | assumption | omega) [ck_T, sm_s, bd_l, bd_r, lt_e, eq_self, and_self, if_true, true_and, and_true, lit_nI, nI_add, nI_mul, nI_sub, nI_clamp, nI_eq, nI_ltI, nI_leI, nN_e, nI_nN, nN_nI, bI_0, bI_1, bI_n, bool_0, bool_1, in_T, lg_cmp0, ofN_nI, a0, ok]
theorem rw_isKey {P : xP} {T : xT} {hv : Nat} {σ : xS} {p : Nat} (h : TX P T hv σ) (c : RC P T σ p) (hk : lx_kind T p ≠ 4) {w : Nat} {l : List Nat} (hw : ∀ l', (kwi l' = nI w) = (l' = l)) (hw2 : w < 10) : dm_X12_isKey P (P.base + 11) (nI w) σ = some (.inl (bI (sp_txt T l p)), σ) := by
  have ok := rw_ok h.1 (c.ok hk)
  have a0 := ri_0 h.1
  have kw := rw_keyword h c hk
  unfold dm_X12_isKey dm_X12_isKey_p19 dm_X12_isKey_p20 sp_txt
  by_cases e : lx_kind T p = 0 ∨ lx_kind T p = 1
  · rw [if_pos e] at kw
    have ed : (decide (lx_kind T p = 0) || decide (lx_kind T p = 1)) = true := by simpa using e
    rw [ed]
    by_cases z : lx_nm T p = l
    · have y : kwi (lx_nm T p) = nI w := Eq.mpr (hw (lx_nm T p)) z
      subst z
      simp (disch := first | assumption | omega) [ck_T, sm_s, bd_l, bd_r, lt_e, eq_self, and_self, if_true, true_and, and_true, lit_nI, nI_add, nI_mul, nI_sub, nI_clamp, nI_eq, nI_ltI, nI_leI, nN_e, nI_nN, nN_nI, bI_0, bI_1, bI_n, bool_0, bool_1, in_T, lg_cmp0, ofN_nI, a0, ok, kw, y, bI_tt]
    · have y : ¬ kwi (lx_nm T p) = nI w := fun q => z (Eq.mp (hw (lx_nm T p)) q)
      simp (disch := first | assumption | omega) [ck_T, sm_s, bd_l, bd_r, lt_e, eq_self, and_self, if_true, true_and, and_true, lit_nI, nI_add, nI_mul, nI_sub, nI_clamp, nI_eq, nI_ltI, nI_leI, nN_e, nI_nN, nN_nI, bI_0, bI_1, bI_n, bool_0, bool_1, in_T, lg_cmp0, ofN_nI, a0, ok, kw, y, z, bI_ff]
  · rw [if_neg e] at kw
    have ed : (decide (lx_kind T p = 0) || decide (lx_kind T p = 1)) = false := by simpa using e
    rw [ed]
    simp (disch := first | assumption | omega) [ck_T, sm_s, bd_l, bd_r, lt_e, eq_self, and_self, if_true, true_and, and_true, lit_nI, nI_add, nI_mul, nI_sub, nI_clamp, nI_eq, nI_ltI, nI_leI, nN_e, nI_nN, nN_nI, bI_0, bI_1, bI_n, bool_0, bool_1, in_T, lg_cmp0, ofN_nI, a0, ok, kw, bI_ff]
theorem rd_isKey {P : xP} {σ : xS} {f : Nat} (h : DE P σ f) (v : Int32) : dm_X12_isKey P (P.base + 11) v σ = some (.inl (nI 0), σ) := by
  have ok := rd_ok h.1 (by have := h.2.2; omega) h.2.1
  have a0 := ri_0 h.1
  unfold dm_X12_isKey dm_X12_isKey_p19 dm_X12_isKey_p20
  simp (disch := first | assumption | omega) [ck_T, sm_s, bd_l, bd_r, lt_e, eq_self, and_self, if_true, true_and, and_true, lit_nI, nI_add, nI_mul, nI_sub, nI_clamp, nI_eq, nI_ltI, nI_leI, nN_e, nI_nN, nN_nI, bI_0, bI_1, bI_n, bool_0, bool_1, in_T, lg_cmp0, ofN_nI, a0, ok]
theorem rw_letterWord {P : xP} {T : xT} {hv : Nat} {σ : xS} {p : Nat} (h : TX P T hv σ) (c : RC P T σ p) (hk : lx_kind T p ≠ 4) {w : Nat} (hw : w < 128) : dm_X12_isLetterWord P (P.base + 11) (nI w) σ = some (.inl (bI (sp_txt T [w] p)), σ) := by
  have ok := rw_ok h.1 (c.ok hk)
  have a0 := ri_0 h.1
  have t1 := h.2.1.1
  have sg := rw_sign h (k := p) (by have := c.1; omega)
  have sl := sgn_lt h.2.1 p
  obtain ⟨c1, c2, c3, c4, c5, c6, c7, c8⟩ := c
  have rb : rKd T p < 10 := by unfold rKd; split <;> (try split) <;> (try split) <;> omega
  unfold dm_X12_isLetterWord dm_X12_isLetterWord_p44 dm_X12_isLetterWord_p45 sp_txt
  by_cases e : lx_kind T p = 0 ∨ lx_kind T p = 1
  · have e1 := (rKd_1 hk).mpr e
    rw [e1] at c5
    have ed : (decide (lx_kind T p = 0) || decide (lx_kind T p = 1)) = true := by simpa using e
    rw [ed]
    obtain ⟨k1, k2, k3, k4⟩ := kind_nm e
    have er : rEnd T p = lx_end T p := if_pos k1
    rw [er] at c4
    have el := end_le k1
    have sub : nI (lx_end T p) - nI p = nI (lx_end T p - p) := nI_sub (by omega)
    by_cases z : lx_nm T p = [w]
    · have n1 := nm_n rfl z
      simp only [List.length_cons, List.length_nil, Nat.zero_add] at n1
      have hs : sgn T p = w := by
        rw [nm_sgn n1 k1] at z
        simpa [List.range_succ] using z
      rw [n1] at sub
      simp (disch := first | assumption | omega) [ck_T, sm_s, bd_l, bd_r, lt_e, eq_self, and_self, if_true, true_and, and_true, lit_nI, nI_add, nI_mul, nI_sub, nI_clamp, nI_eq, nI_ltI, nI_leI, nN_e, nI_nN, nN_nI, bI_0, bI_1, bI_n, bool_0, bool_1, in_T, lg_cmp0, ofN_nI, a0, ok, c5, c4, c2, sub, sg, hs, z, bI_tt]
    · by_cases n1 : lx_end T p - p = 1
      · have hs : ¬ sgn T p = w := by
          intro y
          apply z
          rw [nm_sgn n1 k1]
          simpa [List.range_succ] using y
        rw [n1] at sub
        simp (disch := first | assumption | omega) [ck_T, sm_s, bd_l, bd_r, lt_e, eq_self, and_self, if_true, true_and, and_true, lit_nI, nI_add, nI_mul, nI_sub, nI_clamp, nI_eq, nI_ltI, nI_leI, nN_e, nI_nN, nN_nI, bI_0, bI_1, bI_n, bool_0, bool_1, in_T, lg_cmp0, ofN_nI, a0, ok, c5, c4, c2, sub, sg, hs, z, bI_ff]
      · simp (disch := first | assumption | omega) [ck_T, sm_s, bd_l, bd_r, lt_e, eq_self, and_self, if_true, true_and, and_true, lit_nI, nI_add, nI_mul, nI_sub, nI_clamp, nI_eq, nI_ltI, nI_leI, nN_e, nI_nN, nN_nI, bI_0, bI_1, bI_n, bool_0, bool_1, in_T, lg_cmp0, ofN_nI, a0, ok, c5, c4, c2, sub, n1, z, bI_ff]
  · have e1 : ¬ rKd T p = 1 := fun z => e ((rKd_1 hk).mp z)
    have ed : (decide (lx_kind T p = 0) || decide (lx_kind T p = 1)) = false := by simpa using e
    rw [ed]
    simp (disch := first | assumption | omega) [ck_T, sm_s, bd_l, bd_r, lt_e, eq_self, and_self, if_true, true_and, and_true, lit_nI, nI_add, nI_mul, nI_sub, nI_clamp, nI_eq, nI_ltI, nI_leI, nN_e, nI_nN, nN_nI, bI_0, bI_1, bI_n, bool_0, bool_1, in_T, lg_cmp0, ofN_nI, a0, ok, c5, e1, bI_ff]
theorem rd_letterWord {P : xP} {σ : xS} {f : Nat} (h : DE P σ f) (v : Int32) : dm_X12_isLetterWord P (P.base + 11) v σ = some (.inl (nI 0), σ) := by
  have ok := rd_ok h.1 (by have := h.2.2; omega) h.2.1
  have a0 := ri_0 h.1
  unfold dm_X12_isLetterWord dm_X12_isLetterWord_p44 dm_X12_isLetterWord_p45
  simp (disch := first | assumption | omega) [ck_T, sm_s, bd_l, bd_r, lt_e, eq_self, and_self, if_true, true_and, and_true, lit_nI, nI_add, nI_mul, nI_sub, nI_clamp, nI_eq, nI_ltI, nI_leI, nN_e, nI_nN, nN_nI, bI_0, bI_1, bI_n, bool_0, bool_1, in_T, lg_cmp0, ofN_nI, a0, ok]
