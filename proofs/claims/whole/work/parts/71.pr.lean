/-! ===== the class: printing nets, parts, links ===== -/
theorem pt_net61 {P : xP} {σ0 : xS} (C : CI P σ0) (lng : Bool) (w : Nat) {lo hi a : Nat} {x : xNet} (h : NetR σ0 lo hi a x) (ho : nm_ok x.1) (l : List Nat) : dm_X7_printLongNet_p61 P (P.base + 8) (some a) (pS P σ0 lng w l) = some (.inl (), pS P σ0 lng w (l ++ (x.1 ++ [59, 10]))) := by
  have k8 := ci_22 C
  obtain ⟨h1, h2, h3, h4, h5, h6⟩ := h
  have n1 := pt_name C lng w ho
  have t1 := pt_text C lng w (q := (4, [59, 10])) (by decide)
  simp only at t1
  unfold dm_X7_printLongNet_p61
  simp (disch := first | assumption | omega) [ck_T, sm_s, bd_l, bd_r, lt_e, eq_self, and_self, if_true, true_and, and_true, lit_nI, nI_add, nI_mul, nI_sub, nI_clamp, nI_eq, nI_ltI, nI_leI, nN_e, nI_nN, nN_nI, bI_0, bI_1, bI_n, bool_0, bool_1, in_T, lg_cmp0, ofN_nI, pS_K, pS_J, k8, h3, h4, n1, t1]
theorem pt_longNet {P : xP} {σ0 : xS} (C : CI P σ0) (lng : Bool) (w : Nat) {lo hi a : Nat} {x : xNet} (h : NetR σ0 lo hi a x) (ho : nm_ok x.1) (hs : x.2.1 ≤ 2) (hw : x.2.2 ≤ 8) (l : List Nat) : dm_X7_printLongNet P (P.base + 8) (some a) (pS P σ0 lng w l) = some (.inl (), pS P σ0 lng w (l ++ pr_net true x)) := by
  have k8 := ci_22 C
  have p61 := pt_net61 C lng w h ho
  obtain ⟨h1, h2, h3, h4, h5, h6⟩ := h
  have so : sortI x.2.1 = nI x.2.1 := if_neg (by omega)
  rw [so] at h5
  have t3 := pt_text C lng w (q := (3, [58, 48, 93, 32])) (by decide)
  have u := pt_put C lng w
  have dg := pt_digit C lng w (d := x.2.2 - 1) (by omega)
  have p28 : ∀ (t : Nat × List Nat), t ∈ sp_strs → ∀ l, dm_X7_printLongNet_p28 P (P.base + 8) (some a) (some (P.base + 8)) (some (P.ad t.1)) (pS P σ0 lng w l) = some (.inl (), pS P σ0 lng w (l ++ (t.2 ++ ((if x.2.2 ≤ 1 then [] else [91] ++ ([48 + (x.2.2 - 1)] ++ [58, 48, 93, 32])) ++ (x.1 ++ [59, 10]))))) := by
    intro t ht l
    have tt := pt_text C lng w ht
    simp only at t3
    unfold dm_X7_printLongNet_p28
    by_cases e : x.2.2 ≤ 1
    · simp (disch := first | assumption | omega) [ck_T, sm_s, bd_l, bd_r, lt_e, eq_self, and_self, if_true, true_and, and_true, lit_nI, nI_add, nI_mul, nI_sub, nI_clamp, nI_eq, nI_ltI, nI_leI, nN_e, nI_nN, nN_nI, bI_0, bI_1, bI_n, bool_0, bool_1, in_T, lg_cmp0, ofN_nI, pS_K, pS_I, k8, tt, h3, h6, e, p61]
    · have e1 : 1 ≤ x.2.2 := by omega
      simp (disch := first | assumption | omega) [ck_T, sm_s, bd_l, bd_r, lt_e, eq_self, and_self, if_true, true_and, and_true, lit_nI, nI_add, nI_mul, nI_sub, nI_clamp, nI_eq, nI_ltI, nI_leI, nN_e, nI_nN, nN_nI, bI_0, bI_1, bI_n, bool_0, bool_1, in_T, lg_cmp0, ofN_nI, pS_K, pS_I, k8, tt, h3, h6, e, p61, t3, u, dg]
  have q1 := p28 (16, [105, 110, 112, 117, 116, 32]) (by decide)
  have q2 := p28 (24, [111, 117, 116, 112, 117, 116, 32]) (by decide)
  have q3 := p28 (30, [119, 105, 114, 101, 32]) (by decide)
  simp only at q1 q2 q3
  unfold dm_X7_printLongNet pr_net
  simp only [if_true]
  by_cases e0 : x.2.1 = 0
  · rw [if_pos e0, ← q1 l]
    simp (disch := first | assumption | omega) [ck_T, sm_s, bd_l, bd_r, lt_e, eq_self, and_self, if_true, true_and, and_true, lit_nI, nI_add, nI_mul, nI_sub, nI_clamp, nI_eq, nI_ltI, nI_leI, nN_e, nI_nN, nN_nI, bI_0, bI_1, bI_n, bool_0, bool_1, in_T, lg_cmp0, ofN_nI, pS_K, pS_I, h3, h5, e0]
  · by_cases e1 : x.2.1 = 1
    · rw [if_neg e0, if_pos e1, ← q2 l]
      simp (disch := first | assumption | omega) [ck_T, sm_s, bd_l, bd_r, lt_e, eq_self, and_self, if_true, true_and, and_true, lit_nI, nI_add, nI_mul, nI_sub, nI_clamp, nI_eq, nI_ltI, nI_leI, nN_e, nI_nN, nN_nI, bI_0, bI_1, bI_n, bool_0, bool_1, in_T, lg_cmp0, ofN_nI, pS_K, pS_I, h3, h5, e1]
    · rw [if_neg e0, if_neg e1, ← q3 l]
      simp (disch := first | assumption | omega) [ck_T, sm_s, bd_l, bd_r, lt_e, eq_self, and_self, if_true, true_and, and_true, lit_nI, nI_add, nI_mul, nI_sub, nI_clamp, nI_eq, nI_ltI, nI_leI, nN_e, nI_nN, nN_nI, bI_0, bI_1, bI_n, bool_0, bool_1, in_T, lg_cmp0, ofN_nI, pS_K, pS_I, h3, h5, e0, e1]
theorem pt_shortNet {P : xP} {σ0 : xS} (C : CI P σ0) (lng : Bool) (w : Nat) {lo hi a : Nat} {x : xNet} (h : NetR σ0 lo hi a x) (ho : nm_ok x.1) (hs : x.2.1 ≤ 2) (hw : x.2.2 ≤ 8) (l : List Nat) : dm_X7_printShortNet P (P.base + 8) (some a) (pS P σ0 lng w l) = some (.inl (), pS P σ0 lng w (l ++ pr_net false x)) := by
  have k8 := ci_22 C
  obtain ⟨h1, h2, h3, h4, h5, h6⟩ := h
  have so : sortI x.2.1 = nI x.2.1 := if_neg (by omega)
  rw [so] at h5
  have t3 := pt_text C lng w (q := (4, [59, 10])) (by decide)
  have n1 := pt_name C lng w ho
  have u := pt_put C lng w
  have dg := pt_digit C lng w (d := x.2.2) (by omega)
  have p28 : ∀ (t : Nat × List Nat), t ∈ sp_strs → ∀ l, dm_X7_printShortNet_p28 P (P.base + 8) (some a) (some (P.base + 8)) (some (P.ad t.1)) (pS P σ0 lng w l) = some (.inl (), pS P σ0 lng w (l ++ (t.2 ++ (x.1 ++ ([32] ++ ([48 + x.2.2] ++ [59, 10])))))) := by
    intro t ht l
    have tt := pt_text C lng w ht
    simp only at t3
    unfold dm_X7_printShortNet_p28
    simp (disch := first | assumption | omega) [ck_T, sm_s, bd_l, bd_r, lt_e, eq_self, and_self, if_true, true_and, and_true, lit_nI, nI_add, nI_mul, nI_sub, nI_clamp, nI_eq, nI_ltI, nI_leI, nN_e, nI_nN, nN_nI, bI_0, bI_1, bI_n, bool_0, bool_1, in_T, lg_cmp0, ofN_nI, pS_K, pS_I, pS_J, k8, tt, h3, h4, h6, t3, u, dg, n1]
  have q1 := p28 (14, [105, 32]) (by decide)
  have q2 := p28 (22, [111, 32]) (by decide)
  have q3 := p28 (28, [119, 32]) (by decide)
  simp only at q1 q2 q3
  unfold dm_X7_printShortNet pr_net
  simp only [Bool.false_eq_true, if_false]
  by_cases e0 : x.2.1 = 0
  · rw [if_pos e0, ← q1 l]
    simp (disch := first | assumption | omega) [ck_T, sm_s, bd_l, bd_r, lt_e, eq_self, and_self, if_true, true_and, and_true, lit_nI, nI_add, nI_mul, nI_sub, nI_clamp, nI_eq, nI_ltI, nI_leI, nN_e, nI_nN, nN_nI, bI_0, bI_1, bI_n, bool_0, bool_1, in_T, lg_cmp0, ofN_nI, pS_K, pS_I, h3, h5, e0]
  · by_cases e1 : x.2.1 = 1
    · rw [if_neg e0, if_pos e1, ← q2 l]
      simp (disch := first | assumption | omega) [ck_T, sm_s, bd_l, bd_r, lt_e, eq_self, and_self, if_true, true_and, and_true, lit_nI, nI_add, nI_mul, nI_sub, nI_clamp, nI_eq, nI_ltI, nI_leI, nN_e, nI_nN, nN_nI, bI_0, bI_1, bI_n, bool_0, bool_1, in_T, lg_cmp0, ofN_nI, pS_K, pS_I, h3, h5, e1]
    · rw [if_neg e0, if_neg e1, ← q3 l]
      simp (disch := first | assumption | omega) [ck_T, sm_s, bd_l, bd_r, lt_e, eq_self, and_self, if_true, true_and, and_true, lit_nI, nI_add, nI_mul, nI_sub, nI_clamp, nI_eq, nI_ltI, nI_leI, nN_e, nI_nN, nN_nI, bI_0, bI_1, bI_n, bool_0, bool_1, in_T, lg_cmp0, ofN_nI, pS_K, pS_I, h3, h5, e0, e1]
theorem PW3 {ns : List xNet} {x : xPart} (h : PW ns x) (h3 : x.1 = 3) : x.1 = 3 ∧ x.2.2.1 = [] ∧ 1 ≤ x.2.2.2.2.2.length ∧ x.2.2.2.2.2.length ≤ 7 ∧ (∀ c ∈ x.2.2.2.2.2, c = 48 ∨ c = 49) ∧ x.2.2.2.1 + 1 = x.2.2.2.2.2.length ∧ x.2.2.2.2.1 = 0 := by
  rcases h with q | q
  · exact q
  · have := q.1; omega
theorem pt_cstL {P : xP} {σ0 : xS} (C : CI P σ0) (lng : Bool) (w : Nat) {g : List Nat → Nat} {kd : List Nat → Option Nat} {hi lo2 hi2 ix M a : Nat} {m : xMod} {r : xPart} (hl : P.base + 8 < lo2) (hM : P.base + 8 < M) (h : PartR σ0 g lo2 hi2 a r) (hm : MR σ0 g kd ix M hi m) (hf : FBR σ0 g M m) (hw : PW m.nets r) (hn : NW m.nets) (h3 : r.1 = 3) : ∀ (k n : Nat) (l : List Nat), k ≤ r.2.2.2.2.2.length → k < n → dm_X7_putConstant_L38 P (P.base + 8) n (some a) (nI k - nI 1) (pS P σ0 lng w l) = some (.inl (), pS P σ0 lng w (l ++ r.2.2.2.2.2.drop (r.2.2.2.2.2.length - k))) := by
  have k8 := ci_22 C
  have ka := h.2.2.1
  obtain ⟨p1, p2, p3, p4, p5, p6, p7⟩ := PW3 hw h3
  have wl : sp_w r = r.2.2.2.2.2.length := by unfold sp_w; omega
  intro k
  induction k with
  | zero =>
    intro n l hk hn'
    obtain ⟨n, rfl⟩ : ∃ m, n = m + 1 := ⟨n - 1, by omega⟩
    have e : r.2.2.2.2.2.drop (r.2.2.2.2.2.length - 0) = [] := List.drop_eq_nil_of_le (by omega)
    rw [e, List.append_nil]
    have neg : nI 0 - nI 1 < nI 0 := by decide
    unfold dm_X7_putConstant_L38
    exact if_pos neg
  | succ k ih =>
    intro n l hk hn'
    obtain ⟨n, rfl⟩ : ∃ m, n = m + 1 := ⟨n - 1, by omega⟩
    have bt := cw_bitAt (P := P) (σ := pS P σ0 lng w l) (b := k) (h.sm (pS_sms lng w l hl) (Nat.le_refl _)) (hm.sm (pS_sms lng w l hM) (Nat.le_refl _)) (hf.sm hm (pS_sms lng w l hM)) hw hn (by omega)
    have es : nI (k + 1) - nI 1 = nI k := by rw [nI_sub (by omega)]; rfl
    have ek : r.2.2.2.2.2.length - (k + 1) < r.2.2.2.2.2.length := by omega
    obtain ⟨c, hc⟩ : ∃ c, r.2.2.2.2.2[r.2.2.2.2.2.length - (k + 1)]? = some c := ⟨_, List.getElem?_eq_getElem ek⟩
    have ed : r.2.2.2.2.2.drop (r.2.2.2.2.2.length - (k + 1)) = c :: r.2.2.2.2.2.drop (r.2.2.2.2.2.length - k) := by
      obtain ⟨hlt, hx3⟩ := List.getElem?_eq_some_iff.mp hc
      rw [List.drop_eq_getElem_cons hlt, hx3, show r.2.2.2.2.2.length - (k + 1) + 1 = r.2.2.2.2.2.length - k by omega]
    have cb := p5 c (List.mem_of_getElem? hc)
    have eb : r.2.2.2.2.2.getD (r.2.2.2.2.2.length - 1 - k) 0 = c := by
      rw [List.getD_eq_getElem?_getD, show r.2.2.2.2.2.length - 1 - k = r.2.2.2.2.2.length - (k + 1) by omega, hc]
      rfl
    have bt' : dm_X6_bitAt P a (nI k) (pS P σ0 lng w l) = some (.inl (if c = 49 then -nI 3 else -nI 2), pS P σ0 lng w l) := by
      rw [bt]
      unfold sp_bit
      rw [if_pos h3, eb]
    have pp := pt_put C lng w l c
    have ihh := ih n (l ++ [c]) (by omega) (by omega)
    rw [ed, es]
    have ea : l ++ c :: r.2.2.2.2.2.drop (r.2.2.2.2.2.length - k) = l ++ [c] ++ r.2.2.2.2.2.drop (r.2.2.2.2.2.length - k) := by simp
    rw [ea, ← ihh]
    conv => lhs; unfold dm_X7_putConstant_L38 dm_X7_putConstant_p60
    have n0 : ¬ nI k < nI 0 := by
      intro z
      have := (nI_ltI (show k < 2 ^ 31 by omega) (show 0 < 2 ^ 31 by omega)).mp z
      omega
    have em : nI k + -nI 1 = nI k - nI 1 := (Int32.sub_eq_add_neg _ _).symm
    have d1 : (-nI 3 = -nI 3) = True := eq_self _
    have d2 : (-nI 2 = -nI 3) = False := eq_false (by decide)
    rcases cb with q | q
    · have c49 : ¬ c = 49 := by omega
      rw [if_neg c49] at bt'
      subst q
      simp only [lit_nI, n0, if_false, sm_s, pS_K, ka, ck_T, eq_self, bt', bd_l, d2, k8, pp, lt_e, em]
    · rw [if_pos q] at bt'
      subst q
      simp only [lit_nI, n0, if_false, sm_s, pS_K, ka, ck_T, eq_self, bt', bd_l, if_true, k8, pp, lt_e, em]
theorem pt_part {P : xP} {σ0 : xS} (C : CI P σ0) (lng : Bool) (w : Nat) {g : List Nat → Nat} {kd : List Nat → Option Nat} {hi lo2 hi2 ix M a : Nat} {m : xMod} {r : xPart} (hl : P.base + 8 < lo2) (hM : P.base + 8 < M) (h : PartR σ0 g lo2 hi2 a r) (hm : MR σ0 g kd ix M hi m) (hf : FBR σ0 g M m) (hw : PW m.nets r) (hn : NW m.nets) (l : List Nat) : dm_X7_printPart P (P.base + 8) (some a) (pS P σ0 lng w l) = some (.inl (), pS P σ0 lng w (l ++ pr_part lng r)) := by
  have k8 := ci_22 C
  have hN := C.N
  have pb := PW_b hn hw
  obtain ⟨h1, h2, h3, h4, h5, h6, h7, h8, h9⟩ := id h
  have u := pt_put C lng w
  by_cases e3 : r.1 = 3
  · have cl := pt_cstL C lng w hl hM h hm hf hw hn e3
    obtain ⟨p1, p2, p3, p4, p5, p6, p7⟩ := PW3 hw e3
    have wl : sp_w r = r.2.2.2.2.2.length := by unfold sp_w; omega
    rw [if_pos e3] at h6
    have wd : ∀ l, dm_X6_width P a (pS P σ0 lng w l) = some (.inl (nI r.2.2.2.2.2.length), pS P σ0 lng w l) := by
      intro l
      rw [cw_width (P := P) (σ := pS P σ0 lng w l) (h.sm (pS_sms lng w l hl) (Nat.le_refl _)) (by omega), wl]
    have p19 : ∀ l, dm_X7_putConstant_p19 P (P.base + 8) (some a) (pS P σ0 lng w l) = some (.inl (), pS P σ0 lng w (l ++ ([39, 98] ++ r.2.2.2.2.2))) := by
      intro l
      have q := cl r.2.2.2.2.2.length P.N (l ++ [39] ++ [98]) (Nat.le_refl _) (by omega)
      rw [Nat.sub_self, List.drop_zero] at q
      have ea : l ++ ([39, 98] ++ r.2.2.2.2.2) = l ++ [39] ++ [98] ++ r.2.2.2.2.2 := by simp
      rw [ea, ← q]
      unfold dm_X7_putConstant_p19
      simp only [lit_nI, u, sm_s, pS_K, h3, ck_T, eq_self, bd_l, k8, wd, lt_e]
    unfold dm_X7_printPart dm_X7_putConstant pr_part
    rw [if_pos e3]
    cases lng with
    | true =>
      have u' := u l (48 + r.2.2.2.2.2.length)
      simp (disch := first | assumption | omega) [ck_T, sm_s, bd_l, bd_r, lt_e, eq_self, and_self, if_true, true_and, and_true, lit_nI, nI_add, nI_mul, nI_sub, nI_clamp, nI_eq, nI_ltI, nI_leI, nN_e, nI_nN, nN_nI, bI_0, bI_1, bI_n, bool_0, bool_1, in_T, lg_cmp0, ofN_nI, pS_K, pS_R, pS_0, bI_tt, k8, h3, h6, wd]
      rw [← Int32.toUInt32_add, nI_add, c16 (show 48 + r.2.2.2.2.2.length < 65536 by omega), u']
      simp (disch := first | assumption | omega) [ck_T, sm_s, bd_l, bd_r, lt_e, eq_self, and_self, if_true, true_and, and_true, lit_nI, nI_add, nI_mul, nI_sub, nI_clamp, nI_eq, nI_ltI, nI_leI, nN_e, nI_nN, nN_nI, bI_0, bI_1, bI_n, bool_0, bool_1, in_T, lg_cmp0, ofN_nI, p19]
    | false =>
      simp (disch := first | assumption | omega) [ck_T, sm_s, bd_l, bd_r, lt_e, eq_self, and_self, if_true, true_and, and_true, lit_nI, nI_add, nI_mul, nI_sub, nI_clamp, nI_eq, nI_ltI, nI_leI, nN_e, nI_nN, nN_nI, bI_0, bI_1, bI_n, bool_0, bool_1, in_T, lg_cmp0, ofN_nI, pS_K, pS_R, pS_0, bI_ff, k8, h3, h6, p19]
  · rw [if_neg e3] at h6
    rcases hw with ⟨p1, p2, p3, p4, p5, p6, p7⟩ | ⟨p1, p2, y, p3, p4, p5, p6, p7, p8⟩
    · exact absurd p1 e3
    have fi := find_idx p3
    have yn := (sp_find_mem p3).2
    have nr := (hm.2.2.2.2.1 _ y fi).2
    rw [yn] at nr
    have kk := nr.2.2.1
    have jj := nr.2.2.2.1
    rw [yn] at jj
    have no := (hn y (sp_find_mem p3).1).1
    rw [yn] at no
    have n1 := pt_name C lng w no
    have d1 := pt_digit C lng w (d := r.2.2.2.1) (by omega)
    have d2 := pt_digit C lng w (d := r.2.2.2.2.1) (by omega)
    unfold dm_X7_printPart pr_part
    rw [if_neg e3]
    by_cases e0 : r.1 = 0
    · rw [if_pos e0, List.append_nil]
      simp (disch := first | assumption | omega) [ck_T, sm_s, bd_l, bd_r, lt_e, eq_self, and_self, if_true, true_and, and_true, lit_nI, nI_add, nI_mul, nI_sub, nI_clamp, nI_eq, nI_ltI, nI_leI, nN_e, nI_nN, nN_nI, bI_0, bI_1, bI_n, bool_0, bool_1, in_T, lg_cmp0, ofN_nI, pS_K, pS_R, pS_I, pS_J, k8, h3, h4, h6, kk, jj, n1, e0]
    · rw [if_neg e0]
      unfold dm_X7_printPart_p47 dm_X7_printPart_p81 dm_X7_printPart_p92 dm_X7_printPart_p105
      by_cases e2 : r.1 = 2
      · rw [if_pos e2]
        cases lng with
        | true => simp (disch := first | assumption | omega) [ck_T, sm_s, bd_l, bd_r, lt_e, eq_self, and_self, if_true, true_and, and_true, lit_nI, nI_add, nI_mul, nI_sub, nI_clamp, nI_eq, nI_ltI, nI_leI, nN_e, nI_nN, nN_nI, bI_0, bI_1, bI_n, bool_0, bool_1, in_T, lg_cmp0, ofN_nI, pS_K, pS_R, pS_I, pS_J, pS_0, bI_tt, k8, h3, h4, h6, h7, h8, kk, jj, n1, e2, d1, d2, u]
        | false => simp (disch := first | assumption | omega) [ck_T, sm_s, bd_l, bd_r, lt_e, eq_self, and_self, if_true, true_and, and_true, lit_nI, nI_add, nI_mul, nI_sub, nI_clamp, nI_eq, nI_ltI, nI_leI, nN_e, nI_nN, nN_nI, bI_0, bI_1, bI_n, bool_0, bool_1, in_T, lg_cmp0, ofN_nI, pS_K, pS_R, pS_I, pS_J, pS_0, bI_ff, k8, h3, h4, h6, h7, h8, kk, jj, n1, e2, d1, d2, u]
      · rw [if_neg e2]
        cases lng with
        | true => simp (disch := first | assumption | omega) [ck_T, sm_s, bd_l, bd_r, lt_e, eq_self, and_self, if_true, true_and, and_true, lit_nI, nI_add, nI_mul, nI_sub, nI_clamp, nI_eq, nI_ltI, nI_leI, nN_e, nI_nN, nN_nI, bI_0, bI_1, bI_n, bool_0, bool_1, in_T, lg_cmp0, ofN_nI, pS_K, pS_R, pS_I, pS_J, pS_0, bI_tt, k8, h3, h4, h6, h7, h8, kk, jj, n1, e0, e2, d1, d2, u]
        | false => simp (disch := first | assumption | omega) [ck_T, sm_s, bd_l, bd_r, lt_e, eq_self, and_self, if_true, true_and, and_true, lit_nI, nI_add, nI_mul, nI_sub, nI_clamp, nI_eq, nI_ltI, nI_leI, nN_e, nI_nN, nN_nI, bI_0, bI_1, bI_n, bool_0, bool_1, in_T, lg_cmp0, ofN_nI, pS_K, pS_R, pS_I, pS_J, pS_0, bI_ff, k8, h3, h4, h6, h7, h8, kk, jj, n1, e0, e2, d1, d2, u]
