/-! ===== the reference: printing instances and modules ===== -/
theorem RV.pr {P : xP} {T : xT} {hv n : Nat} {σ : xS} {ns : List xNet} {o : Option xPart} {v : Int32} {w : Nat} {l : List Nat} (h : RV P (pR P σ w l) T hv n ns o v) : RV P σ T hv n ns o v := h.mo (fun r x hr => hr.nm (fun c _ _ => by rw [pR_AI]) (fun _ _ z => z))
theorem rp_p53 {P : xP} {T : xT} {hv : Nat} {lng : Bool} {ms : List xMod} {n k j p : Nat} {σ : xS} {m : xMod} {i : xIns} (h : RU P T hv lng ms n σ) (hm : ms[k]? = some m) (hi : m.ins[j]? = some i) (hp : p < pn_cnt ms i) (w : Nat) (l : List Nat) (k34 : Int32 → Int32 → Int32 → xS → xO Unit) : dm_X12_longInstanceOut_p53 P k34 (P.base + 11) (nI (8 * hv + k)) (nI (12 * (8 * hv + k) + j)) (nI p) (pR P σ w l) = k34 (nI (8 * hv + k)) (nI (12 * (8 * hv + k) + j)) (nI (p + 1)) (pR P σ w (l ++ if pn_mod ms i = none ∧ i.2.2.2.1 = false then pr_ol true (pn_pt ms i p) else pr_nl (pn_nm ms i p) (pn_pt ms i p))) := by
  have r0 := h.ri
  have k8 := ri_0 r0
  obtain ⟨b1, b2, b3, b4, b5⟩ := h.b
  have q1 := h.2
  have kl := get_lt hm
  have jl := get_lt hi
  have wm := h.wx hm
  have w3 := wm.2.2.2.1.2.2
  have im := List.mem_of_getElem? hi
  have ix := (wm.2.2.2.2.1.2.2 i im).2
  have i16 := ix.2.1
  have c16 := (rw_pins h hm hi).2
  have o1 := (h.1.2.2.2 k m hm).1 j i hi
  obtain ⟨-, -, -, q4, q5, q6⟩ := (h.rm hm).2.2.2 j i hi
  have pw : ∀ x, pn_pt ms i p = some x → PW m.nets x := fun x hx => by
    obtain ⟨l, l1, l2⟩ := pt_mem hx
    exact wm.1.2.1 i im l l1 x l2
  unfold dm_X12_longInstanceOut_p53 dm_X12_longInstanceOut_p153 dm_X12_of
  rcases pn_get (ms := ms) (i := i) with ⟨s1, s2⟩ | ⟨jj, o, s1, s2, s3⟩
  · rw [mIx_N s1] at o1
    have hp' := hp
    unfold pn_cnt at hp'
    rw [s2] at hp'
    simp only at hp'
    obtain ⟨y, hy⟩ : ∃ l, i.2.2.2.2[p]? = some l := ⟨_, List.getElem?_eq_getElem hp'⟩
    have rl := q6 p y hy
    have rv : RV P σ T hv n m.nets (pn_pt ms i p) (σ.AI (P.base + 39) (16 * (12 * (8 * hv + k) + j) + p)) := by
      have e : pn_pt ms i p = y.2.2 := by unfold pn_pt; rw [s2]; simp only; rw [hy]; rfl
      rw [e]
      exact rl.rv
    rw [s2]
    cases eb : i.2.2.2.1 with
    | true =>
      rw [eb] at q4
      obtain ⟨y1, y2⟩ := rl.2.1 eb
      have en : pn_nm ms i p = y.1 := by unfold pn_nm; rw [s2]; simp only; rw [hy]
      have pr := rp_named h hm y2 rv pw w l
      rw [en, if_neg (by simp)]
      simp (disch := first | assumption | omega) [ck_T, sm_s, bd_l, bd_r, lt_e, eq_self, and_self, if_true, true_and, and_true, lit_nI, nI_add, nI_mul, nI_sub, nI_clamp, nI_eq, nI_ltI, nI_leI, nN_e, nI_nN, nN_nI, bI_0, bI_1, bI_n, bool_0, bool_1, in_T, lg_cmp0, ofN_nI, pR_K, pR_R, pR_L, pR_AI, ri_0 r0, ri_76 r0, ri_77 r0, ri_78 r0, ri_73 r0, ri_74 r0, ri_75 r0, ri_85 r0, ri_86 r0, ri_87 r0, ri_82 r0, ri_83 r0, ri_84 r0, o1, q4, y1, bI_tt, pr, x_in, dlt_T, dle_T]
    | false =>
      rw [eb] at q4
      have pr := rp_link h hm rv pw w true l
      simp only [if_true] at pr
      rw [if_pos ⟨rfl, rfl⟩]
      simp (disch := first | assumption | omega) [ck_T, sm_s, bd_l, bd_r, lt_e, eq_self, and_self, if_true, true_and, and_true, lit_nI, nI_add, nI_mul, nI_sub, nI_clamp, nI_eq, nI_ltI, nI_leI, nN_e, nI_nN, nN_nI, bI_0, bI_1, bI_n, bool_0, bool_1, in_T, lg_cmp0, ofN_nI, pR_K, pR_R, pR_L, pR_AI, ri_0 r0, ri_76 r0, ri_77 r0, ri_78 r0, ri_73 r0, ri_74 r0, ri_75 r0, ri_82 r0, ri_83 r0, ri_84 r0, o1, q4, bI_ff, pr, x_in, dlt_T, dle_T]
  · rw [mIx_S s1] at o1
    have jjl := get_lt s2
    have nk : ¬ nI jj = nN := by rw [nI_nN (by omega)]; simp
    have hp' := hp
    unfold pn_cnt at hp'
    rw [s3] at hp'
    simp only at hp'
    obtain ⟨x, hx⟩ : ∃ x, o.ports[p]? = some x := ⟨_, List.getElem?_eq_getElem hp'⟩
    have pn : o.ports.length ≤ o.nets.length := by unfold xMod.nets; simp
    have hx' : o.nets[p]? = some x := by unfold xMod.nets; rw [List.getElem?_append_left (by omega)]; exact hx
    obtain ⟨⟨q, y1, y2⟩, -⟩ := (h.rm s2).2.1 p x hx'
    have o16 := (h.wx s2).2.2.2.1.1
    obtain ⟨v, l1, l2⟩ := rw_linkOf (h.pr w l) hm hi hp
    have pr := rp_named h hm y2 l2.pr pw w l
    have en : pn_nm ms i p = x.1 := by unfold pn_nm; rw [s3]; simp only; rw [hx]
    rw [en, s3, if_neg (by simp)]
    simp (disch := first | assumption | omega) [ck_T, sm_s, bd_l, bd_r, lt_e, eq_self, and_self, if_true, true_and, and_true, lit_nI, nI_add, nI_mul, nI_sub, nI_clamp, nI_eq, nI_ltI, nI_leI, nN_e, nI_nN, nN_nI, bI_0, bI_1, bI_n, bool_0, bool_1, in_T, lg_cmp0, ofN_nI, pR_K, pR_R, pR_L, pR_AI, pR_I, ri_0 r0, ri_76 r0, ri_77 r0, ri_78 r0, ri_22 r0, ri_23 r0, ri_24 r0, o1, nk, q1, y1, l1, pr, x_in, dlt_T, dle_T]
theorem rp_L34 {P : xP} {T : xT} {hv : Nat} {lng : Bool} {ms : List xMod} {n k j : Nat} {σ : xS} {m : xMod} {i : xIns} (h : RU P T hv lng ms n σ) (hm : ms[k]? = some m) (hi : m.ins[j]? = some i) (w : Nat) : ∀ (r p F : Nat) (l : List Nat), p + r = pn_cnt ms i → r < F → dm_X12_longInstanceOut_L34 P (P.base + 11) F (nI (8 * hv + k)) (nI (12 * (8 * hv + k) + j)) (nI p) (pR P σ w l) = some (.inl (), pR P σ w (l ++ ((List.range' p r).flatMap (pr_pin ms i) ++ [41, 59, 10]))) := by
  have r0 := h.ri
  have k8 := ri_0 r0
  have u := rp_put r0 w
  have en := rp_end r0 w
  intro r
  induction r with
  | zero =>
    intro p F l hp hF
    obtain ⟨F, rfl⟩ : ∃ m, F = m + 1 := ⟨F - 1, by omega⟩
    obtain ⟨ps, c16⟩ := rw_pins (h.pr w l) hm hi
    have e1 : pn_cnt ms i ≤ p := by omega
    unfold dm_X12_longInstanceOut_L34
    simp (disch := first | assumption | omega) [ck_T, sm_s, bd_l, bd_r, lt_e, eq_self, and_self, if_true, true_and, and_true, lit_nI, nI_add, nI_mul, nI_sub, nI_clamp, nI_eq, nI_ltI, nI_leI, nN_e, nI_nN, nN_nI, bI_0, bI_1, bI_n, bool_0, bool_1, in_T, lg_cmp0, ofN_nI, pR_K, k8, ps, e1, u, en]
  | succ r ih =>
    intro p F l hp hF
    obtain ⟨F, rfl⟩ : ∃ m, F = m + 1 := ⟨F - 1, by omega⟩
    obtain ⟨ps, c16⟩ := rw_pins (h.pr w l) hm hi
    have e1 : ¬ pn_cnt ms i ≤ p := by omega
    have b := fun l => rp_p53 h hm hi (show p < pn_cnt ms i by omega) w l (dm_X12_longInstanceOut_L34 P (P.base + 11) F)
    have ihh := fun l => ih (p + 1) F l (by omega) (by omega)
    rw [List.range'_succ, List.flatMap_cons, List.append_assoc]
    conv => lhs; unfold dm_X12_longInstanceOut_L34
    by_cases e : p = 0
    · subst e
      have pe : pr_pin ms i 0 = if pn_mod ms i = none ∧ i.2.2.2.1 = false then pr_ol true (pn_pt ms i 0) else pr_nl (pn_nm ms i 0) (pn_pt ms i 0) := by unfold pr_pin; simp
      rw [pe]
      simp (disch := first | assumption | omega) [ck_T, sm_s, bd_l, bd_r, lt_e, eq_self, and_self, if_true, true_and, and_true, lit_nI, nI_add, nI_mul, nI_sub, nI_clamp, nI_eq, nI_ltI, nI_leI, nN_e, nI_nN, nN_nI, bI_0, bI_1, bI_n, bool_0, bool_1, in_T, lg_cmp0, ofN_nI, pR_K, k8, ps, e1, b, ihh]
    · have e0 : ¬ p ≤ 0 := by omega
      have pe : pr_pin ms i p = [44] ++ if pn_mod ms i = none ∧ i.2.2.2.1 = false then pr_ol true (pn_pt ms i p) else pr_nl (pn_nm ms i p) (pn_pt ms i p) := by unfold pr_pin; rw [if_neg e]
      rw [pe]
      simp (disch := first | assumption | omega) [ck_T, sm_s, bd_l, bd_r, lt_e, eq_self, and_self, if_true, true_and, and_true, lit_nI, nI_add, nI_mul, nI_sub, nI_clamp, nI_eq, nI_ltI, nI_leI, nN_e, nI_nN, nN_nI, bI_0, bI_1, bI_n, bool_0, bool_1, in_T, lg_cmp0, ofN_nI, pR_K, k8, ps, e1, e, e0, u, b, ihh]
theorem rp_longIns {P : xP} {T : xT} {hv : Nat} {lng : Bool} {ms : List xMod} {n k j : Nat} {σ : xS} {m : xMod} {i : xIns} (h : RU P T hv lng ms n σ) (hm : ms[k]? = some m) (hi : m.ins[j]? = some i) (w : Nat) (l : List Nat) : dm_X12_longInstanceOut P (P.base + 11) (nI (8 * hv + k)) (nI (12 * (8 * hv + k) + j)) (pR P σ w l) = some (.inl (), pR P σ w (l ++ pr_ins ms true i)) := by
  have r0 := h.ri
  have k8 := ri_0 r0
  obtain ⟨b1, b2, b3, b4, b5⟩ := h.b
  have kl := get_lt hm
  have jl := get_lt hi
  have w3 := (h.wx hm).2.2.2.1.2.2
  have u := rp_put r0 w
  obtain ⟨⟨q, a1, a2⟩, a3, a4, -⟩ := (h.rm hm).2.2.2 j i hi
  have n1 := rp_name h a2 w
  have n2 := rp_name h a4 w
  have c16 := (rw_pins h hm hi).2
  have lo := fun l => rp_L34 h hm hi w (pn_cnt ms i) 0 P.N l (by omega) (by omega)
  unfold dm_X12_longInstanceOut pr_ins
  rw [if_pos rfl, List.range_eq_range']
  simp (disch := first | assumption | omega) [ck_T, sm_s, bd_l, bd_r, lt_e, eq_self, and_self, if_true, true_and, and_true, lit_nI, nI_add, nI_mul, nI_sub, nI_clamp, nI_eq, nI_ltI, nI_leI, nN_e, nI_nN, nN_nI, bI_0, bI_1, bI_n, bool_0, bool_1, in_T, lg_cmp0, ofN_nI, pR_K, pR_R, pR_L, pR_AI, ri_0 r0, ri_67 r0, ri_68 r0, ri_69 r0, ri_70 r0, ri_71 r0, ri_72 r0, a1, a3, u, n1, n2, lo, x_in, dlt_T, dle_T]
theorem rp_L348 {P : xP} {T : xT} {hv : Nat} {lng : Bool} {ms : List xMod} {n k : Nat} {σ : xS} {m : xMod} (h : RU P T hv lng ms n σ) (hm : ms[k]? = some m) (w : Nat) : ∀ (r j F : Nat) (l : List Nat), j + r = m.ins.length → r < F → dm_X12_longOut_L348 P (P.base + 11) F (nI (8 * hv + k)) (nI j) (pR P σ w l) = some (.inl (), pR P σ w (l ++ ((m.ins.drop j).flatMap (pr_ins ms true) ++ [101, 110, 100, 10]))) := by
  have r0 := h.ri
  have k8 := ri_0 r0
  obtain ⟨b1, b2, b3, b4, b5⟩ := h.b
  have kl := get_lt hm
  have w3 := (h.wx hm).2.2.2.1.2.2
  have a6 := (h.rm hm).1.2.2.2.2.2
  have f4 := fun l => rp_four r0 w l 101 110 100 10 (by omega)
  intro r
  induction r with
  | zero =>
    intro j F l hj hF
    obtain ⟨F, rfl⟩ : ∃ m, F = m + 1 := ⟨F - 1, by omega⟩
    have e : m.ins.drop j = [] := List.drop_eq_nil_of_le (by omega)
    have e1 : m.ins.length ≤ j := by omega
    rw [e]
    unfold dm_X12_longOut_L348
    simp (disch := first | assumption | omega) [ck_T, sm_s, bd_l, bd_r, lt_e, eq_self, and_self, if_true, true_and, and_true, lit_nI, nI_add, nI_mul, nI_sub, nI_clamp, nI_eq, nI_ltI, nI_leI, nN_e, nI_nN, nN_nI, bI_0, bI_1, bI_n, bool_0, bool_1, in_T, lg_cmp0, ofN_nI, pR_K, pR_R, pR_L, pR_AI, ri_0 r0, ri_64 r0, ri_65 r0, ri_66 r0, a6, e1, f4, x_in, dlt_T, dle_T]
  | succ r ih =>
    intro j F l hj hF
    obtain ⟨F, rfl⟩ : ∃ m, F = m + 1 := ⟨F - 1, by omega⟩
    have e1 : ¬ m.ins.length ≤ j := by omega
    obtain ⟨i, hi⟩ : ∃ i, m.ins[j]? = some i := ⟨_, List.getElem?_eq_getElem (by omega)⟩
    have li := rp_longIns h hm hi w
    have ihh := fun l => ih (j + 1) F l (by omega) (by omega)
    rw [drop_at hi, List.flatMap_cons, List.append_assoc]
    conv => lhs; unfold dm_X12_longOut_L348
    simp (disch := first | assumption | omega) [ck_T, sm_s, bd_l, bd_r, lt_e, eq_self, and_self, if_true, true_and, and_true, lit_nI, nI_add, nI_mul, nI_sub, nI_clamp, nI_eq, nI_ltI, nI_leI, nN_e, nI_nN, nN_nI, bI_0, bI_1, bI_n, bool_0, bool_1, in_T, lg_cmp0, ofN_nI, pR_K, pR_R, pR_L, pR_AI, ri_0 r0, ri_64 r0, ri_65 r0, ri_66 r0, a6, e1, li, ihh, x_in, dlt_T, dle_T]
theorem rp_L263 {P : xP} {T : xT} {hv : Nat} {lng : Bool} {ms : List xMod} {n k : Nat} {σ : xS} {m : xMod} (h : RU P T hv lng ms n σ) (hm : ms[k]? = some m) (w : Nat) : ∀ (r j F : Nat) (l : List Nat), j + r = m.asg.length → r < F → dm_X12_longOut_L263 P (P.base + 11) F (nI (8 * hv + k)) (nI j) (pR P σ w l) = dm_X12_longOut_L348 P (P.base + 11) P.N (nI (8 * hv + k)) (nI 0) (pR P σ w (l ++ (m.asg.drop j).flatMap (pr_asg true))) := by
  have r0 := h.ri
  have k8 := ri_0 r0
  obtain ⟨b1, b2, b3, b4, b5⟩ := h.b
  have kl := get_lt hm
  have wm := h.wx hm
  have w2 := wm.2.2.2.1.2.1
  have a5 := (h.rm hm).1.2.2.2.2.1
  have u := rp_put r0 w
  have en := rp_end r0 w
  have f4 := fun l => rp_four r0 w l 97 115 115 105 (by omega)
  have f5 := fun l => rp_four r0 w l 103 110 32 0 (by omega)
  intro r
  induction r with
  | zero =>
    intro j F l hj hF
    obtain ⟨F, rfl⟩ : ∃ m, F = m + 1 := ⟨F - 1, by omega⟩
    have e : m.asg.drop j = [] := List.drop_eq_nil_of_le (by omega)
    have e1 : m.asg.length ≤ j := by omega
    rw [e, List.flatMap_nil, List.append_nil]
    conv => lhs; unfold dm_X12_longOut_L263
    simp (disch := first | assumption | omega) [ck_T, sm_s, bd_l, bd_r, lt_e, eq_self, and_self, if_true, true_and, and_true, lit_nI, nI_add, nI_mul, nI_sub, nI_clamp, nI_eq, nI_ltI, nI_leI, nN_e, nI_nN, nN_nI, bI_0, bI_1, bI_n, bool_0, bool_1, in_T, lg_cmp0, ofN_nI, pR_K, pR_R, pR_L, pR_AI, ri_0 r0, ri_55 r0, ri_56 r0, ri_57 r0, a5, e1, x_in, dlt_T, dle_T]
  | succ r ih =>
    intro j F l hj hF
    obtain ⟨F, rfl⟩ : ∃ m, F = m + 1 := ⟨F - 1, by omega⟩
    have e1 : ¬ m.asg.length ≤ j := by omega
    obtain ⟨a, ha⟩ : ∃ a, m.asg[j]? = some a := ⟨_, List.getElem?_eq_getElem (by omega)⟩
    obtain ⟨r1, r2, c1, c2, c3, c4⟩ := (h.rm hm).2.2.1 j a ha
    have pw := wm.1.1 a (List.mem_of_getElem? ha)
    have p1 := rp_ref h hm c3 pw.1 w true
    have p2 := rp_ref h hm c4 pw.2 w true
    simp only [if_true] at p1 p2
    have ihh := fun l => ih (j + 1) F l (by omega) (by omega)
    rw [drop_at ha, List.flatMap_cons]
    have pa : pr_asg true a = [97, 115, 115, 105, 103, 110, 32] ++ (pr_part true a.1 ++ ([61] ++ (pr_part true a.2 ++ [59, 10]))) := by unfold pr_asg; simp
    rw [pa, ← List.append_assoc, ← ihh]
    conv => lhs; unfold dm_X12_longOut_L263
    simp (disch := first | assumption | omega) [ck_T, sm_s, bd_l, bd_r, lt_e, eq_self, and_self, if_true, true_and, and_true, lit_nI, nI_add, nI_mul, nI_sub, nI_clamp, nI_eq, nI_ltI, nI_leI, nN_e, nI_nN, nN_nI, bI_0, bI_1, bI_n, bool_0, bool_1, in_T, lg_cmp0, ofN_nI, pR_K, pR_R, pR_L, pR_AI, ri_0 r0, ri_55 r0, ri_56 r0, ri_57 r0, ri_58 r0, ri_59 r0, ri_60 r0, ri_61 r0, ri_62 r0, ri_63 r0, a5, e1, f4, f5, c1, c2, p1, p2, u, en, x_in, dlt_T, dle_T]
theorem rp_L94 {P : xP} {T : xT} {hv : Nat} {lng : Bool} {ms : List xMod} {n k : Nat} {σ : xS} {m : xMod} (h : RU P T hv lng ms n σ) (hm : ms[k]? = some m) (w : Nat) : ∀ (r j F : Nat) (l : List Nat), j + r = m.nets.length → r < F → dm_X12_longOut_L94 P (P.base + 11) F (nI (8 * hv + k)) (nI j) (pR P σ w l) = dm_X12_longOut_L263 P (P.base + 11) P.N (nI (8 * hv + k)) (nI 0) (pR P σ w (l ++ (m.nets.drop j).flatMap (pr_net true))) := by
  have r0 := h.ri
  have k8 := ri_0 r0
  obtain ⟨b1, b2, b3, b4, b5⟩ := h.b
  have kl := get_lt hm
  have wm := h.wx hm
  have w1 := wm.2.2.2.1.1
  have a4 := (h.rm hm).1.2.2.2.1
  have u := rp_put r0 w
  have en := rp_end r0 w
  have f0 := fun l => rp_four r0 w l 105 110 112 117 (by omega)
  have f1 := fun l => rp_four r0 w l 111 117 116 112 (by omega)
  have f2 := fun l => rp_four r0 w l 117 116 32 0 (by omega)
  have f3 := fun l => rp_four r0 w l 119 105 114 101 (by omega)
  have f4 := fun l => rp_four r0 w l 58 48 93 32 (by omega)
  intro r
  induction r with
  | zero =>
    intro j F l hj hF
    obtain ⟨F, rfl⟩ : ∃ m, F = m + 1 := ⟨F - 1, by omega⟩
    have e : m.nets.drop j = [] := List.drop_eq_nil_of_le (by omega)
    have e1 : m.nets.length ≤ j := by omega
    rw [e, List.flatMap_nil, List.append_nil]
    conv => lhs; unfold dm_X12_longOut_L94
    simp (disch := first | assumption | omega) [ck_T, sm_s, bd_l, bd_r, lt_e, eq_self, and_self, if_true, true_and, and_true, lit_nI, nI_add, nI_mul, nI_sub, nI_clamp, nI_eq, nI_ltI, nI_leI, nN_e, nI_nN, nN_nI, bI_0, bI_1, bI_n, bool_0, bool_1, in_T, lg_cmp0, ofN_nI, pR_K, pR_R, pR_L, pR_AI, ri_0 r0, ri_19 r0, ri_20 r0, ri_21 r0, a4, e1, x_in, dlt_T, dle_T]
  | succ r ih =>
    intro j F l hj hF
    obtain ⟨F, rfl⟩ : ∃ m, F = m + 1 := ⟨F - 1, by omega⟩
    have e1 : ¬ m.nets.length ≤ j := by omega
    obtain ⟨x, hx⟩ : ∃ x, m.nets[j]? = some x := ⟨_, List.getElem?_eq_getElem (by omega)⟩
    have xm := List.mem_of_getElem? hx
    obtain ⟨⟨q, d0, d1⟩, d2, d3, -⟩ := (h.rm hm).2.1 j x hx
    have n3 := (h.1.1.2.2.1.2.2.1 m (List.mem_of_getElem? hm)).2 x xm
    rw [if_neg n3] at d2
    have x3 := (wm.2.1.1 x xm).2.1
    have x8 := (wm.2.1.1 x xm).2.2.1
    have na := rp_name h d1 w
    have ihh := fun l => ih (j + 1) F l (by omega) (by omega)
    have nu := fun l => rp_num r0 w l (v := x.2.2 - 1) (by omega)
    have p201 : ∀ l, dm_X12_longOut_p201 P (dm_X12_longOut_L94 P (P.base + 11) F) (P.base + 11) (nI (8 * hv + k)) (nI j) (nI (16 * (8 * hv + k) + j)) (pR P σ w l) = dm_X12_longOut_L94 P (P.base + 11) F (nI (8 * hv + k)) (nI (j + 1)) (pR P σ w (l ++ ((if x.2.2 ≤ 1 then [] else [91] ++ ([48 + (x.2.2 - 1)] ++ [58, 48, 93, 32])) ++ (x.1 ++ [59, 10])))) := by
      intro l
      unfold dm_X12_longOut_p201 dm_X12_longOut_p241
      by_cases e : x.2.2 ≤ 1
      · simp (disch := first | assumption | omega) [ck_T, sm_s, bd_l, bd_r, lt_e, eq_self, and_self, if_true, true_and, and_true, lit_nI, nI_add, nI_mul, nI_sub, nI_clamp, nI_eq, nI_ltI, nI_leI, nN_e, nI_nN, nN_nI, bI_0, bI_1, bI_n, bool_0, bool_1, in_T, lg_cmp0, ofN_nI, pR_K, pR_R, pR_L, pR_AI, ri_0 r0, ri_22 r0, ri_23 r0, ri_24 r0, ri_28 r0, ri_29 r0, ri_30 r0, d0, d3, e, na, en, x_in, dlt_T, dle_T]
      · simp (disch := first | assumption | omega) [ck_T, sm_s, bd_l, bd_r, lt_e, eq_self, and_self, if_true, true_and, and_true, lit_nI, nI_add, nI_mul, nI_sub, nI_clamp, nI_eq, nI_ltI, nI_leI, nN_e, nI_nN, nN_nI, bI_0, bI_1, bI_n, bool_0, bool_1, in_T, lg_cmp0, ofN_nI, pR_K, pR_R, pR_L, pR_AI, ri_0 r0, ri_22 r0, ri_23 r0, ri_24 r0, ri_28 r0, ri_29 r0, ri_30 r0, d0, d3, e, u, nu, f4, na, en, x_in, dlt_T, dle_T]
    rw [drop_at hx, List.flatMap_cons, ← List.append_assoc, ← ihh]
    conv => lhs; unfold dm_X12_longOut_L94
    conv => rhs; unfold pr_net
    rw [if_pos rfl]
    by_cases s0 : x.2.1 = 0
    · rw [s0] at d2
      rw [if_pos s0]
      simp (disch := first | assumption | omega) [ck_T, sm_s, bd_l, bd_r, lt_e, eq_self, and_self, if_true, true_and, and_true, lit_nI, nI_add, nI_mul, nI_sub, nI_clamp, nI_eq, nI_ltI, nI_leI, nN_e, nI_nN, nN_nI, bI_0, bI_1, bI_n, bool_0, bool_1, in_T, lg_cmp0, ofN_nI, pR_K, pR_R, pR_L, pR_AI, ri_0 r0, ri_19 r0, ri_20 r0, ri_21 r0, ri_25 r0, ri_26 r0, ri_27 r0, a4, e1, d2, f0, u, p201, x_in, dlt_T, dle_T]
    · rw [if_neg s0]
      by_cases s1 : x.2.1 = 1
      · rw [s1] at d2
        rw [if_pos s1]
        simp (disch := first | assumption | omega) [ck_T, sm_s, bd_l, bd_r, lt_e, eq_self, and_self, if_true, true_and, and_true, lit_nI, nI_add, nI_mul, nI_sub, nI_clamp, nI_eq, nI_ltI, nI_leI, nN_e, nI_nN, nN_nI, bI_0, bI_1, bI_n, bool_0, bool_1, in_T, lg_cmp0, ofN_nI, pR_K, pR_R, pR_L, pR_AI, ri_0 r0, ri_19 r0, ri_20 r0, ri_21 r0, ri_25 r0, ri_26 r0, ri_27 r0, a4, e1, d2, f1, f2, p201, x_in, dlt_T, dle_T]
      · rw [if_neg s1]
        have s2 : x.2.1 = 2 := by omega
        rw [s2] at d2
        simp (disch := first | assumption | omega) [ck_T, sm_s, bd_l, bd_r, lt_e, eq_self, and_self, if_true, true_and, and_true, lit_nI, nI_add, nI_mul, nI_sub, nI_clamp, nI_eq, nI_ltI, nI_leI, nN_e, nI_nN, nN_nI, bI_0, bI_1, bI_n, bool_0, bool_1, in_T, lg_cmp0, ofN_nI, pR_K, pR_R, pR_L, pR_AI, ri_0 r0, ri_19 r0, ri_20 r0, ri_21 r0, ri_25 r0, ri_26 r0, ri_27 r0, a4, e1, d2, f3, u, p201, x_in, dlt_T, dle_T]
theorem rp_L41 {P : xP} {T : xT} {hv : Nat} {lng : Bool} {ms : List xMod} {n k : Nat} {σ : xS} {m : xMod} (h : RU P T hv lng ms n σ) (hm : ms[k]? = some m) (w : Nat) : ∀ (r j F : Nat) (l : List Nat), j + r = m.ports.length → r < F → dm_X12_longOut_L41 P (P.base + 11) F (nI (8 * hv + k)) (nI j) (pR P σ w l) = dm_X12_longOut_L94 P (P.base + 11) P.N (nI (8 * hv + k)) (nI 0) (pR P σ w (l ++ (pr_ports j (m.ports.drop j) ++ [41, 59, 10]))) := by
  have r0 := h.ri
  have k8 := ri_0 r0
  obtain ⟨b1, b2, b3, b4, b5⟩ := h.b
  have kl := get_lt hm
  have wm := h.wx hm
  have w1 := wm.2.2.2.1.1
  have pn : m.ports.length ≤ m.nets.length := by unfold xMod.nets; simp
  have a3 := (h.rm hm).1.2.2.1
  have u := rp_put r0 w
  have en := rp_end r0 w
  intro r
  induction r with
  | zero =>
    intro j F l hj hF
    obtain ⟨F, rfl⟩ : ∃ m, F = m + 1 := ⟨F - 1, by omega⟩
    have e : m.ports.drop j = [] := List.drop_eq_nil_of_le (by omega)
    have e1 : m.ports.length ≤ j := by omega
    rw [e]
    simp only [pr_ports, List.nil_append]
    conv => lhs; unfold dm_X12_longOut_L41
    simp (disch := first | assumption | omega) [ck_T, sm_s, bd_l, bd_r, lt_e, eq_self, and_self, if_true, true_and, and_true, lit_nI, nI_add, nI_mul, nI_sub, nI_clamp, nI_eq, nI_ltI, nI_leI, nN_e, nI_nN, nN_nI, bI_0, bI_1, bI_n, bool_0, bool_1, in_T, lg_cmp0, ofN_nI, pR_K, pR_R, pR_L, pR_AI, ri_0 r0, ri_16 r0, ri_17 r0, ri_18 r0, a3, e1, u, en, x_in, dlt_T, dle_T]
  | succ r ih =>
    intro j F l hj hF
    obtain ⟨F, rfl⟩ : ∃ m, F = m + 1 := ⟨F - 1, by omega⟩
    have e1 : ¬ m.ports.length ≤ j := by omega
    obtain ⟨x, hx⟩ : ∃ x, m.ports[j]? = some x := ⟨_, List.getElem?_eq_getElem (by omega)⟩
    have hx' : m.nets[j]? = some x := by unfold xMod.nets; rw [List.getElem?_append_left (by omega)]; exact hx
    obtain ⟨⟨q, d0, d1⟩, -⟩ := (h.rm hm).2.1 j x hx'
    have na := rp_name h d1 w
    have ihh := fun l => ih (j + 1) F l (by omega) (by omega)
    rw [drop_at hx]
    simp only [pr_ports]
    conv => lhs; unfold dm_X12_longOut_L41 dm_X12_longOut_p61
    by_cases e : j = 0
    · subst e
      simp only [Nat.zero_add, Nat.add_zero] at d0 ihh
      simp (disch := first | assumption | omega) [ck_T, sm_s, bd_l, bd_r, lt_e, eq_self, and_self, if_true, true_and, and_true, lit_nI, nI_add, nI_mul, nI_sub, nI_clamp, nI_eq, nI_ltI, nI_leI, nN_e, nI_nN, nN_nI, bI_0, bI_1, bI_n, bool_0, bool_1, in_T, lg_cmp0, ofN_nI, pR_K, pR_R, pR_L, pR_AI, ri_0 r0, ri_16 r0, ri_17 r0, ri_18 r0, ri_22 r0, ri_23 r0, ri_24 r0, a3, e1, d0, na, ihh, x_in, dlt_T, dle_T]
    · have e0 : ¬ j ≤ 0 := by omega
      simp (disch := first | assumption | omega) [ck_T, sm_s, bd_l, bd_r, lt_e, eq_self, and_self, if_true, true_and, and_true, lit_nI, nI_add, nI_mul, nI_sub, nI_clamp, nI_eq, nI_ltI, nI_leI, nN_e, nI_nN, nN_nI, bI_0, bI_1, bI_n, bool_0, bool_1, in_T, lg_cmp0, ofN_nI, pR_K, pR_R, pR_L, pR_AI, ri_0 r0, ri_16 r0, ri_17 r0, ri_18 r0, ri_22 r0, ri_23 r0, ri_24 r0, a3, e1, e, e0, d0, u, na, ihh, x_in, dlt_T, dle_T]
theorem rp_longOut {P : xP} {T : xT} {hv : Nat} {lng : Bool} {ms : List xMod} {n k : Nat} {σ : xS} {m : xMod} (h : RU P T hv lng ms n σ) (hm : ms[k]? = some m) (w : Nat) (l : List Nat) : dm_X12_longOut P (P.base + 11) (nI (8 * hv + k)) (pR P σ w l) = some (.inl (), pR P σ w (l ++ pr_mod ms true m)) := by
  have r0 := h.ri
  have k8 := ri_0 r0
  obtain ⟨b1, b2, b3, b4, b5⟩ := h.b
  have kl := get_lt hm
  have wm := h.wx hm
  obtain ⟨w1, w2, w3⟩ := wm.2.2.2.1
  have pn : m.ports.length ≤ m.nets.length := by unfold xMod.nets; simp
  obtain ⟨a1, a2, -⟩ := (h.rm hm).1
  have u := rp_put r0 w
  have na := rp_name h a2 w
  have f4 := fun l => rp_four r0 w l 109 111 100 117 (by omega)
  have f5 := fun l => rp_four r0 w l 108 101 32 0 (by omega)
  have l1 := fun l => rp_L41 h hm w m.ports.length 0 P.N l (by omega) (by omega)
  have l2 := fun l => rp_L94 h hm w m.nets.length 0 P.N l (by omega) (by omega)
  have l3 := fun l => rp_L263 h hm w m.asg.length 0 P.N l (by omega) (by omega)
  have l4 := fun l => rp_L348 h hm w m.ins.length 0 P.N l (by omega) (by omega)
  simp only [List.drop_zero] at l1 l2 l3 l4
  unfold dm_X12_longOut pr_mod
  rw [if_pos rfl]
  simp (disch := first | assumption | omega) [ck_T, sm_s, bd_l, bd_r, lt_e, eq_self, and_self, if_true, true_and, and_true, lit_nI, nI_add, nI_mul, nI_sub, nI_clamp, nI_eq, nI_ltI, nI_leI, nN_e, nI_nN, nN_nI, bI_0, bI_1, bI_n, bool_0, bool_1, in_T, lg_cmp0, ofN_nI, pR_K, pR_R, pR_L, pR_AI, ri_0 r0, ri_13 r0, ri_14 r0, ri_15 r0, a1, f4, f5, u, na, l1, l2, l3, l4, x_in, dlt_T, dle_T]
theorem rp_L256 {P : xP} {T : xT} {hv : Nat} {lng : Bool} {ms : List xMod} {n k j : Nat} {σ : xS} {m : xMod} {i : xIns} (h : RU P T hv lng ms n σ) (hm : ms[k]? = some m) (hi : m.ins[j]? = some i) (w : Nat) (k198 : Int32 → Int32 → xS → xO Unit) : ∀ (r p F : Nat) (l : List Nat), p + r = pn_cnt ms i → r < F → dm_X12_shortOut_L256 P k198 (P.base + 11) F (nI (8 * hv + k)) (nI j) (nI (12 * (8 * hv + k) + j)) (nI p) (pR P σ w l) = k198 (nI (8 * hv + k)) (nI (j + 1)) (pR P σ w (l ++ ((List.range' p r).flatMap (fun p => [32] ++ pr_ol false (pn_pt ms i p)) ++ [59, 10]))) := by
  have r0 := h.ri
  have k8 := ri_0 r0
  have u := rp_put r0 w
  have en := rp_end r0 w
  have wm := h.wx hm
  have w3 := wm.2.2.2.1.2.2
  have jl := get_lt hi
  have im := List.mem_of_getElem? hi
  intro r
  induction r with
  | zero =>
    intro p F l hp hF
    obtain ⟨F, rfl⟩ : ∃ m, F = m + 1 := ⟨F - 1, by omega⟩
    obtain ⟨ps, c16⟩ := rw_pins (h.pr w l) hm hi
    have e1 : pn_cnt ms i ≤ p := by omega
    conv => lhs; unfold dm_X12_shortOut_L256
    simp (disch := first | assumption | omega) [ck_T, sm_s, bd_l, bd_r, lt_e, eq_self, and_self, if_true, true_and, and_true, lit_nI, nI_add, nI_mul, nI_sub, nI_clamp, nI_eq, nI_ltI, nI_leI, nN_e, nI_nN, nN_nI, bI_0, bI_1, bI_n, bool_0, bool_1, in_T, lg_cmp0, ofN_nI, pR_K, k8, ps, e1, en]
  | succ r ih =>
    intro p F l hp hF
    obtain ⟨F, rfl⟩ : ∃ m, F = m + 1 := ⟨F - 1, by omega⟩
    obtain ⟨ps, c16⟩ := rw_pins (h.pr w l) hm hi
    have e1 : ¬ pn_cnt ms i ≤ p := by omega
    obtain ⟨v, l1, l2⟩ := rw_linkOf (h.pr w (l ++ [32])) hm hi (show p < pn_cnt ms i by omega)
    have pw : ∀ x, pn_pt ms i p = some x → PW m.nets x := fun x hx => by
      obtain ⟨l, l1, l2⟩ := pt_mem hx
      exact wm.1.2.1 i im l l1 x l2
    have pr := rp_link h hm l2.pr pw w false
    simp only [Bool.false_eq_true, if_false] at pr
    have ihh := fun l => ih (p + 1) F l (by omega) (by omega)
    rw [List.range'_succ, List.flatMap_cons, List.append_assoc]
    conv => lhs; unfold dm_X12_shortOut_L256
    simp (disch := first | assumption | omega) [ck_T, sm_s, bd_l, bd_r, lt_e, eq_self, and_self, if_true, true_and, and_true, lit_nI, nI_add, nI_mul, nI_sub, nI_clamp, nI_eq, nI_ltI, nI_leI, nN_e, nI_nN, nN_nI, bI_0, bI_1, bI_n, bool_0, bool_1, in_T, lg_cmp0, ofN_nI, pR_K, k8, ps, e1, u, l1, pr, ihh]
theorem rp_L198 {P : xP} {T : xT} {hv : Nat} {lng : Bool} {ms : List xMod} {n k : Nat} {σ : xS} {m : xMod} (h : RU P T hv lng ms n σ) (hm : ms[k]? = some m) (w : Nat) : ∀ (r j F : Nat) (l : List Nat), j + r = m.ins.length → r < F → dm_X12_shortOut_L198 P (P.base + 11) F (nI (8 * hv + k)) (nI j) (pR P σ w l) = some (.inl (), pR P σ w (l ++ ((m.ins.drop j).flatMap (pr_ins ms false) ++ [101, 59, 10]))) := by
  have r0 := h.ri
  have k8 := ri_0 r0
  obtain ⟨b1, b2, b3, b4, b5⟩ := h.b
  have kl := get_lt hm
  have w3 := (h.wx hm).2.2.2.1.2.2
  have a6 := (h.rm hm).1.2.2.2.2.2
  have u := rp_put r0 w
  have en := rp_end r0 w
  intro r
  induction r with
  | zero =>
    intro j F l hj hF
    obtain ⟨F, rfl⟩ : ∃ m, F = m + 1 := ⟨F - 1, by omega⟩
    have e : m.ins.drop j = [] := List.drop_eq_nil_of_le (by omega)
    have e1 : m.ins.length ≤ j := by omega
    rw [e]
    unfold dm_X12_shortOut_L198
    simp (disch := first | assumption | omega) [ck_T, sm_s, bd_l, bd_r, lt_e, eq_self, and_self, if_true, true_and, and_true, lit_nI, nI_add, nI_mul, nI_sub, nI_clamp, nI_eq, nI_ltI, nI_leI, nN_e, nI_nN, nN_nI, bI_0, bI_1, bI_n, bool_0, bool_1, in_T, lg_cmp0, ofN_nI, pR_K, pR_R, pR_L, pR_AI, ri_0 r0, ri_64 r0, ri_65 r0, ri_66 r0, a6, e1, u, en, x_in, dlt_T, dle_T]
  | succ r ih =>
    intro j F l hj hF
    obtain ⟨F, rfl⟩ : ∃ m, F = m + 1 := ⟨F - 1, by omega⟩
    have e1 : ¬ m.ins.length ≤ j := by omega
    obtain ⟨i, hi⟩ : ∃ i, m.ins[j]? = some i := ⟨_, List.getElem?_eq_getElem (by omega)⟩
    obtain ⟨⟨q, a1, a2⟩, a3, a4, -⟩ := (h.rm hm).2.2.2 j i hi
    have n1 := rp_name h a2 w
    have n2 := rp_name h a4 w
    have c16 := (rw_pins h hm hi).2
    have lo := fun l => rp_L256 h hm hi w (dm_X12_shortOut_L198 P (P.base + 11) F) (pn_cnt ms i) 0 P.N l (by omega) (by omega)
    have ihh := fun l => ih (j + 1) F l (by omega) (by omega)
    rw [drop_at hi, List.flatMap_cons, List.append_assoc]
    have pe : pr_ins ms false i = [117, 32] ++ (i.1 ++ ([32] ++ (i.2.1 ++ ((List.range' 0 (pn_cnt ms i)).flatMap (fun p => [32] ++ pr_ol false (pn_pt ms i p)) ++ [59, 10])))) := by
      unfold pr_ins
      rw [if_neg (by simp), List.range_eq_range']
    rw [pe]
    conv => lhs; unfold dm_X12_shortOut_L198
    simp (disch := first | assumption | omega) [ck_T, sm_s, bd_l, bd_r, lt_e, eq_self, and_self, if_true, true_and, and_true, lit_nI, nI_add, nI_mul, nI_sub, nI_clamp, nI_eq, nI_ltI, nI_leI, nN_e, nI_nN, nN_nI, bI_0, bI_1, bI_n, bool_0, bool_1, in_T, lg_cmp0, ofN_nI, pR_K, pR_R, pR_L, pR_AI, ri_0 r0, ri_64 r0, ri_65 r0, ri_66 r0, ri_67 r0, ri_68 r0, ri_69 r0, ri_70 r0, ri_71 r0, ri_72 r0, a6, e1, u, a1, a3, n1, n2, lo, ihh, x_in, dlt_T, dle_T]
theorem rp_L124 {P : xP} {T : xT} {hv : Nat} {lng : Bool} {ms : List xMod} {n k : Nat} {σ : xS} {m : xMod} (h : RU P T hv lng ms n σ) (hm : ms[k]? = some m) (w : Nat) : ∀ (r j F : Nat) (l : List Nat), j + r = m.asg.length → r < F → dm_X12_shortOut_L124 P (P.base + 11) F (nI (8 * hv + k)) (nI j) (pR P σ w l) = dm_X12_shortOut_L198 P (P.base + 11) P.N (nI (8 * hv + k)) (nI 0) (pR P σ w (l ++ (m.asg.drop j).flatMap (pr_asg false))) := by
  have r0 := h.ri
  have k8 := ri_0 r0
  obtain ⟨b1, b2, b3, b4, b5⟩ := h.b
  have kl := get_lt hm
  have wm := h.wx hm
  have w2 := wm.2.2.2.1.2.1
  have a5 := (h.rm hm).1.2.2.2.2.1
  have u := rp_put r0 w
  have en := rp_end r0 w
  intro r
  induction r with
  | zero =>
    intro j F l hj hF
    obtain ⟨F, rfl⟩ : ∃ m, F = m + 1 := ⟨F - 1, by omega⟩
    have e : m.asg.drop j = [] := List.drop_eq_nil_of_le (by omega)
    have e1 : m.asg.length ≤ j := by omega
    rw [e, List.flatMap_nil, List.append_nil]
    conv => lhs; unfold dm_X12_shortOut_L124
    simp (disch := first | assumption | omega) [ck_T, sm_s, bd_l, bd_r, lt_e, eq_self, and_self, if_true, true_and, and_true, lit_nI, nI_add, nI_mul, nI_sub, nI_clamp, nI_eq, nI_ltI, nI_leI, nN_e, nI_nN, nN_nI, bI_0, bI_1, bI_n, bool_0, bool_1, in_T, lg_cmp0, ofN_nI, pR_K, pR_R, pR_L, pR_AI, ri_0 r0, ri_55 r0, ri_56 r0, ri_57 r0, a5, e1, x_in, dlt_T, dle_T]
  | succ r ih =>
    intro j F l hj hF
    obtain ⟨F, rfl⟩ : ∃ m, F = m + 1 := ⟨F - 1, by omega⟩
    have e1 : ¬ m.asg.length ≤ j := by omega
    obtain ⟨a, ha⟩ : ∃ a, m.asg[j]? = some a := ⟨_, List.getElem?_eq_getElem (by omega)⟩
    obtain ⟨r1, r2, c1, c2, c3, c4⟩ := (h.rm hm).2.2.1 j a ha
    have pw := wm.1.1 a (List.mem_of_getElem? ha)
    have p1 := rp_ref h hm c3 pw.1 w false
    have p2 := rp_ref h hm c4 pw.2 w false
    simp only [Bool.false_eq_true, if_false] at p1 p2
    have ihh := fun l => ih (j + 1) F l (by omega) (by omega)
    rw [drop_at ha, List.flatMap_cons]
    have pa : pr_asg false a = [97, 32] ++ (pr_part false a.1 ++ ([32] ++ (pr_part false a.2 ++ [59, 10]))) := by unfold pr_asg; simp
    rw [pa, ← List.append_assoc, ← ihh]
    conv => lhs; unfold dm_X12_shortOut_L124
    simp (disch := first | assumption | omega) [ck_T, sm_s, bd_l, bd_r, lt_e, eq_self, and_self, if_true, true_and, and_true, lit_nI, nI_add, nI_mul, nI_sub, nI_clamp, nI_eq, nI_ltI, nI_leI, nN_e, nI_nN, nN_nI, bI_0, bI_1, bI_n, bool_0, bool_1, in_T, lg_cmp0, ofN_nI, pR_K, pR_R, pR_L, pR_AI, ri_0 r0, ri_55 r0, ri_56 r0, ri_57 r0, ri_58 r0, ri_59 r0, ri_60 r0, ri_61 r0, ri_62 r0, ri_63 r0, a5, e1, c1, c2, p1, p2, u, en, x_in, dlt_T, dle_T]
theorem rp_L28 {P : xP} {T : xT} {hv : Nat} {lng : Bool} {ms : List xMod} {n k : Nat} {σ : xS} {m : xMod} (h : RU P T hv lng ms n σ) (hm : ms[k]? = some m) (w : Nat) : ∀ (r j F : Nat) (l : List Nat), j + r = m.nets.length → r < F → dm_X12_shortOut_L28 P (P.base + 11) F (nI (8 * hv + k)) (nI j) (pR P σ w l) = dm_X12_shortOut_L124 P (P.base + 11) P.N (nI (8 * hv + k)) (nI 0) (pR P σ w (l ++ (m.nets.drop j).flatMap (pr_net false))) := by
  have r0 := h.ri
  have k8 := ri_0 r0
  obtain ⟨b1, b2, b3, b4, b5⟩ := h.b
  have kl := get_lt hm
  have wm := h.wx hm
  have w1 := wm.2.2.2.1.1
  have a4 := (h.rm hm).1.2.2.2.1
  have u := rp_put r0 w
  have en := rp_end r0 w
  intro r
  induction r with
  | zero =>
    intro j F l hj hF
    obtain ⟨F, rfl⟩ : ∃ m, F = m + 1 := ⟨F - 1, by omega⟩
    have e : m.nets.drop j = [] := List.drop_eq_nil_of_le (by omega)
    have e1 : m.nets.length ≤ j := by omega
    rw [e, List.flatMap_nil, List.append_nil]
    conv => lhs; unfold dm_X12_shortOut_L28
    simp (disch := first | assumption | omega) [ck_T, sm_s, bd_l, bd_r, lt_e, eq_self, and_self, if_true, true_and, and_true, lit_nI, nI_add, nI_mul, nI_sub, nI_clamp, nI_eq, nI_ltI, nI_leI, nN_e, nI_nN, nN_nI, bI_0, bI_1, bI_n, bool_0, bool_1, in_T, lg_cmp0, ofN_nI, pR_K, pR_R, pR_L, pR_AI, ri_0 r0, ri_19 r0, ri_20 r0, ri_21 r0, a4, e1, x_in, dlt_T, dle_T]
  | succ r ih =>
    intro j F l hj hF
    obtain ⟨F, rfl⟩ : ∃ m, F = m + 1 := ⟨F - 1, by omega⟩
    have e1 : ¬ m.nets.length ≤ j := by omega
    obtain ⟨x, hx⟩ : ∃ x, m.nets[j]? = some x := ⟨_, List.getElem?_eq_getElem (by omega)⟩
    have xm := List.mem_of_getElem? hx
    obtain ⟨⟨q, d0, d1⟩, d2, d3, -⟩ := (h.rm hm).2.1 j x hx
    have n3 := (h.1.1.2.2.1.2.2.1 m (List.mem_of_getElem? hm)).2 x xm
    rw [if_neg n3] at d2
    have x3 := (wm.2.1.1 x xm).2.1
    have x8 := (wm.2.1.1 x xm).2.2.1
    have na := rp_name h d1 w
    have ihh := fun l => ih (j + 1) F l (by omega) (by omega)
    have nu := fun l => rp_num r0 w l (v := x.2.2) (by omega)
    have p77 : ∀ (c : Nat) l, dm_X12_shortOut_p77 P (dm_X12_shortOut_L28 P (P.base + 11) F) (P.base + 11) (nI (8 * hv + k)) (nI j) (nI (16 * (8 * hv + k) + j)) (some (P.base + 11)) (nI c) (pR P σ w l) = dm_X12_shortOut_L28 P (P.base + 11) F (nI (8 * hv + k)) (nI (j + 1)) (pR P σ w (l ++ ([c, 32] ++ (x.1 ++ ([32] ++ ([48 + x.2.2] ++ [59, 10])))))) := by
      intro c l
      unfold dm_X12_shortOut_p77
      simp (disch := first | assumption | omega) [ck_T, sm_s, bd_l, bd_r, lt_e, eq_self, and_self, if_true, true_and, and_true, lit_nI, nI_add, nI_mul, nI_sub, nI_clamp, nI_eq, nI_ltI, nI_leI, nN_e, nI_nN, nN_nI, bI_0, bI_1, bI_n, bool_0, bool_1, in_T, lg_cmp0, ofN_nI, pR_K, pR_R, pR_L, pR_AI, ri_0 r0, ri_22 r0, ri_23 r0, ri_24 r0, ri_28 r0, ri_29 r0, ri_30 r0, d0, d3, u, nu, na, en, x_in, dlt_T, dle_T]
    rw [drop_at hx, List.flatMap_cons, ← List.append_assoc, ← ihh]
    conv => lhs; unfold dm_X12_shortOut_L28
    conv => rhs; unfold pr_net
    rw [if_neg (by simp)]
    by_cases s0 : x.2.1 = 0
    · rw [s0] at d2
      rw [if_pos s0]
      simp (disch := first | assumption | omega) [ck_T, sm_s, bd_l, bd_r, lt_e, eq_self, and_self, if_true, true_and, and_true, lit_nI, nI_add, nI_mul, nI_sub, nI_clamp, nI_eq, nI_ltI, nI_leI, nN_e, nI_nN, nN_nI, bI_0, bI_1, bI_n, bool_0, bool_1, in_T, lg_cmp0, ofN_nI, pR_K, pR_R, pR_L, pR_AI, ri_0 r0, ri_19 r0, ri_20 r0, ri_21 r0, ri_25 r0, ri_26 r0, ri_27 r0, a4, e1, d2, p77, x_in, dlt_T, dle_T]
    · rw [if_neg s0]
      by_cases s1 : x.2.1 = 1
      · rw [s1] at d2
        rw [if_pos s1]
        simp (disch := first | assumption | omega) [ck_T, sm_s, bd_l, bd_r, lt_e, eq_self, and_self, if_true, true_and, and_true, lit_nI, nI_add, nI_mul, nI_sub, nI_clamp, nI_eq, nI_ltI, nI_leI, nN_e, nI_nN, nN_nI, bI_0, bI_1, bI_n, bool_0, bool_1, in_T, lg_cmp0, ofN_nI, pR_K, pR_R, pR_L, pR_AI, ri_0 r0, ri_19 r0, ri_20 r0, ri_21 r0, ri_25 r0, ri_26 r0, ri_27 r0, a4, e1, d2, p77, x_in, dlt_T, dle_T]
      · rw [if_neg s1]
        have s2 : x.2.1 = 2 := by omega
        rw [s2] at d2
        simp (disch := first | assumption | omega) [ck_T, sm_s, bd_l, bd_r, lt_e, eq_self, and_self, if_true, true_and, and_true, lit_nI, nI_add, nI_mul, nI_sub, nI_clamp, nI_eq, nI_ltI, nI_leI, nN_e, nI_nN, nN_nI, bI_0, bI_1, bI_n, bool_0, bool_1, in_T, lg_cmp0, ofN_nI, pR_K, pR_R, pR_L, pR_AI, ri_0 r0, ri_19 r0, ri_20 r0, ri_21 r0, ri_25 r0, ri_26 r0, ri_27 r0, a4, e1, d2, p77, x_in, dlt_T, dle_T]
theorem rp_shortOut {P : xP} {T : xT} {hv : Nat} {lng : Bool} {ms : List xMod} {n k : Nat} {σ : xS} {m : xMod} (h : RU P T hv lng ms n σ) (hm : ms[k]? = some m) (w : Nat) (l : List Nat) : dm_X12_shortOut P (P.base + 11) (nI (8 * hv + k)) (pR P σ w l) = some (.inl (), pR P σ w (l ++ pr_mod ms false m)) := by
  have r0 := h.ri
  have k8 := ri_0 r0
  obtain ⟨b1, b2, b3, b4, b5⟩ := h.b
  have kl := get_lt hm
  have wm := h.wx hm
  obtain ⟨w1, w2, w3⟩ := wm.2.2.2.1
  obtain ⟨a1, a2, -⟩ := (h.rm hm).1
  have u := rp_put r0 w
  have en := rp_end r0 w
  have na := rp_name h a2 w
  have l2 := fun l => rp_L28 h hm w m.nets.length 0 P.N l (by omega) (by omega)
  have l3 := fun l => rp_L124 h hm w m.asg.length 0 P.N l (by omega) (by omega)
  have l4 := fun l => rp_L198 h hm w m.ins.length 0 P.N l (by omega) (by omega)
  simp only [List.drop_zero] at l2 l3 l4
  unfold dm_X12_shortOut pr_mod
  rw [if_neg (by simp)]
  simp (disch := first | assumption | omega) [ck_T, sm_s, bd_l, bd_r, lt_e, eq_self, and_self, if_true, true_and, and_true, lit_nI, nI_add, nI_mul, nI_sub, nI_clamp, nI_eq, nI_ltI, nI_leI, nN_e, nI_nN, nN_nI, bI_0, bI_1, bI_n, bool_0, bool_1, in_T, lg_cmp0, ofN_nI, pR_K, pR_R, pR_L, pR_AI, ri_0 r0, ri_13 r0, ri_14 r0, ri_15 r0, a1, u, en, na, l2, l3, l4, x_in, dlt_T, dle_T]
/-! write -/
theorem rst_val {w : Nat} (hw : w < 2 ^ 31) : ∀ l : List Nat, l.length < 2 ^ 31 → (rst w l).1 = nI l.length ∧ (rst w l).2 = match l[w]? with
    | none => nN
    | some c => nI c := by
  refine snoc_ind ?_ ?_
  · intro _
    exact ⟨rfl, by simp [rst]⟩
  · intro l a ih hl
    simp only [List.length_append, List.length_cons, List.length_nil] at hl
    obtain ⟨h1, h2⟩ := ih (by omega)
    rw [rst_snoc]
    simp only
    rw [h1, nI_add]
    refine ⟨by simp, ?_⟩
    by_cases e : l.length = w
    · subst e
      rw [if_pos rfl, List.getElem?_append_right (Nat.le_refl _)]
      simp
    · have ne : ¬ nI l.length = nI w := by rw [nI_eq (by omega) hw]; exact e
      rw [if_neg ne, h2]
      by_cases z : w < l.length
      · rw [List.getElem?_append_left z]
      · rw [List.getElem?_eq_none (by omega), List.getElem?_eq_none (by simp; omega)]
theorem rst_keep {w : Nat} (hw : w < 2 ^ 31) {l t : List Nat} (hl : (l ++ t).length < 2 ^ 31) (h : ¬ (rst w l).2 = nN) : (rst w (l ++ t)).2 = (rst w l).2 := by
  have hl' : l.length < 2 ^ 31 := by
    rw [List.length_append] at hl
    omega
  rw [(rst_val hw _ hl).2, (rst_val hw l hl').2]
  rw [(rst_val hw l hl').2] at h
  cases e : l[w]? with
  | none => rw [e] at h; exact absurd rfl h
  | some c =>
    have := get_lt e
    rw [List.getElem?_append_left this, e]
theorem rp_L59 {P : xP} {T : xT} {hv : Nat} {lng : Bool} {ms : List xMod} {n : Nat} {σ : xS} (h : RU P T hv lng ms n σ) (lg : Bool) {w : Nat} (hw : w < 2 ^ 31) {full : List Nat} (hf : full.length < 2 ^ 31) : ∀ (r k F : Nat) (l : List Nat), k + r = ms.length → r < F → l ++ (ms.drop k).flatMap (pr_mod ms lg) = full → ∃ l', dm_X12_write_L59 P (P.base + 11) F (nI (if lg = true then 0 else 1)) (nI k) (pR P σ w l) = some (.inl (rst w full).2, pR P σ w l') := by
  have r0 := h.ri
  have k8 := ri_0 r0
  obtain ⟨b1, b2, b3, b4, b5⟩ := h.b
  have q1 := h.2
  have h2 := h.1.1.2.1
  intro r
  induction r with
  | zero =>
    intro k F l hk hF hfull
    obtain ⟨F, rfl⟩ : ∃ m, F = m + 1 := ⟨F - 1, by omega⟩
    have e : ms.drop k = [] := List.drop_eq_nil_of_le (by omega)
    have e1 : ms.length ≤ k := by omega
    rw [e, List.flatMap_nil, List.append_nil] at hfull
    subst hfull
    refine ⟨l, ?_⟩
    unfold dm_X12_write_L59 dm_X12_write_p114
    simp (disch := first | assumption | omega) [ck_T, sm_s, bd_l, bd_r, lt_e, eq_self, and_self, if_true, true_and, and_true, lit_nI, nI_add, nI_mul, nI_sub, nI_clamp, nI_eq, nI_ltI, nI_leI, nN_e, nI_nN, nN_nI, bI_0, bI_1, bI_n, bool_0, bool_1, in_T, lg_cmp0, ofN_nI, pR_K, pR_R, pR_L, pR_AI, pR_I, pR_4, ri_0 r0, ri_10 r0, ri_11 r0, ri_12 r0, q1, h2, e1, x_in, dlt_T, dle_T]
  | succ r ih =>
    intro k F l hk hF hfull
    obtain ⟨F, rfl⟩ : ∃ m, F = m + 1 := ⟨F - 1, by omega⟩
    have e1 : ¬ ms.length ≤ k := by omega
    obtain ⟨m, hm⟩ : ∃ m, ms[k]? = some m := ⟨_, List.getElem?_eq_getElem (by omega)⟩
    by_cases e : (rst w l).2 = nN
    · have hfull2 : (l ++ pr_mod ms lg m) ++ (ms.drop (k + 1)).flatMap (pr_mod ms lg) = full := by
        rw [← hfull, drop_at hm, List.flatMap_cons, List.append_assoc]
      obtain ⟨l', g⟩ := ih (k + 1) F (l ++ pr_mod ms lg m) (by omega) (by omega) hfull2
      refine ⟨l', ?_⟩
      rw [← g]
      conv => lhs; unfold dm_X12_write_L59 dm_X12_write_p108 dm_X12_of
      cases lg with
      | true =>
        have lo := rp_longOut h hm w l
        simp (disch := first | assumption | omega) [ck_T, sm_s, bd_l, bd_r, lt_e, eq_self, and_self, if_true, true_and, and_true, lit_nI, nI_add, nI_mul, nI_sub, nI_clamp, nI_eq, nI_ltI, nI_leI, nN_e, nI_nN, nN_nI, bI_0, bI_1, bI_n, bool_0, bool_1, in_T, lg_cmp0, ofN_nI, pR_K, pR_R, pR_L, pR_AI, pR_I, pR_4, ri_0 r0, ri_10 r0, ri_11 r0, ri_12 r0, q1, h2, e1, e, lo, x_in, dlt_T, dle_T]
      | false =>
        have lo := rp_shortOut h hm w l
        simp (disch := first | assumption | omega) [ck_T, sm_s, bd_l, bd_r, lt_e, eq_self, and_self, if_true, true_and, and_true, lit_nI, nI_add, nI_mul, nI_sub, nI_clamp, nI_eq, nI_ltI, nI_leI, nN_e, nI_nN, nN_nI, bI_0, bI_1, bI_n, bool_0, bool_1, in_T, lg_cmp0, ofN_nI, pR_K, pR_R, pR_L, pR_AI, pR_I, pR_4, ri_0 r0, ri_10 r0, ri_11 r0, ri_12 r0, q1, h2, e1, e, lo, x_in, dlt_T, dle_T]
    · have kp := rst_keep hw (t := (ms.drop k).flatMap (pr_mod ms lg)) (by rw [hfull]; exact hf) e
      rw [hfull] at kp
      refine ⟨l, ?_⟩
      rw [kp]
      unfold dm_X12_write_L59 dm_X12_write_p114
      simp (disch := first | assumption | omega) [ck_T, sm_s, bd_l, bd_r, lt_e, eq_self, and_self, if_true, true_and, and_true, lit_nI, nI_add, nI_mul, nI_sub, nI_clamp, nI_eq, nI_ltI, nI_leI, nN_e, nI_nN, nN_nI, bI_0, bI_1, bI_n, bool_0, bool_1, in_T, lg_cmp0, ofN_nI, pR_K, pR_R, pR_L, pR_AI, pR_I, pR_4, ri_0 r0, ri_10 r0, ri_11 r0, ri_12 r0, q1, h2, e1, e, x_in, dlt_T, dle_T]
theorem rw_writeNo {P : xP} {σ : xS} (h : RI P σ) (v1 v2 : Int32) : dm_X12_write_p17 P (P.base + 11) v1 v2 σ = some (.inl (nI 0), tS P σ 1) := by
  unfold dm_X12_write_p17 dm_X12_write_p18 dm_X12_write_p29 tS
  simp (disch := first | assumption | omega) [ck_T, sm_s, bd_l, bd_r, lt_e, eq_self, and_self, if_true, true_and, and_true, lit_nI, nI_add, nI_mul, nI_sub, nI_clamp, nI_eq, nI_ltI, nI_leI, nN_e, nI_nN, nN_nI, bI_0, bI_1, bI_n, bool_0, bool_1, in_T, lg_cmp0, ofN_nI, q_K_setI, q_I_setI, q_J_setI, q_R_setI, q_L_setI, q_AI_setI, q_AJ_setI, q_AR_setI, q_sz_setI, q_su_setI, q_K_setJ, q_I_setJ, q_J_setJ, q_R_setJ, q_L_setJ, q_AI_setJ, q_AJ_setJ, q_AR_setJ, q_sz_setJ, q_su_setJ, q_K_setR, q_I_setR, q_J_setR, q_R_setR, q_L_setR, q_AI_setR, q_AJ_setR, q_AR_setR, q_sz_setR, q_su_setR, q_K_setAI, q_I_setAI, q_J_setAI, q_R_setAI, q_L_setAI, q_AI_setAI, q_AJ_setAI, q_AR_setAI, q_sz_setAI, q_su_setAI, q_K_setAJ, q_I_setAJ, q_J_setAJ, q_R_setAJ, q_L_setAJ, q_AI_setAJ, q_AJ_setAJ, q_AR_setAJ, q_sz_setAJ, q_su_setAJ, q_K_setAR, q_I_setAR, q_J_setAR, q_R_setAR, q_L_setAR, q_AI_setAR, q_AJ_setAR, q_AR_setAR, q_sz_setAR, q_su_setAR, q_K_newO, q_I_newO, q_J_newO, q_R_newO, q_L_newO, q_AI_newO, q_AJ_newO, q_AR_newO, q_sz_newO, q_su_newO, q_K_newA, q_I_newA, q_J_newA, q_R_newA, q_L_newA, q_AI_newA, q_AJ_newA, q_AR_newA, q_sz_newA, q_su_newA, q_K_skip, q_I_skip, q_J_skip, q_R_skip, q_L_skip, q_AI_skip, q_AJ_skip, q_AR_skip, q_sz_skip, q_su_skip, q_up2, q_up, ri_0 h]
/-- write: the answer, and what has changed -/
theorem rw_write {P : xP} {T : xT} {hv : Nat} {lng : Bool} {ms : List xMod} {n : Nat} {σ : xS} (h : RU P T hv lng ms n σ) (f i : Int32) : match aq_write ms f i with
    | none => dm_X12_write P (P.base + 11) f i σ = some (.inl (nI 0), tS P σ 1)
    | some v => ∃ w l, dm_X12_write P (P.base + 11) f i σ = some (.inl v, pR P (tS P σ 0) w l) := by
  have r0 := h.ri
  obtain ⟨b1, b2, b3, b4, b5⟩ := h.b
  have l8 := b2
  have wr : ∀ lg : Bool, f = nI (if lg = true then 0 else 1) → match aq_write ms f i with
      | none => dm_X12_write P (P.base + 11) f i σ = some (.inl (nI 0), tS P σ 1)
      | some v => ∃ w l, dm_X12_write P (P.base + 11) f i σ = some (.inl v, pR P (tS P σ 0) w l) := by
    intro lg hf
    have e9 : dm_X12_write P (P.base + 11) f i σ = dm_X12_write_p9 P (P.base + 11) f i σ := by
      unfold dm_X12_write
      rw [hf]
      cases lg with
      | true => exact if_pos rfl
      | false => exact (if_neg (by decide)).trans (if_pos rfl)
    have ew : aq_write ms f i = match aI i with
        | none => none
        | some w => some (match (pr_text ms lg)[w]? with
          | none => nN
          | some c => nI c) := by
      unfold aq_write
      have dl : decide (f = nI 0) = lg := by
        rw [hf]
        cases lg <;> decide
      have cond : f = nI 0 ∨ f = nI 1 := by
        rw [hf]
        cases lg with
        | true => exact Or.inl rfl
        | false => exact Or.inr rfl
      rw [dl, if_pos cond]
      cases aI i <;> rfl
    rw [ew, e9]
    rcases i32_cases i with ⟨u1, u2⟩ | ⟨w, u1, rfl, u3⟩
    · rw [u2]
      simp only
      unfold dm_X12_write_p9
      exact (if_pos u1).trans (rw_writeNo r0 f i)
    · rw [u3]
      simp only
      have n0 : ¬ nI w < nI 0 := by rw [nI_ltI (by omega) (by omega)]; omega
      have h0 : RU P T hv lng ms n (tS P σ 0) := h.setI (by omega)
      have tl := text_le h.1.1.2.2.1 lg
      obtain ⟨l', q⟩ := rp_L59 h0 lg u1 (full := pr_text ms lg) (by omega) ms.length 0 P.N [] (by omega) (by omega) (by rw [List.drop_zero]; rfl)
      rw [(rst_val u1 _ (by omega)).2, ← hf] at q
      refine ⟨w, l', ?_⟩
      rw [← q]
      have e0 : pR P (tS P σ 0) w [] = (((σ.setI 1100 (P.base + 11) (nI 0)).setI 1142 (P.base + 11) (nI 0)).setI 1143 (P.base + 11) (nI w)).setI 1144 (P.base + 11) nN := by
        have : pR P (tS P σ 0) w [] = (((σ.setI 1100 (P.base + 11) (nI 0)).setI 1143 (P.base + 11) (nI w)).setI 1144 (P.base + 11) nN).setI 1142 (P.base + 11) (nI 0) := rfl
        rw [this, setI_cm _ 1144 1142 _ _ _ (by omega), setI_cm _ 1143 1142 _ _ _ (by omega)]
      rw [e0]
      conv => lhs; unfold dm_X12_write_p9 dm_X12_write_p18 dm_X12_write_p29
      simp (disch := first | assumption | omega) [ck_T, sm_s, bd_l, bd_r, lt_e, eq_self, and_self, if_true, true_and, and_true, lit_nI, nI_add, nI_mul, nI_sub, nI_clamp, nI_eq, nI_ltI, nI_leI, nN_e, nI_nN, nN_nI, bI_0, bI_1, bI_n, bool_0, bool_1, in_T, lg_cmp0, ofN_nI, q_K_setI, q_I_setI, q_J_setI, q_R_setI, q_L_setI, q_AI_setI, q_AJ_setI, q_AR_setI, q_sz_setI, q_su_setI, q_K_setJ, q_I_setJ, q_J_setJ, q_R_setJ, q_L_setJ, q_AI_setJ, q_AJ_setJ, q_AR_setJ, q_sz_setJ, q_su_setJ, q_K_setR, q_I_setR, q_J_setR, q_R_setR, q_L_setR, q_AI_setR, q_AJ_setR, q_AR_setR, q_sz_setR, q_su_setR, q_K_setAI, q_I_setAI, q_J_setAI, q_R_setAI, q_L_setAI, q_AI_setAI, q_AJ_setAI, q_AR_setAI, q_sz_setAI, q_su_setAI, q_K_setAJ, q_I_setAJ, q_J_setAJ, q_R_setAJ, q_L_setAJ, q_AI_setAJ, q_AJ_setAJ, q_AR_setAJ, q_sz_setAJ, q_su_setAJ, q_K_setAR, q_I_setAR, q_J_setAR, q_R_setAR, q_L_setAR, q_AI_setAR, q_AJ_setAR, q_AR_setAR, q_sz_setAR, q_su_setAR, q_K_newO, q_I_newO, q_J_newO, q_R_newO, q_L_newO, q_AI_newO, q_AJ_newO, q_AR_newO, q_sz_newO, q_su_newO, q_K_newA, q_I_newA, q_J_newA, q_R_newA, q_L_newA, q_AI_newA, q_AJ_newA, q_AR_newA, q_sz_newA, q_su_newA, q_K_skip, q_I_skip, q_J_skip, q_R_skip, q_L_skip, q_AI_skip, q_AJ_skip, q_AR_skip, q_sz_skip, q_su_skip, q_up2, q_up, ri_0 r0, n0]
  by_cases f0 : f = nI 0
  · exact wr true f0
  · by_cases f1 : f = nI 1
    · exact wr false f1
    · have ew : aq_write ms f i = none := by
        unfold aq_write
        rw [if_neg (by intro z; rcases z with z | z; exact f0 z; exact f1 z)]
      rw [ew]
      simp only
      unfold dm_X12_write
      exact (if_neg f0).trans ((if_neg f1).trans (rw_writeNo r0 f i))
