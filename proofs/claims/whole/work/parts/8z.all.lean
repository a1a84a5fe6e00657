/-! ===== the reference: all misfits, rings ===== -/
theorem drop_at {α : Type} {l : List α} {j : Nat} {x : α} (h : l[j]? = some x) : l.drop j = x :: l.drop (j + 1) := by
  obtain ⟨hlt, hx3⟩ := List.getElem?_eq_some_iff.mp h
  rw [List.drop_eq_getElem_cons hlt, hx3]
theorem rw_ca178 {P : xP} {T : xT} {hv : Nat} {lng : Bool} {ms : List xMod} {n k : Nat} {σ : xS} {m : xMod} (h : CV P T hv lng ms n σ) (hm : ms[k]? = some m) (ho : OF P σ ms (8 * hv + k) m.ins) (k77 : Int32 → xS → xO Unit) : ∀ (r j F f : Nat), j + r = m.ins.length → r < F → f ≤ 1001 → dm_X12_checkAll_L178 P k77 (P.base + 11) F (nI k) (nI (8 * hv + k)) (nI j) (ft P σ f) = k77 (nI (k + 1)) (ft P σ (((m.ins.drop j).map (sp_imis ms)).foldl min f)) := by
  have r0 := h.1.1.1
  have hv1 := h.1.1.2.2.1
  have l8 := h.1.2.2.1.1
  have kl := get_lt hm
  have w3 := (h.wx hm).2.2.2.1.2.2
  have a6 := (h.1.2.2.2.2 k m hm).1.2.2.2.2.2
  intro r
  induction r with
  | zero =>
    intro j F f hj hF hf
    obtain ⟨F, rfl⟩ : ∃ m, F = m + 1 := ⟨F - 1, by omega⟩
    have rf := (ft_FQc (P := P) (hv := hv) (f := f) (σ := σ)).ri r0
    have a6' : (ft P σ f).AI (P.base + 33) (8 * hv + k) = nI m.ins.length := a6
    have e : m.ins.drop j = [] := List.drop_eq_nil_of_le (by omega)
    have e1 : m.ins.length ≤ j := by omega
    rw [e]
    simp only [List.map_nil, List.foldl_nil]
    unfold dm_X12_checkAll_L178
    simp (disch := first | assumption | omega) [ck_T, sm_s, bd_l, bd_r, lt_e, eq_self, and_self, if_true, true_and, and_true, lit_nI, nI_add, nI_mul, nI_sub, nI_clamp, nI_eq, nI_ltI, nI_leI, nN_e, nI_nN, nN_nI, bI_0, bI_1, bI_n, bool_0, bool_1, in_T, lg_cmp0, ofN_nI, ri_0 rf, ri_64 rf, ri_65 rf, ri_66 rf, a6', e1, x_in, dlt_T, dle_T]
  | succ r ih =>
    intro j F f hj hF hf
    obtain ⟨F, rfl⟩ : ∃ m, F = m + 1 := ⟨F - 1, by omega⟩
    have rf := (ft_FQc (P := P) (hv := hv) (f := f) (σ := σ)).ri r0
    have a6' : (ft P σ f).AI (P.base + 33) (8 * hv + k) = nI m.ins.length := a6
    obtain ⟨i, hi⟩ : ∃ i, m.ins[j]? = some i := ⟨_, List.getElem?_eq_getElem (by omega)⟩
    have e1 : ¬ m.ins.length ≤ j := by omega
    have ci := rw_checkInstance (f := f) h hm hi ho hf
    rw [drop_at hi]
    simp only [List.map_cons, List.foldl_cons]
    rw [← ih (j + 1) F _ (by omega) (by omega) (by omega)]
    conv => lhs; unfold dm_X12_checkAll_L178
    simp (disch := first | assumption | omega) [ck_T, sm_s, bd_l, bd_r, lt_e, eq_self, and_self, if_true, true_and, and_true, lit_nI, nI_add, nI_mul, nI_sub, nI_clamp, nI_eq, nI_ltI, nI_leI, nN_e, nI_nN, nN_nI, bI_0, bI_1, bI_n, bool_0, bool_1, in_T, lg_cmp0, ofN_nI, ri_0 rf, ri_64 rf, ri_65 rf, ri_66 rf, a6', e1, ci, x_in, dlt_T, dle_T]
theorem rw_ca102 {P : xP} {T : xT} {hv : Nat} {lng : Bool} {ms : List xMod} {n k : Nat} {σ : xS} {m : xMod} (h : CV P T hv lng ms n σ) (hm : ms[k]? = some m) (ho : OF P σ ms (8 * hv + k) m.ins) (k77 : Int32 → xS → xO Unit) : ∀ (r j F f : Nat), j + r = m.asg.length → r < F → f ≤ 1001 → dm_X12_checkAll_L102 P k77 (P.base + 11) F (nI k) (nI (8 * hv + k)) (nI j) (ft P σ f) = k77 (nI (k + 1)) (ft P σ ((m.ins.map (sp_imis ms)).foldl min (((m.asg.drop j).map fun a => if sp_w a.1 = sp_w a.2 then 1001 else a.2.2.1).foldl min f))) := by
  have r0 := h.1.1.1
  have hv1 := h.1.1.2.2.1
  have hT := h.1.1.2.1
  have h1000 := hT.1
  have n5 := h.1.2.2.2.1
  have l8 := h.1.2.2.1.1
  have hN := h.tx.2.2.2.2.2.2
  have kl := get_lt hm
  have wm := h.wx hm
  have w2 := wm.2.2.2.1.2.1
  have w3 := wm.2.2.2.1.2.2
  obtain ⟨⟨-, -, -, -, a5, a6⟩, a7, a8, -⟩ := h.1.2.2.2.2 k m hm
  intro r
  induction r with
  | zero =>
    intro j F f hj hF hf
    obtain ⟨F, rfl⟩ : ∃ m, F = m + 1 := ⟨F - 1, by omega⟩
    have rf := (ft_FQc (P := P) (hv := hv) (f := f) (σ := σ)).ri r0
    have a5' : (ft P σ f).AI (P.base + 30) (8 * hv + k) = nI m.asg.length := a5
    have e : m.asg.drop j = [] := List.drop_eq_nil_of_le (by omega)
    have e1 : m.asg.length ≤ j := by omega
    have nx := rw_ca178 h hm ho k77 m.ins.length 0 P.N f (by omega) (by omega) hf
    rw [List.drop_zero] at nx
    rw [e]
    simp only [List.map_nil, List.foldl_nil]
    rw [← nx]
    conv => lhs; unfold dm_X12_checkAll_L102
    simp (disch := first | assumption | omega) [ck_T, sm_s, bd_l, bd_r, lt_e, eq_self, and_self, if_true, true_and, and_true, lit_nI, nI_add, nI_mul, nI_sub, nI_clamp, nI_eq, nI_ltI, nI_leI, nN_e, nI_nN, nN_nI, bI_0, bI_1, bI_n, bool_0, bool_1, in_T, lg_cmp0, ofN_nI, ri_0 rf, ri_55 rf, ri_56 rf, ri_57 rf, a5', e1, x_in, dlt_T, dle_T]
  | succ r ih =>
    intro j F f hj hF hf
    obtain ⟨F, rfl⟩ : ∃ m, F = m + 1 := ⟨F - 1, by omega⟩
    have rf := (ft_FQc (P := P) (hv := hv) (f := f) (σ := σ)).ri r0
    have g6 : (ft P σ f).I 1140 (P.base + 11) = nI hv := (h.fq (ft_FQc (f := f))).2.1
    have a5' : (ft P σ f).AI (P.base + 30) (8 * hv + k) = nI m.asg.length := a5
    obtain ⟨a, ha⟩ : ∃ a, m.asg[j]? = some a := ⟨_, List.getElem?_eq_getElem (by omega)⟩
    obtain ⟨r1, r2, b1, b2, b3, b4⟩ := a8 j a ha
    have am := List.mem_of_getElem? ha
    have pw := wm.1.1 a am
    have ap := wm.2.2.2.2.1.2.1 a am
    have b1' : (ft P σ f).AI (P.base + 31) (8 * (8 * hv + k) + j) = nI r1 := b1
    have b2' : (ft P σ f).AI (P.base + 32) (8 * (8 * hv + k) + j) = nI r2 := b2
    have b3' : RRef P (ft P σ f) T hv n m.nets r1 a.1 := b3
    have b4' : RRef P (ft P σ f) T hv n m.nets r2 a.2 := b4
    have a7' : RNs P (ft P σ f) T (8 * hv + k) m.nets := a7
    have pl' : (ft P σ f).AI (P.base + 25) r2 = nI a.2.2.1 := b4.2.2.1
    obtain ⟨x1, x2⟩ := rw_refWidth (v1 := nI hv) rf hv1 (M := 8 * hv + k) (by omega) (by omega) b3' pw.1 a7' wm.1.2.2.2.2 wm.2.1.1 wm.2.2.2.1.1
    obtain ⟨y1, y2⟩ := rw_refWidth (v1 := nI hv) rf hv1 (M := 8 * hv + k) (by omega) (by omega) b4' pw.2 a7' wm.1.2.2.2.2 wm.2.1.1 wm.2.2.2.1.1
    have rb := b4.1
    have e1 : ¬ m.asg.length ≤ j := by omega
    rw [drop_at ha]
    simp only [List.map_cons, List.foldl_cons]
    by_cases e : sp_w a.1 = sp_w a.2
    · rw [if_pos e, Nat.min_eq_left hf, ← ih (j + 1) F _ (by omega) (by omega) hf]
      rw [e] at x1
      conv => lhs; unfold dm_X12_checkAll_L102 dm_X12_checkAll_p170
      simp (disch := first | assumption | omega) [ck_T, sm_s, bd_l, bd_r, lt_e, eq_self, and_self, if_true, true_and, and_true, lit_nI, nI_add, nI_mul, nI_sub, nI_clamp, nI_eq, nI_ltI, nI_leI, nN_e, nI_nN, nN_nI, bI_0, bI_1, bI_n, bool_0, bool_1, in_T, lg_cmp0, ofN_nI, ri_0 rf, ri_55 rf, ri_56 rf, ri_57 rf, ri_58 rf, ri_59 rf, ri_60 rf, ri_61 rf, ri_62 rf, ri_63 rf, a5', e1, g6, b1', b2', x1, y1, x_in, dlt_T, dle_T]
    · have la := rw_late (p := a.2.2.1) r0 hf (by omega)
      rw [if_neg e, ← ih (j + 1) F _ (by omega) (by omega) (by omega)]
      conv => lhs; unfold dm_X12_checkAll_L102 dm_X12_checkAll_p170
      simp (disch := first | assumption | omega) [ck_T, sm_s, bd_l, bd_r, lt_e, eq_self, and_self, if_true, true_and, and_true, lit_nI, nI_add, nI_mul, nI_sub, nI_clamp, nI_eq, nI_ltI, nI_leI, nN_e, nI_nN, nN_nI, bI_0, bI_1, bI_n, bool_0, bool_1, in_T, lg_cmp0, ofN_nI, ri_0 rf, ri_55 rf, ri_56 rf, ri_57 rf, ri_58 rf, ri_59 rf, ri_60 rf, ri_61 rf, ri_62 rf, ri_63 rf, ri_40 rf, ri_41 rf, ri_42 rf, a5', e1, g6, b1', b2', x1, y1, e, pl', la, x_in, dlt_T, dle_T]
theorem mmis_min {ms : List xMod} {m : xMod} {f : Nat} (hf : f ≤ 1001) : (m.ins.map (sp_imis ms)).foldl min ((m.asg.map fun a => if sp_w a.1 = sp_w a.2 then 1001 else a.2.2.1).foldl min f) = min f (sp_mmis ms m) := by
  have h1 := foldl_min (m.asg.map fun a => if sp_w a.1 = sp_w a.2 then 1001 else a.2.2.1) f
  have h2 := foldl_min (m.ins.map (sp_imis ms)) ((m.asg.map fun a => if sp_w a.1 = sp_w a.2 then 1001 else a.2.2.1).foldl min f)
  have h3 := foldl_min (m.ins.map (sp_imis ms)) ((m.asg.map fun a => if sp_w a.1 = sp_w a.2 then 1001 else a.2.2.1).foldl min 1001)
  have h4 := foldl_le (m.asg.map fun a => if sp_w a.1 = sp_w a.2 then 1001 else a.2.2.1) f
  have h5 := foldl_le (m.asg.map fun a => if sp_w a.1 = sp_w a.2 then 1001 else a.2.2.1) 1001
  unfold sp_mmis
  omega
theorem rw_ca77 {P : xP} {T : xT} {hv : Nat} {lng : Bool} {ms : List xMod} {n : Nat} {σ : xS} (h : CV P T hv lng ms n σ) (ho : ∀ k m, ms[k]? = some m → OF P σ ms (8 * hv + k) m.ins) : ∀ (r k F f : Nat), k + r = ms.length → r < F → f ≤ 1001 → dm_X12_checkAll_L77 P (P.base + 11) F (nI k) (ft P σ f) = some (.inl (), ft P σ (((ms.drop k).map (sp_mmis ms)).foldl min f)) := by
  obtain ⟨⟨⟨r0, -, hv1, -⟩, h2, h3, -⟩, h6, -⟩ := id h
  have l8 := h3.1
  have hN := h.tx.2.2.2.2.2.2
  intro r
  induction r with
  | zero =>
    intro k F f hj hF hf
    obtain ⟨F, rfl⟩ : ∃ m, F = m + 1 := ⟨F - 1, by omega⟩
    have rf := (ft_FQc (P := P) (hv := hv) (f := f) (σ := σ)).ri r0
    have g6 : (ft P σ f).I 1140 (P.base + 11) = nI hv := (h.fq (ft_FQc (f := f))).2.1
    have h2' : (ft P σ f).AI (P.base + 15) hv = nI ms.length := h2
    have e : ms.drop k = [] := List.drop_eq_nil_of_le (by omega)
    have e1 : ms.length ≤ k := by omega
    rw [e]
    simp only [List.map_nil, List.foldl_nil]
    unfold dm_X12_checkAll_L77
    simp (disch := first | assumption | omega) [ck_T, sm_s, bd_l, bd_r, lt_e, eq_self, and_self, if_true, true_and, and_true, lit_nI, nI_add, nI_mul, nI_sub, nI_clamp, nI_eq, nI_ltI, nI_leI, nN_e, nI_nN, nN_nI, bI_0, bI_1, bI_n, bool_0, bool_1, in_T, lg_cmp0, ofN_nI, ri_0 rf, ri_10 rf, ri_11 rf, ri_12 rf, g6, h2', e1, x_in, dlt_T, dle_T]
  | succ r ih =>
    intro k F f hj hF hf
    obtain ⟨F, rfl⟩ : ∃ m, F = m + 1 := ⟨F - 1, by omega⟩
    have rf := (ft_FQc (P := P) (hv := hv) (f := f) (σ := σ)).ri r0
    have g6 : (ft P σ f).I 1140 (P.base + 11) = nI hv := (h.fq (ft_FQc (f := f))).2.1
    have h2' : (ft P σ f).AI (P.base + 15) hv = nI ms.length := h2
    obtain ⟨m, hm⟩ : ∃ m, ms[k]? = some m := ⟨_, List.getElem?_eq_getElem (by omega)⟩
    have w2 := (h.wx hm).2.2.2.1.2.1
    have e1 : ¬ ms.length ≤ k := by omega
    have nx := rw_ca102 h hm (ho k m hm) (dm_X12_checkAll_L77 P (P.base + 11) F) m.asg.length 0 P.N f (by omega) (by omega) hf
    rw [List.drop_zero, mmis_min hf] at nx
    rw [drop_at hm]
    simp only [List.map_cons, List.foldl_cons]
    rw [← ih (k + 1) F _ (by omega) (by omega) (by omega), ← nx]
    conv => lhs; unfold dm_X12_checkAll_L77
    simp (disch := first | assumption | omega) [ck_T, sm_s, bd_l, bd_r, lt_e, eq_self, and_self, if_true, true_and, and_true, lit_nI, nI_add, nI_mul, nI_sub, nI_clamp, nI_eq, nI_ltI, nI_leI, nN_e, nI_nN, nN_nI, bI_0, bI_1, bI_n, bool_0, bool_1, in_T, lg_cmp0, ofN_nI, ri_0 rf, ri_10 rf, ri_11 rf, ri_12 rf, g6, h2', e1, x_in, dlt_T, dle_T]
theorem ft_self {P : xP} {σ : xS} (h : σ.I 1139 (P.base + 11) = nN) : ft P σ 1001 = σ := by
  have e : x_up2 σ.I 1139 (P.base + 11) (fI 1001) = σ.I := by
    funext k a
    by_cases z : k = 1139 ∧ a = P.base + 11
    · obtain ⟨rfl, rfl⟩ := z
      rw [h]
      simp [q_up2, q_up, fI]
    · rw [up2_ne z]
  show (σ.K, x_up2 σ.I 1139 (P.base + 11) (fI 1001), σ.J, σ.R, σ.L, σ.AI, σ.AJ, σ.AR, σ.sz, σ.su) = _
  rw [e]
  rfl
theorem rw_checkAll {P : xP} {T : xT} {hv : Nat} {lng : Bool} {ms : List xMod} {n : Nat} {σ : xS} (h : CV P T hv lng ms n σ) (hf : σ.I 1139 (P.base + 11) = nN) : ∃ σ', dm_X12_checkAll P (P.base + 11) σ = some (.inl (), ft P σ' (sp_mis ms)) ∧ FQc P hv σ σ' ∧ (∀ k m, ms[k]? = some m → OF P σ' ms (8 * hv + k) m.ins) ∧ σ'.I 1139 (P.base + 11) = nN := by
  have hN := h.tx.2.2.2.2.2.2
  have l8 := h.1.2.2.1.1
  obtain ⟨σ', g1, g2, g3, g4⟩ := rw_ca2 ms.length 0 P.N σ (by omega) (by omega) h (fun k' m hk' => by omega)
  have f' : σ'.I 1139 (P.base + 11) = nN := by rw [g4]; exact hf
  refine ⟨σ', ?_, g2, g3, f'⟩
  have nx := rw_ca77 (h.fq g2) g3 ms.length 0 P.N 1001 (by omega) (by omega) (Nat.le_refl _)
  rw [ft_self f', List.drop_zero] at nx
  exact g1.trans nx
/-! rings -/
theorem rw_re45 {P : xP} {T : xT} {hv : Nat} {lng : Bool} {ms : List xMod} {n k j a : Nat} {σ : xS} {m : xMod} {v3 : Int32} (h : CV P T hv lng ms n σ) (hm : ms[j]? = some m) (ho : OF P σ ms (8 * hv + j) m.ins) (ha : a < 256) (hk : k < 8) (hc : j = k ∨ a.testBit j = true) (k16 : Int32 → Int32 → Int32 → Int32 → Int32 → xS → xO Int32) (k4 : Int32 → Int32 → Int32 → xS → xO Int32) : ∀ (r i F b : Nat), i + r = m.ins.length → r < F → b < 256 → ∃ b', dm_X12_reached_L45 P k16 k4 (P.base + 11) F (nI k) (nI a) v3 (nI b) (nI j) (nI (8 * hv + j)) (nI i) σ = k16 (nI k) (nI a) v3 (nI b') (nI (j + 1)) σ ∧ b' < 256 ∧ ∀ x, b'.testBit x = true ↔ b.testBit x = true ∨ (m.ins.drop i).any (fun y => decide (sp_kind ms y.1 = some x)) = true := by
  have r0 := h.1.1.1
  have hv1 := h.1.1.2.2.1
  have l8 := h.1.2.2.1.1
  have jl := get_lt hm
  have w3 := (h.wx hm).2.2.2.1.2.2
  have a6 := (h.1.2.2.2.2 j m hm).1.2.2.2.2.2
  have bg := bt_g ha (show j < 8 by omega)
  intro r
  induction r with
  | zero =>
    intro i F b hi hF hb
    obtain ⟨F, rfl⟩ : ∃ m, F = m + 1 := ⟨F - 1, by omega⟩
    have e : m.ins.drop i = [] := List.drop_eq_nil_of_le (by omega)
    have e1 : m.ins.length ≤ i := by omega
    refine ⟨b, ?_, hb, fun x => by rw [e]; simp⟩
    unfold dm_X12_reached_L45 dm_X12_reached_p114
    simp (disch := first | assumption | omega) [ck_T, sm_s, bd_l, bd_r, lt_e, eq_self, and_self, if_true, true_and, and_true, lit_nI, nI_add, nI_mul, nI_sub, nI_clamp, nI_eq, nI_ltI, nI_leI, nN_e, nI_nN, nN_nI, bI_0, bI_1, bI_n, bool_0, bool_1, in_T, lg_cmp0, ofN_nI, ri_0 r0, ri_64 r0, ri_65 r0, ri_66 r0, a6, e1, x_in, dlt_T, dle_T]
  | succ r ih =>
    intro i F b hi hF hb
    obtain ⟨F, rfl⟩ : ∃ m, F = m + 1 := ⟨F - 1, by omega⟩
    have e1 : ¬ m.ins.length ≤ i := by omega
    obtain ⟨y, hy⟩ : ∃ y, m.ins[i]? = some y := ⟨_, List.getElem?_eq_getElem (by omega)⟩
    have o1 := ho i y hy
    have st : ∀ b2 : Nat, dm_X12_reached_p73 P (dm_X12_reached_L45 P k16 k4 (P.base + 11) F) k16 k4 (P.base + 11) (nI k) (nI a) v3 (nI b) (nI j) (nI (8 * hv + j)) (nI i) σ = dm_X12_reached_L45 P k16 k4 (P.base + 11) F (nI k) (nI a) v3 (nI b2) (nI j) (nI (8 * hv + j)) (nI (i + 1)) σ → dm_X12_reached_L45 P k16 k4 (P.base + 11) (F + 1) (nI k) (nI a) v3 (nI b) (nI j) (nI (8 * hv + j)) (nI i) σ = dm_X12_reached_L45 P k16 k4 (P.base + 11) F (nI k) (nI a) v3 (nI b2) (nI j) (nI (8 * hv + j)) (nI (i + 1)) σ := by
      intro b2 hb2
      rw [← hb2]
      conv => lhs; unfold dm_X12_reached_L45
      by_cases z : j = k
      · subst z
        simp (disch := first | assumption | omega) [ck_T, sm_s, bd_l, bd_r, lt_e, eq_self, and_self, if_true, true_and, and_true, lit_nI, nI_add, nI_mul, nI_sub, nI_clamp, nI_eq, nI_ltI, nI_leI, nN_e, nI_nN, nN_nI, bI_0, bI_1, bI_n, bool_0, bool_1, in_T, lg_cmp0, ofN_nI, ri_0 r0, ri_64 r0, ri_65 r0, ri_66 r0, a6, e1, x_in, dlt_T, dle_T]
      · have t := hc.resolve_left z
        rw [t] at bg
        simp (disch := first | assumption | omega) [ck_T, sm_s, bd_l, bd_r, lt_e, eq_self, and_self, if_true, true_and, and_true, lit_nI, nI_add, nI_mul, nI_sub, nI_clamp, nI_eq, nI_ltI, nI_leI, nN_e, nI_nN, nN_nI, bI_0, bI_1, bI_n, bool_0, bool_1, in_T, lg_cmp0, ofN_nI, ri_0 r0, ri_64 r0, ri_65 r0, ri_66 r0, a6, e1, z, bg, x_in, dlt_T, dle_T]
    cases ek : sp_kind ms y.1 with
    | none =>
      rw [mIx_N ek] at o1
      obtain ⟨b', g1, g2, g3⟩ := ih (i + 1) F b (by omega) (by omega) hb
      refine ⟨b', ?_, g2, fun x => ?_⟩
      · rw [← g1]
        apply st
        unfold dm_X12_reached_p73 dm_X12_reached_p106
        simp (disch := first | assumption | omega) [ck_T, sm_s, bd_l, bd_r, lt_e, eq_self, and_self, if_true, true_and, and_true, lit_nI, nI_add, nI_mul, nI_sub, nI_clamp, nI_eq, nI_ltI, nI_leI, nN_e, nI_nN, nN_nI, bI_0, bI_1, bI_n, bool_0, bool_1, in_T, lg_cmp0, ofN_nI, ri_0 r0, ri_76 r0, ri_77 r0, ri_78 r0, o1, x_in, dlt_T, dle_T]
      · rw [g3 x, drop_at hy, List.any_cons, ek]
        simp
    | some kk =>
      rw [mIx_S ek] at o1
      have kkl : kk < ms.length := (List.findIdx?_eq_some_iff_getElem.mp ek).1
      have k8 : kk < 8 := by omega
      have nk : ¬ nI kk = nN := by rw [nI_nN (by omega)]; simp
      have b2 := bt_2 k8
      obtain ⟨b', g1, g2, g3⟩ := ih (i + 1) F (b ||| 2 ^ kk) (by omega) (by omega) (bt_lt hb b2)
      refine ⟨b', ?_, g2, fun x => ?_⟩
      · rw [← g1]
        apply st
        have sh := bt_sh k8
        have orr : nI b ||| nI (2 ^ kk) = nI (b ||| 2 ^ kk) := nI_or b (2 ^ kk)
        unfold dm_X12_reached_p73 dm_X12_reached_p106
        simp (disch := first | assumption | omega) [ck_T, sm_s, bd_l, bd_r, lt_e, eq_self, and_self, if_true, true_and, and_true, lit_nI, nI_add, nI_mul, nI_sub, nI_clamp, nI_eq, nI_ltI, nI_leI, nN_e, nI_nN, nN_nI, bI_0, bI_1, bI_n, bool_0, bool_1, in_T, lg_cmp0, ofN_nI, ri_0 r0, ri_76 r0, ri_77 r0, ri_78 r0, o1, nk, sh, orr, x_in, dlt_T, dle_T]
      · rw [g3 x, drop_at hy, List.any_cons, ek, Nat.testBit_or, Nat.testBit_two_pow]
        simp only [Bool.or_eq_true, decide_eq_true_eq, Option.some.injEq]
        rw [or_assoc]
theorem rw_re16 {P : xP} {T : xT} {hv : Nat} {lng : Bool} {ms : List xMod} {n k a : Nat} {σ : xS} {v3 : Nat} (h : CV P T hv lng ms n σ) (ho : ∀ k m, ms[k]? = some m → OF P σ ms (8 * hv + k) m.ins) (ha : a < 256) (hk : k < 8) (h3 : v3 < 8) (k4 : Int32 → Int32 → Int32 → xS → xO Int32) : ∀ (r j F b : Nat), j + r = ms.length → r < F → b < 256 → ∃ b', dm_X12_reached_L16 P k4 (P.base + 11) F (nI k) (nI a) (nI v3) (nI b) (nI j) σ = k4 (nI k) (nI b') (nI (v3 + 1)) σ ∧ b' < 256 ∧ ∀ x, b'.testBit x = true ↔ b.testBit x = true ∨ ∃ i, j ≤ i ∧ i < ms.length ∧ (i = k ∨ a.testBit i = true) ∧ sp_has ms i x = true := by
  obtain ⟨⟨⟨r0, -, hv1, -⟩, h2, h3', -⟩, h6, -⟩ := id h
  have l8 := h3'.1
  have hN := h.tx.2.2.2.2.2.2
  intro r
  induction r with
  | zero =>
    intro j F b hj hF hb
    obtain ⟨F, rfl⟩ : ∃ m, F = m + 1 := ⟨F - 1, by omega⟩
    have e1 : ms.length ≤ j := by omega
    refine ⟨b, ?_, hb, fun x => ⟨Or.inl, ?_⟩⟩
    · unfold dm_X12_reached_L16
      simp (disch := first | assumption | omega) [ck_T, sm_s, bd_l, bd_r, lt_e, eq_self, and_self, if_true, true_and, and_true, lit_nI, nI_add, nI_mul, nI_sub, nI_clamp, nI_eq, nI_ltI, nI_leI, nN_e, nI_nN, nN_nI, bI_0, bI_1, bI_n, bool_0, bool_1, in_T, lg_cmp0, ofN_nI, ri_0 r0, ri_10 r0, ri_11 r0, ri_12 r0, h6, h2, e1, x_in, dlt_T, dle_T]
    · rintro (z | ⟨i, z1, z2, -⟩)
      · exact z
      · omega
  | succ r ih =>
    intro j F b hj hF hb
    obtain ⟨F, rfl⟩ : ∃ m, F = m + 1 := ⟨F - 1, by omega⟩
    have e1 : ¬ ms.length ≤ j := by omega
    obtain ⟨m, hm⟩ : ∃ m, ms[j]? = some m := ⟨_, List.getElem?_eq_getElem (by omega)⟩
    have w3 := (h.wx hm).2.2.2.1.2.2
    have a6 := (h.1.2.2.2.2 j m hm).1.2.2.2.2.2
    have bg := bt_g ha (show j < 8 by omega)
    have hs : ∀ x, sp_has ms j x = m.ins.any (fun y => decide (sp_kind ms y.1 = some x)) := by
      intro x
      unfold sp_has
      rw [hm]
    have ul : ∀ s, dm_X12_reached_L16 P k4 (P.base + 11) (F + 1) (nI k) (nI a) (nI v3) (nI b) (nI j) σ = dm_X12_reached_L45 P (dm_X12_reached_L16 P k4 (P.base + 11) F) k4 (P.base + 11) P.N (nI k) (nI a) (nI v3) (nI b) (nI j) (nI (8 * hv + j)) (nI 0) s ∨ s ≠ σ := by
      intro s
      by_cases zs : s = σ
      · left
        subst zs
        conv => lhs; unfold dm_X12_reached_L16
        simp (disch := first | assumption | omega) [ck_T, sm_s, bd_l, bd_r, lt_e, eq_self, and_self, if_true, true_and, and_true, lit_nI, nI_add, nI_mul, nI_sub, nI_clamp, nI_eq, nI_ltI, nI_leI, nN_e, nI_nN, nN_nI, bI_0, bI_1, bI_n, bool_0, bool_1, in_T, lg_cmp0, ofN_nI, ri_0 r0, ri_10 r0, ri_11 r0, ri_12 r0, h6, h2, e1, x_in, dlt_T, dle_T]
      · exact Or.inr zs
    have ul := (ul σ).resolve_right (fun z => z rfl)
    by_cases hc : j = k ∨ a.testBit j = true
    · obtain ⟨b1, g1, g2, g3⟩ := rw_re45 (v3 := nI v3) h hm (ho j m hm) ha hk hc (dm_X12_reached_L16 P k4 (P.base + 11) F) k4 m.ins.length 0 P.N b (by omega) (by omega) hb
      obtain ⟨b', s1, s2, s3⟩ := ih (j + 1) F b1 (by omega) (by omega) g2
      refine ⟨b', ul.trans (g1.trans s1), s2, fun x => ?_⟩
      rw [s3 x, g3 x, List.drop_zero, ← hs x]
      constructor
      · rintro ((z | z) | ⟨i, z1, z2, z3, z4⟩)
        · exact Or.inl z
        · exact Or.inr ⟨j, Nat.le_refl _, by omega, hc, z⟩
        · exact Or.inr ⟨i, by omega, z2, z3, z4⟩
      · rintro (z | ⟨i, z1, z2, z3, z4⟩)
        · exact Or.inl (Or.inl z)
        · by_cases q : i = j
          · subst q; exact Or.inl (Or.inr z4)
          · exact Or.inr ⟨i, by omega, z2, z3, z4⟩
    · have hc1 : ¬ j = k := fun z => hc (Or.inl z)
      have hc2 : a.testBit j = false := by
        cases z : a.testBit j with
        | true => exact absurd (Or.inr z) hc
        | false => rfl
      rw [hc2] at bg
      obtain ⟨b', s1, s2, s3⟩ := ih (j + 1) F b (by omega) (by omega) hb
      obtain ⟨N1, hN1⟩ : ∃ k, P.N = k + 1 := ⟨P.N - 1, by omega⟩
      refine ⟨b', ul.trans ?_, s2, fun x => ?_⟩
      · rw [← s1, hN1]
        conv => lhs; unfold dm_X12_reached_L45 dm_X12_reached_p114
        by_cases z : m.ins.length ≤ 0
        · simp (disch := first | assumption | omega) [ck_T, sm_s, bd_l, bd_r, lt_e, eq_self, and_self, if_true, true_and, and_true, lit_nI, nI_add, nI_mul, nI_sub, nI_clamp, nI_eq, nI_ltI, nI_leI, nN_e, nI_nN, nN_nI, bI_0, bI_1, bI_n, bool_0, bool_1, in_T, lg_cmp0, ofN_nI, ri_0 r0, ri_64 r0, ri_65 r0, ri_66 r0, a6, z, x_in, dlt_T, dle_T]
        · simp (disch := first | assumption | omega) [ck_T, sm_s, bd_l, bd_r, lt_e, eq_self, and_self, if_true, true_and, and_true, lit_nI, nI_add, nI_mul, nI_sub, nI_clamp, nI_eq, nI_ltI, nI_leI, nN_e, nI_nN, nN_nI, bI_0, bI_1, bI_n, bool_0, bool_1, in_T, lg_cmp0, ofN_nI, ri_0 r0, ri_64 r0, ri_65 r0, ri_66 r0, a6, z, hc1, bg, x_in, dlt_T, dle_T]
      · rw [s3 x]
        constructor
        · rintro (z | ⟨i, z1, z2, z3, z4⟩)
          · exact Or.inl z
          · exact Or.inr ⟨i, by omega, z2, z3, z4⟩
        · rintro (z | ⟨i, z1, z2, z3, z4⟩)
          · exact Or.inl z
          · by_cases q : i = j
            · subst q; exact absurd z3 hc
            · exact Or.inr ⟨i, by omega, z2, z3, z4⟩
theorem rw_re4 {P : xP} {T : xT} {hv : Nat} {lng : Bool} {ms : List xMod} {n k : Nat} {σ : xS} (h : CV P T hv lng ms n σ) (ho : ∀ k m, ms[k]? = some m → OF P σ ms (8 * hv + k) m.ins) (hk : k < 8) : ∀ (r t F a : Nat), t + r = 8 → r < F → a < 256 → (∀ x, a.testBit x = true ↔ gr_lv (sp_has ms) ms.length k t x = true) → ∃ a', dm_X12_reached_L4 P (P.base + 11) F (nI k) (nI a) (nI t) σ = some (.inl (nI a'), σ) ∧ a' < 256 ∧ ∀ x, a'.testBit x = true ↔ gr_lv (sp_has ms) ms.length k 8 x = true := by
  have l8 := h.1.2.2.1.1
  have hN := h.tx.2.2.2.2.2.2
  intro r
  induction r with
  | zero =>
    intro t F a ht hF ha hx
    obtain ⟨F, rfl⟩ : ∃ m, F = m + 1 := ⟨F - 1, by omega⟩
    have e : t = 8 := by omega
    subst e
    refine ⟨a, ?_, ha, hx⟩
    unfold dm_X12_reached_L4
    simp (disch := first | assumption | omega) [ck_T, sm_s, bd_l, bd_r, lt_e, eq_self, and_self, if_true, true_and, and_true, lit_nI, nI_add, nI_mul, nI_sub, nI_clamp, nI_eq, nI_ltI, nI_leI, nN_e, nI_nN, nN_nI, bI_0, bI_1, bI_n, bool_0, bool_1, in_T, lg_cmp0, ofN_nI]
  | succ r ih =>
    intro t F a ht hF ha hx
    obtain ⟨F, rfl⟩ : ∃ m, F = m + 1 := ⟨F - 1, by omega⟩
    obtain ⟨b, g1, g2, g3⟩ := rw_re16 (v3 := t) h ho ha hk (by omega) (dm_X12_reached_L4 P (P.base + 11) F) ms.length 0 P.N a (by omega) (by omega) ha
    obtain ⟨a', s1, s2, s3⟩ := ih (t + 1) F b (by omega) (by omega) g2 (by
      intro x
      rw [g3 x, lv_succ, hx x]
      constructor
      · rintro (z | ⟨i, -, z2, z3, z4⟩)
        · exact Or.inl z
        · exact Or.inr ⟨i, z2, by rw [← hx i]; exact z3, z4⟩
      · rintro (z | ⟨i, z2, z3, z4⟩)
        · exact Or.inl z
        · exact Or.inr ⟨i, by omega, z2, by rw [hx i]; exact z3, z4⟩)
    refine ⟨a', ?_, s2, s3⟩
    rw [← s1, ← g1]
    have e : ¬ 8 ≤ t := by omega
    conv => lhs; unfold dm_X12_reached_L4
    simp (disch := first | assumption | omega) [ck_T, sm_s, bd_l, bd_r, lt_e, eq_self, and_self, if_true, true_and, and_true, lit_nI, nI_add, nI_mul, nI_sub, nI_clamp, nI_eq, nI_ltI, nI_leI, nN_e, nI_nN, nN_nI, bI_0, bI_1, bI_n, bool_0, bool_1, in_T, lg_cmp0, ofN_nI, e]
theorem rw_reached {P : xP} {T : xT} {hv : Nat} {lng : Bool} {ms : List xMod} {n k : Nat} {σ : xS} (h : CV P T hv lng ms n σ) (ho : ∀ k m, ms[k]? = some m → OF P σ ms (8 * hv + k) m.ins) (hk : k < ms.length) : ∃ a, dm_X12_reached P (P.base + 11) (nI k) σ = some (.inl (nI a), σ) ∧ a < 256 ∧ a.testBit k = gr_W (sp_has ms) ms.length k k := by
  have l8 := h.1.2.2.1.1
  have hN := h.tx.2.2.2.2.2.2
  obtain ⟨a, g1, g2, g3⟩ := rw_re4 h ho (show k < 8 by omega) 8 0 P.N 0 (by omega) (by omega) (by omega) (fun x => by simp [gr_lv])
  refine ⟨a, g1, g2, ?_⟩
  have : (a.testBit k = true) ↔ (gr_W (sp_has ms) ms.length k k = true) := by rw [g3 k, lv_8 hk l8, W_iff hk]
  exact Bool.eq_iff_iff.mpr this
theorem rw_cr2 {P : xP} {T : xT} {hv : Nat} {lng : Bool} {ms : List xMod} {n : Nat} {σ : xS} (h : CV P T hv lng ms n σ) (ho : ∀ k m, ms[k]? = some m → OF P σ ms (8 * hv + k) m.ins) (hf : σ.I 1139 (P.base + 11) = nN) : ∀ (r k F : Nat), k + r = ms.length → r + 1 < F → dm_X12_checkRings_L2 P (P.base + 11) F (nI k) σ = some (.inl (), ft P σ (sp_rg (fun k => gr_W (sp_has ms) ms.length k k) k (ms.drop k))) := by
  obtain ⟨⟨⟨r0, hT, hv1, -⟩, h2, h3, -, h5⟩, h6, -⟩ := id h
  have l8 := h3.1
  have ok := rw_ok r0 hf
  intro r
  induction r with
  | zero =>
    intro k F hj hF
    obtain ⟨F, rfl⟩ : ∃ m, F = m + 1 := ⟨F - 1, by omega⟩
    have e : ms.drop k = [] := List.drop_eq_nil_of_le (by omega)
    have e1 : ms.length ≤ k := by omega
    rw [e]
    simp only [sp_rg]
    rw [ft_self hf]
    unfold dm_X12_checkRings_L2 dm_X12_checkRings_p59
    simp (disch := first | assumption | omega) [ck_T, sm_s, bd_l, bd_r, lt_e, eq_self, and_self, if_true, true_and, and_true, lit_nI, nI_add, nI_mul, nI_sub, nI_clamp, nI_eq, nI_ltI, nI_leI, nN_e, nI_nN, nN_nI, bI_0, bI_1, bI_n, bool_0, bool_1, in_T, lg_cmp0, ofN_nI, ri_0 r0, ri_10 r0, ri_11 r0, ri_12 r0, h6, h2, e1, x_in, dlt_T, dle_T]
  | succ r ih =>
    intro k F hj hF
    obtain ⟨F, rfl⟩ : ∃ m, F = m + 1 := ⟨F - 1, by omega⟩
    obtain ⟨m, hm⟩ : ∃ m, ms[k]? = some m := ⟨_, List.getElem?_eq_getElem (by omega)⟩
    have e1 : ¬ ms.length ≤ k := by omega
    obtain ⟨a, g1, g2, g3⟩ := rw_reached h ho (show k < ms.length by omega)
    have bg := bt_g g2 (show k < 8 by omega)
    have mp := (h.wx hm).2.2.2.2.1.1
    have t1 := hT.1
    have a1 := (h5 k m hm).1.1
    rw [g3] at bg
    rw [drop_at hm]
    simp only [sp_rg]
    by_cases e : gr_W (sp_has ms) ms.length k k = true
    · rw [if_pos e]
      have bg : ((nI a >>> (nI k &&& nI 31)) &&& nI 1 = nI 1) := by rw [bg]; exact e
      have ff : dm_X12_fail P (P.base + 11) (nI m.pl) σ = some (.inl (), fl P σ m.pl) := rw_fail r0 hf (nI m.pl)
      have fe : ft P σ m.pl = fl P σ m.pl := by unfold ft fl fI; rw [if_neg (by omega)]
      have rf := (ft_FQc (P := P) (hv := hv) (f := m.pl) (σ := σ)).ri r0
      rw [fe] at rf ⊢
      have okd := rd_ok (f := m.pl) rf (by omega) (by unfold fl; simp [q_K_setI, q_I_setI, q_J_setI, q_R_setI, q_L_setI, q_AI_setI, q_AJ_setI, q_AR_setI, q_sz_setI, q_su_setI, q_K_setJ, q_I_setJ, q_J_setJ, q_R_setJ, q_L_setJ, q_AI_setJ, q_AJ_setJ, q_AR_setJ, q_sz_setJ, q_su_setJ, q_K_setR, q_I_setR, q_J_setR, q_R_setR, q_L_setR, q_AI_setR, q_AJ_setR, q_AR_setR, q_sz_setR, q_su_setR, q_K_setAI, q_I_setAI, q_J_setAI, q_R_setAI, q_L_setAI, q_AI_setAI, q_AJ_setAI, q_AR_setAI, q_sz_setAI, q_su_setAI, q_K_setAJ, q_I_setAJ, q_J_setAJ, q_R_setAJ, q_L_setAJ, q_AI_setAJ, q_AJ_setAJ, q_AR_setAJ, q_sz_setAJ, q_su_setAJ, q_K_setAR, q_I_setAR, q_J_setAR, q_R_setAR, q_L_setAR, q_AI_setAR, q_AJ_setAR, q_AR_setAR, q_sz_setAR, q_su_setAR, q_K_newO, q_I_newO, q_J_newO, q_R_newO, q_L_newO, q_AI_newO, q_AJ_newO, q_AR_newO, q_sz_newO, q_su_newO, q_K_newA, q_I_newA, q_J_newA, q_R_newA, q_L_newA, q_AI_newA, q_AJ_newA, q_AR_newA, q_sz_newA, q_su_newA, q_K_skip, q_I_skip, q_J_skip, q_R_skip, q_L_skip, q_AI_skip, q_AJ_skip, q_AR_skip, q_sz_skip, q_su_skip, q_up2, q_up])
      obtain ⟨F, rfl⟩ : ∃ m, F = m + 1 := ⟨F - 1, by omega⟩
      have g6 : (fl P σ m.pl).I 1140 (P.base + 11) = nI hv := by unfold fl; simp [q_K_setI, q_I_setI, q_J_setI, q_R_setI, q_L_setI, q_AI_setI, q_AJ_setI, q_AR_setI, q_sz_setI, q_su_setI, q_K_setJ, q_I_setJ, q_J_setJ, q_R_setJ, q_L_setJ, q_AI_setJ, q_AJ_setJ, q_AR_setJ, q_sz_setJ, q_su_setJ, q_K_setR, q_I_setR, q_J_setR, q_R_setR, q_L_setR, q_AI_setR, q_AJ_setR, q_AR_setR, q_sz_setR, q_su_setR, q_K_setAI, q_I_setAI, q_J_setAI, q_R_setAI, q_L_setAI, q_AI_setAI, q_AJ_setAI, q_AR_setAI, q_sz_setAI, q_su_setAI, q_K_setAJ, q_I_setAJ, q_J_setAJ, q_R_setAJ, q_L_setAJ, q_AI_setAJ, q_AJ_setAJ, q_AR_setAJ, q_sz_setAJ, q_su_setAJ, q_K_setAR, q_I_setAR, q_J_setAR, q_R_setAR, q_L_setAR, q_AI_setAR, q_AJ_setAR, q_AR_setAR, q_sz_setAR, q_su_setAR, q_K_newO, q_I_newO, q_J_newO, q_R_newO, q_L_newO, q_AI_newO, q_AJ_newO, q_AR_newO, q_sz_newO, q_su_newO, q_K_newA, q_I_newA, q_J_newA, q_R_newA, q_L_newA, q_AI_newA, q_AJ_newA, q_AR_newA, q_sz_newA, q_su_newA, q_K_skip, q_I_skip, q_J_skip, q_R_skip, q_L_skip, q_AI_skip, q_AJ_skip, q_AR_skip, q_sz_skip, q_su_skip, q_up2, q_up, h6]
      have g2' : (fl P σ m.pl).AI (P.base + 15) hv = nI ms.length := h2
      have nx : dm_X12_checkRings_L2 P (P.base + 11) (F + 1) (nI (k + 1)) (fl P σ m.pl) = some (.inl (), fl P σ m.pl) := by
        unfold dm_X12_checkRings_L2 dm_X12_checkRings_p59
        by_cases z : ms.length ≤ k + 1
        · simp (disch := first | assumption | omega) [ck_T, sm_s, bd_l, bd_r, lt_e, eq_self, and_self, if_true, true_and, and_true, lit_nI, nI_add, nI_mul, nI_sub, nI_clamp, nI_eq, nI_ltI, nI_leI, nN_e, nI_nN, nN_nI, bI_0, bI_1, bI_n, bool_0, bool_1, in_T, lg_cmp0, ofN_nI, ri_0 rf, ri_10 rf, ri_11 rf, ri_12 rf, g6, g2', z, x_in, dlt_T, dle_T]
        · simp (disch := first | assumption | omega) [ck_T, sm_s, bd_l, bd_r, lt_e, eq_self, and_self, if_true, true_and, and_true, lit_nI, nI_add, nI_mul, nI_sub, nI_clamp, nI_eq, nI_ltI, nI_leI, nN_e, nI_nN, nN_nI, bI_0, bI_1, bI_n, bool_0, bool_1, in_T, lg_cmp0, ofN_nI, ri_0 rf, ri_10 rf, ri_11 rf, ri_12 rf, g6, g2', z, okd, x_in, dlt_T, dle_T]
      conv => lhs; unfold dm_X12_checkRings_L2 dm_X12_checkRings_p53
      simp (disch := first | assumption | omega) [ck_T, sm_s, bd_l, bd_r, lt_e, eq_self, and_self, if_true, true_and, and_true, lit_nI, nI_add, nI_mul, nI_sub, nI_clamp, nI_eq, nI_ltI, nI_leI, nN_e, nI_nN, nN_nI, bI_0, bI_1, bI_n, bool_0, bool_1, in_T, lg_cmp0, ofN_nI, ri_0 r0, ri_10 r0, ri_11 r0, ri_12 r0, ri_13 r0, ri_14 r0, ri_15 r0, h6, h2, e1, ok, g1, bg, a1, ff, nx, x_in, dlt_T, dle_T]
    · rw [if_neg e]
      have bg : ¬ ((nI a >>> (nI k &&& nI 31)) &&& nI 1 = nI 1) := by rw [bg]; exact e
      rw [← ih (k + 1) F (by omega) (by omega)]
      conv => lhs; unfold dm_X12_checkRings_L2 dm_X12_checkRings_p53
      simp (disch := first | assumption | omega) [ck_T, sm_s, bd_l, bd_r, lt_e, eq_self, and_self, if_true, true_and, and_true, lit_nI, nI_add, nI_mul, nI_sub, nI_clamp, nI_eq, nI_ltI, nI_leI, nN_e, nI_nN, nN_nI, bI_0, bI_1, bI_n, bool_0, bool_1, in_T, lg_cmp0, ofN_nI, ri_0 r0, ri_10 r0, ri_11 r0, ri_12 r0, h6, h2, e1, ok, g1, bg, x_in, dlt_T, dle_T]
theorem rw_checkRings {P : xP} {T : xT} {hv : Nat} {lng : Bool} {ms : List xMod} {n : Nat} {σ : xS} (h : CV P T hv lng ms n σ) (ho : ∀ k m, ms[k]? = some m → OF P σ ms (8 * hv + k) m.ins) (hf : σ.I 1139 (P.base + 11) = nN) : dm_X12_checkRings P (P.base + 11) σ = some (.inl (), ft P σ (sp_rg (fun k => gr_W (sp_has ms) ms.length k k) 0 ms)) := by
  have l8 := h.1.2.2.1.1
  have hN := h.tx.2.2.2.2.2.2
  have := rw_cr2 h ho hf ms.length 0 P.N (by omega) (by omega)
  rw [List.drop_zero] at this
  exact this
