/-! ===== questions: bits ===== -/
theorem bin_bit : ∀ (n : Nat) (ds : List Nat), ds.length = n → (∀ c ∈ ds, c = 48 ∨ c = 49) → ∀ b, b < n → Nat.testBit (sp_bin ds) b = decide (ds.getD (n - 1 - b) 0 = 49)
  | 0, _, _, _, b, hb => by omega
  | n + 1, ds, hl, hd, b, hb => by
    rcases List.eq_nil_or_concat ds with e | ⟨l, c, e⟩
    · subst e; simp at hl
    · subst e
      simp only [List.concat_eq_append] at *
      have hl' : l.length = n := by simpa using hl
      rw [sp_bin_snoc]
      have hc := hd c (by simp)
      cases b with
      | zero =>
        have e1 : (l ++ [c]).getD (n + 1 - 1 - 0) 0 = c := by
          rw [List.getD_eq_getElem?_getD, show n + 1 - 1 - 0 = l.length by omega, List.getElem?_append_right (Nat.le_refl _)]
          simp
        rw [e1, Nat.testBit_zero]
        rcases hc with q | q
        · subst q; simp
        · subst q; simp
      | succ b =>
        have e1 : (l ++ [c]).getD (n + 1 - 1 - (b + 1)) 0 = l.getD (n - 1 - b) 0 := by
          rw [List.getD_eq_getElem?_getD, List.getD_eq_getElem?_getD, show n + 1 - 1 - (b + 1) = n - 1 - b by omega, List.getElem?_append_left (by omega)]
        rw [e1, Nat.testBit_succ, show (sp_bin l * 2 + (c - 48)) / 2 = sp_bin l by omega]
        exact bin_bit n l hl' (fun x hx => hd x (by simp [hx])) b (by omega)
def sp_first (ns : List xNet) (nm : List Nat) : Nat := sp_fb ns (ns.findIdx fun x => decide (x.1 = nm))
def sp_bit (m : xMod) (r : xPart) (b : Nat) : Int32 := if r.1 = 3 then (if r.2.2.2.2.2.getD (r.2.2.2.2.2.length - 1 - b) 0 = 49 then -nI 3 else -nI 2) else nI (sp_first m.nets r.2.2.1 + r.2.2.2.2.1 + b)
theorem find_idx {ns : List xNet} {nm : List Nat} {y : xNet} (h : sp_find ns nm = some y) : ns[ns.findIdx fun x => decide (x.1 = nm)]? = some y := by
  unfold sp_find at h
  rw [List.find?_eq_some_iff_getElem] at h
  obtain ⟨h1, i, h2, h3, h4⟩ := h
  have : (ns.findIdx fun x => decide (x.1 = nm)) = i := by
    rw [List.findIdx_eq h2]
    refine ⟨by rw [h3]; exact h1, fun j hj => ?_⟩
    have := h4 j hj
    simpa using this
  rw [this, List.getElem?_eq_getElem h2, h3]
theorem cw_bitAt {P : xP} {σ : xS} {g : List Nat → Nat} {kd : List Nat → Option Nat} {hi lo2 hi2 ix M a : Nat} {m : xMod} {r : xPart} (h : PartR σ g lo2 hi2 a r) (hm : MR σ g kd ix M hi m) (hf : FBR σ g M m) (hw : PW m.nets r) (hn : NW m.nets) {b : Nat} (hb : b < sp_w r) : dm_X6_bitAt P a (nI b) σ = some (.inl (sp_bit m r b), σ) := by
  obtain ⟨h1, h2, h3, h4, h5, h6, h7, h8, h9⟩ := h
  have pb := PW_b hn hw
  have w8 : sp_w r ≤ 8 := by unfold sp_w; omega
  unfold dm_X6_bitAt dm_X6_bitAt_p26 sp_bit
  rcases hw with ⟨p1, p2, p3, p4, p5, p6, p7⟩ | ⟨p1, p2, y, p3, p4, p5, p6, p7, p8⟩
  · rw [if_pos p1]
    rw [if_pos p1] at h6
    have sb := sp_bin_le _ p5
    have s7 : sp_bin r.2.2.2.2.2 < 256 := by
      have : 2 ^ r.2.2.2.2.2.length ≤ 2 ^ 7 := Nat.pow_le_pow_right (by omega) p4
      omega
    have wl : sp_w r = r.2.2.2.2.2.length := by unfold sp_w; omega
    have bg := bt_g s7 (show b < 8 by omega)
    rw [bin_bit _ _ rfl p5 b (by omega)] at bg
    simp only [decide_eq_true_eq] at bg
    generalize r.2.2.2.2.2.getD (r.2.2.2.2.2.length - 1 - b) 0 = dg at bg ⊢
    by_cases e : dg = 49
    · rw [if_pos e]
      simp (disch := first | assumption | omega) [ck_T, sm_s, bd_l, bd_r, lt_e, eq_self, and_self, if_true, true_and, and_true, lit_nI, nI_add, nI_mul, nI_sub, nI_clamp, nI_eq, nI_ltI, nI_leI, nN_e, nI_nN, nN_nI, bI_0, bI_1, bI_n, bool_0, bool_1, in_T, lg_cmp0, ofN_nI, h3, h6, h9, bg, e]
    · rw [if_neg e]
      simp (disch := first | assumption | omega) [ck_T, sm_s, bd_l, bd_r, lt_e, eq_self, and_self, if_true, true_and, and_true, lit_nI, nI_add, nI_mul, nI_sub, nI_clamp, nI_eq, nI_ltI, nI_leI, nN_e, nI_nN, nN_nI, bI_0, bI_1, bI_n, bool_0, bool_1, in_T, lg_cmp0, ofN_nI, h3, h6, h9, bg, e]
  · have n3 : ¬ r.1 = 3 := by omega
    rw [if_neg n3]
    rw [if_neg n3] at h6
    have fi := find_idx p3
    have yn := (sp_find_mem p3).2
    have kk := (hm.2.2.2.2.1 _ y fi).2.2.2.1
    have f1 := hf.2 _ y fi
    rw [yn] at kk f1
    simp (disch := first | assumption | omega) [ck_T, sm_s, bd_l, bd_r, lt_e, eq_self, and_self, if_true, true_and, and_true, lit_nI, nI_add, nI_mul, nI_sub, nI_clamp, nI_eq, nI_ltI, nI_leI, nN_e, nI_nN, nN_nI, bI_0, bI_1, bI_n, bool_0, bool_1, in_T, lg_cmp0, ofN_nI, h3, h6, h8, kk, f1, sp_first]
noncomputable def aq_ins (ms : List xMod) (a k what : Int32) : Option Int32 := match aq_at ms xMod.ins a k with
  | none => none
  | some q => if what = nI 0 then some (match pn_mod ms q.2.2.2 with
    | none => nN
    | some z => nI z.1) else if what = nI 1 then some (nI (pn_cnt ms q.2.2.2)) else if what = nI 2 then some (nI q.2.2.2.2.2.1) else if what = nI 3 then some (bI q.2.2.2.2.2.2.1) else none
theorem cw_instance {P : xP} {σ : xS} {D : Nat} {A H : Nat → Nat} {G : Nat → List Nat → Nat} {ms : List xMod} {top : Nat} (C : CI P σ) (hD : σ.R 1004 P.base = some D) (hd : DD P σ D A H G ms top) (hmis : sp_mis ms = 1001) (hR : Rm P σ 1) (a k what : Int32) : Ans σ (dm_X11_instance P P.base a k what σ) (aq_ins ms a k what) := by
  have ma := cw_instanceAt C hD hd hR a k
  have kB := ci_0 C
  obtain ⟨r1, r2⟩ := hR
  unfold dm_X11_instance aq_ins
  cases e : aq_at ms xMod.ins a k with
  | none =>
    rw [e] at ma
    have ma : dm_X11_instanceAt P P.base a k σ = some (.inr IOE, σ.skip 6) := ma
    show _ = _
    simp only [kB, ck_T, ma, bd_r]
  | some q =>
    rw [e] at ma
    obtain ⟨i, m, j, x⟩ := q
    obtain ⟨hm, hj⟩ := aq_at_get e
    simp only at hm hj
    obtain ⟨b, ma, ir⟩ := ma
    have ok : IOK P σ D A H G ms top (G i) (A i + 5) (H i) b m x := ⟨hd, hmis, List.mem_of_getElem? hm, List.mem_of_getElem? hj, ir⟩
    have pc := cw_pinCount ok
    obtain ⟨⟨lng, -, dr, hc, hx⟩, ac, bd⟩ := hd
    obtain ⟨h1, h2', h3, h4, h5, h6, h7, h8, h9, h10, h11, h12, h13, h14⟩ := ir
    simp only at h3 h6 h7 h12
    simp only
    by_cases e0 : what = nI 0
    · rw [if_pos e0]
      show _ = _
      unfold dm_X11_instance_p60
      rcases pn_get (ms := ms) (i := x) with ⟨q1, q2⟩ | ⟨j, k, q1, q2, q3⟩
      · rw [q2]
        simp only [q1, Option.map_none] at h12
        simp (disch := first | assumption | omega) [ck_T, sm_s, bd_l, bd_r, lt_e, eq_self, and_self, if_true, true_and, and_true, lit_nI, nI_add, nI_mul, nI_sub, nI_clamp, nI_eq, nI_ltI, nI_leI, nN_e, nI_nN, nN_nI, bI_0, bI_1, bI_n, bool_0, bool_1, in_T, lg_cmp0, ofN_nI, kB, ma, e0, h3, h12]
      · rw [q3]
        simp only [q1, Option.map_some] at h12
        have km := (dr.2 j k q2).2.2.2.2.2.1
        have kk := km.1.2.1
        have ki := km.1.2.2.1
        simp (disch := first | assumption | omega) [ck_T, sm_s, bd_l, bd_r, lt_e, eq_self, and_self, if_true, true_and, and_true, lit_nI, nI_add, nI_mul, nI_sub, nI_clamp, nI_eq, nI_ltI, nI_leI, nN_e, nI_nN, nN_nI, bI_0, bI_1, bI_n, bool_0, bool_1, in_T, lg_cmp0, ofN_nI, kB, ma, e0, h3, h12, kk, ki]
    · rw [if_neg e0]
      by_cases e1 : what = nI 1
      · rw [if_pos e1]
        show _ = _
        simp (disch := first | assumption | omega) [ck_T, sm_s, bd_l, bd_r, lt_e, eq_self, and_self, if_true, true_and, and_true, lit_nI, nI_add, nI_mul, nI_sub, nI_clamp, nI_eq, nI_ltI, nI_leI, nN_e, nI_nN, nN_nI, bI_0, bI_1, bI_n, bool_0, bool_1, in_T, lg_cmp0, ofN_nI, kB, ma, e1, h3, pc]
      · rw [if_neg e1]
        by_cases e2 : what = nI 2
        · rw [if_pos e2]
          show _ = _
          simp (disch := first | assumption | omega) [ck_T, sm_s, bd_l, bd_r, lt_e, eq_self, and_self, if_true, true_and, and_true, lit_nI, nI_add, nI_mul, nI_sub, nI_clamp, nI_eq, nI_ltI, nI_leI, nN_e, nI_nN, nN_nI, bI_0, bI_1, bI_n, bool_0, bool_1, in_T, lg_cmp0, ofN_nI, kB, ma, e2, h3, h6]
        · rw [if_neg e2]
          by_cases e3 : what = nI 3
          · rw [if_pos e3]
            show _ = _
            unfold dm_X11_instance_p86
            cases z : x.2.2.2.1 with
            | true =>
              rw [z] at h7
              simp (disch := first | assumption | omega) [ck_T, sm_s, bd_l, bd_r, lt_e, eq_self, and_self, if_true, true_and, and_true, lit_nI, nI_add, nI_mul, nI_sub, nI_clamp, nI_eq, nI_ltI, nI_leI, nN_e, nI_nN, nN_nI, bI_0, bI_1, bI_n, bool_0, bool_1, in_T, lg_cmp0, ofN_nI, kB, ma, e3, h3, h7, bI_tt]
            | false =>
              rw [z] at h7
              simp (disch := first | assumption | omega) [ck_T, sm_s, bd_l, bd_r, lt_e, eq_self, and_self, if_true, true_and, and_true, lit_nI, nI_add, nI_mul, nI_sub, nI_clamp, nI_eq, nI_ltI, nI_leI, nN_e, nI_nN, nN_nI, bI_0, bI_1, bI_n, bool_0, bool_1, in_T, lg_cmp0, ofN_nI, kB, ma, e3, h3, h7, bI_ff]
          · rw [if_neg e3]
            show _ = _
            simp (disch := first | assumption | omega) [ck_T, sm_s, bd_l, bd_r, lt_e, eq_self, and_self, if_true, true_and, and_true, lit_nI, nI_add, nI_mul, nI_sub, nI_clamp, nI_eq, nI_ltI, nI_leI, nN_e, nI_nN, nN_nI, bI_0, bI_1, bI_n, bool_0, bool_1, in_T, lg_cmp0, ofN_nI, kB, ma, e0, e1, e2, e3, dle_T, IOE]
def aq_joined (ms : List xMod) (a k p b : Int32) : Option Int32 := match aq_at ms xMod.ins a k with
  | none => none
  | some q => match aI p with
    | none => none
    | some pin => if pin < pn_cnt ms q.2.2.2 then (match aI b with
      | none => none
      | some bit => if bit < pn_w ms q.2.2.2 pin then some (match pn_pt ms q.2.2.2 pin with
        | none => nN
        | some r => sp_bit q.2.1 r bit) else none) else none
theorem imisL_at {k : xMod} {byN : Bool} : ∀ (ls : List xLnk) (j : Nat), sp_imisL k byN j ls = 1001 → ∀ p l, ls[p]? = some l → sp_lmis (if byN = true then sp_find k.ports l.1 else k.ports[j + p]?) l = 1001
  | [], _, _, p, l, h => by simp at h
  | y :: ls, j, h, p, l, hl => by
    simp only [sp_imisL] at h
    by_cases e : sp_lmis (if byN = true then sp_find k.ports y.1 else k.ports[j]?) y = 1001
    · rw [if_pos e] at h
      cases p with
      | zero =>
        simp only [List.getElem?_cons_zero, Option.some.injEq] at hl
        subst hl
        exact e
      | succ p =>
        have := imisL_at ls (j + 1) h p l (by simpa using hl)
        rw [show j + (p + 1) = j + 1 + p by omega]
        exact this
    · rw [if_neg e] at h
      exact absurd h e
/-- without misfits a link is as wide as its port -/
theorem mis_lnk {ms : List xMod} (h : sp_mis ms = 1001) {m : xMod} (hm : m ∈ ms) {i : xIns} (hi : i ∈ m.ins) {lng : Bool} {q : Nat} (hx : DX lng ms q) (hq : q ≤ 1001) {j : Nat} {k : xMod} (h1 : sp_kind ms i.1 = some j) (h2 : ms[j]? = some k) {p : Nat} {l : xLnk} (hl : i.2.2.2.2[p]? = some l) : ∃ x, (if i.2.2.2.1 = true then sp_find k.ports l.1 else k.ports[p]?) = some x ∧ ∀ r, l.2.2 = some r → sp_w r = x.2.2 := by
  have a1 : sp_mis ms ≤ sp_mmis ms m := foldl_min_le _ _ _ (List.mem_map.mpr ⟨m, hm, rfl⟩)
  have a2 : sp_mmis ms m ≤ sp_imis ms i := foldl_min_le _ _ _ (List.mem_map.mpr ⟨i, hi, rfl⟩)
  have ix := ((hx.2.2.1 m hm).1.2.2.2.2.1.2.2 i hi).2
  have a3 := imis_le (ms := ms) hq ix
  have a4 : sp_imis ms i = 1001 := by omega
  unfold sp_imis at a4
  simp only [h1, h2] at a4
  have lm := ix.1.1 l (List.mem_of_getElem? hl)
  split at a4
  · have := ix.2.2.2; omega
  · have a5 := imisL_at _ 0 a4 p l hl
    rw [Nat.zero_add] at a5
    generalize (if i.2.2.2.1 = true then sp_find k.ports l.1 else k.ports[p]?) = po at a5 ⊢
    cases po with
    | none =>
      have : sp_lmis none l = l.2.1 := rfl
      omega
    | some x =>
      refine ⟨x, rfl, fun r hr => ?_⟩
      unfold sp_lmis at a5
      simp only [hr] at a5
      split at a5
      · assumption
      · have := lm.2.2 r hr
        omega
theorem find_nodup {ns : List xNet} (hd : (ns.map fun x => x.1).Nodup) {p : Nat} {x : xNet} (h : ns[p]? = some x) : sp_find ns x.1 = some x := by
  cases e : sp_find ns x.1 with
  | none => exact absurd rfl (find_not e x (List.mem_of_getElem? h))
  | some y =>
    have f := find_idx e
    have yn := (sp_find_mem e).2
    have l1 : (ns.map fun x => x.1)[ns.findIdx fun z => decide (z.1 = x.1)]? = some x.1 := by simp [f, yn]
    have l2 : (ns.map fun x => x.1)[p]? = some x.1 := by simp [h]
    have := (List.getElem?_inj (get_lt l1) hd).mp (l1.trans l2.symm)
    rw [this, h] at f
    exact f.symm
theorem ports_nodup {lng : Bool} {m : xMod} {p : Nat} (h : WX lng m p) : (m.ports.map fun x => x.1).Nodup := by
  have := h.1.2.2.2.2
  simp only [xMod.nets, List.map_append] at this
  exact (List.nodup_append.mp this).1
theorem pn_wle {ms : List xMod} (h : sp_mis ms = 1001) {m : xMod} (hm : m ∈ ms) {i : xIns} (hi : i ∈ m.ins) {lng : Bool} {q : Nat} (hx : DX lng ms q) (hq : q ≤ 1001) {p : Nat} (hp : p < pn_cnt ms i) {r : xPart} (hr : pn_pt ms i p = some r) : pn_w ms i p ≤ sp_w r := by
  unfold pn_cnt at hp
  unfold pn_pt at hr
  unfold pn_w
  rcases pn_get (ms := ms) (i := i) with ⟨q1, q2⟩ | ⟨j, k, q1, q2, q3⟩
  · rw [q2] at hp hr ⊢
    simp only at hp hr ⊢
    cases el : i.2.2.2.2[p]? with
    | none => rw [el] at hr; cases hr
    | some l =>
      rw [el] at hr
      have hr : l.2.2 = some r := hr
      unfold pn_lw
      simp only [hr]
      exact Nat.le_refl _
  · rw [q3] at hp hr ⊢
    simp only at hp hr ⊢
    have pd := ports_nodup (hx.2.2.1 k (List.mem_of_getElem? q2)).1
    obtain ⟨y, hy⟩ : ∃ y, k.ports[p]? = some y := ⟨_, List.getElem?_eq_getElem hp⟩
    rw [hy] at hr ⊢
    simp only at hr ⊢
    cases e : i.2.2.2.1 with
    | true =>
      simp only [e, if_true] at hr
      cases el : i.2.2.2.2.find? (fun l => decide (l.1 = y.1)) with
      | none => rw [el] at hr; cases hr
      | some l =>
        rw [el] at hr
        have hr : l.2.2 = some r := hr
        have ln : l.1 = y.1 := by simpa using List.find?_some el
        obtain ⟨t, ht⟩ := List.getElem?_of_mem (List.mem_of_find?_eq_some el)
        obtain ⟨x, hx1, hx2⟩ := mis_lnk h hm hi hx hq q1 q2 ht
        rw [e] at hx1
        simp only [if_true] at hx1
        rw [ln, find_nodup pd hy] at hx1
        cases hx1
        rw [hx2 r hr]
        exact Nat.le_refl _
    | false =>
      simp only [e, Bool.false_eq_true, if_false] at hr
      cases el : i.2.2.2.2[p]? with
      | none => rw [el] at hr; cases hr
      | some l =>
        rw [el] at hr
        have hr : l.2.2 = some r := hr
        obtain ⟨x, hx1, hx2⟩ := mis_lnk h hm hi hx hq q1 q2 el
        rw [e] at hx1
        simp only [Bool.false_eq_true, if_false] at hx1
        rw [hy] at hx1
        cases hx1
        rw [hx2 r hr]
        exact Nat.le_refl _
theorem cw_joined {P : xP} {σ : xS} {D : Nat} {A H : Nat → Nat} {G : Nat → List Nat → Nat} {ms : List xMod} {top : Nat} (C : CI P σ) (hD : σ.R 1004 P.base = some D) (hd : DD P σ D A H G ms top) (hmis : sp_mis ms = 1001) (hR : Rm P σ 1) (a k p b : Int32) : Ans σ (dm_X11_joined P P.base a k p b σ) (aq_joined ms a k p b) := by
  have ma := cw_instanceAt C hD hd hR a k
  have kB := ci_0 C
  obtain ⟨r1, r2⟩ := hR
  unfold dm_X11_joined dm_X11_joined_p25 dm_X11_joined_p26 dm_X11_joined_p49 dm_X11_joined_p50 dm_X11_joined_p77 dm_X11_refuseUnless aq_joined
  cases e : aq_at ms xMod.ins a k with
  | none =>
    rw [e] at ma
    have ma : dm_X11_instanceAt P P.base a k σ = some (.inr IOE, σ.skip 6) := ma
    show _ = _
    simp only [kB, ck_T, ma, bd_r]
  | some q =>
    rw [e] at ma
    obtain ⟨i, m, j, x⟩ := q
    obtain ⟨hm, hj⟩ := aq_at_get e
    simp only at hm hj
    obtain ⟨c, ma, ir⟩ := ma
    have mm := List.mem_of_getElem? hm
    have ok : IOK P σ D A H G ms top (G i) (A i + 5) (H i) c m x := ⟨hd, hmis, mm, List.mem_of_getElem? hj, ir⟩
    have pc := cw_pinCount ok
    have kc : σ.K c = 2 := ir.2.2.1
    simp only
    rcases i32_cases p with ⟨h1, h2⟩ | ⟨pin, h1, h2, h3⟩
    · rw [h2]
      show _ = _
      simp (disch := first | assumption | omega) [ck_T, sm_s, bd_l, bd_r, lt_e, eq_self, and_self, if_true, true_and, and_true, lit_nI, nI_add, nI_mul, nI_sub, nI_clamp, nI_eq, nI_ltI, nI_leI, nN_e, nI_nN, nN_nI, bI_0, bI_1, bI_n, bool_0, bool_1, in_T, lg_cmp0, ofN_nI, kB, ma, h1, dle_T, IOE]
    · subst h2
      rw [h3]
      simp only
      have cb : pn_cnt ms x ≤ 16 := by
        unfold pn_cnt
        obtain ⟨⟨lng, -, dr, hc, hx⟩, ac, bd⟩ := hd
        rcases pn_get (ms := ms) (i := x) with ⟨q1, q2⟩ | ⟨j, k, q1, q2, q3⟩
        · rw [q2]; exact ir.2.2.2.2.2.2.2.2.2.2.2.2.1
        · rw [q3]
          have := (hx.2.2.1 k (List.mem_of_getElem? q2)).1.2.2.2.1.1
          simp only [xMod.nets, List.length_append] at this
          simp only
          omega
      by_cases z : pin < pn_cnt ms x
      · rw [if_pos z]
        have z' : ¬ pn_cnt ms x ≤ pin := by omega
        have pw := cw_pinWidth ok z
        have wb : pn_w ms x pin < 2 ^ 31 := by
          unfold pn_w
          obtain ⟨⟨lng, -, dr, hc, hx⟩, ac, bd⟩ := hd
          rcases pn_get (ms := ms) (i := x) with ⟨q1, q2⟩ | ⟨j, k, q1, q2, q3⟩
          · rw [q2]
            simp only
            unfold pn_lw
            split
            · omega
            · rename_i l hl
              split
              · omega
              · rename_i r hr
                have hpar := ok.parts (List.mem_of_getElem? hl) hr
                have := PW_b hpar.2.1 hpar.1
                unfold sp_w
                omega
          · rw [q3]
            simp only
            split
            · omega
            · rename_i y hy
              have := ((hx.2.2.1 k (List.mem_of_getElem? q2)).1.2.1.1 y (List.mem_of_getElem? (ports_nets hy))).2.2.1
              omega
        rcases i32_cases b with ⟨g1, g2⟩ | ⟨bit, g1, g2, g3⟩
        · rw [g2]
          show _ = _
          simp (disch := first | assumption | omega) [ck_T, sm_s, bd_l, bd_r, lt_e, eq_self, and_self, if_true, true_and, and_true, lit_nI, nI_add, nI_mul, nI_sub, nI_clamp, nI_eq, nI_ltI, nI_leI, nN_e, nI_nN, nN_nI, bI_0, bI_1, bI_n, bool_0, bool_1, in_T, lg_cmp0, ofN_nI, kB, ma, z', kc, pc, g1, dle_T, IOE]
        · subst g2
          rw [g3]
          simp only
          by_cases y : bit < pn_w ms x pin
          · rw [if_pos y]
            have y' : ¬ pn_w ms x pin ≤ bit := by omega
            obtain ⟨v, v1, v2⟩ := cw_partAt ok z
            show _ = _
            cases ep : pn_pt ms x pin with
            | none =>
              have hv : v = none := by
                rw [ep] at v2
                cases v with
                | none => rfl
                | some u => exact v2.elim
              subst hv
              simp (disch := first | assumption | omega) [ck_T, sm_s, bd_l, bd_r, lt_e, eq_self, and_self, if_true, true_and, and_true, lit_nI, nI_add, nI_mul, nI_sub, nI_clamp, nI_eq, nI_ltI, nI_leI, nN_e, nI_nN, nN_nI, bI_0, bI_1, bI_n, bool_0, bool_1, in_T, lg_cmp0, ofN_nI, kB, ma, z', kc, pc, pw, y', v1]
            | some r =>
              rw [ep] at v2
              cases v with
              | none => exact v2.elim
              | some u =>
                have pr : PartR σ (G i) (c + 2) (H i) u r := v2
                have ku := pr.2.2.1
                obtain ⟨⟨lng, -, dr, hc, hx⟩, ac, bd⟩ := hd
                have di := dr.2 i m hm
                -- the part is one of the instance's links
                have hl : ∃ l ∈ x.2.2.2.2, l.2.2 = some r := by
                  unfold pn_pt at ep
                  have ord : ((x.2.2.2.2[pin]?).bind fun l => l.2.2) = some r → ∃ l ∈ x.2.2.2.2, l.2.2 = some r := by
                    intro w
                    cases el : x.2.2.2.2[pin]? with
                    | none => rw [el] at w; cases w
                    | some l => rw [el] at w; exact ⟨l, List.mem_of_getElem? el, w⟩
                  split at ep
                  · exact ord ep
                  · split at ep
                    · split at ep
                      · cases ep
                      · rename_i t _
                        cases el : x.2.2.2.2.find? (fun l => decide (l.1 = t.1)) with
                        | none => rw [el] at ep; cases ep
                        | some l => rw [el] at ep; exact ⟨l, List.mem_of_find?_eq_some el, ep⟩
                    · exact ord ep
                obtain ⟨l, hl1, hl2⟩ := hl
                have hpar := ok.parts hl1 hl2
                -- and it is as wide as the pin
                have hwd : pn_w ms x pin ≤ sp_w r := by
                  exact pn_wle hmis mm (List.mem_of_getElem? hj) hx (by omega) z ep
                have bt := cw_bitAt (P := P) pr di.2.2.2.2.2.1 di.2.2.2.2.2.2 hpar.1 hpar.2.1 (b := bit) (by omega)
                simp (disch := first | assumption | omega) [ck_T, sm_s, bd_l, bd_r, lt_e, eq_self, and_self, if_true, true_and, and_true, lit_nI, nI_add, nI_mul, nI_sub, nI_clamp, nI_eq, nI_ltI, nI_leI, nN_e, nI_nN, nN_nI, bI_0, bI_1, bI_n, bool_0, bool_1, in_T, lg_cmp0, ofN_nI, kB, ma, z', kc, pc, pw, y', v1, ku, bt]
          · rw [if_neg y]
            have y' : pn_w ms x pin ≤ bit := by omega
            show _ = _
            simp (disch := first | assumption | omega) [ck_T, sm_s, bd_l, bd_r, lt_e, eq_self, and_self, if_true, true_and, and_true, lit_nI, nI_add, nI_mul, nI_sub, nI_clamp, nI_eq, nI_ltI, nI_leI, nN_e, nI_nN, nN_nI, bI_0, bI_1, bI_n, bool_0, bool_1, in_T, lg_cmp0, ofN_nI, kB, ma, z', kc, pc, pw, y', dle_T, IOE]
      · rw [if_neg z]
        have z' : pn_cnt ms x ≤ pin := by omega
        show _ = _
        simp (disch := first | assumption | omega) [ck_T, sm_s, bd_l, bd_r, lt_e, eq_self, and_self, if_true, true_and, and_true, lit_nI, nI_add, nI_mul, nI_sub, nI_clamp, nI_eq, nI_ltI, nI_leI, nN_e, nI_nN, nN_nI, bI_0, bI_1, bI_n, bool_0, bool_1, in_T, lg_cmp0, ofN_nI, kB, ma, z', kc, pc, dle_T, IOE]
