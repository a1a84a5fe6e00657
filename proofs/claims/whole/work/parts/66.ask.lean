/-! ===== questions ===== -/
def aI (k : Int32) : Option Nat := if k < nI 0 then none else some k.toNatClampNeg
theorem i32_cases (v : Int32) : (v < nI 0 ∧ aI v = none) ∨ ∃ k, k < 2 ^ 31 ∧ v = nI k ∧ aI v = some k := by
  by_cases h : v < nI 0
  · exact Or.inl ⟨h, if_pos h⟩
  · right
    have h1 : ¬ v.toInt < 0 := fun z => h (Int32.lt_iff_toInt_lt.mpr (by rw [show (nI 0).toInt = 0 by decide]; exact z))
    have h2 : v.toInt < 2 ^ 31 := Int32.toInt_lt v
    have h3 : v.toInt.toNat < 2 ^ 31 := by omega
    have h4 : v = nI v.toInt.toNat := by
      apply Int32.toInt_inj.mp
      rw [nI_toInt h3]
      omega
    refine ⟨v.toInt.toNat, h3, h4, ?_⟩
    unfold aI
    rw [if_neg h]
    congr 1
def aq_m (ms : List xMod) (k : Int32) : Option (Nat × xMod) := match aI k with
  | none => none
  | some i => (ms[i]?).map fun m => (i, m)
theorem aq_m_get {ms : List xMod} {k : Int32} {q : Nat × xMod} (h : aq_m ms k = some q) : ms[q.1]? = some q.2 := by
  unfold aq_m at h
  split at h
  · cases h
  · rename_i i _
    cases e : ms[i]? with
    | none => rw [e] at h; cases h
    | some m => rw [e] at h; cases h; exact e
theorem cw_moduleAt {P : xP} {σ : xS} {D : Nat} {A H : Nat → Nat} {G : Nat → List Nat → Nat} {ms : List xMod} {top : Nat} (C : CI P σ) (hD : σ.R 1004 P.base = some D) (hd : DD P σ D A H G ms top) (hR : Rm P σ 1) (v : Int32) : dm_X11_moduleAt P P.base v σ = match aq_m ms v with
    | none => some (.inr IOE, σ.skip 6)
    | some q => some (.inl (some (A q.1)), σ) := by
  obtain ⟨⟨lng, -, dr, hc, hx⟩, -⟩ := hd
  obtain ⟨a1, a2, a3, a4, a5, a6, a7⟩ := dr.1
  have l8 := hx.1
  have kB := ci_0 C
  obtain ⟨r1, r2⟩ := hR
  unfold dm_X11_moduleAt dm_X11_moduleAt_p19 dm_X11_moduleAt_p20 dm_X11_refuseUnless
  rcases i32_cases v with ⟨h1, h2⟩ | ⟨k, h1, h2, h3⟩
  · have e : aq_m ms v = none := by unfold aq_m; rw [h2]
    rw [e]
    simp (disch := first | assumption | omega) [ck_T, sm_s, bd_l, bd_r, lt_e, eq_self, and_self, if_true, true_and, and_true, lit_nI, nI_add, nI_mul, nI_sub, nI_clamp, nI_eq, nI_ltI, nI_leI, nN_e, nI_nN, nN_nI, bI_0, bI_1, bI_n, bool_0, bool_1, in_T, lg_cmp0, ofN_nI, h1, dle_T, IOE]
  · subst h2
    have hk := h3
    by_cases z : ms.length ≤ k
    · have e : aq_m ms (nI k) = none := by unfold aq_m; rw [h3]; simp only; rw [List.getElem?_eq_none z]; rfl
      rw [e]
      simp (disch := first | assumption | omega) [ck_T, sm_s, bd_l, bd_r, lt_e, eq_self, and_self, if_true, true_and, and_true, lit_nI, nI_add, nI_mul, nI_sub, nI_clamp, nI_eq, nI_ltI, nI_leI, nN_e, nI_nN, nN_nI, bI_0, bI_1, bI_n, bool_0, bool_1, in_T, lg_cmp0, ofN_nI, kB, hD, a3, hc, z, dle_T, IOE]
    · obtain ⟨m, hm⟩ : ∃ m, ms[k]? = some m := ⟨_, List.getElem?_eq_getElem (by omega)⟩
      have e : aq_m ms (nI k) = some (k, m) := by unfold aq_m; rw [h3]; simp only; rw [hm]; rfl
      rw [e]
      have q1 := (dr.2 k m hm).1
      have k8 : k < 8 := by omega
      simp (disch := first | assumption | omega) [ck_T, sm_s, bd_l, bd_r, lt_e, eq_self, and_self, if_true, true_and, and_true, lit_nI, nI_add, nI_mul, nI_sub, nI_clamp, nI_eq, nI_ltI, nI_leI, nN_e, nI_nN, nN_nI, bI_0, bI_1, bI_n, bool_0, bool_1, in_T, lg_cmp0, ofN_nI, kB, hD, a3, a4, a5, a6, hc, z, q1, x_in, dlt_T]
noncomputable def aq_module (ms : List xMod) (k what : Int32) : Option Int32 := match aq_m ms k with
  | none => none
  | some q => if what = nI 0 then some (nI q.2.ports.length) else if what = nI 1 then some (nI q.2.nets.length) else if what = nI 2 then some (nI (sp_fb q.2.nets q.2.nets.length)) else if what = nI 3 then some (nI q.2.asg.length) else if what = nI 4 then some (nI q.2.ins.length) else if what = nI 5 then some (nI (gr_D (sp_has ms) ms.length q.1)) else none
/-- an answer of the class: none if it throws -/
def Ans (σ : xS) (o : xO Int32) : Option Int32 → Prop
  | none => o = some (.inr IOE, σ.skip 6)
  | some v => o = some (.inl v, σ)
theorem cw_module {P : xP} {σ : xS} {D : Nat} {A H : Nat → Nat} {G : Nat → List Nat → Nat} {ms : List xMod} {top : Nat} (C : CI P σ) (hD : σ.R 1004 P.base = some D) (hd : DD P σ D A H G ms top) (hR : Rm P σ 1) (k what : Int32) : Ans σ (dm_X11_module P P.base k what σ) (aq_module ms k what) := by
  have ma := cw_moduleAt C hD hd hR k
  obtain ⟨⟨lng, -, dr, hc, hx⟩, ac, bd⟩ := hd
  have kB := ci_0 C
  obtain ⟨r1, r2⟩ := hR
  unfold dm_X11_module aq_module
  cases e : aq_m ms k with
  | none =>
    rw [e] at ma
    simp only at ma
    show _ = _
    simp only [kB, ck_T, ma, bd_r]
  | some q =>
    rw [e] at ma
    simp only at ma
    obtain ⟨i, m⟩ := q
    have hm := aq_m_get e
    simp only at hm
    have mr := (dr.2 i m hm).2.2.2.2.2.1
    have fb := (dr.2 i m hm).2.2.2.2.2.2.1
    have b0 := bd i (get_lt hm) trivial
    have kA := mr.1.2.1
    have i4 := mr.2.1.2.2.2.1
    have i5 := mr.2.1.2.2.2.2.1
    have i9 := mr.2.2.1.2.2.2.2.2.2.1
    have i11 := mr.2.2.2.1.2.2.2.1
    simp only
    by_cases e0 : what = nI 0
    · rw [if_pos e0]
      show _ = _
      simp (disch := first | assumption | omega) [ck_T, sm_s, bd_l, bd_r, lt_e, eq_self, and_self, if_true, true_and, and_true, lit_nI, nI_add, nI_mul, nI_sub, nI_clamp, nI_eq, nI_ltI, nI_leI, nN_e, nI_nN, nN_nI, bI_0, bI_1, bI_n, bool_0, bool_1, in_T, lg_cmp0, ofN_nI, kB, ma, e0, kA, i5]
    · rw [if_neg e0]
      by_cases e1 : what = nI 1
      · rw [if_pos e1]
        show _ = _
        simp (disch := first | assumption | omega) [ck_T, sm_s, bd_l, bd_r, lt_e, eq_self, and_self, if_true, true_and, and_true, lit_nI, nI_add, nI_mul, nI_sub, nI_clamp, nI_eq, nI_ltI, nI_leI, nN_e, nI_nN, nN_nI, bI_0, bI_1, bI_n, bool_0, bool_1, in_T, lg_cmp0, ofN_nI, kB, ma, e1, kA, i4]
      · rw [if_neg e1]
        by_cases e2 : what = nI 2
        · rw [if_pos e2]
          show _ = _
          simp (disch := first | assumption | omega) [ck_T, sm_s, bd_l, bd_r, lt_e, eq_self, and_self, if_true, true_and, and_true, lit_nI, nI_add, nI_mul, nI_sub, nI_clamp, nI_eq, nI_ltI, nI_leI, nN_e, nI_nN, nN_nI, bI_0, bI_1, bI_n, bool_0, bool_1, in_T, lg_cmp0, ofN_nI, kB, ma, e2, kA, fb]
        · rw [if_neg e2]
          by_cases e3 : what = nI 3
          · rw [if_pos e3]
            show _ = _
            simp (disch := first | assumption | omega) [ck_T, sm_s, bd_l, bd_r, lt_e, eq_self, and_self, if_true, true_and, and_true, lit_nI, nI_add, nI_mul, nI_sub, nI_clamp, nI_eq, nI_ltI, nI_leI, nN_e, nI_nN, nN_nI, bI_0, bI_1, bI_n, bool_0, bool_1, in_T, lg_cmp0, ofN_nI, kB, ma, e3, kA, i9]
          · rw [if_neg e3]
            by_cases e4 : what = nI 4
            · rw [if_pos e4]
              show _ = _
              simp (disch := first | assumption | omega) [ck_T, sm_s, bd_l, bd_r, lt_e, eq_self, and_self, if_true, true_and, and_true, lit_nI, nI_add, nI_mul, nI_sub, nI_clamp, nI_eq, nI_ltI, nI_leI, nN_e, nI_nN, nN_nI, bI_0, bI_1, bI_n, bool_0, bool_1, in_T, lg_cmp0, ofN_nI, kB, ma, e4, kA, i11]
            · rw [if_neg e4]
              by_cases e5 : what = nI 5
              · rw [if_pos e5]
                show _ = _
                simp (disch := first | assumption | omega) [ck_T, sm_s, bd_l, bd_r, lt_e, eq_self, and_self, if_true, true_and, and_true, lit_nI, nI_add, nI_mul, nI_sub, nI_clamp, nI_eq, nI_ltI, nI_leI, nN_e, nI_nN, nN_nI, bI_0, bI_1, bI_n, bool_0, bool_1, in_T, lg_cmp0, ofN_nI, kB, ma, e5, kA, b0]
              · rw [if_neg e5]
                show _ = _
                simp (disch := first | assumption | omega) [ck_T, sm_s, bd_l, bd_r, lt_e, eq_self, and_self, if_true, true_and, and_true, lit_nI, nI_add, nI_mul, nI_sub, nI_clamp, nI_eq, nI_ltI, nI_leI, nN_e, nI_nN, nN_nI, bI_0, bI_1, bI_n, bool_0, bool_1, in_T, lg_cmp0, ofN_nI, kB, ma, e0, e1, e2, e3, e4, e5, dle_T, IOE]
def aq_at {α : Type} (ms : List xMod) (f : xMod → List α) (k j : Int32) : Option (Nat × xMod × Nat × α) := match aq_m ms k with
  | none => none
  | some q => match aI j with
    | none => none
    | some i => ((f q.2)[i]?).map fun x => (q.1, q.2, i, x)
theorem aq_at_get {α : Type} {ms : List xMod} {f : xMod → List α} {k j : Int32} {q : Nat × xMod × Nat × α} (h : aq_at ms f k j = some q) : ms[q.1]? = some q.2.1 ∧ (f q.2.1)[q.2.2.1]? = some q.2.2.2 := by
  unfold aq_at at h
  split at h
  · cases h
  · rename_i p hp
    split at h
    · cases h
    · rename_i i hi
      cases e : (f p.2)[i]? with
      | none => rw [e] at h; cases h
      | some x => rw [e] at h; cases h; exact ⟨aq_m_get hp, e⟩
theorem cw_netAt {P : xP} {σ : xS} {D : Nat} {A H : Nat → Nat} {G : Nat → List Nat → Nat} {ms : List xMod} {top : Nat} (C : CI P σ) (hD : σ.R 1004 P.base = some D) (hd : DD P σ D A H G ms top) (hR : Rm P σ 1) (k v : Int32) : dm_X11_netAt P P.base k v σ = match aq_at ms xMod.nets k v with
    | none => some (.inr IOE, σ.skip 6)
    | some q => some (.inl (some (G q.1 q.2.2.2.1)), σ) := by
  have ma := cw_moduleAt C hD hd hR k
  obtain ⟨⟨lng, -, dr, hc, hx⟩, ac, bd⟩ := hd
  have kB := ci_0 C
  obtain ⟨r1, r2⟩ := hR
  unfold dm_X11_netAt dm_X11_netAt_p22 dm_X11_netAt_p23 dm_X11_refuseUnless aq_at
  cases e : aq_m ms k with
  | none =>
    rw [e] at ma
    simp only at ma
    simp only [kB, ck_T, ma, bd_r]
  | some q =>
    rw [e] at ma
    simp only at ma
    obtain ⟨i, m⟩ := q
    have hm := aq_m_get e
    simp only at hm
    have mr := (dr.2 i m hm).2.2.2.2.2.1
    obtain ⟨⟨a1, kA, a3, a4, a5⟩, ⟨b1, b2, b3, b4, b5, b6⟩, -, -, e1, -, -⟩ := mr
    simp only
    rcases i32_cases v with ⟨h1, h2⟩ | ⟨j, h1, h2, h3⟩
    · rw [h2]
      simp (disch := first | assumption | omega) [ck_T, sm_s, bd_l, bd_r, lt_e, eq_self, and_self, if_true, true_and, and_true, lit_nI, nI_add, nI_mul, nI_sub, nI_clamp, nI_eq, nI_ltI, nI_leI, nN_e, nI_nN, nN_nI, bI_0, bI_1, bI_n, bool_0, bool_1, in_T, lg_cmp0, ofN_nI, kB, ma, h1, dle_T, IOE]
    · subst h2
      rw [h3]
      simp only
      by_cases z : m.nets.length ≤ j
      · rw [List.getElem?_eq_none z]
        simp (disch := first | assumption | omega) [ck_T, sm_s, bd_l, bd_r, lt_e, eq_self, and_self, if_true, true_and, and_true, lit_nI, nI_add, nI_mul, nI_sub, nI_clamp, nI_eq, nI_ltI, nI_leI, nN_e, nI_nN, nN_nI, bI_0, bI_1, bI_n, bool_0, bool_1, in_T, lg_cmp0, ofN_nI, kB, ma, kA, b4, z, dle_T, IOE]
      · obtain ⟨x, hx⟩ : ∃ x, m.nets[j]? = some x := ⟨_, List.getElem?_eq_getElem (by omega)⟩
        have q1 := (e1 j x hx).1
        rw [hx]
        simp (disch := first | assumption | omega) [ck_T, sm_s, bd_l, bd_r, lt_e, eq_self, and_self, if_true, true_and, and_true, lit_nI, nI_add, nI_mul, nI_sub, nI_clamp, nI_eq, nI_ltI, nI_leI, nN_e, nI_nN, nN_nI, bI_0, bI_1, bI_n, bool_0, bool_1, in_T, lg_cmp0, ofN_nI, kB, ma, kA, b1, b2, b3, b4, z, q1, x_in, dlt_T]
def aq_net (ms : List xMod) (a k what : Int32) : Option Int32 := match aq_at ms xMod.nets a k with
  | none => none
  | some q => if what = nI 0 then some (nI q.2.2.2.2.1) else if what = nI 1 then some (nI q.2.2.2.2.2) else if what = nI 2 then some (nI (sp_fb q.2.1.nets q.2.2.1)) else none
theorem cw_net {P : xP} {σ : xS} {D : Nat} {A H : Nat → Nat} {G : Nat → List Nat → Nat} {ms : List xMod} {top : Nat} (C : CI P σ) (hD : σ.R 1004 P.base = some D) (hd : DD P σ D A H G ms top) (hR : Rm P σ 1) (a k what : Int32) : Ans σ (dm_X11_net P P.base a k what σ) (aq_net ms a k what) := by
  have ma := cw_netAt C hD hd hR a k
  obtain ⟨⟨lng, -, dr, hc, hx⟩, ac, bd⟩ := hd
  have kB := ci_0 C
  obtain ⟨r1, r2⟩ := hR
  unfold dm_X11_net aq_net
  cases e : aq_at ms xMod.nets a k with
  | none =>
    rw [e] at ma
    simp only at ma
    show _ = _
    simp only [kB, ck_T, ma, bd_r]
  | some q =>
    rw [e] at ma
    simp only at ma
    obtain ⟨i, m, j, x⟩ := q
    obtain ⟨hm, hj⟩ := aq_at_get e
    simp only at hm hj
    have mr := (dr.2 i m hm).2.2.2.2.2.1
    have fb := (dr.2 i m hm).2.2.2.2.2.2.2 j x hj
    have nr := (mr.2.2.2.2.1 j x hj).2
    have kA := nr.2.2.1
    have i1 := nr.2.2.2.2.1
    have i2 := nr.2.2.2.2.2
    have so : sortI x.2.1 = nI x.2.1 := if_neg ((hx.2.2.1 m (List.mem_of_getElem? hm)).2 x (List.mem_of_getElem? hj))
    simp only
    by_cases e0 : what = nI 0
    · rw [if_pos e0]
      show _ = _
      simp (disch := first | assumption | omega) [ck_T, sm_s, bd_l, bd_r, lt_e, eq_self, and_self, if_true, true_and, and_true, lit_nI, nI_add, nI_mul, nI_sub, nI_clamp, nI_eq, nI_ltI, nI_leI, nN_e, nI_nN, nN_nI, bI_0, bI_1, bI_n, bool_0, bool_1, in_T, lg_cmp0, ofN_nI, kB, ma, e0, kA, i1, so]
    · rw [if_neg e0]
      by_cases e1 : what = nI 1
      · rw [if_pos e1]
        show _ = _
        simp (disch := first | assumption | omega) [ck_T, sm_s, bd_l, bd_r, lt_e, eq_self, and_self, if_true, true_and, and_true, lit_nI, nI_add, nI_mul, nI_sub, nI_clamp, nI_eq, nI_ltI, nI_leI, nN_e, nI_nN, nN_nI, bI_0, bI_1, bI_n, bool_0, bool_1, in_T, lg_cmp0, ofN_nI, kB, ma, e1, kA, i2]
      · rw [if_neg e1]
        by_cases e2 : what = nI 2
        · rw [if_pos e2]
          show _ = _
          simp (disch := first | assumption | omega) [ck_T, sm_s, bd_l, bd_r, lt_e, eq_self, and_self, if_true, true_and, and_true, lit_nI, nI_add, nI_mul, nI_sub, nI_clamp, nI_eq, nI_ltI, nI_leI, nN_e, nI_nN, nN_nI, bI_0, bI_1, bI_n, bool_0, bool_1, in_T, lg_cmp0, ofN_nI, kB, ma, e2, kA, fb]
        · rw [if_neg e2]
          show _ = _
          simp (disch := first | assumption | omega) [ck_T, sm_s, bd_l, bd_r, lt_e, eq_self, and_self, if_true, true_and, and_true, lit_nI, nI_add, nI_mul, nI_sub, nI_clamp, nI_eq, nI_ltI, nI_leI, nN_e, nI_nN, nN_nI, bI_0, bI_1, bI_n, bool_0, bool_1, in_T, lg_cmp0, ofN_nI, kB, ma, e0, e1, e2, dle_T, IOE]
