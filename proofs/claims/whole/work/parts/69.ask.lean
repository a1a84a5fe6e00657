/-! ===== questions: assigns, letters, counts ===== -/
def aq_asg (ms : List xMod) (a k s b : Int32) : Option Int32 := match aq_at ms xMod.asg a k with
  | none => none
  | some q => if s = nI 0 ∨ s = nI 1 then (match aI b with
    | none => none
    | some bit => if bit < sp_w (if s = nI 0 then q.2.2.2.1 else q.2.2.2.2) then some (sp_bit q.2.1 (if s = nI 0 then q.2.2.2.1 else q.2.2.2.2) bit) else none) else none
theorem cw_asg66 {P : xP} {σ : xS} {g : List Nat → Nat} {kd : List Nat → Option Nat} {hi lo2 hi2 ix M a : Nat} {m : xMod} {r : xPart} (hR : Rm P σ 1) (h : PartR σ g lo2 hi2 a r) (hm : MR σ g kd ix M hi m) (hf : FBR σ g M m) (hw : PW m.nets r) (hn : NW m.nets) (b : Int32) : Ans σ (dm_X11_assign_p66 P P.base b (some a) σ) (match aI b with
    | none => none
    | some bit => if bit < sp_w r then some (sp_bit m r bit) else none) := by
  have ka := h.2.2.1
  have pb := PW_b hn hw
  have w := cw_width (P := P) h pb.1
  have w8 : sp_w r ≤ 8 := by unfold sp_w; omega
  obtain ⟨r1, r2⟩ := hR
  unfold dm_X11_assign_p66 dm_X11_assign_p87 dm_X11_assign_p88 dm_X11_refuseUnless
  rcases i32_cases b with ⟨g1, g2⟩ | ⟨bit, g1, g2, g3⟩
  · rw [g2]
    show _ = _
    simp (disch := first | assumption | omega) [ck_T, sm_s, bd_l, bd_r, lt_e, eq_self, and_self, if_true, true_and, and_true, lit_nI, nI_add, nI_mul, nI_sub, nI_clamp, nI_eq, nI_ltI, nI_leI, nN_e, nI_nN, nN_nI, bI_0, bI_1, bI_n, bool_0, bool_1, in_T, lg_cmp0, ofN_nI, g1, dle_T, IOE]
  · subst g2
    rw [g3]
    simp only
    by_cases y : bit < sp_w r
    · rw [if_pos y]
      have y' : ¬ sp_w r ≤ bit := by omega
      have bt := cw_bitAt (P := P) h hm hf hw hn y
      show _ = _
      simp (disch := first | assumption | omega) [ck_T, sm_s, bd_l, bd_r, lt_e, eq_self, and_self, if_true, true_and, and_true, lit_nI, nI_add, nI_mul, nI_sub, nI_clamp, nI_eq, nI_ltI, nI_leI, nN_e, nI_nN, nN_nI, bI_0, bI_1, bI_n, bool_0, bool_1, in_T, lg_cmp0, ofN_nI, ka, w, y', bt]
    · rw [if_neg y]
      have y' : sp_w r ≤ bit := by omega
      show _ = _
      simp (disch := first | assumption | omega) [ck_T, sm_s, bd_l, bd_r, lt_e, eq_self, and_self, if_true, true_and, and_true, lit_nI, nI_add, nI_mul, nI_sub, nI_clamp, nI_eq, nI_ltI, nI_leI, nN_e, nI_nN, nN_nI, bI_0, bI_1, bI_n, bool_0, bool_1, in_T, lg_cmp0, ofN_nI, ka, w, y', dle_T, IOE]
theorem cw_assign {P : xP} {σ : xS} {D : Nat} {A H : Nat → Nat} {G : Nat → List Nat → Nat} {ms : List xMod} {top : Nat} (C : CI P σ) (hD : σ.R 1004 P.base = some D) (hd : DD P σ D A H G ms top) (hR : Rm P σ 1) (a k s b : Int32) : Ans σ (dm_X11_assign P P.base a k s b σ) (aq_asg ms a k s b) := by
  have ma := cw_moduleAt C hD hd hR a
  obtain ⟨⟨lng, -, dr, hc, hx⟩, ac, bd⟩ := hd
  have kB := ci_0 C
  have hR1 := hR
  obtain ⟨r1, r2⟩ := hR
  unfold dm_X11_assign dm_X11_assign_p24 dm_X11_assign_p25 dm_X11_assign_p37 dm_X11_assign_p42 dm_X11_refuseUnless aq_asg aq_at
  cases e : aq_m ms a with
  | none =>
    rw [e] at ma
    simp only at ma
    show _ = _
    simp only [kB, ck_T, ma, bd_r]
  | some q =>
    rw [e] at ma
    simp only at ma
    obtain ⟨i, m⟩ := q
    have hm := aq_m_get e
    simp only at hm
    have di := dr.2 i m hm
    have mr := di.2.2.2.2.2.1
    have fb := di.2.2.2.2.2.2
    obtain ⟨⟨a1, kA, a3, a4, a5⟩, -, ⟨c1, c2, c3, c4, c5, c6, c7, c8⟩, -, -, e2, -⟩ := id mr
    obtain ⟨⟨aw, mw, -⟩, -⟩ := hx.2.2.1 m (List.mem_of_getElem? hm)
    simp only
    rcases i32_cases k with ⟨h1, h2⟩ | ⟨j, h1, h2, h3⟩
    · rw [h2]
      show _ = _
      simp (disch := first | assumption | omega) [ck_T, sm_s, bd_l, bd_r, lt_e, eq_self, and_self, if_true, true_and, and_true, lit_nI, nI_add, nI_mul, nI_sub, nI_clamp, nI_eq, nI_ltI, nI_leI, nN_e, nI_nN, nN_nI, bI_0, bI_1, bI_n, bool_0, bool_1, in_T, lg_cmp0, ofN_nI, kB, ma, h1, dle_T, IOE]
    · subst h2
      rw [h3]
      simp only
      by_cases z : m.asg.length ≤ j
      · rw [List.getElem?_eq_none z]
        show _ = _
        simp (disch := first | assumption | omega) [ck_T, sm_s, bd_l, bd_r, lt_e, eq_self, and_self, if_true, true_and, and_true, lit_nI, nI_add, nI_mul, nI_sub, nI_clamp, nI_eq, nI_ltI, nI_leI, nN_e, nI_nN, nN_nI, bI_0, bI_1, bI_n, bool_0, bool_1, in_T, lg_cmp0, ofN_nI, kB, ma, kA, c7, z, dle_T, IOE]
      · obtain ⟨x, hx⟩ : ∃ x, m.asg[j]? = some x := ⟨_, List.getElem?_eq_getElem (by omega)⟩
        obtain ⟨u, v, q1, q2, q3, q4⟩ := e2 j x hx
        have pws := aw.1 x (List.mem_of_getElem? hx)
        have j8 : j < 8 := by omega
        rw [hx]
        simp only [Option.map_some]
        by_cases s0 : s = nI 0
        · subst s0
          have ans := cw_asg66 (P := P) hR1 q3 mr fb pws.1 mw.1 b
          simp only [true_or, if_true]
          have red : dm_X11_assign_p66 P P.base b (some u) σ = dm_X11_assign_p66 P P.base b (some u) σ := rfl
          simp (disch := first | assumption | omega) [ck_T, sm_s, bd_l, bd_r, lt_e, eq_self, and_self, if_true, true_and, and_true, lit_nI, nI_add, nI_mul, nI_sub, nI_clamp, nI_eq, nI_ltI, nI_leI, nN_e, nI_nN, nN_nI, bI_0, bI_1, bI_n, bool_0, bool_1, in_T, lg_cmp0, ofN_nI, kB, ma, kA, c7, z, c1, c2, c3, q1, x_in, dlt_T]
          exact ans
        · by_cases s1 : s = nI 1
          · subst s1
            have ans := cw_asg66 (P := P) hR1 q4 mr fb pws.2 mw.1 b
            have n10 : ¬ nI 1 = nI 0 := by decide
            simp only [n10, false_or, if_true, if_false]
            simp (disch := first | assumption | omega) [ck_T, sm_s, bd_l, bd_r, lt_e, eq_self, and_self, if_true, true_and, and_true, lit_nI, nI_add, nI_mul, nI_sub, nI_clamp, nI_eq, nI_ltI, nI_leI, nN_e, nI_nN, nN_nI, bI_0, bI_1, bI_n, bool_0, bool_1, in_T, lg_cmp0, ofN_nI, kB, ma, kA, c7, z, c4, c5, c6, q2, x_in, dlt_T]
            exact ans
          · have n : ¬ (s = nI 0 ∨ s = nI 1) := by simp only [s0, s1, or_self, not_false_eq_true]
            rw [if_neg n]
            show _ = _
            simp (disch := first | assumption | omega) [ck_T, sm_s, bd_l, bd_r, lt_e, eq_self, and_self, if_true, true_and, and_true, lit_nI, nI_add, nI_mul, nI_sub, nI_clamp, nI_eq, nI_ltI, nI_leI, nN_e, nI_nN, nN_nI, bI_0, bI_1, bI_n, bool_0, bool_1, in_T, lg_cmp0, ofN_nI, kB, ma, kA, c7, z, s0, s1, dle_T, IOE]
def aq_nm (ms : List xMod) (s a b : Int32) : Option (List Nat) := if s = nI 0 then (aq_m ms a).map fun q => q.2.nm else if s = nI 1 then (aq_at ms xMod.nets a b).map fun q => q.2.2.2.1 else if s = nI 2 then (aq_at ms xMod.ins a b).map fun q => q.2.2.2.2.1 else if s = nI 3 then (aq_at ms xMod.ins a b).map fun q => q.2.2.2.1 else none
def aq_letter (ms : List xMod) (s a b i : Int32) : Option Int32 := match aI i with
  | none => none
  | some j => match aq_nm ms s a b with
    | none => none
    | some l => some (match l[j]? with
      | none => nN
      | some c => nI c)
def JAns (σ : xS) (o : xO Int64) : Option (List Nat) → Prop
  | none => o = some (.inr IOE, σ.skip 6)
  | some l => o = some (.inl (pk l), σ) ∧ nm_ok l
theorem cw_nameOf {P : xP} {σ : xS} {D : Nat} {A H : Nat → Nat} {G : Nat → List Nat → Nat} {ms : List xMod} {top : Nat} (C : CI P σ) (hD : σ.R 1004 P.base = some D) (hd : DD P σ D A H G ms top) (hR : Rm P σ 1) (s a b : Int32) : JAns σ (dm_X11_nameOf P P.base s a b σ) (aq_nm ms s a b) := by
  have m1 := cw_moduleAt C hD hd hR a
  have m2 := cw_netAt C hD hd hR a b
  have m3 := cw_instanceAt C hD hd hR a b
  obtain ⟨⟨lng, -, dr, hc, hx⟩, ac, bd⟩ := hd
  have kB := ci_0 C
  obtain ⟨r1, r2⟩ := hR
  unfold dm_X11_nameOf aq_nm
  by_cases s0 : s = nI 0
  · rw [if_pos s0]
    cases e : aq_m ms a with
    | none =>
      rw [e] at m1
      simp only at m1
      show _ = _
      simp (disch := first | assumption | omega) [ck_T, sm_s, bd_l, bd_r, lt_e, eq_self, and_self, if_true, true_and, and_true, lit_nI, nI_add, nI_mul, nI_sub, nI_clamp, nI_eq, nI_ltI, nI_leI, nN_e, nI_nN, nN_nI, bI_0, bI_1, bI_n, bool_0, bool_1, in_T, lg_cmp0, ofN_nI, s0, kB, m1]
    | some q =>
      rw [e] at m1
      simp only at m1
      obtain ⟨i, m⟩ := q
      have hm := aq_m_get e
      simp only at hm
      have mr := (dr.2 i m hm).2.2.2.2.2.1
      have kA := mr.1.2.1
      have jA := mr.1.2.2.2.1
      refine ⟨?_, (hx.2.2.1 m (List.mem_of_getElem? hm)).1.2.2.1⟩
      simp (disch := first | assumption | omega) [ck_T, sm_s, bd_l, bd_r, lt_e, eq_self, and_self, if_true, true_and, and_true, lit_nI, nI_add, nI_mul, nI_sub, nI_clamp, nI_eq, nI_ltI, nI_leI, nN_e, nI_nN, nN_nI, bI_0, bI_1, bI_n, bool_0, bool_1, in_T, lg_cmp0, ofN_nI, s0, kB, m1, kA, jA]
  · rw [if_neg s0]
    by_cases s1 : s = nI 1
    · rw [if_pos s1]
      cases e : aq_at ms xMod.nets a b with
      | none =>
        rw [e] at m2
        simp only at m2
        show _ = _
        simp (disch := first | assumption | omega) [ck_T, sm_s, bd_l, bd_r, lt_e, eq_self, and_self, if_true, true_and, and_true, lit_nI, nI_add, nI_mul, nI_sub, nI_clamp, nI_eq, nI_ltI, nI_leI, nN_e, nI_nN, nN_nI, bI_0, bI_1, bI_n, bool_0, bool_1, in_T, lg_cmp0, ofN_nI, s1, kB, m2]
      | some q =>
        rw [e] at m2
        simp only at m2
        obtain ⟨i, m, j, x⟩ := q
        obtain ⟨hm, hj⟩ := aq_at_get e
        simp only at hm hj
        have mr := (dr.2 i m hm).2.2.2.2.2.1
        have nr := (mr.2.2.2.2.1 j x hj).2
        have kA := nr.2.2.1
        have jA := nr.2.2.2.1
        refine ⟨?_, ((hx.2.2.1 m (List.mem_of_getElem? hm)).1.2.1.1 x (List.mem_of_getElem? hj)).1⟩
        simp (disch := first | assumption | omega) [ck_T, sm_s, bd_l, bd_r, lt_e, eq_self, and_self, if_true, true_and, and_true, lit_nI, nI_add, nI_mul, nI_sub, nI_clamp, nI_eq, nI_ltI, nI_leI, nN_e, nI_nN, nN_nI, bI_0, bI_1, bI_n, bool_0, bool_1, in_T, lg_cmp0, ofN_nI, s1, kB, m2, kA, jA]
    · rw [if_neg s1]
      by_cases s2 : s = nI 2
      · rw [if_pos s2]
        cases e : aq_at ms xMod.ins a b with
        | none =>
          rw [e] at m3
          have m3 : dm_X11_instanceAt P P.base a b σ = some (.inr IOE, σ.skip 6) := m3
          show _ = _
          simp (disch := first | assumption | omega) [ck_T, sm_s, bd_l, bd_r, lt_e, eq_self, and_self, if_true, true_and, and_true, lit_nI, nI_add, nI_mul, nI_sub, nI_clamp, nI_eq, nI_ltI, nI_leI, nN_e, nI_nN, nN_nI, bI_0, bI_1, bI_n, bool_0, bool_1, in_T, lg_cmp0, ofN_nI, s2, kB, m3]
        | some q =>
          rw [e] at m3
          obtain ⟨i, m, j, x⟩ := q
          obtain ⟨hm, hj⟩ := aq_at_get e
          simp only at hm hj
          obtain ⟨c, m3, ir⟩ := m3
          have kc := ir.2.2.1
          have jc := ir.2.2.2.2.1
          refine ⟨?_, ((hx.2.2.1 m (List.mem_of_getElem? hm)).1.2.1.2 x (List.mem_of_getElem? hj)).2.1⟩
          simp (disch := first | assumption | omega) [ck_T, sm_s, bd_l, bd_r, lt_e, eq_self, and_self, if_true, true_and, and_true, lit_nI, nI_add, nI_mul, nI_sub, nI_clamp, nI_eq, nI_ltI, nI_leI, nN_e, nI_nN, nN_nI, bI_0, bI_1, bI_n, bool_0, bool_1, in_T, lg_cmp0, ofN_nI, s2, kB, m3, kc, jc]
      · rw [if_neg s2]
        by_cases s3 : s = nI 3
        · rw [if_pos s3]
          cases e : aq_at ms xMod.ins a b with
          | none =>
            rw [e] at m3
            have m3 : dm_X11_instanceAt P P.base a b σ = some (.inr IOE, σ.skip 6) := m3
            show _ = _
            simp (disch := first | assumption | omega) [ck_T, sm_s, bd_l, bd_r, lt_e, eq_self, and_self, if_true, true_and, and_true, lit_nI, nI_add, nI_mul, nI_sub, nI_clamp, nI_eq, nI_ltI, nI_leI, nN_e, nI_nN, nN_nI, bI_0, bI_1, bI_n, bool_0, bool_1, in_T, lg_cmp0, ofN_nI, s3, kB, m3]
          | some q =>
            rw [e] at m3
            obtain ⟨i, m, j, x⟩ := q
            obtain ⟨hm, hj⟩ := aq_at_get e
            simp only at hm hj
            obtain ⟨c, m3, ir⟩ := m3
            have kc := ir.2.2.1
            have jc := ir.2.2.2.1
            refine ⟨?_, ((hx.2.2.1 m (List.mem_of_getElem? hm)).1.2.1.2 x (List.mem_of_getElem? hj)).1⟩
            simp (disch := first | assumption | omega) [ck_T, sm_s, bd_l, bd_r, lt_e, eq_self, and_self, if_true, true_and, and_true, lit_nI, nI_add, nI_mul, nI_sub, nI_clamp, nI_eq, nI_ltI, nI_leI, nN_e, nI_nN, nN_nI, bI_0, bI_1, bI_n, bool_0, bool_1, in_T, lg_cmp0, ofN_nI, s3, kB, m3, kc, jc]
        · rw [if_neg s3]
          show _ = _
          simp (disch := first | assumption | omega) [ck_T, sm_s, bd_l, bd_r, lt_e, eq_self, and_self, if_true, true_and, and_true, lit_nI, nI_add, nI_mul, nI_sub, nI_clamp, nI_eq, nI_ltI, nI_leI, nN_e, nI_nN, nN_nI, bI_0, bI_1, bI_n, bool_0, bool_1, in_T, lg_cmp0, ofN_nI, s0, s1, s2, s3, dle_T, IOE]
theorem cw_letter {P : xP} {σ : xS} {D : Nat} {A H : Nat → Nat} {G : Nat → List Nat → Nat} {ms : List xMod} {top : Nat} (C : CI P σ) (hD : σ.R 1004 P.base = some D) (hd : DD P σ D A H G ms top) (hR : Rm P σ 1) (s a b i : Int32) : Ans σ (dm_X11_letter P P.base s a b i σ) (aq_letter ms s a b i) := by
  have nm := cw_nameOf C hD hd hR s a b
  have kB := ci_0 C
  obtain ⟨r1, r2⟩ := hR
  unfold dm_X11_letter dm_X11_letter_p10 dm_X11_letter_p38 dm_X11_refuseUnless aq_letter
  rcases i32_cases i with ⟨h1, h2⟩ | ⟨j, h1, h2, h3⟩
  · rw [h2]
    show _ = _
    simp (disch := first | assumption | omega) [ck_T, sm_s, bd_l, bd_r, lt_e, eq_self, and_self, if_true, true_and, and_true, lit_nI, nI_add, nI_mul, nI_sub, nI_clamp, nI_eq, nI_ltI, nI_leI, nN_e, nI_nN, nN_nI, bI_0, bI_1, bI_n, bool_0, bool_1, in_T, lg_cmp0, ofN_nI, h1, dle_T, IOE]
  · subst h2
    rw [h3]
    simp only
    cases e : aq_nm ms s a b with
    | none =>
      rw [e] at nm
      have nm : dm_X11_nameOf P P.base s a b σ = some (.inr IOE, σ.skip 6) := nm
      show _ = _
      simp (disch := first | assumption | omega) [ck_T, sm_s, bd_l, bd_r, lt_e, eq_self, and_self, if_true, true_and, and_true, lit_nI, nI_add, nI_mul, nI_sub, nI_clamp, nI_eq, nI_ltI, nI_leI, nN_e, nI_nN, nN_nI, bI_0, bI_1, bI_n, bool_0, bool_1, in_T, lg_cmp0, ofN_nI, kB, nm]
    | some l =>
      rw [e] at nm
      obtain ⟨nm, ok⟩ := nm
      have lo := cw_letterOf (P := P) (σ := σ) (fun c hc => (ok.2 c hc).2) ok.1 (i := j) h1
      show _ = _
      cases el : l[j]? with
      | none =>
        rw [List.getD_eq_getElem?_getD, el] at lo
        simp only [Option.getD_none] at lo
        simp (disch := first | assumption | omega) [ck_T, sm_s, bd_l, bd_r, lt_e, eq_self, and_self, if_true, true_and, and_true, lit_nI, nI_add, nI_mul, nI_sub, nI_clamp, nI_eq, nI_ltI, nI_leI, nN_e, nI_nN, nN_nI, bI_0, bI_1, bI_n, bool_0, bool_1, in_T, lg_cmp0, ofN_nI, kB, nm, lo]
      | some c =>
        rw [List.getD_eq_getElem?_getD, el] at lo
        simp only [Option.getD_some] at lo
        have cc := ok.2 c (List.mem_of_getElem? el)
        have c0 : ¬ c = 0 := by omega
        simp (disch := first | assumption | omega) [ck_T, sm_s, bd_l, bd_r, lt_e, eq_self, and_self, if_true, true_and, and_true, lit_nI, nI_add, nI_mul, nI_sub, nI_clamp, nI_eq, nI_ltI, nI_leI, nN_e, nI_nN, nN_nI, bI_0, bI_1, bI_n, bool_0, bool_1, in_T, lg_cmp0, ofN_nI, kB, nm, lo, c0]
def aq_count (T : xT) (ms : List xMod) (w : Int32) : Option Int32 := if w = nI 0 then some (nI ms.length) else if w = nI 1 then some (nI T.2) else none
theorem cw_count {P : xP} {σ : xS} {T : xT} {D : Nat} {A H : Nat → Nat} {G : Nat → List Nat → Nat} {ms : List xMod} {top : Nat} (C : CI P σ) (ht : TP P T σ) (hD : σ.R 1004 P.base = some D) (hd : DD P σ D A H G ms top) (hR : Rm P σ 1) (w : Int32) : Ans σ (dm_X11_count P P.base w σ) (aq_count T ms w) := by
  obtain ⟨⟨lng, -, dr, hc, hx⟩, ac, bd⟩ := hd
  have kD := dr.1.2.2.1
  have kB := ci_0 C
  have rB := ci_1 C
  have k1 := ci_5 C
  have t1 := ht.1
  obtain ⟨r1, r2⟩ := hR
  unfold dm_X11_count dm_X11_count_p9 dm_X11_count_p14 dm_X11_count_p38 dm_X11_refuseUnless aq_count
  by_cases s0 : w = nI 0
  · rw [if_pos s0]
    show _ = _
    simp (disch := first | assumption | omega) [ck_T, sm_s, bd_l, bd_r, lt_e, eq_self, and_self, if_true, true_and, and_true, lit_nI, nI_add, nI_mul, nI_sub, nI_clamp, nI_eq, nI_ltI, nI_leI, nN_e, nI_nN, nN_nI, bI_0, bI_1, bI_n, bool_0, bool_1, in_T, lg_cmp0, ofN_nI, s0, kB, hD, kD, hc]
  · rw [if_neg s0]
    by_cases s1 : w = nI 1
    · rw [if_pos s1]
      show _ = _
      simp (disch := first | assumption | omega) [ck_T, sm_s, bd_l, bd_r, lt_e, eq_self, and_self, if_true, true_and, and_true, lit_nI, nI_add, nI_mul, nI_sub, nI_clamp, nI_eq, nI_ltI, nI_leI, nN_e, nI_nN, nN_nI, bI_0, bI_1, bI_n, bool_0, bool_1, in_T, lg_cmp0, ofN_nI, s1, kB, rB, k1, t1]
    · rw [if_neg s1]
      show _ = _
      simp (disch := first | assumption | omega) [ck_T, sm_s, bd_l, bd_r, lt_e, eq_self, and_self, if_true, true_and, and_true, lit_nI, nI_add, nI_mul, nI_sub, nI_clamp, nI_eq, nI_ltI, nI_leI, nN_e, nI_nN, nN_nI, bI_0, bI_1, bI_n, bool_0, bool_1, in_T, lg_cmp0, ofN_nI, s0, s1, dle_T, IOE]
