/-! ===== questions about instances and assigns ===== -/
def IAns (P : xP) (σ : xS) (A H : Nat → Nat) (G : Nat → List Nat → Nat) (ms : List xMod) (o : xO (Option Nat)) : Option (Nat × xMod × Nat × xIns) → Prop
  | none => o = some (.inr IOE, σ.skip 6)
  | some q => ∃ a, o = some (.inl (some a), σ) ∧ InsR σ (G q.1) (fun f => (sp_kind ms f).map A) (A q.1 + 5) (H q.1) a q.2.2.2
theorem cw_instanceAt {P : xP} {σ : xS} {D : Nat} {A H : Nat → Nat} {G : Nat → List Nat → Nat} {ms : List xMod} {top : Nat} (C : CI P σ) (hD : σ.R 1004 P.base = some D) (hd : DD P σ D A H G ms top) (hR : Rm P σ 1) (k v : Int32) : IAns P σ A H G ms (dm_X11_instanceAt P P.base k v σ) (aq_at ms xMod.ins k v) := by
  have ma := cw_moduleAt C hD hd hR k
  obtain ⟨⟨lng, -, dr, hc, hx⟩, ac, bd⟩ := hd
  have kB := ci_0 C
  obtain ⟨r1, r2⟩ := hR
  unfold dm_X11_instanceAt dm_X11_instanceAt_p22 dm_X11_instanceAt_p23 dm_X11_refuseUnless aq_at
  cases e : aq_m ms k with
  | none =>
    rw [e] at ma
    simp only at ma
    show _ = _
    simp only [kB, ck_T, ma, bd_r]
  | some q =>
    rw [e] at ma
    simp only at ma
    obtain ⟨i, m⟩ := q
    have hm := aq_m_get e
    simp only at hm
    have mr := (dr.2 i m hm).2.2.2.2.2.1
    obtain ⟨⟨a1, kA, a3, a4, a5⟩, -, -, ⟨d1, d2, d3, d4, d5⟩, -, -, e3⟩ := mr
    simp only
    rcases i32_cases v with ⟨h1, h2⟩ | ⟨j, h1, h2, h3⟩
    · rw [h2]
      show _ = _
      simp (disch := first | assumption | omega) [ck_T, sm_s, bd_l, bd_r, lt_e, eq_self, and_self, if_true, true_and, and_true, lit_nI, nI_add, nI_mul, nI_sub, nI_clamp, nI_eq, nI_ltI, nI_leI, nN_e, nI_nN, nN_nI, bI_0, bI_1, bI_n, bool_0, bool_1, in_T, lg_cmp0, ofN_nI, kB, ma, h1, dle_T, IOE]
    · subst h2
      rw [h3]
      simp only
      by_cases z : m.ins.length ≤ j
      · rw [List.getElem?_eq_none z]
        show _ = _
        simp (disch := first | assumption | omega) [ck_T, sm_s, bd_l, bd_r, lt_e, eq_self, and_self, if_true, true_and, and_true, lit_nI, nI_add, nI_mul, nI_sub, nI_clamp, nI_eq, nI_ltI, nI_leI, nN_e, nI_nN, nN_nI, bI_0, bI_1, bI_n, bool_0, bool_1, in_T, lg_cmp0, ofN_nI, kB, ma, kA, d4, z, dle_T, IOE]
      · obtain ⟨x, hx⟩ : ∃ x, m.ins[j]? = some x := ⟨_, List.getElem?_eq_getElem (by omega)⟩
        obtain ⟨a, q1, q2⟩ := e3 j x hx
        rw [hx]
        refine ⟨a, ?_, q2⟩
        simp (disch := first | assumption | omega) [ck_T, sm_s, bd_l, bd_r, lt_e, eq_self, and_self, if_true, true_and, and_true, lit_nI, nI_add, nI_mul, nI_sub, nI_clamp, nI_eq, nI_ltI, nI_leI, nN_e, nI_nN, nN_nI, bI_0, bI_1, bI_n, bool_0, bool_1, in_T, lg_cmp0, ofN_nI, kB, ma, kA, d1, d2, d3, d4, z, q1, x_in, dlt_T]
def pn_mod (ms : List xMod) (i : xIns) : Option (Nat × xMod) := match sp_kind ms i.1 with
  | none => none
  | some j => (ms[j]?).map fun m => (j, m)
theorem pn_get {ms : List xMod} {i : xIns} : (sp_kind ms i.1 = none ∧ pn_mod ms i = none) ∨ ∃ j k, sp_kind ms i.1 = some j ∧ ms[j]? = some k ∧ pn_mod ms i = some (j, k) := by
  unfold pn_mod
  cases e : sp_kind ms i.1 with
  | none => exact Or.inl ⟨rfl, rfl⟩
  | some j =>
    obtain ⟨k, hk, -⟩ := kind_get e
    exact Or.inr ⟨j, k, rfl, hk, by simp [hk]⟩
def pn_cnt (ms : List xMod) (i : xIns) : Nat := match pn_mod ms i with
  | none => i.2.2.2.2.length
  | some q => q.2.ports.length
def pn_lw (o : Option xLnk) : Nat := match o with
  | none => 0
  | some l => match l.2.2 with
    | none => 1
    | some r => sp_w r
def pn_w (ms : List xMod) (i : xIns) (p : Nat) : Nat := match pn_mod ms i with
  | none => pn_lw (i.2.2.2.2[p]?)
  | some q => match q.2.ports[p]? with
    | none => 0
    | some x => x.2.2
def pn_pt (ms : List xMod) (i : xIns) (p : Nat) : Option xPart := match pn_mod ms i with
  | none => (i.2.2.2.2[p]?).bind fun l => l.2.2
  | some q => if i.2.2.2.1 = true then (match q.2.ports[p]? with
    | none => none
    | some x => (i.2.2.2.2.find? fun l => decide (l.1 = x.1)).bind fun l => l.2.2) else (i.2.2.2.2[p]?).bind fun l => l.2.2
def pn_nm (ms : List xMod) (i : xIns) (p : Nat) : List Nat := match pn_mod ms i with
  | none => (match i.2.2.2.2[p]? with
    | none => []
    | some l => l.1)
  | some q => match q.2.ports[p]? with
    | none => []
    | some x => x.1
/-- an instance of a design that may be asked -/
def IOK (P : xP) (σ : xS) (D : Nat) (A H : Nat → Nat) (G : Nat → List Nat → Nat) (ms : List xMod) (top : Nat) (g : List Nat → Nat) (lo hi a : Nat) (m : xMod) (i : xIns) : Prop := DD P σ D A H G ms top ∧ sp_mis ms = 1001 ∧ m ∈ ms ∧ i ∈ m.ins ∧ InsR σ g (fun f => (sp_kind ms f).map A) lo hi a i
theorem cw_pinCount {P : xP} {σ : xS} {D : Nat} {A H : Nat → Nat} {G : Nat → List Nat → Nat} {ms : List xMod} {top : Nat} {g : List Nat → Nat} {lo hi a : Nat} {m : xMod} {i : xIns} (h : IOK P σ D A H G ms top g lo hi a m i) : dm_X1_pinCount P a σ = some (.inl (nI (pn_cnt ms i)), σ) := by
  obtain ⟨⟨⟨lng, -, dr, hc, hx⟩, -⟩, -, -, -, h1, h2', h3, h4, h5, h6, h7, h8, h9, h10, h11, h12, h13, h14⟩ := h
  unfold dm_X1_pinCount dm_X1_pinCount_p21 pn_cnt
  rcases pn_get (ms := ms) (i := i) with ⟨q1, q2⟩ | ⟨j, k, q1, q2, q3⟩
  · simp only [q1, Option.map_none] at h12
    rw [q2]
    simp (disch := first | assumption | omega) [ck_T, sm_s, bd_l, bd_r, lt_e, eq_self, and_self, if_true, true_and, and_true, lit_nI, nI_add, nI_mul, nI_sub, nI_clamp, nI_eq, nI_ltI, nI_leI, nN_e, nI_nN, nN_nI, bI_0, bI_1, bI_n, bool_0, bool_1, in_T, lg_cmp0, ofN_nI, h3, h12, h11]
  · simp only [q1, Option.map_some] at h12
    have km := (dr.2 j k q2).2.2.2.2.2.1
    have kk := km.1.2.1
    have b5 := km.2.1.2.2.2.2.1
    rw [q3]
    simp (disch := first | assumption | omega) [ck_T, sm_s, bd_l, bd_r, lt_e, eq_self, and_self, if_true, true_and, and_true, lit_nI, nI_add, nI_mul, nI_sub, nI_clamp, nI_eq, nI_ltI, nI_leI, nN_e, nI_nN, nN_nI, bI_0, bI_1, bI_n, bool_0, bool_1, in_T, lg_cmp0, ofN_nI, h3, h12, kk, b5]
theorem ports_nets {k : xMod} {p : Nat} {x : xNet} (h : k.ports[p]? = some x) : k.nets[p]? = some x := by
  show (k.ports ++ k.wires)[p]? = some x
  rw [List.getElem?_append_left (get_lt h)]; exact h
theorem IOK.parts {P : xP} {σ : xS} {D : Nat} {A H : Nat → Nat} {G : Nat → List Nat → Nat} {ms : List xMod} {top : Nat} {g : List Nat → Nat} {lo hi a : Nat} {m : xMod} {i : xIns} (h : IOK P σ D A H G ms top g lo hi a m i) {l : xLnk} (hl : l ∈ i.2.2.2.2) {r : xPart} (hr : l.2.2 = some r) : PW m.nets r ∧ NW m.nets ∧ nm_ok l.1 := by
  obtain ⟨⟨⟨lng, -, dr, hc, hx⟩, -⟩, -, h1, h2, -⟩ := h
  obtain ⟨⟨aw, mw, -⟩, -⟩ := hx.2.2.1 m h1
  exact ⟨aw.2.1 i h2 l hl r hr, mw.1, (mw.2 i h2).2.2 l hl⟩
theorem IOK.nm {P : xP} {σ : xS} {D : Nat} {A H : Nat → Nat} {G : Nat → List Nat → Nat} {ms : List xMod} {top : Nat} {g : List Nat → Nat} {lo hi a : Nat} {m : xMod} {i : xIns} (h : IOK P σ D A H G ms top g lo hi a m i) : ∀ l ∈ i.2.2.2.2, nm_ok l.1 := by
  obtain ⟨⟨⟨lng, -, dr, hc, hx⟩, -⟩, -, h1, h2, -⟩ := h
  obtain ⟨⟨aw, mw, -⟩, -⟩ := hx.2.2.1 m h1
  exact (mw.2 i h2).2.2
theorem foldl_min_le : ∀ (l : List Nat) (a : Nat), ∀ x ∈ l, l.foldl min a ≤ x
  | [], _, x, hx => by simp at hx
  | y :: l, a, x, hx => by
    simp only [List.foldl_cons]
    rcases List.mem_cons.mp hx with q | q
    · have := foldl_le l (min a y); omega
    · exact foldl_min_le l _ x q
/-- without misfits by order there are links enough -/
theorem mis_len {ms : List xMod} (h : sp_mis ms = 1001) {m : xMod} (hm : m ∈ ms) {i : xIns} (hi : i ∈ m.ins) {lng : Bool} {p : Nat} (hx : DX lng ms p) (hp : p ≤ 1001) {j : Nat} {k : xMod} (h1 : sp_kind ms i.1 = some j) (h2 : ms[j]? = some k) (h3 : i.2.2.2.1 = false) : k.ports.length ≤ i.2.2.2.2.length := by
  have a1 : sp_mis ms ≤ sp_mmis ms m := foldl_min_le _ _ _ (List.mem_map.mpr ⟨m, hm, rfl⟩)
  have a2 : sp_mmis ms m ≤ sp_imis ms i := foldl_min_le _ _ _ (List.mem_map.mpr ⟨i, hi, rfl⟩)
  apply Classical.byContradiction
  intro z
  have a3 : sp_imis ms i = i.2.2.1 := by
    unfold sp_imis
    simp only [h1, h2]
    rw [if_pos ⟨h3, by omega⟩]
  have := ((hx.2.2.1 m hm).1.2.2.2.2.1.2.2 i hi).2.2.2.2
  omega
theorem cw_pinWidth {P : xP} {σ : xS} {D : Nat} {A H : Nat → Nat} {G : Nat → List Nat → Nat} {ms : List xMod} {top : Nat} {g : List Nat → Nat} {lo hi a : Nat} {m : xMod} {i : xIns} (h : IOK P σ D A H G ms top g lo hi a m i) {p : Nat} (hp : p < pn_cnt ms i) : dm_X1_pinWidth P a (nI p) σ = some (.inl (nI (pn_w ms i p)), σ) := by
  have hpar := @IOK.parts P σ D A H G ms top g lo hi a m i h
  obtain ⟨⟨⟨lng, -, dr, hc, hx⟩, -⟩, -, -, -, h1, h2', h3, h4, h5, h6, h7, h8, h9, h10, h11, h12, h13, h14⟩ := h
  unfold dm_X1_pinWidth dm_X1_pinWidth_p48 pn_w
  unfold pn_cnt at hp
  rcases pn_get (ms := ms) (i := i) with ⟨q1, q2⟩ | ⟨j, k, q1, q2, q3⟩
  · simp only [q1, Option.map_none] at h12
    rw [q2] at hp ⊢
    simp only at hp ⊢
    obtain ⟨l, hl⟩ : ∃ l, i.2.2.2.2[p]? = some l := ⟨_, List.getElem?_eq_getElem (by omega)⟩
    obtain ⟨b, u1, u2⟩ := h14 p l hl
    obtain ⟨l1, l2, l3, l4, l5, l6⟩ := u2
    have p16 : p < 16 := by omega
    rw [hl]
    unfold pn_lw
    simp only
    cases e : l.2.2 with
    | none =>
      have l6' : σ.R 202 b = none := by
        rw [e] at l6
        cases z : σ.R 202 b with
        | none => rfl
        | some y => rw [z] at l6; exact l6.elim
      simp (disch := first | assumption | omega) [ck_T, sm_s, bd_l, bd_r, lt_e, eq_self, and_self, if_true, true_and, and_true, lit_nI, nI_add, nI_mul, nI_sub, nI_clamp, nI_eq, nI_ltI, nI_leI, nN_e, nI_nN, nN_nI, bI_0, bI_1, bI_n, bool_0, bool_1, in_T, lg_cmp0, ofN_nI, h3, h8, h9, h10, h12, u1, l3, l6', x_in, dlt_T]
    | some r =>
      obtain ⟨c, hc⟩ : ∃ c, σ.R 202 b = some c := by
        rw [e] at l6
        cases z : σ.R 202 b with
        | none => rw [z] at l6; exact l6.elim
        | some y => exact ⟨y, rfl⟩
      have pr : PartR σ g (a + 2) hi c r := by rw [e, hc] at l6; exact l6
      have hpar := hpar (List.mem_of_getElem? hl) e
      have w := cw_width (P := P) pr (PW_b hpar.2.1 hpar.1).1
      have kc := pr.2.2.1
      simp (disch := first | assumption | omega) [ck_T, sm_s, bd_l, bd_r, lt_e, eq_self, and_self, if_true, true_and, and_true, lit_nI, nI_add, nI_mul, nI_sub, nI_clamp, nI_eq, nI_ltI, nI_leI, nN_e, nI_nN, nN_nI, bI_0, bI_1, bI_n, bool_0, bool_1, in_T, lg_cmp0, ofN_nI, h3, h8, h9, h10, h12, u1, l3, hc, kc, w, x_in, dlt_T]
  · simp only [q1, Option.map_some] at h12
    have km := (dr.2 j k q2).2.2.2.2.2.1
    obtain ⟨⟨a1, kk, a3, a4, a5⟩, ⟨b1, b2, b3, b4, b5, b6⟩, -, -, e1, -, -⟩ := km
    rw [q3] at hp ⊢
    simp only at hp ⊢
    obtain ⟨x, hx⟩ : ∃ x, k.ports[p]? = some x := ⟨_, List.getElem?_eq_getElem (by omega)⟩
    obtain ⟨u1, u2, u3, u4, u5, u6, u7⟩ := e1 p x (ports_nets hx)
    have := get_lt (ports_nets hx)
    have p16 : p < 16 := by omega
    rw [hx]
    simp (disch := first | assumption | omega) [ck_T, sm_s, bd_l, bd_r, lt_e, eq_self, and_self, if_true, true_and, and_true, lit_nI, nI_add, nI_mul, nI_sub, nI_clamp, nI_eq, nI_ltI, nI_leI, nN_e, nI_nN, nN_nI, bI_0, bI_1, bI_n, bool_0, bool_1, in_T, lg_cmp0, ofN_nI, h3, h12, kk, b1, b2, b3, u1, u4, u7, x_in, dlt_T]
theorem cw_p39 {P : xP} {σ : xS} {g : List Nat → Nat} {lo hi a b : Nat} {l : xLnk} (hl : LinkR σ g lo hi b l) : ∃ v, dm_X1_partAt_p39 P a (some b) σ = some (.inl v, σ) ∧ OPartR σ g lo hi v l.2.2 := by
  obtain ⟨l1, l2, l3, l4, l5, l6⟩ := hl
  refine ⟨σ.R 202 b, ?_, l6⟩
  unfold dm_X1_partAt_p39 dm_X1_partAt_p52
  simp (disch := first | assumption | omega) [ck_T, sm_s, bd_l, bd_r, lt_e, eq_self, and_self, if_true, true_and, and_true, lit_nI, nI_add, nI_mul, nI_sub, nI_clamp, nI_eq, nI_ltI, nI_leI, nN_e, nI_nN, nN_nI, bI_0, bI_1, bI_n, bool_0, bool_1, in_T, lg_cmp0, ofN_nI, l3]
theorem cw_partAt {P : xP} {σ : xS} {D : Nat} {A H : Nat → Nat} {G : Nat → List Nat → Nat} {ms : List xMod} {top : Nat} {g : List Nat → Nat} {lo hi a : Nat} {m : xMod} {i : xIns} (h : IOK P σ D A H G ms top g lo hi a m i) {p : Nat} (hp : p < pn_cnt ms i) : ∃ v, dm_X1_partAt P a (nI p) σ = some (.inl v, σ) ∧ OPartR σ g (a + 2) hi v (pn_pt ms i p) := by
  have hnm := h.nm
  have hI := h.2.2.2.2
  obtain ⟨⟨⟨lng, C, dr, hc, hx⟩, -⟩, hmis, hmem, himem, h1, h2', h3, h4, h5, h6, h7, h8, h9, h10, h11, h12, h13, h14⟩ := h
  -- by order
  have ord : p < i.2.2.2.2.length → ∃ v, dm_X1_partAt_p33 P a (nI p) σ = some (.inl v, σ) ∧ OPartR σ g (a + 2) hi v ((i.2.2.2.2[p]?).bind fun l => l.2.2) := by
    intro hlt
    obtain ⟨l, hl⟩ : ∃ l, i.2.2.2.2[p]? = some l := ⟨_, List.getElem?_eq_getElem hlt⟩
    obtain ⟨b, u1, u2⟩ := h14 p l hl
    obtain ⟨v, v1, v2⟩ := cw_p39 (P := P) (a := a) u2
    have p16 : p < 16 := by omega
    rw [hl]
    refine ⟨v, ?_, v2⟩
    unfold dm_X1_partAt_p33
    simp (disch := first | assumption | omega) [ck_T, sm_s, bd_l, bd_r, lt_e, eq_self, and_self, if_true, true_and, and_true, lit_nI, nI_add, nI_mul, nI_sub, nI_clamp, nI_eq, nI_ltI, nI_leI, nN_e, nI_nN, nN_nI, bI_0, bI_1, bI_n, bool_0, bool_1, in_T, lg_cmp0, ofN_nI, h3, h8, h9, h10, u1, v1, x_in, dlt_T]
  unfold dm_X1_partAt pn_pt
  unfold pn_cnt at hp
  rcases pn_get (ms := ms) (i := i) with ⟨q1, q2⟩ | ⟨j, k, q1, q2, q3⟩
  · simp only [q1, Option.map_none] at h12
    rw [q2] at hp ⊢
    simp only at hp ⊢
    obtain ⟨v, v1, v2⟩ := ord hp
    refine ⟨v, ?_, v2⟩
    simp (disch := first | assumption | omega) [ck_T, sm_s, bd_l, bd_r, lt_e, eq_self, and_self, if_true, true_and, and_true, lit_nI, nI_add, nI_mul, nI_sub, nI_clamp, nI_eq, nI_ltI, nI_leI, nN_e, nI_nN, nN_nI, bI_0, bI_1, bI_n, bool_0, bool_1, in_T, lg_cmp0, ofN_nI, h3, h12, v1]
  · simp only [q1, Option.map_some] at h12
    have km := (dr.2 j k q2).2.2.2.2.2.1
    obtain ⟨⟨a1, kk, a3, a4, a5⟩, ⟨b1, b2, b3, b4, b5, b6⟩, -, -, e1, -, -⟩ := km
    rw [q3] at hp ⊢
    simp only at hp ⊢
    cases e : i.2.2.2.1 with
    | false =>
      have len := mis_len hmis hmem himem hx (by omega) q1 q2 e
      obtain ⟨v, v1, v2⟩ := ord (by omega)
      rw [e] at h7
      refine ⟨v, ?_, ?_⟩
      · simp (disch := first | assumption | omega) [ck_T, sm_s, bd_l, bd_r, lt_e, eq_self, and_self, if_true, true_and, and_true, lit_nI, nI_add, nI_mul, nI_sub, nI_clamp, nI_eq, nI_ltI, nI_leI, nN_e, nI_nN, nN_nI, bI_0, bI_1, bI_n, bool_0, bool_1, in_T, lg_cmp0, ofN_nI, h3, h7, h12, v1, bI_ff]
      · simp only [Bool.false_eq_true, if_false]
        exact v2
    | true =>
      rw [e] at h7
      obtain ⟨x, hx2⟩ : ∃ x, k.ports[p]? = some x := ⟨_, List.getElem?_eq_getElem (by omega)⟩
      obtain ⟨u1, u2, u3, u4, u5, u6, u7⟩ := e1 p x (ports_nets hx2)
      have := get_lt (ports_nets hx2)
      have p16 : p < 16 := by omega
      have xo := ((hx.2.2.1 k (List.mem_of_getElem? q2)).1.2.1.1 x (List.mem_of_getElem? (ports_nets hx2))).1
      obtain ⟨v, v1, v2⟩ := cw_linkTo C hI hnm xo
      simp only [if_true, hx2]
      cases ef : i.2.2.2.2.find? (fun l => decide (l.1 = x.1)) with
      | none =>
        rw [ef] at v2
        simp only at v2
        subst v2
        refine ⟨none, ?_, trivial⟩
        simp (disch := first | assumption | omega) [ck_T, sm_s, bd_l, bd_r, lt_e, eq_self, and_self, if_true, true_and, and_true, lit_nI, nI_add, nI_mul, nI_sub, nI_clamp, nI_eq, nI_ltI, nI_leI, nN_e, nI_nN, nN_nI, bI_0, bI_1, bI_n, bool_0, bool_1, in_T, lg_cmp0, ofN_nI, h3, h7, h12, bI_tt, kk, b1, b2, b3, u1, u4, u5, v1, x_in, dlt_T, dm_X1_partAt_p39, dm_X1_partAt_p52]
      | some l =>
        rw [ef] at v2
        simp only at v2
        obtain ⟨b, w1, w2⟩ := v2
        subst w1
        obtain ⟨v, z1, z2⟩ := cw_p39 (P := P) (a := a) w2
        refine ⟨v, ?_, z2⟩
        simp (disch := first | assumption | omega) [ck_T, sm_s, bd_l, bd_r, lt_e, eq_self, and_self, if_true, true_and, and_true, lit_nI, nI_add, nI_mul, nI_sub, nI_clamp, nI_eq, nI_ltI, nI_leI, nN_e, nI_nN, nN_nI, bI_0, bI_1, bI_n, bool_0, bool_1, in_T, lg_cmp0, ofN_nI, h3, h7, h12, bI_tt, kk, b1, b2, b3, u1, u4, u5, v1, x_in, dlt_T, z1]
