/-! ===== the class: misfits ===== -/
theorem PW_b {ns : List xNet} {r : xPart} (hw : NW ns) (h : PW ns r) : r.2.2.2.2.1 ≤ r.2.2.2.1 ∧ r.2.2.2.1 < 8 := by
  rcases h with ⟨h1, h2, h3, h4, h5, h6, h7⟩ | ⟨h1, h2, y, h3, h4, h5, h6, h7, h8⟩
  · omega
  · have := (hw y (sp_find_mem h3).1).2.2.1
    omega
theorem cw_width {P : xP} {σ : xS} {g : List Nat → Nat} {lo hi a : Nat} {x : xPart} (h : PartR σ g lo hi a x) (hb : x.2.2.2.2.1 ≤ x.2.2.2.1) : dm_X6_width P a σ = some (.inl (nI (sp_w x)), σ) := by
  obtain ⟨h1, h2, h3, h4, h5, h6, h7, h8, h9⟩ := h
  unfold dm_X6_width sp_w
  simp (disch := first | assumption | omega) [x_chk, x_some, x_bind, x_let, lit_nI, nI_add, nI_mul, nI_sub, nI_clamp, nI_eq, nI_ltI, nI_leI, nN_e, nI_nN, nN_nI, bI_0, bI_1, bI_n, bool_0, bool_1, in_T, lg_cmp0, ofN_nI, h3, h7, h8]
theorem cw_p90 {P : xP} {σ : xS} {g g2 : List Nat → Nat} {lo hi a b : Nat} {l : xLnk} {k39 : Int32 → xS → xO Int32} {v1 : Int32} (hl : LinkR σ g lo hi b l) (h1 : l.2.1 ≤ 1000) (h2 : ∀ r, l.2.2 = some r → r.2.1 ≤ 1000 ∧ r.2.2.2.2.1 ≤ r.2.2.2.1 ∧ r.2.2.2.1 < 8) (po : Option xNet) (hp : ∀ x, po = some x → σ.K (g2 x.1) = 5 ∧ σ.I 402 (g2 x.1) = nI x.2.2 ∧ x.2.2 ≤ 8) : dm_X1_misfit_p90 P k39 a v1 (some b) (po.map fun x => g2 x.1) σ = if sp_lmis po l = 1001 then k39 (v1 + nI 1) σ else some (.inl (nI (sp_lmis po l)), σ) := by
  obtain ⟨l1, l2, l3, l4, l5, l6⟩ := hl
  unfold dm_X1_misfit_p90 dm_X1_misfit_p129
  cases po with
  | none =>
    have e : sp_lmis none l = l.2.1 := rfl
    have e2 : ¬ l.2.1 = 1001 := by omega
    rw [e, if_neg e2]
    simp (disch := first | assumption | omega) [ck_T, sm_s, bd_l, bd_r, lt_e, eq_self, and_self, if_true, true_and, and_true, lit_nI, nI_add, nI_mul, nI_sub, nI_clamp, nI_eq, nI_ltI, nI_leI, nN_e, nI_nN, nN_nI, bI_0, bI_1, bI_n, bool_0, bool_1, in_T, lg_cmp0, ofN_nI, l3, l5]
  | some x =>
    obtain ⟨p1, p2, p3⟩ := hp x rfl
    cases e : l.2.2 with
    | none =>
      have l6' : σ.R 202 b = none := by
        rw [e] at l6
        cases z : σ.R 202 b with
        | none => rfl
        | some y => rw [z] at l6; exact l6.elim
      have em : sp_lmis (some x) l = 1001 := by unfold sp_lmis; simp only [e]
      rw [em, if_pos rfl]
      simp (disch := first | assumption | omega) [ck_T, sm_s, bd_l, bd_r, lt_e, eq_self, and_self, if_true, true_and, and_true, lit_nI, nI_add, nI_mul, nI_sub, nI_clamp, nI_eq, nI_ltI, nI_leI, nN_e, nI_nN, nN_nI, bI_0, bI_1, bI_n, bool_0, bool_1, in_T, lg_cmp0, ofN_nI, l3, l6']
    | some r =>
      obtain ⟨c, hc⟩ : ∃ c, σ.R 202 b = some c := by
        rw [e] at l6
        cases z : σ.R 202 b with
        | none => rw [z] at l6; exact l6.elim
        | some y => exact ⟨y, rfl⟩
      have pr : PartR σ g lo hi c r := by rw [e, hc] at l6; exact l6
      obtain ⟨r1, r2, r3⟩ := h2 r e
      have w := cw_width (P := P) pr r2
      have wb : sp_w r ≤ 8 := by unfold sp_w; omega
      have kc := pr.2.2.1
      have pc := pr.2.2.2.2.1
      by_cases ew : sp_w r = x.2.2
      · have em : sp_lmis (some x) l = 1001 := by unfold sp_lmis; simp only [e, ew, if_true]
        rw [em, if_pos rfl]
        simp (disch := first | assumption | omega) [ck_T, sm_s, bd_l, bd_r, lt_e, eq_self, and_self, if_true, true_and, and_true, lit_nI, nI_add, nI_mul, nI_sub, nI_clamp, nI_eq, nI_ltI, nI_leI, nN_e, nI_nN, nN_nI, bI_0, bI_1, bI_n, bool_0, bool_1, in_T, lg_cmp0, ofN_nI, l3, hc, kc, w, p1, p2, ew]
      · have em : sp_lmis (some x) l = r.2.1 := by unfold sp_lmis; simp only [e, ew, if_false]
        have e2 : ¬ r.2.1 = 1001 := by omega
        rw [em, if_neg e2]
        simp (disch := first | assumption | omega) [ck_T, sm_s, bd_l, bd_r, lt_e, eq_self, and_self, if_true, true_and, and_true, lit_nI, nI_add, nI_mul, nI_sub, nI_clamp, nI_eq, nI_ltI, nI_leI, nN_e, nI_nN, nN_nI, bI_0, bI_1, bI_n, bool_0, bool_1, in_T, lg_cmp0, ofN_nI, l3, hc, kc, w, p1, p2, ew, pc]
theorem take_ports (k : xMod) : k.nets.take k.ports.length = k.ports := by
  simp [xMod.nets]
theorem cw_misL {P : xP} {σ : xS} {g : List Nat → Nat} {kd : List Nat → Option Nat} {lo hi a : Nat} {i : xIns} {g2 : List Nat → Nat} {kd2 : List Nat → Option Nat} {ix M h2 : Nat} {k : xMod} (C : CI P σ) (h : InsR σ g kd lo hi a i) (hk : kd i.1 = some M) (hm : MR σ g2 kd2 ix M h2 k) (hw : NW k.nets) (hl : ∀ l ∈ i.2.2.2.2, nm_ok l.1 ∧ l.2.1 ≤ 1000 ∧ ∀ r, l.2.2 = some r → r.2.1 ≤ 1000 ∧ r.2.2.2.2.1 ≤ r.2.2.2.1 ∧ r.2.2.2.1 < 8) : ∀ (r j n : Nat), j + r = i.2.2.2.2.length → r < n → dm_X1_misfit_L39 P a n (nI j) σ = some (.inl (nI (sp_imisL k i.2.2.2.1 j (i.2.2.2.2.drop j))), σ) := by
  obtain ⟨h1, h2', h3, h4, h5, h6, h7, h8, h9, h10, h11, h12, h13, h14⟩ := h
  obtain ⟨⟨a1, a2, a3, a4, a5⟩, ⟨b1, b2, b3, b4, b5, b6⟩, -, -, e1, -, -⟩ := id hm
  have lp : k.ports.length ≤ k.nets.length := by simp [xMod.nets]
  rw [hk] at h12
  intro r
  induction r with
  | zero =>
    intro j n hj hn
    obtain ⟨n, rfl⟩ : ∃ m, n = m + 1 := ⟨n - 1, by omega⟩
    have e : i.2.2.2.2.drop j = [] := List.drop_eq_nil_of_le (by omega)
    rw [e]
    unfold dm_X1_misfit_L39
    simp (disch := first | assumption | omega) [x_chk, x_some, x_bind, x_let, lit_nI, nI_add, nI_mul, nI_sub, nI_clamp, nI_eq, nI_ltI, nI_leI, nN_e, nI_nN, nN_nI, bI_0, bI_1, bI_n, bool_0, bool_1, in_T, lg_cmp0, ofN_nI, h3, h11, dle_T, sp_imisL]
  | succ r ih =>
    intro j n hj hn'
    obtain ⟨n, rfl⟩ : ∃ m, n = m + 1 := ⟨n - 1, by omega⟩
    obtain ⟨l, hx⟩ : ∃ l, i.2.2.2.2[j]? = some l := ⟨_, List.getElem?_eq_getElem (by omega)⟩
    have ed : i.2.2.2.2.drop j = l :: i.2.2.2.2.drop (j + 1) := by
      obtain ⟨hlt, hx3⟩ := List.getElem?_eq_some_iff.mp hx
      rw [List.drop_eq_getElem_cons hlt, hx3]
    obtain ⟨b, q1, q2⟩ := h14 j l hx
    obtain ⟨o1, o2, o3⟩ := hl l (List.mem_of_getElem? hx)
    have kb := q2.2.2.1
    have jb := q2.2.2.2.1
    have ihh := ih (j + 1) n (by omega) (by omega)
    have i2 : ¬ i.2.2.2.2.length ≤ j := by omega
    have j16 : j < 16 := by omega
    rw [ed]
    unfold dm_X1_misfit_L39
    cases e : i.2.2.2.1 with
    | true =>
      rw [e] at h7 ihh
      have na := cw_netAmong C hm (fun x hx => (hw x hx).1) o1 lp
      rw [take_ports] at na
      have p9 := cw_p90 (P := P) (a := a) (k39 := dm_X1_misfit_L39 P a n) (v1 := nI j) (g2 := g2) q2 o2 o3 (sp_find k.ports l.1) (fun x hx => by
        have xm := (sp_find_mem hx).1
        have xm2 : x ∈ k.nets := List.mem_append.mpr (Or.inl xm)
        obtain ⟨t, ht⟩ := List.getElem?_of_mem xm2
        have := (e1 t x ht).2
        exact ⟨this.2.2.1, this.2.2.2.2.2, (hw x xm2).2.2.1⟩)
      have em : sp_imisL k true j (l :: i.2.2.2.2.drop (j + 1)) = if sp_lmis (sp_find k.ports l.1) l = 1001 then sp_imisL k true (j + 1) (i.2.2.2.2.drop (j + 1)) else sp_lmis (sp_find k.ports l.1) l := by simp only [sp_imisL, if_true]
      rw [em]
      simp (disch := first | assumption | omega) [ck_T, sm_s, bd_l, bd_r, lt_e, eq_self, and_self, if_true, true_and, and_true, lit_nI, nI_add, nI_mul, nI_sub, nI_clamp, nI_eq, nI_ltI, nI_leI, nN_e, nI_nN, nN_nI, bI_0, bI_1, bI_n, bool_0, bool_1, in_T, lg_cmp0, ofN_nI, i2, h3, h7, h8, h9, h10, h11, h12, q1, kb, jb, a2, b5, bI_tt, na, p9, x_in, dlt_T]
      by_cases z : sp_lmis (sp_find k.ports l.1) l = 1001
      · simp only [z, if_true]
        exact ihh
      · simp only [z, if_false]
    | false =>
      rw [e] at h7 ihh
      have pa : dm_X5_portAt P M (nI j) σ = some (.inl ((k.ports[j]?).map fun x => g2 x.1), σ) := by
        unfold dm_X5_portAt dm_X5_portAt_p18
        by_cases z : k.ports.length ≤ j
        · rw [List.getElem?_eq_none z]
          simp (disch := first | assumption | omega) [ck_T, sm_s, bd_l, bd_r, lt_e, eq_self, and_self, if_true, true_and, and_true, lit_nI, nI_add, nI_mul, nI_sub, nI_clamp, nI_eq, nI_ltI, nI_leI, nN_e, nI_nN, nN_nI, bI_0, bI_1, bI_n, bool_0, bool_1, in_T, lg_cmp0, ofN_nI, a2, b5, z]
        · obtain ⟨y, hy⟩ : ∃ y, k.ports[j]? = some y := ⟨_, List.getElem?_eq_getElem (by omega)⟩
          have hy2 : k.nets[j]? = some y := by
            show (k.ports ++ k.wires)[j]? = some y
            rw [List.getElem?_append_left (by omega)]; exact hy
          have := (e1 j y hy2).1
          rw [hy]
          simp (disch := first | assumption | omega) [ck_T, sm_s, bd_l, bd_r, lt_e, eq_self, and_self, if_true, true_and, and_true, lit_nI, nI_add, nI_mul, nI_sub, nI_clamp, nI_eq, nI_ltI, nI_leI, nN_e, nI_nN, nN_nI, bI_0, bI_1, bI_n, bool_0, bool_1, in_T, lg_cmp0, ofN_nI, a2, b1, b2, b3, b5, z, this, x_in, dlt_T]
      have p9 := cw_p90 (P := P) (a := a) (k39 := dm_X1_misfit_L39 P a n) (v1 := nI j) (g2 := g2) q2 o2 o3 (k.ports[j]?) (fun x hx => by
        have hy2 : k.nets[j]? = some x := by
          show (k.ports ++ k.wires)[j]? = some x
          rw [List.getElem?_append_left (get_lt hx)]; exact hx
        have := (e1 j x hy2).2
        exact ⟨this.2.2.1, this.2.2.2.2.2, (hw x (List.mem_of_getElem? hy2)).2.2.1⟩)
      have em : sp_imisL k false j (l :: i.2.2.2.2.drop (j + 1)) = if sp_lmis (k.ports[j]?) l = 1001 then sp_imisL k false (j + 1) (i.2.2.2.2.drop (j + 1)) else sp_lmis (k.ports[j]?) l := by simp only [sp_imisL, Bool.false_eq_true, if_false]
      rw [em]
      simp (disch := first | assumption | omega) [ck_T, sm_s, bd_l, bd_r, lt_e, eq_self, and_self, if_true, true_and, and_true, lit_nI, nI_add, nI_mul, nI_sub, nI_clamp, nI_eq, nI_ltI, nI_leI, nN_e, nI_nN, nN_nI, bI_0, bI_1, bI_n, bool_0, bool_1, in_T, lg_cmp0, ofN_nI, i2, h3, h7, h8, h9, h10, h11, h12, q1, a2, bI_ff, pa, p9, x_in, dlt_T]
      by_cases z : sp_lmis (k.ports[j]?) l = 1001
      · simp only [z, if_true]
        exact ihh
      · simp only [z, if_false]
/-- the modules with their instances' kinds, and what is known of them -/
def DK (P : xP) (lng : Bool) (σ : xS) (D : Nat) (A H : Nat → Nat) (G : Nat → List Nat → Nat) (ms : List xMod) (top : Nat) : Prop := CI P σ ∧ DR P σ (fun _ f => (sp_kind ms f).map A) D A H G ms top ∧ σ.I 1 D = nI ms.length ∧ DX lng ms 1000
theorem kind_get {ms : List xMod} {f : List Nat} {j : Nat} (h : sp_kind ms f = some j) : ∃ k, ms[j]? = some k ∧ k.nm = f ∧ j < ms.length := by
  unfold sp_kind at h
  rw [List.findIdx?_eq_some_iff_getElem] at h
  obtain ⟨h1, h2, h3⟩ := h
  exact ⟨ms[j], List.getElem?_eq_getElem h1, by simpa using h2, h1⟩
theorem cw_misfit {P : xP} {lng : Bool} {σ : xS} {D : Nat} {A H : Nat → Nat} {G : Nat → List Nat → Nat} {ms : List xMod} {top : Nat} (h : DK P lng σ D A H G ms top) {m : xMod} (hm : m ∈ ms) {i : xIns} (hi : i ∈ m.ins) {g : List Nat → Nat} {lo hi' a : Nat} (hr : InsR σ g (fun f => (sp_kind ms f).map A) lo hi' a i) : dm_X1_misfit P a σ = some (.inl (nI (sp_imis ms i)), σ) := by
  obtain ⟨C, hd, hc, hx⟩ := h
  have fx := hx.2.2.1 m hm
  obtain ⟨⟨aw, mw, -, -, ⟨-, -, ix⟩, -⟩, -⟩ := fx
  have ix := (ix i hi).2
  have hl : ∀ l ∈ i.2.2.2.2, nm_ok l.1 ∧ l.2.1 ≤ 1000 ∧ ∀ r, l.2.2 = some r → r.2.1 ≤ 1000 ∧ r.2.2.2.2.1 ≤ r.2.2.2.1 ∧ r.2.2.2.1 < 8 := by
    intro l hl
    have := ix.1.1 l hl
    refine ⟨(mw.2 i hi).2.2 l hl, by omega, fun r hr => ?_⟩
    have := this.2.2 r hr
    exact ⟨by omega, PW_b mw.1 (aw.2.1 i hi l hl r hr)⟩
  obtain ⟨h1, h2', h3, h4, h5, h6, h7, h8, h9, h10, h11, h12, h13, h14⟩ := id hr
  unfold dm_X1_misfit dm_X1_misfit_p37 sp_imis
  cases e : sp_kind ms i.1 with
  | none =>
    simp only [e, Option.map_none] at h12
    simp (disch := first | assumption | omega) [ck_T, sm_s, bd_l, bd_r, lt_e, eq_self, and_self, if_true, true_and, and_true, lit_nI, nI_add, nI_mul, nI_sub, nI_clamp, nI_eq, nI_ltI, nI_leI, nN_e, nI_nN, nN_nI, bI_0, bI_1, bI_n, bool_0, bool_1, in_T, lg_cmp0, ofN_nI, h3, h12]
  | some j =>
    obtain ⟨k, hk, hk2, hk3⟩ := kind_get e
    simp only [e, Option.map_some] at h12
    have km := (hd.2 j k hk).2.2.2.2.2.1
    have kw := (hx.2.2.1 k (List.mem_of_getElem? hk)).1.2.1.1
    have q := cw_misL C hr (M := A j) (by simp only [e, Option.map_some]) km kw hl i.2.2.2.2.length 0 P.N (by omega) (by have := C.N; omega)
    rw [List.drop_zero] at q
    have kM := km.1.2.1
    have b5 := km.2.1.2.2.2.2.1
    have b6 := km.2.1.2.2.2.2.2
    have lp : k.ports.length ≤ k.nets.length := by simp [xMod.nets]
    simp only [hk]
    cases e2 : i.2.2.2.1 with
    | true =>
      rw [e2] at h7 q
      simp (disch := first | assumption | omega) [ck_T, sm_s, bd_l, bd_r, lt_e, eq_self, and_self, if_true, true_and, and_true, lit_nI, nI_add, nI_mul, nI_sub, nI_clamp, nI_eq, nI_ltI, nI_leI, nN_e, nI_nN, nN_nI, bI_0, bI_1, bI_n, bool_0, bool_1, in_T, lg_cmp0, ofN_nI, h3, h7, h12, bI_tt, q]
    | false =>
      rw [e2] at h7 q
      by_cases e3 : i.2.2.2.2.length < k.ports.length
      · have e4 : ¬ k.ports.length ≤ i.2.2.2.2.length := by omega
        simp (disch := first | assumption | omega) [ck_T, sm_s, bd_l, bd_r, lt_e, eq_self, and_self, if_true, true_and, and_true, lit_nI, nI_add, nI_mul, nI_sub, nI_clamp, nI_eq, nI_ltI, nI_leI, nN_e, nI_nN, nN_nI, bI_0, bI_1, bI_n, bool_0, bool_1, in_T, lg_cmp0, ofN_nI, h3, h7, h12, bI_ff, kM, b5, h11, h6, e3, e4]
      · have e4 : k.ports.length ≤ i.2.2.2.2.length := by omega
        simp (disch := first | assumption | omega) [ck_T, sm_s, bd_l, bd_r, lt_e, eq_self, and_self, if_true, true_and, and_true, lit_nI, nI_add, nI_mul, nI_sub, nI_clamp, nI_eq, nI_ltI, nI_leI, nN_e, nI_nN, nN_nI, bI_0, bI_1, bI_n, bool_0, bool_1, in_T, lg_cmp0, ofN_nI, h3, h7, h12, bI_ff, kM, b5, h11, q, e3, e4]
theorem min_nI {a v : Nat} (ha : a < 2 ^ 31) (hv : v < 2 ^ 31) : (if nI v < nI a then nI v else nI a) = nI (min a v) := by
  by_cases e : v < a
  · rw [if_pos ((nI_ltI hv ha).mpr e), show min a v = v by omega]
  · rw [if_neg (fun z => e ((nI_ltI hv ha).mp z)), show min a v = a by omega]
theorem foldl_le : ∀ (l : List Nat) (a : Nat), l.foldl min a ≤ a
  | [], a => Nat.le_refl a
  | x :: l, a => by
    have := foldl_le l (min a x)
    simp only [List.foldl_cons]
    omega
theorem cw_fm57 {P : xP} {lng : Bool} {σ : xS} {D : Nat} {A H : Nat → Nat} {G : Nat → List Nat → Nat} {ms : List xMod} {top : Nat} (h : DK P lng σ D A H G ms top) {m : xMod} (hm : m ∈ ms) {ix M hi : Nat} {g : List Nat → Nat} (hr : MR σ g (fun f => (sp_kind ms f).map A) ix M hi m) : ∀ (r j n acc : Nat), j + r = m.ins.length → r < n → acc ≤ 1001 → dm_X5_firstMisfit_L57 P M n (nI acc) (nI j) σ = some (.inl (nI (((m.ins.drop j).map (sp_imis ms)).foldl min acc)), σ) := by
  obtain ⟨⟨a1, a2, a3, a4, a5⟩, -, -, ⟨d1, d2, d3, d4, d5⟩, -, -, e3⟩ := hr
  have fx := h.2.2.2.2.2.1 m hm
  intro r
  induction r with
  | zero =>
    intro j n acc hj hn ha
    obtain ⟨n, rfl⟩ : ∃ m, n = m + 1 := ⟨n - 1, by omega⟩
    have e : m.ins.drop j = [] := List.drop_eq_nil_of_le (by omega)
    rw [e]
    unfold dm_X5_firstMisfit_L57
    simp (disch := first | assumption | omega) [x_chk, x_some, x_bind, x_let, lit_nI, nI_add, nI_mul, nI_sub, nI_clamp, nI_eq, nI_ltI, nI_leI, nN_e, nI_nN, nN_nI, bI_0, bI_1, bI_n, bool_0, bool_1, in_T, lg_cmp0, ofN_nI, a2, d4, dle_T]
  | succ r ih =>
    intro j n acc hj hn' ha
    obtain ⟨n, rfl⟩ : ∃ m, n = m + 1 := ⟨n - 1, by omega⟩
    obtain ⟨x, hx⟩ : ∃ x, m.ins[j]? = some x := ⟨_, List.getElem?_eq_getElem (by omega)⟩
    have ed : m.ins.drop j = x :: m.ins.drop (j + 1) := by
      obtain ⟨hlt, hx3⟩ := List.getElem?_eq_some_iff.mp hx
      rw [List.drop_eq_getElem_cons hlt, hx3]
    obtain ⟨a, q1, q2⟩ := e3 j x hx
    have xm := List.mem_of_getElem? hx
    have ka := q2.2.2.1
    have mf := cw_misfit h hm xm q2
    have le := imis_le (ms := ms) (by omega) (fx.1.2.2.2.2.1.2.2 x xm).2
    have mi := min_nI (a := acc) (v := sp_imis ms x) (by omega) (by omega)
    have ihh := ih (j + 1) n (min acc (sp_imis ms x)) (by omega) (by omega) (by omega)
    rw [ed]
    unfold dm_X5_firstMisfit_L57
    have i2 : ¬ m.ins.length ≤ j := by omega
    simp only [List.map_cons, List.foldl_cons]
    rw [← ihh]
    simp (disch := first | assumption | omega) [ck_T, sm_s, bd_l, bd_r, lt_e, eq_self, and_self, if_true, true_and, and_true, lit_nI, nI_add, nI_mul, nI_sub, nI_clamp, nI_eq, nI_ltI, nI_leI, nN_e, nI_nN, nN_nI, bI_0, bI_1, bI_n, bool_0, bool_1, in_T, lg_cmp0, ofN_nI, i2, a2, d1, d2, d3, d4, q1, ka, mf, x_in, dlt_T]
    congr 1
    rw [← mi]
    simp (disch := first | assumption | omega) [nI_ltI]
theorem cw_fm6 {P : xP} {lng : Bool} {σ : xS} {D : Nat} {A H : Nat → Nat} {G : Nat → List Nat → Nat} {ms : List xMod} {top : Nat} (h : DK P lng σ D A H G ms top) {m : xMod} (hm : m ∈ ms) {ix M hi : Nat} {g : List Nat → Nat} (hr : MR σ g (fun f => (sp_kind ms f).map A) ix M hi m) : ∀ (r j n acc : Nat), j + r = m.asg.length → r < n → acc ≤ 1001 → dm_X5_firstMisfit_L6 P M n (nI acc) (nI j) σ = dm_X5_firstMisfit_L57 P M P.N (nI (((m.asg.drop j).map fun a => if sp_w a.1 = sp_w a.2 then 1001 else a.2.2.1).foldl min acc)) (nI 0) σ := by
  obtain ⟨⟨a1, a2, a3, a4, a5⟩, -, ⟨c1, c2, c3, c4, c5, c6, c7, c8⟩, -, -, e2, -⟩ := hr
  obtain ⟨⟨aw, mw, -, -, ⟨-, pl, -⟩, -⟩, -⟩ := h.2.2.2.2.2.1 m hm
  intro r
  induction r with
  | zero =>
    intro j n acc hj hn ha
    obtain ⟨n, rfl⟩ : ∃ m, n = m + 1 := ⟨n - 1, by omega⟩
    have e : m.asg.drop j = [] := List.drop_eq_nil_of_le (by omega)
    rw [e]
    unfold dm_X5_firstMisfit_L6
    simp (disch := first | assumption | omega) [ck_T, sm_s, bd_l, bd_r, lt_e, eq_self, and_self, if_true, true_and, and_true, lit_nI, nI_add, nI_mul, nI_sub, nI_clamp, nI_eq, nI_ltI, nI_leI, nN_e, nI_nN, nN_nI, bI_0, bI_1, bI_n, bool_0, bool_1, in_T, lg_cmp0, ofN_nI, a2, c7]
    intro z; omega
  | succ r ih =>
    intro j n acc hj hn' ha
    obtain ⟨n, rfl⟩ : ∃ m, n = m + 1 := ⟨n - 1, by omega⟩
    obtain ⟨x, hx⟩ : ∃ x, m.asg[j]? = some x := ⟨_, List.getElem?_eq_getElem (by omega)⟩
    have ed : m.asg.drop j = x :: m.asg.drop (j + 1) := by
      obtain ⟨hlt, hx3⟩ := List.getElem?_eq_some_iff.mp hx
      rw [List.drop_eq_getElem_cons hlt, hx3]
    obtain ⟨a, b, q1, q2, q3, q4⟩ := e2 j x hx
    have xm := List.mem_of_getElem? hx
    have ka := q3.2.2.1
    have kb := q4.2.2.1
    have pb := q4.2.2.2.2.1
    have b1 := PW_b mw.1 (aw.1 x xm).1
    have b2 := PW_b mw.1 (aw.1 x xm).2
    have w1 := cw_width (P := P) q3 b1.1
    have w2 := cw_width (P := P) q4 b2.1
    have wb1 : sp_w x.1 ≤ 8 := by unfold sp_w; omega
    have wb2 : sp_w x.2 ≤ 8 := by unfold sp_w; omega
    have pp := pl x xm
    rw [ed]
    unfold dm_X5_firstMisfit_L6 dm_X5_firstMisfit_p49
    have i2 : ¬ m.asg.length ≤ j := by omega
    simp only [List.map_cons, List.foldl_cons]
    by_cases e : sp_w x.1 = sp_w x.2
    · rw [if_pos e, show min acc 1001 = acc by omega]
      rw [← ih (j + 1) n acc (by omega) (by omega) ha]
      simp (disch := first | assumption | omega) [ck_T, sm_s, bd_l, bd_r, lt_e, eq_self, and_self, if_true, true_and, and_true, lit_nI, nI_add, nI_mul, nI_sub, nI_clamp, nI_eq, nI_ltI, nI_leI, nN_e, nI_nN, nN_nI, bI_0, bI_1, bI_n, bool_0, bool_1, in_T, lg_cmp0, ofN_nI, i2, a2, c1, c2, c3, c4, c5, c6, c7, q1, q2, ka, kb, w1, w2, e, x_in, dlt_T]
    · rw [if_neg e]
      have mi := min_nI (a := acc) (v := x.2.2.1) (by omega) (by omega)
      rw [← ih (j + 1) n (min acc x.2.2.1) (by omega) (by omega) (by omega)]
      simp (disch := first | assumption | omega) [ck_T, sm_s, bd_l, bd_r, lt_e, eq_self, and_self, if_true, true_and, and_true, lit_nI, nI_add, nI_mul, nI_sub, nI_clamp, nI_eq, nI_ltI, nI_leI, nN_e, nI_nN, nN_nI, bI_0, bI_1, bI_n, bool_0, bool_1, in_T, lg_cmp0, ofN_nI, i2, a2, c1, c2, c3, c4, c5, c6, c7, q1, q2, ka, kb, w1, w2, e, pb, x_in, dlt_T]
      congr 1
      rw [← mi]
      simp (disch := first | assumption | omega) [nI_ltI]
theorem cw_firstMisfit {P : xP} {lng : Bool} {σ : xS} {D : Nat} {A H : Nat → Nat} {G : Nat → List Nat → Nat} {ms : List xMod} {top : Nat} (h : DK P lng σ D A H G ms top) {m : xMod} (hm : m ∈ ms) {ix M hi : Nat} {g : List Nat → Nat} (hr : MR σ g (fun f => (sp_kind ms f).map A) ix M hi m) : dm_X5_firstMisfit P M σ = some (.inl (nI (sp_mmis ms m)), σ) := by
  have hN := h.1.N
  have l1 := hr.2.2.1.2.2.2.2.2.2.2
  have l2 := hr.2.2.2.1.2.2.2.2
  have q1 := cw_fm6 h hm hr m.asg.length 0 P.N 1001 (by omega) (by omega) (Nat.le_refl _)
  have q2 := cw_fm57 h hm hr m.ins.length 0 P.N (((m.asg.map fun a => if sp_w a.1 = sp_w a.2 then 1001 else a.2.2.1)).foldl min 1001) (by omega) (by omega) (foldl_le _ _)
  rw [List.drop_zero] at q1 q2
  unfold dm_X5_firstMisfit sp_mmis
  simp only [lit_nI] at *
  rw [q1, q2]
theorem cw_misAll {P : xP} {lng : Bool} {σ : xS} {D : Nat} {A H : Nat → Nat} {G : Nat → List Nat → Nat} {ms : List xMod} {top : Nat} (h : DK P lng σ D A H G ms top) : ∀ (r j n acc : Nat), j + r = ms.length → r < n → acc ≤ 1001 → dm_X0_faultAsWhole_L32 P D n (nI acc) (nI j) σ = dm_X0_faultAsWhole_L32 P D 1 (nI (((ms.drop j).map (sp_mmis ms)).foldl min acc)) (nI ms.length) σ := by
  obtain ⟨⟨a1, a2, a3, a4, a5, a6, a7⟩, h2⟩ := h.2.1
  have hc := h.2.2.1
  intro r
  induction r with
  | zero =>
    intro j n acc hj hn ha
    obtain ⟨n, rfl⟩ : ∃ m, n = m + 1 := ⟨n - 1, by omega⟩
    have e : ms.drop j = [] := List.drop_eq_nil_of_le (by omega)
    have ej : j = ms.length := by omega
    rw [e, ej]
    unfold dm_X0_faultAsWhole_L32
    simp (disch := first | assumption | omega) [ck_T, sm_s, bd_l, bd_r, lt_e, eq_self, and_self, if_true, true_and, and_true, lit_nI, nI_add, nI_mul, nI_sub, nI_clamp, nI_eq, nI_ltI, nI_leI, nN_e, nI_nN, nN_nI, bI_0, bI_1, bI_n, bool_0, bool_1, in_T, lg_cmp0, ofN_nI, a3, hc]
  | succ r ih =>
    intro j n acc hj hn' ha
    obtain ⟨n, rfl⟩ : ∃ m, n = m + 1 := ⟨n - 1, by omega⟩
    obtain ⟨x, hx⟩ : ∃ x, ms[j]? = some x := ⟨_, List.getElem?_eq_getElem (by omega)⟩
    have ed : ms.drop j = x :: ms.drop (j + 1) := by
      obtain ⟨hlt, hx3⟩ := List.getElem?_eq_some_iff.mp hx
      rw [List.drop_eq_getElem_cons hlt, hx3]
    obtain ⟨q1, q2, q3, q4, q5, q6, q7⟩ := h2 j x hx
    have xm := List.mem_of_getElem? hx
    have kA := q6.1.2.1
    have fm := cw_firstMisfit h xm q6
    have le : sp_mmis ms x ≤ 1001 := Nat.le_trans (foldl_le _ _) (foldl_le _ _)
    have mi := min_nI (a := acc) (v := sp_mmis ms x) (by omega) (by omega)
    rw [ed]
    simp only [List.map_cons, List.foldl_cons]
    rw [← ih (j + 1) n (min acc (sp_mmis ms x)) (by omega) (by omega) (by omega)]
    conv => lhs; unfold dm_X0_faultAsWhole_L32
    have i2 : ¬ ms.length ≤ j := by omega
    simp (disch := first | assumption | omega) [ck_T, sm_s, bd_l, bd_r, lt_e, eq_self, and_self, if_true, true_and, and_true, lit_nI, nI_add, nI_mul, nI_sub, nI_clamp, nI_eq, nI_ltI, nI_leI, nN_e, nI_nN, nN_nI, bI_0, bI_1, bI_n, bool_0, bool_1, in_T, lg_cmp0, ofN_nI, i2, a3, a4, a5, a6, hc, q1, kA, fm, x_in, dlt_T]
    congr 1
    rw [← mi]
    simp (disch := first | assumption | omega) [nI_ltI]
