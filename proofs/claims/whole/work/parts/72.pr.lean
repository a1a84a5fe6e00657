/-! ===== the class: printing instances and modules ===== -/
theorem Sm.symm {σ σ' : xS} {a : Nat} (h : Sm σ σ' a) : Sm σ' σ a := ⟨h.1.symm, h.2.1.symm, fun f => (h.2.2.1 f).symm, fun f => (h.2.2.2.1 f).symm, fun f => (h.2.2.2.2.1 f).symm, fun f => (h.2.2.2.2.2.1 f).symm, fun f => (h.2.2.2.2.2.2.1 f).symm, fun f => (h.2.2.2.2.2.2.2 f).symm⟩
theorem Sms.symm {σ σ' : xS} {lo hi : Nat} (h : Sms σ σ' lo hi) : Sms σ' σ lo hi := fun b h1 h2 => (h b h1 h2).symm
theorem IOK.pS {P : xP} {σ : xS} {D : Nat} {A H : Nat → Nat} {G : Nat → List Nat → Nat} {ms : List xMod} {top : Nat} {g : List Nat → Nat} {lo hi a : Nat} {m : xMod} {i : xIns} (h : IOK P σ D A H G ms top g lo hi a m i) (C : CI P σ) (hlo : P.base + 8 < lo) (lng : Bool) (w : Nat) (l : List Nat) : IOK P (pS P σ lng w l) D A H G ms top g lo hi a m i := by
  obtain ⟨h1, h2, h3, h4, h5⟩ := h
  have d1 : P.base + 9 ≤ D := by
    obtain ⟨⟨lng, -, dr, -⟩, -⟩ := h1
    exact dr.1.1
  exact ⟨h1.sm (pS_ci C lng w l) (pS_sms lng w l (by omega)), h2, h3, h4, h5.sm (pS_sms lng w l hlo) (Nat.le_refl _)⟩
theorem pn_mem {ms : List xMod} {i : xIns} {p : Nat} {r : xPart} (ep : pn_pt ms i p = some r) : ∃ l ∈ i.2.2.2.2, l.2.2 = some r := by
  unfold pn_pt at ep
  have ord : ((i.2.2.2.2[p]?).bind fun l => l.2.2) = some r → ∃ l ∈ i.2.2.2.2, l.2.2 = some r := by
    intro w
    cases el : i.2.2.2.2[p]? with
    | none => rw [el] at w; cases w
    | some l => rw [el] at w; exact ⟨l, List.mem_of_getElem? el, w⟩
  split at ep
  · exact ord ep
  · split at ep
    · split at ep
      · cases ep
      · rename_i t _
        cases el : i.2.2.2.2.find? (fun l => decide (l.1 = t.1)) with
        | none => rw [el] at ep; cases ep
        | some l => rw [el] at ep; exact ⟨l, List.mem_of_find?_eq_some el, ep⟩
    · exact ord ep
theorem cw_pinName {P : xP} {σ : xS} {D : Nat} {A H : Nat → Nat} {G : Nat → List Nat → Nat} {ms : List xMod} {top : Nat} {g : List Nat → Nat} {lo hi a : Nat} {m : xMod} {i : xIns} (h : IOK P σ D A H G ms top g lo hi a m i) {p : Nat} (hp : p < pn_cnt ms i) : dm_X1_pinName P a (nI p) σ = some (.inl (pk (pn_nm ms i p)), σ) ∧ nm_ok (pn_nm ms i p) := by
  have hnm := h.nm
  obtain ⟨⟨⟨lng, -, dr, hc, hx⟩, -⟩, -, -, -, h1, h2', h3, h4, h5, h6, h7, h8, h9, h10, h11, h12, h13, h14⟩ := h
  unfold dm_X1_pinName dm_X1_pinName_p31 pn_nm
  unfold pn_cnt at hp
  rcases pn_get (ms := ms) (i := i) with ⟨q1, q2⟩ | ⟨j, k, q1, q2, q3⟩
  · simp only [q1, Option.map_none] at h12
    rw [q2] at hp ⊢
    simp only at hp ⊢
    obtain ⟨l, hl⟩ : ∃ l, i.2.2.2.2[p]? = some l := ⟨_, List.getElem?_eq_getElem (by omega)⟩
    obtain ⟨b, u1, u2⟩ := h14 p l hl
    obtain ⟨l1, l2, l3, l4, l5, l6⟩ := u2
    have p16 : p < 16 := by omega
    rw [hl]
    refine ⟨?_, hnm l (List.mem_of_getElem? hl)⟩
    simp (disch := first | assumption | omega) [ck_T, sm_s, bd_l, bd_r, lt_e, eq_self, and_self, if_true, true_and, and_true, lit_nI, nI_add, nI_mul, nI_sub, nI_clamp, nI_eq, nI_ltI, nI_leI, nN_e, nI_nN, nN_nI, bI_0, bI_1, bI_n, bool_0, bool_1, in_T, lg_cmp0, ofN_nI, h3, h8, h9, h10, h12, u1, l3, l4, x_in, dlt_T]
  · simp only [q1, Option.map_some] at h12
    have km := (dr.2 j k q2).2.2.2.2.2.1
    obtain ⟨⟨a1, kk, a3, a4, a5⟩, ⟨b1, b2, b3, b4, b5, b6⟩, -, -, e1, -, -⟩ := km
    rw [q3] at hp ⊢
    simp only at hp ⊢
    obtain ⟨x, hx2⟩ : ∃ x, k.ports[p]? = some x := ⟨_, List.getElem?_eq_getElem (by omega)⟩
    obtain ⟨u1, u2, u3, u4, u5, u6, u7⟩ := e1 p x (ports_nets hx2)
    have := get_lt (ports_nets hx2)
    have p16 : p < 16 := by omega
    rw [hx2]
    refine ⟨?_, ((hx.2.2.1 k (List.mem_of_getElem? q2)).1.2.1.1 x (List.mem_of_getElem? (ports_nets hx2))).1⟩
    simp (disch := first | assumption | omega) [ck_T, sm_s, bd_l, bd_r, lt_e, eq_self, and_self, if_true, true_and, and_true, lit_nI, nI_add, nI_mul, nI_sub, nI_clamp, nI_eq, nI_ltI, nI_leI, nN_e, nI_nN, nN_nI, bI_0, bI_1, bI_n, bool_0, bool_1, in_T, lg_cmp0, ofN_nI, h3, h12, kk, b1, b2, b3, u1, u4, u5, x_in, dlt_T]
theorem pt_ol {P : xP} {σ0 : xS} (C : CI P σ0) (lng : Bool) (w : Nat) {g : List Nat → Nat} {kd : List Nat → Option Nat} {hi lo2 hi2 ix M : Nat} {v : Option Nat} {m : xMod} {o : Option xPart} (hl : P.base + 8 < lo2) (hM : P.base + 8 < M) (h : OPartR σ0 g lo2 hi2 v o) (hm : MR σ0 g kd ix M hi m) (hf : FBR σ0 g M m) (hw : ∀ r, o = some r → PW m.nets r) (hn : NW m.nets) (l : List Nat) : dm_X7_printOrderedLink P (P.base + 8) v (pS P σ0 lng w l) = some (.inl (), pS P σ0 lng w (l ++ pr_ol lng o)) := by
  have k8 := ci_22 C
  have u := pt_put C lng w
  unfold dm_X7_printOrderedLink dm_X7_printOrderedLink_p18 pr_ol
  cases v with
  | none =>
    cases o with
    | some r => exact h.elim
    | none => simp (disch := first | assumption | omega) [ck_T, sm_s, bd_l, bd_r, lt_e, eq_self, and_self, if_true, true_and, and_true, lit_nI, nI_add, nI_mul, nI_sub, nI_clamp, nI_eq, nI_ltI, nI_leI, nN_e, nI_nN, nN_nI, bI_0, bI_1, bI_n, bool_0, bool_1, in_T, lg_cmp0, ofN_nI, pS_K, k8, u]
  | some a =>
    cases o with
    | none => exact h.elim
    | some r =>
      have pp := pt_part C lng w hl hM h hm hf (hw r rfl) hn
      simp (disch := first | assumption | omega) [ck_T, sm_s, bd_l, bd_r, lt_e, eq_self, and_self, if_true, true_and, and_true, lit_nI, nI_add, nI_mul, nI_sub, nI_clamp, nI_eq, nI_ltI, nI_leI, nN_e, nI_nN, nN_nI, bI_0, bI_1, bI_n, bool_0, bool_1, in_T, lg_cmp0, ofN_nI, pS_K, k8, pp]
theorem pt_nl {P : xP} {σ0 : xS} (C : CI P σ0) (w : Nat) {g : List Nat → Nat} {kd : List Nat → Option Nat} {hi lo2 hi2 ix M : Nat} {v : Option Nat} {m : xMod} {o : Option xPart} (hl : P.base + 8 < lo2) (hM : P.base + 8 < M) (h : OPartR σ0 g lo2 hi2 v o) (hm : MR σ0 g kd ix M hi m) (hf : FBR σ0 g M m) (hw : ∀ r, o = some r → PW m.nets r) (hn : NW m.nets) {nm : List Nat} (ho : nm_ok nm) (l : List Nat) : dm_X7_printNamedLink P (P.base + 8) (pk nm) v (pS P σ0 true w l) = some (.inl (), pS P σ0 true w (l ++ pr_nl nm o)) := by
  have k8 := ci_22 C
  have u := pt_put C true w
  have n1 := pt_name C true w ho
  unfold dm_X7_printNamedLink dm_X7_printNamedLink_p26 pr_nl
  cases v with
  | none =>
    cases o with
    | some r => exact h.elim
    | none => simp (disch := first | assumption | omega) [ck_T, sm_s, bd_l, bd_r, lt_e, eq_self, and_self, if_true, true_and, and_true, lit_nI, nI_add, nI_mul, nI_sub, nI_clamp, nI_eq, nI_ltI, nI_leI, nN_e, nI_nN, nN_nI, bI_0, bI_1, bI_n, bool_0, bool_1, in_T, lg_cmp0, ofN_nI, pS_K, k8, u, n1]
  | some a =>
    cases o with
    | none => exact h.elim
    | some r =>
      have pp := pt_part C true w hl hM h hm hf (hw r rfl) hn
      simp (disch := first | assumption | omega) [ck_T, sm_s, bd_l, bd_r, lt_e, eq_self, and_self, if_true, true_and, and_true, lit_nI, nI_add, nI_mul, nI_sub, nI_clamp, nI_eq, nI_ltI, nI_leI, nN_e, nI_nN, nN_nI, bI_0, bI_1, bI_n, bool_0, bool_1, in_T, lg_cmp0, ofN_nI, pS_K, k8, u, n1, pp]
/-- module number ix of the design is m, at A ix -/
def MOK (P : xP) (σ : xS) (D : Nat) (A H : Nat → Nat) (G : Nat → List Nat → Nat) (ms : List xMod) (top ix : Nat) (m : xMod) : Prop := CI P σ ∧ DD P σ D A H G ms top ∧ sp_mis ms = 1001 ∧ ms[ix]? = some m
theorem MOK.get {P : xP} {σ : xS} {D : Nat} {A H : Nat → Nat} {G : Nat → List Nat → Nat} {ms : List xMod} {top ix : Nat} {m : xMod} (h : MOK P σ D A H G ms top ix m) : P.base + 44 ≤ A ix ∧ MR σ (G ix) (fun f => (sp_kind ms f).map A) ix (A ix) (H ix) m ∧ FBR σ (G ix) (A ix) m ∧ AW m ∧ MW m ∧ nm_ok m.nm ∧ ∀ x ∈ m.nets, x.2.1 ≠ 3 := by
  obtain ⟨C, ⟨⟨lng, -, dr, hc, hx⟩, -⟩, -, hm⟩ := h
  obtain ⟨q1, q2, q3, q4, q5, q6, q7⟩ := dr.2 ix m hm
  have fx := hx.2.2.1 m (List.mem_of_getElem? hm)
  exact ⟨q3, q6, q7, fx.1.1, fx.1.2.1, fx.1.2.2.1, fx.2⟩
theorem pn_le {P : xP} {σ : xS} {D : Nat} {A H : Nat → Nat} {G : Nat → List Nat → Nat} {ms : List xMod} {top : Nat} {g : List Nat → Nat} {lo hi a : Nat} {m : xMod} {i : xIns} (h : IOK P σ D A H G ms top g lo hi a m i) : pn_cnt ms i ≤ 16 := by
  obtain ⟨⟨⟨lng, -, dr, hc, hx⟩, -⟩, -, -, -, ir⟩ := h
  unfold pn_cnt
  rcases pn_get (ms := ms) (i := i) with ⟨q1, q2⟩ | ⟨j, k, q1, q2, q3⟩
  · rw [q2]; exact ir.2.2.2.2.2.2.2.2.2.2.2.2.1
  · rw [q3]
    have := (hx.2.2.1 k (List.mem_of_getElem? q2)).1.2.2.2.1.1
    simp only [xMod.nets, List.length_append] at this
    simp only
    omega
theorem pt_liL {P : xP} {σ0 : xS} {D : Nat} {A H : Nat → Nat} {G : Nat → List Nat → Nat} {ms : List xMod} {top ix : Nat} {m : xMod} (w : Nat) (h : MOK P σ0 D A H G ms top ix m) {i : xIns} {a : Nat} (ok : IOK P σ0 D A H G ms top (G ix) (A ix + 5) (H ix) a m i) {nb : Bool} (hnb : nb = true ↔ ¬ (pn_mod ms i = none ∧ i.2.2.2.1 = false)) : ∀ (r j n : Nat) (l : List Nat), j + r = pn_cnt ms i → r < n → dm_X7_printLongInstance_L50 P (P.base + 8) n (some a) (bI nb) (nI j) (pS P σ0 true w l) = some (.inl (), pS P σ0 true w (l ++ ((List.range' j r).flatMap (pr_pin ms i) ++ [41, 59, 10]))) := by
  have C := h.1
  obtain ⟨hA, mr, fb, aw, mw, -, -⟩ := h.get
  have k8 := ci_22 C
  have ka := ok.2.2.2.2.2.2.1
  have al := ok.2.2.2.2.1
  have cb := pn_le ok
  have t1 := pt_text C true w (q := (1, [41, 59, 10])) (by decide)
  simp only at t1
  intro r
  induction r with
  | zero =>
    intro j n l hj hn
    obtain ⟨n, rfl⟩ : ∃ m, n = m + 1 := ⟨n - 1, by omega⟩
    have pc := cw_pinCount (ok.pS C (by omega) true w l)
    have e1 : pn_cnt ms i ≤ j := by omega
    unfold dm_X7_printLongInstance_L50
    simp (disch := first | assumption | omega) [ck_T, sm_s, bd_l, bd_r, lt_e, eq_self, and_self, if_true, true_and, and_true, lit_nI, nI_add, nI_mul, nI_sub, nI_clamp, nI_eq, nI_ltI, nI_leI, nN_e, nI_nN, nN_nI, bI_0, bI_1, bI_n, bool_0, bool_1, in_T, lg_cmp0, ofN_nI, pS_K, k8, ka, pc, e1, t1]
  | succ r ih =>
    intro j n l hj hn
    obtain ⟨n, rfl⟩ : ∃ m, n = m + 1 := ⟨n - 1, by omega⟩
    have pc := cw_pinCount (ok.pS C (by omega) true w l)
    have e1 : ¬ pn_cnt ms i ≤ j := by omega
    -- the sign before it
    have sg' : dm_X7_putText P (P.base + 8) (if j = 0 then some (P.ad 0) else some (P.ad 2)) (pS P σ0 true w l) = some (.inl (), pS P σ0 true w (l ++ (if j = 0 then [] else [44]))) := by
      have s0 := pt_text C true w (q := (0, [])) (by decide) l
      have s2 := pt_text C true w (q := (2, [44])) (by decide) l
      simp only at s0 s2
      by_cases z : j = 0
      · rw [if_pos z, if_pos z]
        exact s0
      · rw [if_neg z, if_neg z]
        exact s2
    have okp := ok.pS C (by omega) true w (l ++ (if j = 0 then [] else [44]))
    obtain ⟨v, v1, v2⟩ := cw_partAt okp (p := j) (by omega)
    obtain ⟨nm1, nm2⟩ := cw_pinName okp (p := j) (by omega)
    have v3 := v2.sm (pS_sms true w _ (by omega)).symm (Nat.le_refl _)
    have hw : ∀ r, pn_pt ms i j = some r → PW m.nets r := by
      intro r hr
      obtain ⟨l, hl1, hl2⟩ := pn_mem hr
      exact (ok.parts hl1 hl2).1
    have ka' : (pS P σ0 true w (l ++ (if j = 0 then [] else [44]))).K a = 2 := by rw [pS_K]; exact ka
    -- one pin
    have one : dm_X7_printLongInstance_p70 P (dm_X7_printLongInstance_L50 P (P.base + 8) n) (P.base + 8) (some a) (bI nb) (nI j) (some (P.base + 8)) (if j = 0 then some (P.ad 0) else some (P.ad 2)) (pS P σ0 true w l) = dm_X7_printLongInstance_L50 P (P.base + 8) n (some a) (bI nb) (nI (j + 1)) (pS P σ0 true w (l ++ pr_pin ms i j)) := by
      unfold dm_X7_printLongInstance_p70 dm_X7_printLongInstance_p103 pr_pin
      cases nb with
      | false =>
        have hc : pn_mod ms i = none ∧ i.2.2.2.1 = false := by
          apply Classical.byContradiction
          intro z
          have := hnb.mpr z
          cases this
        rw [if_pos hc]
        have pl := pt_ol C true w (by omega) (show P.base + 8 < A ix by omega) v3 mr fb hw mw.1 (l ++ (if j = 0 then [] else [44]))
        generalize (if j = 0 then some (P.ad 0) else some (P.ad 2)) = tx at sg' ⊢
        generalize (if j = 0 then ([] : List Nat) else [44]) = sl at sg' v1 pl ⊢
        simp (disch := first | assumption | omega) [ck_T, sm_s, bd_l, bd_r, lt_e, eq_self, and_self, if_true, true_and, and_true, lit_nI, nI_add, nI_mul, nI_sub, nI_clamp, nI_eq, nI_ltI, nI_leI, nN_e, nI_nN, nN_nI, bI_0, bI_1, bI_n, bool_0, bool_1, in_T, lg_cmp0, ofN_nI, pS_K, k8, sg', bI_ff, ka, v1, pl]
      | true =>
        have hc : ¬ (pn_mod ms i = none ∧ i.2.2.2.1 = false) := hnb.mp rfl
        rw [if_neg hc]
        have pl := pt_nl C w (by omega) (show P.base + 8 < A ix by omega) v3 mr fb hw mw.1 nm2 (l ++ (if j = 0 then [] else [44]))
        generalize (if j = 0 then some (P.ad 0) else some (P.ad 2)) = tx at sg' ⊢
        generalize (if j = 0 then ([] : List Nat) else [44]) = sl at sg' v1 nm1 pl ⊢
        simp (disch := first | assumption | omega) [ck_T, sm_s, bd_l, bd_r, lt_e, eq_self, and_self, if_true, true_and, and_true, lit_nI, nI_add, nI_mul, nI_sub, nI_clamp, nI_eq, nI_ltI, nI_leI, nN_e, nI_nN, nN_nI, bI_0, bI_1, bI_n, bool_0, bool_1, in_T, lg_cmp0, ofN_nI, pS_K, k8, sg', bI_tt, ka, nm1, v1, pl]
    have ihh := ih (j + 1) n (l ++ pr_pin ms i j) (by omega) (by omega)
    rw [List.range'_succ, List.flatMap_cons]
    have ea : l ++ (pr_pin ms i j ++ (List.range' (j + 1) r).flatMap (pr_pin ms i) ++ [41, 59, 10]) = l ++ pr_pin ms i j ++ ((List.range' (j + 1) r).flatMap (pr_pin ms i) ++ [41, 59, 10]) := by simp
    rw [ea, ← ihh, ← one]
    conv => lhs; unfold dm_X7_printLongInstance_L50
    by_cases z : j = 0
    · subst z
      simp (disch := first | assumption | omega) [ck_T, sm_s, bd_l, bd_r, lt_e, eq_self, and_self, if_true, true_and, and_true, lit_nI, nI_add, nI_mul, nI_sub, nI_clamp, nI_eq, nI_ltI, nI_leI, nN_e, nI_nN, nN_nI, bI_0, bI_1, bI_n, bool_0, bool_1, in_T, lg_cmp0, ofN_nI, pS_K, k8, ka, pc, e1]
    · simp (disch := first | assumption | omega) [ck_T, sm_s, bd_l, bd_r, lt_e, eq_self, and_self, if_true, true_and, and_true, lit_nI, nI_add, nI_mul, nI_sub, nI_clamp, nI_eq, nI_ltI, nI_leI, nN_e, nI_nN, nN_nI, bI_0, bI_1, bI_n, bool_0, bool_1, in_T, lg_cmp0, ofN_nI, pS_K, k8, ka, pc, e1, z]
theorem pt_li {P : xP} {σ0 : xS} {D : Nat} {A H : Nat → Nat} {G : Nat → List Nat → Nat} {ms : List xMod} {top ix : Nat} {m : xMod} (w : Nat) (h : MOK P σ0 D A H G ms top ix m) {i : xIns} {a : Nat} (ok : IOK P σ0 D A H G ms top (G ix) (A ix + 5) (H ix) a m i) (l : List Nat) : dm_X7_printLongInstance P (P.base + 8) (some a) (pS P σ0 true w l) = some (.inl (), pS P σ0 true w (l ++ pr_ins ms true i)) := by
  have C := h.1
  have hN := C.N
  obtain ⟨hA, mr, fb, aw, mw, -, -⟩ := h.get
  have k8 := ci_22 C
  obtain ⟨h1, h2', h3, h4, h5, h6, h7, h8, h9, h10, h11, h12, h13, h14⟩ := ok.2.2.2.2
  have nms := mw.2 i ok.2.2.2.1
  have n1 := pt_name C true w nms.1
  have n2 := pt_name C true w nms.2.1
  have u := pt_put C true w
  have cb := pn_le ok
  have L := fun (nb : Bool) (hnb : nb = true ↔ ¬ (pn_mod ms i = none ∧ i.2.2.2.1 = false)) => pt_liL w h ok hnb (pn_cnt ms i) 0 P.N (l ++ i.1 ++ [32] ++ i.2.1 ++ [40]) (by omega) (by omega)
  have p19 : ∀ (nb : Bool), (nb = true ↔ ¬ (pn_mod ms i = none ∧ i.2.2.2.1 = false)) → dm_X7_printLongInstance_p19 P (P.base + 8) (some a) (bI nb) (pS P σ0 true w l) = some (.inl (), pS P σ0 true w (l ++ pr_ins ms true i)) := by
    intro nb hnb
    have q := L nb hnb
    unfold pr_ins
    simp only [if_true]
    rw [List.range_eq_range']
    have ea : l ++ (i.1 ++ ([32] ++ (i.2.1 ++ ([40] ++ ((List.range' 0 (pn_cnt ms i)).flatMap (pr_pin ms i) ++ [41, 59, 10]))))) = l ++ i.1 ++ [32] ++ i.2.1 ++ [40] ++ ((List.range' 0 (pn_cnt ms i)).flatMap (pr_pin ms i) ++ [41, 59, 10]) := by simp
    rw [ea, ← q]
    unfold dm_X7_printLongInstance_p19
    simp only [lit_nI, sm_s, pS_K, pS_J, k8, h3, h4, h5, ck_T, eq_self, n1, n2, u, bd_l]
  unfold dm_X7_printLongInstance dm_X7_printLongInstance_p14
  rcases pn_get (ms := ms) (i := i) with ⟨q1, q2⟩ | ⟨j, k, q1, q2, q3⟩
  · simp only [q1, Option.map_none] at h12
    cases e : i.2.2.2.1 with
    | false =>
      rw [e] at h7
      have q := p19 false (by simp [q2, e])
      rw [bI_ff] at q
      simp (disch := first | assumption | omega) [ck_T, sm_s, bd_l, bd_r, lt_e, eq_self, and_self, if_true, true_and, and_true, lit_nI, nI_add, nI_mul, nI_sub, nI_clamp, nI_eq, nI_ltI, nI_leI, nN_e, nI_nN, nN_nI, bI_0, bI_1, bI_n, bool_0, bool_1, in_T, lg_cmp0, ofN_nI, pS_K, pS_R, pS_I, h3, h12, h7, bI_ff, q]
    | true =>
      rw [e] at h7
      have q := p19 true (by simp [e])
      rw [bI_tt] at q
      simp (disch := first | assumption | omega) [ck_T, sm_s, bd_l, bd_r, lt_e, eq_self, and_self, if_true, true_and, and_true, lit_nI, nI_add, nI_mul, nI_sub, nI_clamp, nI_eq, nI_ltI, nI_leI, nN_e, nI_nN, nN_nI, bI_0, bI_1, bI_n, bool_0, bool_1, in_T, lg_cmp0, ofN_nI, pS_K, pS_R, pS_I, h3, h12, h7, bI_tt, q]
  · simp only [q1, Option.map_some] at h12
    have q := p19 true (by simp [q3])
    rw [bI_tt] at q
    simp (disch := first | assumption | omega) [ck_T, sm_s, bd_l, bd_r, lt_e, eq_self, and_self, if_true, true_and, and_true, lit_nI, nI_add, nI_mul, nI_sub, nI_clamp, nI_eq, nI_ltI, nI_leI, nN_e, nI_nN, nN_nI, bI_0, bI_1, bI_n, bool_0, bool_1, in_T, lg_cmp0, ofN_nI, pS_K, pS_R, pS_I, h3, h12, q]
theorem pt_siL {P : xP} {σ0 : xS} {D : Nat} {A H : Nat → Nat} {G : Nat → List Nat → Nat} {ms : List xMod} {top ix : Nat} {m : xMod} (w : Nat) (h : MOK P σ0 D A H G ms top ix m) {i : xIns} {a : Nat} (ok : IOK P σ0 D A H G ms top (G ix) (A ix + 5) (H ix) a m i) : ∀ (r j n : Nat) (l : List Nat), j + r = pn_cnt ms i → r < n → dm_X7_printShortInstance_L30 P (P.base + 8) n (some a) (nI j) (pS P σ0 false w l) = some (.inl (), pS P σ0 false w (l ++ ((List.range' j r).flatMap (fun p => [32] ++ pr_ol false (pn_pt ms i p)) ++ [59, 10]))) := by
  have C := h.1
  obtain ⟨hA, mr, fb, aw, mw, -, -⟩ := h.get
  have k8 := ci_22 C
  have ka := ok.2.2.2.2.2.2.1
  have al := ok.2.2.2.2.1
  have cb := pn_le ok
  have t1 := pt_text C false w (q := (4, [59, 10])) (by decide)
  simp only at t1
  have u := pt_put C false w
  intro r
  induction r with
  | zero =>
    intro j n l hj hn
    obtain ⟨n, rfl⟩ : ∃ m, n = m + 1 := ⟨n - 1, by omega⟩
    have pc := cw_pinCount (ok.pS C (by omega) false w l)
    have e1 : pn_cnt ms i ≤ j := by omega
    unfold dm_X7_printShortInstance_L30
    simp (disch := first | assumption | omega) [ck_T, sm_s, bd_l, bd_r, lt_e, eq_self, and_self, if_true, true_and, and_true, lit_nI, nI_add, nI_mul, nI_sub, nI_clamp, nI_eq, nI_ltI, nI_leI, nN_e, nI_nN, nN_nI, bI_0, bI_1, bI_n, bool_0, bool_1, in_T, lg_cmp0, ofN_nI, pS_K, k8, ka, pc, e1, t1]
  | succ r ih =>
    intro j n l hj hn
    obtain ⟨n, rfl⟩ : ∃ m, n = m + 1 := ⟨n - 1, by omega⟩
    have pc := cw_pinCount (ok.pS C (by omega) false w l)
    have e1 : ¬ pn_cnt ms i ≤ j := by omega
    obtain ⟨v, v1, v2⟩ := cw_partAt (ok.pS C (by omega) false w (l ++ [32])) (p := j) (by omega)
    have v3 := v2.sm (pS_sms false w _ (by omega)).symm (Nat.le_refl _)
    have hw : ∀ r, pn_pt ms i j = some r → PW m.nets r := by
      intro r hr
      obtain ⟨l, hl1, hl2⟩ := pn_mem hr
      exact (ok.parts hl1 hl2).1
    have pl := pt_ol C false w (by omega) (show P.base + 8 < A ix by omega) v3 mr fb hw mw.1 (l ++ [32])
    have ihh := ih (j + 1) n (l ++ [32] ++ pr_ol false (pn_pt ms i j)) (by omega) (by omega)
    rw [List.range'_succ, List.flatMap_cons]
    have ea : l ++ ([32] ++ pr_ol false (pn_pt ms i j) ++ (List.range' (j + 1) r).flatMap (fun p => [32] ++ pr_ol false (pn_pt ms i p)) ++ [59, 10]) = l ++ [32] ++ pr_ol false (pn_pt ms i j) ++ ((List.range' (j + 1) r).flatMap (fun p => [32] ++ pr_ol false (pn_pt ms i p)) ++ [59, 10]) := by simp
    rw [ea, ← ihh]
    conv => lhs; unfold dm_X7_printShortInstance_L30
    have nl : (nI (pn_cnt ms i) ≤ nI j) = False := eq_false (fun z => e1 ((nI_leI (by omega) (by omega)).mp z))
    simp only [lit_nI, sm_s, pS_K, k8, ka, ck_T, eq_self, pc, bd_l, nl, if_false, u, v1, pl, lt_e, nI_add]
theorem pt_si {P : xP} {σ0 : xS} {D : Nat} {A H : Nat → Nat} {G : Nat → List Nat → Nat} {ms : List xMod} {top ix : Nat} {m : xMod} (w : Nat) (h : MOK P σ0 D A H G ms top ix m) {i : xIns} {a : Nat} (ok : IOK P σ0 D A H G ms top (G ix) (A ix + 5) (H ix) a m i) (l : List Nat) : dm_X7_printShortInstance P (P.base + 8) (some a) (pS P σ0 false w l) = some (.inl (), pS P σ0 false w (l ++ pr_ins ms false i)) := by
  have C := h.1
  have hN := C.N
  obtain ⟨hA, mr, fb, aw, mw, -, -⟩ := h.get
  have k8 := ci_22 C
  obtain ⟨h1, h2', h3, h4, h5, h6, h7, h8, h9, h10, h11, h12, h13, h14⟩ := ok.2.2.2.2
  have nms := mw.2 i ok.2.2.2.1
  have n1 := pt_name C false w nms.1
  have n2 := pt_name C false w nms.2.1
  have u := pt_put C false w
  have cb := pn_le ok
  have t1 := pt_text C false w (q := (26, [117, 32])) (by decide)
  simp only at t1
  have q := pt_siL w h ok (pn_cnt ms i) 0 P.N (l ++ [117, 32] ++ i.1 ++ [32] ++ i.2.1) (by omega) (by omega)
  unfold pr_ins
  simp only [Bool.false_eq_true, if_false]
  rw [List.range_eq_range']
  have ea : l ++ ([117, 32] ++ (i.1 ++ ([32] ++ (i.2.1 ++ ((List.range' 0 (pn_cnt ms i)).flatMap (fun p => [32] ++ pr_ol false (pn_pt ms i p)) ++ [59, 10]))))) = l ++ [117, 32] ++ i.1 ++ [32] ++ i.2.1 ++ ((List.range' 0 (pn_cnt ms i)).flatMap (fun p => [32] ++ pr_ol false (pn_pt ms i p)) ++ [59, 10]) := by simp
  rw [ea, ← q]
  unfold dm_X7_printShortInstance
  simp only [lit_nI, t1, sm_s, pS_K, pS_J, k8, h3, h4, h5, ck_T, eq_self, n1, n2, u, bd_l]
