/-! ===== the reference: what stands in a module ===== -/
def sp_body (T : xT) (lng : Bool) (ms : List xMod) : Nat → xMod → Nat → Except Nat (xMod × Nat × Nat)
  | 0, _, _ => .error 0
  | k + 1, m, p => eb (sp_piece T lng (ms, some m, p)) fun c => match c.2.1 with
    | some m' => sp_body T lng ms k m' c.2.2
    | none => .ok (m, c.2.2, k)
theorem bo_item {T : xT} {lng : Bool} {ms : List xMod} {k : Nat} {m : xMod} {p : Nat} {e : Except Nat (xMod × Nat)} (h : sp_piece T lng (ms, some m, p) = sp_item e ms) : sp_body T lng ms (k + 1) m p = eb e fun q => sp_body T lng ms k q.1 q.2 := by
  simp only [sp_body]
  rw [h]
  unfold sp_item
  rw [eb_as]
  cases e with
  | error f => rfl
  | ok q => rfl
theorem bo_end {T : xT} {lng : Bool} {ms : List xMod} {k : Nat} {m : xMod} {p : Nat} {e : Except Nat Nat} (h : sp_piece T lng (ms, some m, p) = eb e fun p => .ok (ms ++ [m], none, p)) : sp_body T lng ms (k + 1) m p = eb e fun p' => .ok (m, p', k) := by
  simp only [sp_body]
  rw [h, eb_as]
  cases e with
  | error f => rfl
  | ok q => rfl
theorem dz_piece {T : xT} {lng : Bool} {ms : List xMod} {m : xMod} {p : Nat} (hk : lx_kind T p = 4) : sp_piece T lng (ms, some m, p) = .error p := by
  unfold sp_piece
  simp only [dz_txt hk, Bool.false_eq_true, if_false]
  cases lng with
  | true =>
    simp only [if_true]
    unfold sp_longIns sp_start sp_item
    rw [dz_name hk, eb_er, eb_er, eb_er]
  | false =>
    simp only [Bool.false_eq_true, if_false]
    unfold sp_shortEnd
    rw [dz_txt hk, if_neg (by simp), eb_er]
theorem dz_body {T : xT} {lng : Bool} {ms : List xMod} {m : xMod} {k p : Nat} (hk : lx_kind T p = 4) : sp_body T lng ms (k + 1) m p = .error p := by
  simp only [sp_body]
  rw [dz_piece hk, eb_er]
theorem rd_p202 {P : xP} {σ : xS} {f : Nat} (h : DE P σ f) : dm_X12_longModule_p202 P (P.base + 11) σ = some (.inl (), σ) := by
  unfold dm_X12_longModule_p202
  simp only [ri_0 h.1, ck_T, eq_self, rd_next h, bd_l]
theorem rd_L155 {P : xP} {σ : xS} {f : Nat} (h : DE P σ f) (N : Nat) (v : Int32) : dm_X12_longModule_L155 P (P.base + 11) (N + 1) v σ = some (.inl (), σ) := by
  have ok := rd_ok h.1 (by have := h.2.2; omega) h.2.1
  unfold dm_X12_longModule_L155
  simp only [ri_0 h.1, ck_T, eq_self, ok, bd_l, lit_nI, if_true, rd_p202 h]
theorem rd_p153 {P : xP} {σ : xS} {f : Nat} (h : DE P σ f) (hN : 5000 ≤ P.N) : dm_X12_longModule_p153 P (P.base + 11) σ = some (.inl (), σ) := by
  obtain ⟨N, hN1⟩ : ∃ k, P.N = k + 1 := ⟨P.N - 1, by omega⟩
  unfold dm_X12_longModule_p153
  rw [hN1]
  exact rd_L155 h _ _
theorem rd_L93 {P : xP} {σ : xS} {f : Nat} (h : DE P σ f) (hN : 5000 ≤ P.N) (N : Nat) : dm_X12_longModule_L93 P (P.base + 11) (N + 1) σ = some (.inl (), σ) := by
  have ok := rd_ok h.1 (by have := h.2.2; omega) h.2.1
  unfold dm_X12_longModule_L93
  simp only [ri_0 h.1, ck_T, eq_self, ok, bd_l, lit_nI, if_true, rd_p153 h hN]
theorem rw_L155 {P : xP} {T : xT} {hv : Nat} {ms : List xMod} {pl n0 : Nat} {σ0 : xS} {m : xMod} {σ : xS} {p : Nat} (h : SI P T hv true ms pl n0 σ0 m σ p) (hk : lx_kind T p ≠ 4) (hp : p < T.2) : ∀ (r j f : Nat), j + r = m.ports.length → r + 1 < f → Rr (dm_X12_longModule_L155 P (P.base + 11) f (nI j) σ) (if ((m.ports.drop j).any fun x => decide (x.2.1 = 3)) = true then .error p else .ok (lx_nx T p)) (fun _ s p' => SI P T hv true ms pl n0 σ0 m s p') (EI P T hv ms pl n0 σ0) := by
  have fq := SIfail h
  have de := fq.2.de
  obtain ⟨s, u1, u2⟩ := h.next hk hp
  obtain ⟨-, -, n, -, hr⟩ := id h
  have r0 := hr.1.1.1
  have a0 := ri_0 r0
  have ok := rw_ok r0 (hr.1.2.1.ok hk)
  have hv1 := hr.1.1.2.2.1
  have m8 := hr.1.2.2.2.1
  have fr := hr.1.2.1.2.1
  have ff : dm_X12_fail P (P.base + 11) (nI p) σ = some (.inl (), fl P σ p) := rw_fail r0 (hr.1.2.1.ok hk) (nI p)
  have md := rw_mod hr.1.1 hr.1.2.2.1
  have rm := (hr.1.2.2.2.2.2.1).choose_spec
  have cnp := rm.1.2.2.1
  have l16 := hr.1.2.2.2.2.2.2.1.2.2.2.1.1
  have pn : m.ports.length ≤ m.nets.length := by unfold xMod.nets; simp
  intro r
  induction r with
  | zero =>
    intro j f hj hf
    obtain ⟨f, rfl⟩ : ∃ m, f = m + 1 := ⟨f - 1, by omega⟩
    have e : m.ports.drop j = [] := List.drop_eq_nil_of_le (by omega)
    have e1 : m.ports.length ≤ j := by omega
    rw [e]
    simp only [List.any_nil, Bool.false_eq_true, if_false]
    refine Rr.ok (v := ()) (σ' := s) ?_ u2
    unfold dm_X12_longModule_L155 dm_X12_longModule_p202
    simp (disch := first | assumption | omega) [ck_T, sm_s, bd_l, bd_r, lt_e, eq_self, and_self, if_true, true_and, and_true, lit_nI, nI_add, nI_mul, nI_sub, nI_clamp, nI_eq, nI_ltI, nI_leI, nN_e, nI_nN, nN_nI, bI_0, bI_1, bI_n, bool_0, bool_1, in_T, lg_cmp0, ofN_nI, ri_0 r0, ri_16 r0, ri_17 r0, ri_18 r0, ok, md, cnp, e1, u1, x_in, dlt_T, dle_T]
  | succ r ih =>
    intro j f hj hf
    obtain ⟨f, rfl⟩ : ∃ m, f = m + 1 := ⟨f - 1, by omega⟩
    obtain ⟨x, hx⟩ : ∃ x, m.ports[j]? = some x := ⟨_, List.getElem?_eq_getElem (by omega)⟩
    have hx' : m.nets[j]? = some x := by unfold xMod.nets; rw [List.getElem?_append_left (by omega)]; exact hx
    have e1 : ¬ m.ports.length ≤ j := by omega
    have nc := rw_netCell hr.1.1 hr.1.2.2.1 j
    have told := (rm.2.1 j x hx').2.2.2
    have et : m.ports.drop j = x :: m.ports.drop (j + 1) := by
      rw [List.drop_eq_getElem_cons (by omega)]
      congr 1
      rw [List.getElem?_eq_getElem (by omega)] at hx
      exact Option.some.inj hx
    rw [et, List.any_cons]
    by_cases e : x.2.1 = 3
    · rw [decide_eq_true e, Bool.true_or, if_pos rfl]
      have t0 : σ.AI (P.base + 23) (16 * (8 * hv + ms.length) + j) = nI 0 := by rw [told, e]; simp [bI_ff]
      obtain ⟨f1, hf1⟩ : ∃ m, f = m + 1 := ⟨f - 1, by omega⟩
      have st := rd_L155 de f1 (nI (j + 1))
      rw [← hf1] at st
      refine Rr.er (v := ()) (σ' := fl P σ p) ?_ fq
      unfold dm_X12_longModule_L155 dm_X12_longModule_p196
      simp (disch := first | assumption | omega) [ck_T, sm_s, bd_l, bd_r, lt_e, eq_self, and_self, if_true, true_and, and_true, lit_nI, nI_add, nI_mul, nI_sub, nI_clamp, nI_eq, nI_ltI, nI_leI, nN_e, nI_nN, nN_nI, bI_0, bI_1, bI_n, bool_0, bool_1, in_T, lg_cmp0, ofN_nI, ri_0 r0, ri_16 r0, ri_17 r0, ri_18 r0, ri_34 r0, ri_35 r0, ri_36 r0, ok, md, cnp, e1, nc, t0, fr, ff, st, x_in, dlt_T, dle_T]
    · rw [decide_eq_false e, Bool.false_or]
      have t0 : σ.AI (P.base + 23) (16 * (8 * hv + ms.length) + j) = nI 1 := by rw [told]; simp [e, bI_tt]
      refine Rr.eq (ih (j + 1) f (by omega) (by omega)) ?_
      conv => lhs; unfold dm_X12_longModule_L155 dm_X12_longModule_p196
      simp (disch := first | assumption | omega) [ck_T, sm_s, bd_l, bd_r, lt_e, eq_self, and_self, if_true, true_and, and_true, lit_nI, nI_add, nI_mul, nI_sub, nI_clamp, nI_eq, nI_ltI, nI_leI, nN_e, nI_nN, nN_nI, bI_0, bI_1, bI_n, bool_0, bool_1, in_T, lg_cmp0, ofN_nI, ri_0 r0, ri_16 r0, ri_17 r0, ri_18 r0, ri_34 r0, ri_35 r0, ri_36 r0, ok, md, cnp, e1, nc, t0, x_in, dlt_T, dle_T]
theorem rw_p153 {P : xP} {T : xT} {hv : Nat} {ms : List xMod} {pl n0 : Nat} {σ0 : xS} {m : xMod} {σ : xS} {p : Nat} (h : SI P T hv true ms pl n0 σ0 m σ p) (hk : lx_kind T p ≠ 4) (hp : p < T.2) : Rr (dm_X12_longModule_p153 P (P.base + 11) σ) (sp_longEnd T m p) (fun _ s p' => SI P T hv true ms pl n0 σ0 m s p') (EI P T hv ms pl n0 σ0) := by
  have hN := h.tr.1.2.2.2.2.2.2
  have l16 := h.wx.2.2.2.1.1
  have pn : m.ports.length ≤ m.nets.length := by unfold xMod.nets; simp
  have := rw_L155 h hk hp m.ports.length 0 P.N (by omega) (by omega)
  rw [List.drop_zero] at this
  exact this
theorem txt_nm {T : xT} {l : List Nat} {p : Nat} (h : sp_txt T l p = true) : (lx_kind T p = 0 ∨ lx_kind T p = 1) ∧ lx_nm T p = l ∧ p < T.2 := by
  unfold sp_txt at h
  simp only [Bool.and_eq_true, Bool.or_eq_true, decide_eq_true_eq] at h
  exact ⟨h.1, h.2, (kind_nm h.1).1⟩
theorem txt_ne {T : xT} {l l' : List Nat} {p : Nat} (h : sp_txt T l p = true) (hn : l ≠ l') : sp_txt T l' p = false := by
  obtain ⟨h1, h2, h3⟩ := txt_nm h
  unfold sp_txt
  rw [h2]
  simp [hn]
theorem rw_L93 {P : xP} {T : xT} {hv : Nat} {ms : List xMod} {pl n0 : Nat} {σ0 : xS} : ∀ (k : Nat) (m : xMod) (σ : xS) (p N : Nat), T.2 - p < k → k < N → KX T true (ms, some m, p) → SI P T hv true ms pl n0 σ0 m σ p → Rr (dm_X12_longModule_L93 P (P.base + 11) N σ) (sp_body T true ms k m p) (fun u s q => QS P T hv true ms pl n0 σ0 u s (q.1, q.2.1)) (EI P T hv ms pl n0 σ0) := by
  have n10 : ¬ nI 1 = nI 0 := by decide
  intro k
  induction k with
  | zero => intro m σ p N h1; omega
  | succ k ih =>
    intro m σ p N h1 h2 kx h
    have hN := h.tr.1.2.2.2.2.2.2
    have hT := h.tr.1.2.1
    obtain ⟨N, rfl⟩ : ∃ k, N = k + 1 := ⟨N - 1, by omega⟩
    obtain ⟨N1, hN1⟩ : ∃ k, N = k + 1 := ⟨N - 1, by omega⟩
    by_cases d : lx_kind T p = 4
    · have dq := h.bad d
      rw [dz_body d]
      exact Rr.er (rd_L93 dq.2.de hN N) dq
    · have a0 := ri_0 h.tr.1.1
      have ok := rw_ok h.tr.1.1 (h.tr.2.ok d)
      have key := rw_keyword h.tr.1 h.tr.2 d
      have is5 := rw_isKey h.tr.1 h.tr.2 d (w := 5) (l := kw_end) (by
        intro l'
        unfold kwi
        by_cases c0 : l' = kw_module
        · subst c0; simp; decide
        by_cases c1 : l' = kw_input
        · subst c1; simp; decide
        by_cases c2 : l' = kw_output
        · subst c2; simp; decide
        by_cases c3 : l' = kw_wire
        · subst c3; simp; decide
        by_cases c4 : l' = kw_assign
        · subst c4; simp; decide
        by_cases c5 : l' = kw_end
        · subst c5; simp; decide
        · simp only [c0, c1, c2, c3, c4, c5, if_false, eq_iff_iff, iff_false]; decide) (by omega)
      have step : ∀ (o : xO Unit) (e : Except Nat (xMod × Nat)), Rr o e (QS P T hv true ms pl n0 σ0) (EI P T hv ms pl n0 σ0) → sp_piece T true (ms, some m, p) = sp_item e ms → Rr (x_bind o (fun _ s => dm_X12_longModule_L93 P (P.base + 11) N s) (fun E s => some (.inr E, s))) (sp_body T true ms (k + 1) m p) (fun u s q => QS P T hv true ms pl n0 σ0 u s (q.1, q.2.1)) (EI P T hv ms pl n0 σ0) := by
        intro o e ho he
        rw [bo_item he]
        refine ho.last (fun v s q hb hq => ?_) (fun v g s hq => ⟨(), by rw [hN1]; exact rd_L93 hq.2.de hN _, hq⟩)
        have kk : sp_piece T true (ms, some m, p) = .ok (ms, some q.1, q.2) := by rw [he, hb]; rfl
        obtain ⟨kx', lt⟩ := KX.piece hT kx kk
        have lt : p < q.2 := lt
        have q2 : q.2 ≤ T.2 := kx'.1
        have pT := kx.1
        by_cases d2 : lx_kind T q.2 = 4
        · have dq := hq.2 d2
          obtain ⟨k1, hk1⟩ : ∃ j, k = j + 1 := ⟨k - 1, by simp only at pT; omega⟩
          rw [hk1, dz_body d2]
          refine Rr.er (v := ()) ?_ dq
          rw [hN1]
          exact rd_L93 dq.2.de hN _
        · exact ih q.1 s q.2 N (by simp only at pT; omega) (by omega) kx' (hq.1 d2)
      by_cases e5 : sp_txt T kw_end p = true
      · have n1 := txt_ne (l' := kw_input) e5 (by decide)
        have n2 := txt_ne (l' := kw_output) e5 (by decide)
        have n3 := txt_ne (l' := kw_wire) e5 (by decide)
        have n4 := txt_ne (l' := kw_assign) e5 (by decide)
        have pe : sp_piece T true (ms, some m, p) = eb (sp_longEnd T m p) fun p => .ok (ms ++ [m], none, p) := by
          unfold sp_piece
          simp only [n1, n2, n3, n4, e5, Bool.false_eq_true, if_false, if_true]
        rw [bo_end pe]
        have st : dm_X12_longModule_L93 P (P.base + 11) (N + 1) σ = dm_X12_longModule_p153 P (P.base + 11) σ := by
          conv => lhs; unfold dm_X12_longModule_L93
          simp only [a0, ck_T, eq_self, ok, bd_l, lit_nI, n10, if_false, is5, e5, bI_tt]
        refine Rr.eq ?_ st
        obtain ⟨v, s, q1, q2⟩ := rw_p153 h d (txt_nm e5).2.2
        refine ⟨v, s, q1, ?_⟩
        cases ee : sp_longEnd T m p with
        | error g => rw [ee] at q2; exact q2
        | ok p' => rw [ee] at q2; exact q2.qs
      · have e5' : sp_txt T kw_end p = false := by simpa using e5
        rw [e5'] at is5
        by_cases e1 : sp_txt T kw_input p = true
        · obtain ⟨z1, z2, z3⟩ := txt_nm e1
          rw [if_pos z1, z2, show kwi kw_input = nI 1 from by decide] at key
          refine Rr.eq (step _ _ (rw_longNets (s := 0) h (by omega) d z3) (by unfold sp_piece; simp only [e1, if_true])) ?_
          conv => lhs; unfold dm_X12_longModule_L93 dm_X12_longModule_p150
          simp (disch := first | assumption | omega) [ck_T, sm_s, bd_l, bd_r, lt_e, eq_self, and_self, if_true, true_and, and_true, lit_nI, nI_add, nI_mul, nI_sub, nI_clamp, nI_eq, nI_ltI, nI_leI, nN_e, nI_nN, nN_nI, bI_0, bI_1, bI_n, bool_0, bool_1, in_T, lg_cmp0, ofN_nI, a0, ok, is5, bI_ff, key]
        by_cases e2 : sp_txt T kw_output p = true
        · obtain ⟨z1, z2, z3⟩ := txt_nm e2
          have n1 := txt_ne (l' := kw_input) e2 (by decide)
          rw [if_pos z1, z2, show kwi kw_output = nI 2 from by decide] at key
          refine Rr.eq (step _ _ (rw_longNets (s := 1) h (by omega) d z3) (by unfold sp_piece; simp only [n1, e2, Bool.false_eq_true, if_false, if_true])) ?_
          conv => lhs; unfold dm_X12_longModule_L93 dm_X12_longModule_p150
          simp (disch := first | assumption | omega) [ck_T, sm_s, bd_l, bd_r, lt_e, eq_self, and_self, if_true, true_and, and_true, lit_nI, nI_add, nI_mul, nI_sub, nI_clamp, nI_eq, nI_ltI, nI_leI, nN_e, nI_nN, nN_nI, bI_0, bI_1, bI_n, bool_0, bool_1, in_T, lg_cmp0, ofN_nI, a0, ok, is5, bI_ff, key]
        by_cases e3 : sp_txt T kw_wire p = true
        · obtain ⟨z1, z2, z3⟩ := txt_nm e3
          have n1 := txt_ne (l' := kw_input) e3 (by decide)
          have n2 := txt_ne (l' := kw_output) e3 (by decide)
          rw [if_pos z1, z2, show kwi kw_wire = nI 3 from by decide] at key
          refine Rr.eq (step _ _ (rw_longNets (s := 2) h (by omega) d z3) (by unfold sp_piece; simp only [n1, n2, e3, Bool.false_eq_true, if_false, if_true])) ?_
          conv => lhs; unfold dm_X12_longModule_L93 dm_X12_longModule_p150
          simp (disch := first | assumption | omega) [ck_T, sm_s, bd_l, bd_r, lt_e, eq_self, and_self, if_true, true_and, and_true, lit_nI, nI_add, nI_mul, nI_sub, nI_clamp, nI_eq, nI_ltI, nI_leI, nN_e, nI_nN, nN_nI, bI_0, bI_1, bI_n, bool_0, bool_1, in_T, lg_cmp0, ofN_nI, a0, ok, is5, bI_ff, key]
        by_cases e4 : sp_txt T kw_assign p = true
        · obtain ⟨z1, z2, z3⟩ := txt_nm e4
          have n1 := txt_ne (l' := kw_input) e4 (by decide)
          have n2 := txt_ne (l' := kw_output) e4 (by decide)
          have n3 := txt_ne (l' := kw_wire) e4 (by decide)
          rw [if_pos z1, z2, show kwi kw_assign = nI 4 from by decide] at key
          have ra := h.run (fun n hr => rw_readAssign hr d z3) (fun q hq => (Prod.mk.injEq _ _ _ _ ▸ (show (q.1.nm, q.1.pl) = (m.nm, m.pl) from kp_assign hq)).2)
          refine Rr.eq (step _ _ ra (by unfold sp_piece; simp only [n1, n2, n3, e4, Bool.false_eq_true, if_false, if_true])) ?_
          conv => lhs; unfold dm_X12_longModule_L93 dm_X12_longModule_p133 dm_X12_longModule_p150
          simp (disch := first | assumption | omega) [ck_T, sm_s, bd_l, bd_r, lt_e, eq_self, and_self, if_true, true_and, and_true, lit_nI, nI_add, nI_mul, nI_sub, nI_clamp, nI_eq, nI_ltI, nI_leI, nN_e, nI_nN, nN_nI, bI_0, bI_1, bI_n, bool_0, bool_1, in_T, lg_cmp0, ofN_nI, a0, ok, is5, bI_ff, bI_tt, key]
        have e1' : sp_txt T kw_input p = false := by simpa using e1
        have e2' : sp_txt T kw_output p = false := by simpa using e2
        have e3' : sp_txt T kw_wire p = false := by simpa using e3
        have e4' : sp_txt T kw_assign p = false := by simpa using e4
        have kv : (if lx_kind T p = 0 ∨ lx_kind T p = 1 then kwi (lx_nm T p) else nN) = nI 0 ∨ (if lx_kind T p = 0 ∨ lx_kind T p = 1 then kwi (lx_nm T p) else nN) = nN := by
          by_cases z : lx_kind T p = 0 ∨ lx_kind T p = 1
          · rw [if_pos z]
            have tx : ∀ l, sp_txt T l p = false → lx_nm T p ≠ l := by
              intro l hl e
              unfold sp_txt at hl
              simp [e] at hl
              rcases z with z | z
              · exact hl.1 z
              · exact hl.2 z
            unfold kwi
            rw [if_neg (tx _ e1'), if_neg (tx _ e2'), if_neg (tx _ e3'), if_neg (tx _ e4'), if_neg (tx _ e5')]
            split
            · exact Or.inl rfl
            · exact Or.inr rfl
          · rw [if_neg z]
            exact Or.inr rfl
        refine Rr.eq (step _ _ (rw_longInstance h d) (by unfold sp_piece; simp only [e1', e2', e3', e4', e5', Bool.false_eq_true, if_false, if_true])) ?_
        conv => lhs; unfold dm_X12_longModule_L93 dm_X12_longModule_p133 dm_X12_longModule_p150
        rcases kv with z | z
        · rw [z] at key
          simp (disch := first | assumption | omega) [ck_T, sm_s, bd_l, bd_r, lt_e, eq_self, and_self, if_true, true_and, and_true, lit_nI, nI_add, nI_mul, nI_sub, nI_clamp, nI_eq, nI_ltI, nI_leI, nN_e, nI_nN, nN_nI, bI_0, bI_1, bI_n, bool_0, bool_1, in_T, lg_cmp0, ofN_nI, a0, ok, is5, bI_ff, key]
        · rw [z] at key
          have l1 : nN < nI 1 := by decide
          have l2 : ¬ nN = nI 4 := by decide
          simp (disch := first | assumption | omega) [ck_T, sm_s, bd_l, bd_r, lt_e, eq_self, and_self, if_true, true_and, and_true, lit_nI, nI_add, nI_mul, nI_sub, nI_clamp, nI_eq, nI_ltI, nI_leI, nN_e, nI_nN, nN_nI, bI_0, bI_1, bI_n, bool_0, bool_1, in_T, lg_cmp0, ofN_nI, a0, ok, is5, bI_ff, key, l1, l2]
