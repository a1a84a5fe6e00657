/-! ===== the reference: longModule, shortModule ===== -/
theorem SI.kx {P : xP} {T : xT} {hv : Nat} {lng : Bool} {ms : List xMod} {pl n0 : Nat} {σ0 : xS} {m : xMod} {σ : xS} {p : Nat} (h : SI P T hv lng ms pl n0 σ0 m σ p) (hn : m.nm ∉ ms.map (fun m => m.nm)) : KX T lng (ms, some m, p) := by
  obtain ⟨h1, h2, n, h3, h4⟩ := h
  exact ⟨h4.1.2.1.1, h4.1.2.2.2.2.2.2.2.1, h4.1.2.2.2.2.2.2.1, h4.1.2.2.2.1, hn⟩
def QQ (P : xP) (T : xT) (hv : Nat) (lng : Bool) (ms : List xMod) (pl n0 : Nat) (σ0 : xS) (u : Unit) (s : xS) (q : xMod × Nat × Nat) : Prop := QS P T hv lng ms pl n0 σ0 u s (q.1, q.2.1)
theorem rd_lm81 {P : xP} {σ : xS} {f : Nat} (h : DE P σ f) (hN : 5000 ≤ P.N) : dm_X12_longModule_p81 P (P.base + 11) σ = some (.inl (), σ) := by
  obtain ⟨N, hN1⟩ : ∃ k, P.N = k + 1 := ⟨P.N - 1, by omega⟩
  have z := rd_L93 h hN N
  rw [← hN1] at z
  unfold dm_X12_longModule_p81
  simp only [ri_0 h.1, ck_T, eq_self, rd_needSign h, bd_l, z]
theorem rw_lm81 {P : xP} {T : xT} {hv : Nat} {ms : List xMod} {pl n0 : Nat} {σ0 : xS} {m : xMod} {σ : xS} {p k : Nat} (h : SI P T hv true ms pl n0 σ0 m σ p) (hk : lx_kind T p ≠ 4) (hn : m.nm ∉ ms.map (fun m => m.nm)) (hf : T.2 - p < k) (hkb : k ≤ 1001) : Rr (dm_X12_longModule_p81 P (P.base + 11) σ) (eb (sp_sign T 41 p) fun p3 => eb (sp_sign T 59 p3) fun p4 => sp_body T true ms k m p4) (QQ P T hv true ms pl n0 σ0) (EI P T hv ms pl n0 σ0) := by
  have hN := h.tr.1.2.2.2.2.2.2
  obtain ⟨N, hN1⟩ : ∃ k, P.N = k + 1 := ⟨P.N - 1, by omega⟩
  obtain ⟨k1, hk1⟩ : ∃ j, k = j + 1 := ⟨k - 1, by omega⟩
  unfold dm_X12_longModule_p81
  simp only [ri_0 h.tr.1.1, ck_T, eq_self, lit_nI]
  have dd : ∀ t g, DE P t g → dm_X12_longModule_L93 P (P.base + 11) P.N t = some (.inl (), t) := fun t g hd => by
    rw [hN1]; exact rd_L93 hd hN N
  refine Rr.bind T (fun p => p) (h.sign (c := 41) hk (by omega)) (fun v s1 p1 hb h1 k1' => ?_) (fun v g s4 hq => ⟨(), ?_, hq⟩) (fun v s4 b2 hq hk2 => hq.bad hk2) (fun b2 hk2 => by rw [dz_sign hk2, eb_er])
  · simp only [ri_0 h1.tr.1.1, ck_T, eq_self]
    refine Rr.bind T (fun p => p) (h1.sign (c := 59) k1' (by omega)) (fun v s2 p2 hb2 h2 k2 => ?_) (fun v g s4 hq => ⟨(), dd _ _ hq.2.de, hq⟩) (fun v s4 b2 hq hk2 => hq.bad hk2) (fun b2 hk2 => by rw [hk1, dz_body hk2])
    have l1 := po_sign hb
    have l2 := po_sign hb2
    exact rw_L93 k m s2 p2 P.N (by omega) (by omega) (h2.kx hn) h2
  · simp only [ri_0 hq.2.de.1, ck_T, eq_self, rd_needSign hq.2.de, bd_l, dd _ _ hq.2.de]
theorem rw_L48 {P : xP} {T : xT} {hv : Nat} {ms : List xMod} {pl n0 : Nat} {σ0 : xS} {m : xMod} {σ : xS} {p k : Nat} (h : SI P T hv true ms pl n0 σ0 m σ p) (hw : m.wires = []) (hn : m.nm ∉ ms.map (fun m => m.nm)) (hf : T.2 - p < k) (hkb : k ≤ 1001) : Rr (dm_X12_longModule_L48 P (P.base + 11) P.N (nI 1) σ) (eb (sp_loop T (sp_port T) 17 m p) fun r => eb (sp_sign T 41 r.2) fun p3 => eb (sp_sign T 59 p3) fun p4 => sp_body T true ms k r.1 p4) (QQ P T hv true ms pl n0 σ0) (EI P T hv ms pl n0 σ0) := by
  have hN := h.tr.1.2.2.2.2.2.2
  have n10 : ¬ nI 1 = nI 0 := by decide
  have po : ∀ b p q, sp_port T b p = .ok q → q.1.wires = b.wires ∧ q.1.nm = b.nm ∧ q.1.pl = b.pl ∧ p < q.2 := by
    intro b p q hq
    unfold sp_port at hq
    obtain ⟨nm, h1, h2⟩ := eb_eq hq
    split at h2
    · cases h2
      exact ⟨rfl, rfl, rfl, (po_name h1).2.1⟩
    · cases h2
  refine rw_comma (P := P) (T := T) (hv := hv) (Lp := fun N v σ => dm_X12_longModule_L48 P (P.base + 11) N v σ) (body := dm_X12_takePort P (P.base + 11)) (after := dm_X12_longModule_p81 P (P.base + 11)) (S := fun m σ p => SI P T hv true ms pl n0 σ0 m σ p ∧ m.wires = [] ∧ m.nm ∉ ms.map (fun m => m.nm) ∧ T.2 - p < k) (D := EI P T hv ms pl n0 σ0) (fun m => 16 - m.nets.length) ?_ ?_ ?_ ?_ ?_ ?_ ?_ ?_ ?_ ?_ ?_ ?_ ?_ 17 m σ p P.N (by omega) (by omega) ⟨h, hw, hn, hf⟩
  · intro N σ
    show dm_X12_longModule_L48 P (P.base + 11) (N + 1) (nI 0) σ = _
    unfold dm_X12_longModule_L48
    simp only [lit_nI, if_true]
  · intro N σ g hd
    have a0 := ri_0 hd.1
    have ok := rd_ok hd.1 (by have := hd.2.2; omega) hd.2.1
    show dm_X12_longModule_L48 P (P.base + 11) (N + 1) (nI 1) σ = _
    unfold dm_X12_longModule_L48
    simp only [lit_nI, n10, if_false, a0, ck_T, eq_self, ok, bd_l, if_true]
  · intro N σ t v hr hok hb hr2
    have a0 := ri_0 hr
    have b0 := ri_0 hr2
    have ok := rw_ok hr hok
    show dm_X12_longModule_L48 P (P.base + 11) (N + 1) (nI 1) σ = _
    conv => lhs; unfold dm_X12_longModule_L48
    simp only [lit_nI, n10, if_false, a0, ck_T, eq_self, ok, bd_l, hb, b0]
    rfl
  · exact fun b σ p hs => hs.1.tr
  · exact fun b σ σ' p p' hs f c hp => ⟨hs.1.fl f c hp, hs.2.1, hs.2.2.1, by have := hs.2.2.2; omega⟩
  · exact fun b σ p hs hk => hs.1.bad hk
  · exact fun g σ hd => hd.2.de
  · intro b σ p hs hk
    refine (hs.1.run (fun n hr => rw_takePort hr hk hs.2.1) (fun q hq => (po _ _ _ hq).2.2.1)).mono (fun v s q he hq => ⟨fun hk2 => ?_, hq.2⟩) (fun g s hq => hq)
    obtain ⟨z1, z2, z3, z4⟩ := po _ _ _ he
    exact ⟨hq.1 hk2, z1.trans hs.2.1, by rw [z2]; exact hs.2.2.1, by have := hs.2.2.2; omega⟩
  · intro b p hk
    unfold sp_port
    rw [dz_name hk, eb_er]
  · exact fun b σ p q _ hq => mu_port hq
  · exact fun b σ p hs hk => rw_lm81 hs.1 hk hs.2.2.1 hs.2.2.2 hkb
  · exact fun g s hd => rd_lm81 hd.2.de hN
  · intro b p hk
    simp only [dz_sign hk, eb_er]
/-- what a module leaves -/
def QB (P : xP) (T : xT) (hv : Nat) (lng : Bool) (ms : List xMod) (σ0 : xS) (_ : Unit) (s : xS) (q : xMod × Nat × Nat) : Prop := FR P hv σ0 s ∧ ms.length < 8 ∧ (lx_kind T q.2.1 ≠ 4 → ∃ n, RXf P T hv lng ms q.1 n s q.2.1) ∧ (lx_kind T q.2.1 = 4 → DQ P T hv ms.length q.2.1 s)
theorem Rr.qb {P : xP} {T : xT} {hv : Nat} {lng : Bool} {ms : List xMod} {pl n0 : Nat} {σ0 σ1 : xS} {o : xO Unit} {e : Except Nat (xMod × Nat × Nat)} (h : Rr o e (QQ P T hv lng ms pl n0 σ1) (EI P T hv ms pl n0 σ1)) (h8 : ms.length < 8) (f : FR P hv σ0 σ1) : Rr o e (QB P T hv lng ms σ0) (ER P T hv ms.length σ0) := by
  refine h.mono (fun v s q he hq => ?_) (fun g s hq => ⟨f.trans (hq.1.fr (by omega) (by omega)), hq.2⟩)
  by_cases hk : lx_kind T q.2.1 = 4
  · have := hq.2 hk
    exact ⟨f.trans (this.1.fr (by omega) (by omega)), h8, fun z => absurd hk z, fun _ => this.2⟩
  · obtain ⟨q1, q2, n, q3, q4⟩ := hq.1 hk
    exact ⟨f.trans (q2.fr (by omega) (by omega)), h8, fun _ => ⟨n, q4⟩, fun z => absurd z hk⟩
theorem dz_mod {T : xT} {ms : List xMod} {p : Nat} (hk : lx_kind T p = 4) : sp_mod T ms p = .error p := by
  unfold sp_mod
  rw [dz_name hk, eb_er]
theorem rw_longModule {P : xP} {T : xT} {hv : Nat} {ms : List xMod} {n : Nat} {σ : xS} {p k : Nat} (h : MB P T hv true ms n σ p) (hk : lx_kind T p ≠ 4) (hf : T.2 < p + (k + 1)) (hkb : k ≤ 1001) : Rr (dm_X12_longModule P (P.base + 11) σ) (eb (sp_longHead T ms p) fun q => sp_body T true ms k q.1 q.2) (QB P T hv true ms σ) (ER P T hv ms.length σ) := by
  have n10 : ¬ nI 1 = nI 0 := by decide
  have hN := h.1.2.2.2.2.2.2
  have hT := h.1.2.1
  have a0 := ri_0 h.1.1
  have fr := h.2.1.2.1
  have is0 := rw_isKey h.1 h.2.1 hk (w := 0) (l := kw_module) (by
    intro l'
    unfold kwi
    by_cases c0 : l' = kw_module
    · subst c0; simp
    by_cases c1 : l' = kw_input
    · subst c1; simp; decide
    by_cases c2 : l' = kw_output
    · subst c2; simp; decide
    by_cases c3 : l' = kw_wire
    · subst c3; simp; decide
    by_cases c4 : l' = kw_assign
    · subst c4; simp; decide
    by_cases c5 : l' = kw_end
    · subst c5; simp; decide
    · simp only [c0, c1, c2, c3, c4, c5, if_false, eq_iff_iff, iff_false]; decide) (by omega)
  have d16 : ∀ t g, DE P t g → dm_X12_longModule_p16 P (P.base + 11) t = some (.inl (), t) := by
    intro t g hd
    have okd := rd_ok hd.1 (by have := hd.2.2; omega) hd.2.1
    unfold dm_X12_longModule_p16
    simp only [ri_0 hd.1, ck_T, eq_self, rd_next hd, bd_l, rd_takeModule hd hN, rd_needSign hd, okd, lit_nI, if_true, rd_lm81 hd hN]
  unfold sp_longHead
  by_cases e : sp_txt T kw_module p = true
  · rw [if_pos e]
    rw [e] at is0
    have plt := (txt_nm e).2.2
    have gt := nx_gt plt
    obtain ⟨s1, u1, u2, u3⟩ := rw_next h.1 h.2.1 hk
    have h1 := h.fl u2 u3 (by omega)
    have st : dm_X12_longModule P (P.base + 11) σ = dm_X12_longModule_p16 P (P.base + 11) σ := by
      unfold dm_X12_longModule
      simp only [a0, ck_T, eq_self, lit_nI, is0, bd_l, bI_tt, n10, if_false]
    refine Rr.eq ?_ st
    rw [eb_as]
    unfold dm_X12_longModule_p16
    simp only [a0, ck_T, eq_self, u1, bd_l, ri_0 h1.1.1, lit_nI]
    by_cases k1 : lx_kind T (lx_nx T p) = 4
    · have dq := h1.bad k1
      have de := dq.de
      have okd := rd_ok de.1 (by have := de.2.2; omega) de.2.1
      rw [dz_mod k1, eb_er]
      refine Rr.er (v := ()) (σ' := s1) ?_ ⟨u2.fr, dq⟩
      simp only [ri_0 de.1, ck_T, eq_self, bd_l, rd_takeModule de hN, rd_needSign de, okd, if_true, rd_lm81 de hN]
    · have tm := rw_takeModule h1 k1
      cases em : sp_mod T ms (lx_nx T p) with
      | error g =>
        rw [em] at tm
        obtain ⟨v, s2, q1, q2⟩ := tm
        have q2 : ER P T hv ms.length s1 g s2 := q2
        have de := q2.2.de
        have okd := rd_ok de.1 (by have := de.2.2; omega) de.2.1
        rw [eb_er]
        refine Rr.er (v := ()) (σ' := s2) ?_ ⟨(u2.fr (hv := hv)).trans q2.1, q2.2⟩
        simp only [q1, ri_0 de.1, ck_T, eq_self, bd_l, rd_needSign de, okd, if_true, rd_lm81 de hN]
      | ok q =>
        rw [em] at tm
        obtain ⟨v, s2, q1, q2⟩ := tm
        obtain ⟨q8, qa, qd⟩ := q2
        obtain ⟨w1, w2, w3, w4, w5, w6⟩ := WX.start (lng := true) hT em
        have qw : q.1.wires = [] := by
          unfold sp_mod at em
          obtain ⟨nm, y1, y2⟩ := eb_eq em
          split at y2
          · cases y2
          · cases y2; rfl
        rw [eb_ok, eb_as]
        simp only [q1, bd_l]
        refine Rr.qb (pl := q.1.pl) (n0 := n) (σ1 := s1) ?_ q8 u2.fr
        have dd : ∀ t g, DE P t g → (x_chk (t.K (P.base + 11) = 12) <| x_bind (dm_X12_ok P (P.base + 11) t) (fun v_13 σ_14 => if v_13 = nI 0 then dm_X12_longModule_p81 P (P.base + 11) σ_14 else x_chk (σ_14.K (P.base + 11) = 12) <| x_bind (dm_X12_isSign P (P.base + 11) (nI 41) σ_14) (fun v_18 σ_19 => if v_18 = nI 0 then dm_X12_longModule_L48 P (P.base + 11) P.N (nI 1) σ_19 else dm_X12_longModule_p81 P (P.base + 11) σ_19) (fun E_23 σ_19 => some (.inr E_23, σ_19))) (fun E_24 σ_14 => some (.inr E_24, σ_14)) : xO Unit) = some (.inl (), t) := by
          intro t g hd
          have okd := rd_ok hd.1 (by have := hd.2.2; omega) hd.2.1
          simp only [ri_0 hd.1, ck_T, eq_self, okd, bd_l, if_true, rd_lm81 hd hN]
        by_cases k2 : lx_kind T q.2 = 4
        · have dq := qd k2
          have de := dq.2.de
          have okd := rd_ok de.1 (by have := de.2.2; omega) de.2.1
          rw [dz_sign k2, eb_er]
          refine Rr.er (v := ()) (σ' := s2) ?_ dq
          simp only [ri_0 de.1, ck_T, eq_self, bd_l, rd_needSign de, okd, if_true, rd_lm81 de hN]
        · have h2 := qa k2
          simp only [ri_0 h2.tr.1.1, ck_T, eq_self]
          refine Rr.bind T (fun p => p) (h2.sign (c := 40) k2 (by omega)) (fun v s3 p3 hb3 h3 k3 => ?_) (fun v g s4 hq => ⟨(), dd _ _ hq.2.de, hq⟩) (fun v s4 b2 hq hk2 => hq.bad hk2) (fun b2 hk2 => ?_)
          · have l3 := po_sign hb3
            have ok := rw_ok h3.tr.1.1 (h3.tr.2.ok k3)
            have is := rw_isSign h3.tr.1 h3.tr.2 k3 (s := 41) (by omega)
            by_cases e3 : sp_is T 41 p3 = true
            · rw [if_pos e3]
              simp only [eb_ok, eb_as]
              rw [e3] at is
              refine Rr.eq (rw_lm81 (k := k) h3 k3 w5 (by omega) hkb) ?_
              simp only [ri_0 h3.tr.1.1, ck_T, eq_self, ok, bd_l, n10, if_false, is, bI_tt]
            · rw [if_neg e3]
              have e3' : sp_is T 41 p3 = false := by simpa using e3
              rw [e3'] at is
              simp only [eb_as]
              refine Rr.eq (rw_L48 (k := k) h3 qw w5 (by omega) hkb) ?_
              simp only [ri_0 h3.tr.1.1, ck_T, eq_self, ok, bd_l, n10, if_false, is, bI_ff, if_true]
          · rw [if_neg (by rw [dz_is hk2]; simp), dz_loop (fun b p hk => by unfold sp_port; rw [dz_name hk, eb_er]) hk2, eb_er, eb_er]
  · rw [if_neg e, eb_er]
    have e' : sp_txt T kw_module p = false := by simpa using e
    rw [e'] at is0
    have fq := MBfail h
    have ff : dm_X12_fail P (P.base + 11) (nI p) σ = some (.inl (), fl P σ p) := rw_fail h.1.1 (h.2.1.ok hk) (nI p)
    refine Rr.er (v := ()) (σ' := fl P σ p) ?_ ⟨fl_FL.fr, fq⟩
    unfold dm_X12_longModule
    simp only [a0, ck_T, eq_self, lit_nI, is0, bd_l, bI_ff, if_true, fr, ff, d16 _ _ fq.de]
theorem rw_shortModule {P : xP} {T : xT} {hv : Nat} {ms : List xMod} {n : Nat} {σ : xS} {p k : Nat} (h : MB P T hv false ms n σ p) (hk : lx_kind T p ≠ 4) (hf : T.2 < p + (k + 1)) (hkb : k ≤ 1001) : Rr (dm_X12_shortModule P (P.base + 11) σ) (eb (sp_shortHead T ms p) fun q => sp_body T false ms k q.1 q.2) (QB P T hv false ms σ) (ER P T hv ms.length σ) := by
  have n10 : ¬ nI 1 = nI 0 := by decide
  have hN := h.1.2.2.2.2.2.2
  have hT := h.1.2.1
  have a0 := ri_0 h.1.1
  have fr := h.2.1.2.1
  have is0 := rw_letterWord h.1 h.2.1 hk (w := 109) (by omega)
  obtain ⟨N, hN1⟩ : ∃ k, P.N = k + 1 := ⟨P.N - 1, by omega⟩
  have dd : ∀ t g, DE P t g → dm_X12_shortModule_L31 P (P.base + 11) P.N t = some (.inl (), t) := fun t g hd => by
    rw [hN1]; exact rd_L31 hd N
  have d17 : ∀ t g, DE P t g → dm_X12_shortModule_p17 P (P.base + 11) t = some (.inl (), t) := by
    intro t g hd
    unfold dm_X12_shortModule_p17
    simp only [ri_0 hd.1, ck_T, eq_self, rd_next hd, bd_l, rd_takeModule hd hN, rd_needSign hd, dd _ _ hd]
  unfold sp_shortHead
  by_cases e : sp_txt T [109] p = true
  · rw [if_pos e]
    rw [e] at is0
    have plt := (txt_nm e).2.2
    have gt := nx_gt plt
    obtain ⟨s1, u1, u2, u3⟩ := rw_next h.1 h.2.1 hk
    have h1 := h.fl u2 u3 (by omega)
    have st : dm_X12_shortModule P (P.base + 11) σ = dm_X12_shortModule_p17 P (P.base + 11) σ := by
      unfold dm_X12_shortModule
      simp only [a0, ck_T, eq_self, lit_nI, is0, bd_l, bI_tt, n10, if_false]
    refine Rr.eq ?_ st
    rw [eb_as]
    unfold dm_X12_shortModule_p17
    simp only [a0, ck_T, eq_self, u1, bd_l, ri_0 h1.1.1, lit_nI]
    by_cases k1 : lx_kind T (lx_nx T p) = 4
    · have dq := h1.bad k1
      have de := dq.de
      rw [dz_mod k1, eb_er]
      refine Rr.er (v := ()) (σ' := s1) ?_ ⟨u2.fr, dq⟩
      simp only [ri_0 de.1, ck_T, eq_self, bd_l, rd_takeModule de hN, rd_needSign de, dd _ _ de]
    · have tm := rw_takeModule h1 k1
      cases em : sp_mod T ms (lx_nx T p) with
      | error g =>
        rw [em] at tm
        obtain ⟨v, s2, q1, q2⟩ := tm
        have q2 : ER P T hv ms.length s1 g s2 := q2
        have de := q2.2.de
        rw [eb_er]
        refine Rr.er (v := ()) (σ' := s2) ?_ ⟨(u2.fr (hv := hv)).trans q2.1, q2.2⟩
        simp only [q1, ri_0 de.1, ck_T, eq_self, bd_l, rd_needSign de, dd _ _ de]
      | ok q =>
        rw [em] at tm
        obtain ⟨v, s2, q1, q2⟩ := tm
        obtain ⟨q8, qa, qd⟩ := q2
        obtain ⟨w1, w2, w3, w4, w5, w6⟩ := WX.start (lng := false) hT em
        rw [eb_ok, eb_as]
        simp only [q1, bd_l, eb_ok]
        refine Rr.qb (pl := q.1.pl) (n0 := n) (σ1 := s1) ?_ q8 u2.fr
        obtain ⟨k', hk'⟩ : ∃ j, k = j + 1 := ⟨k - 1, by omega⟩
        by_cases k2 : lx_kind T q.2 = 4
        · have dq := qd k2
          have de := dq.2.de
          rw [dz_sign k2, eb_er]
          refine Rr.er (v := ()) (σ' := s2) ?_ dq
          simp only [ri_0 de.1, ck_T, eq_self, bd_l, rd_needSign de, dd _ _ de]
        · have h2 := qa k2
          simp only [ri_0 h2.tr.1.1, ck_T, eq_self]
          refine Rr.bind T (fun p => p) (h2.sign (c := 59) k2 (by omega)) (fun v s3 p3 hb3 h3 k3 => ?_) (fun v g s4 hq => ⟨(), dd _ _ hq.2.de, hq⟩) (fun v s4 b2 hq hk2 => hq.bad hk2) (fun b2 hk2 => by rw [hk', dz_body hk2])
          have l3 := po_sign hb3
          exact rw_L31 k q.1 s3 p3 P.N (by omega) (by omega) (h3.kx w5) h3
  · rw [if_neg e, eb_er]
    have e' : sp_txt T [109] p = false := by simpa using e
    rw [e'] at is0
    have fq := MBfail h
    have ff : dm_X12_fail P (P.base + 11) (nI p) σ = some (.inl (), fl P σ p) := rw_fail h.1.1 (h.2.1.ok hk) (nI p)
    refine Rr.er (v := ()) (σ' := fl P σ p) ?_ ⟨fl_FL.fr, fq⟩
    unfold dm_X12_shortModule
    simp only [a0, ck_T, eq_self, lit_nI, is0, bd_l, bI_ff, if_true, fr, ff, d17 _ _ fq.de]
