/-! ===== the reference: what stands in a module of the short text ===== -/
theorem rd_p152 {P : xP} {σ : xS} {f : Nat} (h : DE P σ f) : dm_X12_shortModule_p152 P (P.base + 11) σ = some (.inl (), σ) := by
  unfold dm_X12_shortModule_p152
  simp only [ri_0 h.1, ck_T, eq_self, rd_next h, rd_needSign h, bd_l]
theorem rd_L31 {P : xP} {σ : xS} {f : Nat} (h : DE P σ f) (N : Nat) : dm_X12_shortModule_L31 P (P.base + 11) (N + 1) σ = some (.inl (), σ) := by
  have ok := rd_ok h.1 (by have := h.2.2; omega) h.2.1
  unfold dm_X12_shortModule_L31
  simp only [ri_0 h.1, ck_T, eq_self, ok, bd_l, lit_nI, if_true, rd_p152 h]
theorem rw_L31 {P : xP} {T : xT} {hv : Nat} {ms : List xMod} {pl n0 : Nat} {σ0 : xS} : ∀ (k : Nat) (m : xMod) (σ : xS) (p N : Nat), T.2 - p < k → k + 1 < N → KX T false (ms, some m, p) → SI P T hv false ms pl n0 σ0 m σ p → Rr (dm_X12_shortModule_L31 P (P.base + 11) N σ) (sp_body T false ms k m p) (fun u s q => QS P T hv false ms pl n0 σ0 u s (q.1, q.2.1)) (EI P T hv ms pl n0 σ0) := by
  have n10 : ¬ nI 1 = nI 0 := by decide
  intro k
  induction k with
  | zero => intro m σ p N h1; omega
  | succ k ih =>
    intro m σ p N h1 h2 kx h
    have hN := h.tr.1.2.2.2.2.2.2
    have hT := h.tr.1.2.1
    obtain ⟨N, rfl⟩ : ∃ k, N = k + 1 := ⟨N - 1, by omega⟩
    obtain ⟨N1, hN1⟩ : ∃ k, N = k + 1 := ⟨N - 1, by omega⟩
    by_cases d : lx_kind T p = 4
    · have dq := h.bad d
      rw [dz_body d]
      exact Rr.er (rd_L31 dq.2.de N) dq
    · have a0 := ri_0 h.tr.1.1
      have ok := rw_ok h.tr.1.1 (h.tr.2.ok d)
      have we := rw_letterWord h.tr.1 h.tr.2 d (w := 101) (by omega)
      have wi := rw_letterWord h.tr.1 h.tr.2 d (w := 105) (by omega)
      have wo := rw_letterWord h.tr.1 h.tr.2 d (w := 111) (by omega)
      have ww := rw_letterWord h.tr.1 h.tr.2 d (w := 119) (by omega)
      have wa := rw_letterWord h.tr.1 h.tr.2 d (w := 97) (by omega)
      have wu := rw_letterWord h.tr.1 h.tr.2 d (w := 117) (by omega)
      have step : ∀ (o : xO Unit) (e : Except Nat (xMod × Nat)), Rr o e (QS P T hv false ms pl n0 σ0) (EI P T hv ms pl n0 σ0) → sp_piece T false (ms, some m, p) = sp_item e ms → Rr (x_bind o (fun _ s => dm_X12_shortModule_L31 P (P.base + 11) N s) (fun E s => some (.inr E, s))) (sp_body T false ms (k + 1) m p) (fun u s q => QS P T hv false ms pl n0 σ0 u s (q.1, q.2.1)) (EI P T hv ms pl n0 σ0) := by
        intro o e ho he
        rw [bo_item he]
        refine ho.last (fun v s q hb hq => ?_) (fun v g s hq => ⟨(), by rw [hN1]; exact rd_L31 hq.2.de _, hq⟩)
        have kk : sp_piece T false (ms, some m, p) = .ok (ms, some q.1, q.2) := by rw [he, hb]; rfl
        obtain ⟨kx', lt⟩ := KX.piece hT kx kk
        have lt : p < q.2 := lt
        have q2 : q.2 ≤ T.2 := kx'.1
        have pT := kx.1
        by_cases d2 : lx_kind T q.2 = 4
        · have dq := hq.2 d2
          obtain ⟨k1, hk1⟩ : ∃ j, k = j + 1 := ⟨k - 1, by simp only at pT; omega⟩
          rw [hk1, dz_body d2]
          refine Rr.er (v := ()) ?_ dq
          rw [hN1]
          exact rd_L31 dq.2.de _
        · exact ih q.1 s q.2 N (by simp only at pT; omega) (by omega) kx' (hq.1 d2)
      by_cases ee : sp_txt T [101] p = true
      · have n1 := txt_ne (l' := [105]) ee (by decide)
        have n2 := txt_ne (l' := [111]) ee (by decide)
        have n3 := txt_ne (l' := [119]) ee (by decide)
        have n4 := txt_ne (l' := [97]) ee (by decide)
        have n5 := txt_ne (l' := [117]) ee (by decide)
        have plt := (txt_nm ee).2.2
        have pe : sp_piece T false (ms, some m, p) = eb (sp_sign T 59 (lx_nx T p)) fun p => .ok (ms ++ [m], none, p) := by
          unfold sp_piece sp_shortEnd
          simp only [n1, n2, n3, n4, n5, ee, Bool.false_eq_true, if_false, if_true]
        rw [bo_end pe]
        rw [ee] at we
        have st : dm_X12_shortModule_L31 P (P.base + 11) (N + 1) σ = dm_X12_shortModule_p152 P (P.base + 11) σ := by
          conv => lhs; unfold dm_X12_shortModule_L31
          simp only [a0, ck_T, eq_self, ok, bd_l, lit_nI, n10, if_false, we, bI_tt]
        refine Rr.eq ?_ st
        obtain ⟨s, u1, u2⟩ := h.next d plt
        unfold dm_X12_shortModule_p152
        simp only [a0, ck_T, eq_self, u1, bd_l, ri_0 u2.tr.1.1, lit_nI]
        by_cases d2 : lx_kind T (lx_nx T p) = 4
        · have dq := u2.bad d2
          rw [dz_sign d2, eb_er]
          refine Rr.er (v := ()) (σ' := s) ?_ dq
          simp only [rd_needSign dq.2.de, bd_l]
        · exact (u2.sign (c := 59) d2 (by omega)).last (fun v s2 p2 hb hq => Rr.ok rfl hq.qs) (fun v g s2 hq => ⟨(), rfl, hq⟩)
      · have ee' : sp_txt T [101] p = false := by simpa using ee
        rw [ee'] at we
        by_cases e1 : sp_txt T [105] p = true
        · have plt := (txt_nm e1).2.2
          rw [e1] at wi
          refine Rr.eq (step _ _ (rw_shortNet (s := 0) h (by omega) d plt) (by unfold sp_piece; simp only [e1, Bool.false_eq_true, if_false, if_true])) ?_
          conv => lhs; unfold dm_X12_shortModule_L31 dm_X12_shortModule_p74 dm_X12_shortModule_p102
          simp only [a0, ck_T, eq_self, ok, bd_l, lit_nI, n10, if_false, if_true, we, bI_ff, wi, bI_tt, sm_s]
        have e1' : sp_txt T [105] p = false := by simpa using e1
        rw [e1'] at wi
        by_cases e2 : sp_txt T [111] p = true
        · have plt := (txt_nm e2).2.2
          rw [e2] at wo
          refine Rr.eq (step _ _ (rw_shortNet (s := 1) h (by omega) d plt) (by unfold sp_piece; simp only [e1', e2, Bool.false_eq_true, if_false, if_true])) ?_
          conv => lhs; unfold dm_X12_shortModule_L31 dm_X12_shortModule_p74 dm_X12_shortModule_p102
          simp only [a0, ck_T, eq_self, ok, bd_l, lit_nI, n10, if_false, if_true, we, bI_ff, wi, wo, bI_tt, sm_s]
        have e2' : sp_txt T [111] p = false := by simpa using e2
        rw [e2'] at wo
        by_cases e3 : sp_txt T [119] p = true
        · have plt := (txt_nm e3).2.2
          rw [e3] at ww
          refine Rr.eq (step _ _ (rw_shortNet (s := 2) h (by omega) d plt) (by unfold sp_piece; simp only [e1', e2', e3, Bool.false_eq_true, if_false, if_true])) ?_
          conv => lhs; unfold dm_X12_shortModule_L31 dm_X12_shortModule_p74 dm_X12_shortModule_p102
          simp only [a0, ck_T, eq_self, ok, bd_l, lit_nI, n10, if_false, if_true, we, bI_ff, wi, wo, ww, bI_tt, sm_s]
        have e3' : sp_txt T [119] p = false := by simpa using e3
        rw [e3'] at ww
        by_cases e4 : sp_txt T [97] p = true
        · have plt := (txt_nm e4).2.2
          rw [e4] at wa
          have ra := h.run (fun n hr => rw_readAssign hr d plt) (fun q hq => (Prod.mk.injEq _ _ _ _ ▸ (show (q.1.nm, q.1.pl) = (m.nm, m.pl) from kp_assign hq)).2)
          refine Rr.eq (step _ _ ra (by unfold sp_piece; simp only [e1', e2', e3', e4, Bool.false_eq_true, if_false, if_true])) ?_
          conv => lhs; unfold dm_X12_shortModule_L31
          simp only [a0, ck_T, eq_self, ok, bd_l, lit_nI, n10, if_false, if_true, we, bI_ff, wi, wo, ww, wa, bI_tt]
        have e4' : sp_txt T [97] p = false := by simpa using e4
        rw [e4'] at wa
        by_cases e5 : sp_txt T [117] p = true
        · have plt := (txt_nm e5).2.2
          rw [e5] at wu
          refine Rr.eq (step _ _ (rw_shortInstance h d plt) (by unfold sp_piece; simp only [e1', e2', e3', e4', e5, Bool.false_eq_true, if_false, if_true])) ?_
          conv => lhs; unfold dm_X12_shortModule_L31
          simp only [a0, ck_T, eq_self, ok, bd_l, lit_nI, n10, if_false, if_true, we, bI_ff, wi, wo, ww, wa, wu, bI_tt]
        have e5' : sp_txt T [117] p = false := by simpa using e5
        rw [e5'] at wu
        have fq := SIfail h
        have de := fq.2.de
        have fr := h.tr.2.2.1
        have ff : dm_X12_fail P (P.base + 11) (nI p) σ = some (.inl (), fl P σ p) := rw_fail h.tr.1.1 (h.tr.2.ok d) (nI p)
        have er : sp_body T false ms (k + 1) m p = .error p := by
          simp only [sp_body]
          have : sp_piece T false (ms, some m, p) = .error p := by
            unfold sp_piece sp_shortEnd
            simp only [e1', e2', e3', e4', e5', ee', Bool.false_eq_true, if_false, eb_er]
          rw [this, eb_er]
        rw [er]
        refine Rr.er (v := ()) (σ' := fl P σ p) ?_ fq
        have z := rd_L31 de N1
        rw [← hN1] at z
        unfold dm_X12_shortModule_L31
        simp only [a0, ck_T, eq_self, ok, bd_l, lit_nI, n10, if_false, if_true, we, bI_ff, wi, wo, ww, wa, wu, fr, ff, z]
