/-! ===== the class: readNets, ports of the head, nets of the short text ===== -/
theorem cw_range {P : xP} {T : xT} {σ : xS} {p : Nat} (C : CP P T σ p) (hR : Rm P σ 1) : Rf (dm_X3_readRange P (P.base + 6) σ) (sp_range T p) (fun v s q => v = nI q.1 ∧ 1 ≤ q.1 ∧ q.1 ≤ 8 ∧ Fr P σ.sz 0 σ s ∧ CP P T s q.2) (PE P T σ.sz σ 1) := by
  have ci := C.ci
  have sk := cw_skips C (c := 91) (by omega)
  unfold dm_X3_readRange sp_range
  by_cases e : sp_is T 91 p = true
  · rw [if_pos e]
    simp only [e, if_true] at sk
    have C1 := C.step (is_lt e)
    have ci1 := C1.ci
    have f1 := cst_fr P σ.sz σ
    simp (disch := first | assumption | omega) [ck_T, sm_s, bd_l, bd_r, lt_e, eq_self, and_self, if_true, true_and, and_true, lit_nI, nI_add, nI_mul, nI_sub, nI_clamp, nI_eq, nI_ltI, nI_leI, nN_e, nI_nN, nN_nI, bI_0, bI_1, bI_n, bool_0, bool_1, in_T, lg_cmp0, ofN_nI, ci_0 ci, ci_1 ci, ci_2 ci, ci_3 ci, ci_4 ci, ci_5 ci, ci_6 ci, ci_7 ci, ci_8 ci, ci_9 ci, ci_10 ci, ci_11 ci, ci_12 ci, ci_13 ci, ci_14 ci, ci_15 ci, ci_16 ci, ci_17 ci, ci_18 ci, ci_19 ci, ci_20 ci, ci_21 ci, ci_22 ci, ci_0 ci1, ci_1 ci1, ci_2 ci1, ci_3 ci1, ci_4 ci1, ci_5 ci1, ci_6 ci1, ci_7 ci1, ci_8 ci1, ci_9 ci1, ci_10 ci1, ci_11 ci1, ci_12 ci1, ci_13 ci1, ci_14 ci1, ci_15 ci1, ci_16 ci1, ci_17 ci1, ci_18 ci1, ci_19 ci1, ci_20 ci1, ci_21 ci1, ci_22 ci1, sk]
    refine Rf.bind (rf_num C1 (lo := 0) (hi := 7) (by omega) (by omega) (hR.us f1.2.2)) ?_ ?_
    · rintro _ s ⟨n, p2⟩ ⟨rfl, rfl, C2, n1, n2⟩
      have ci2 := C2.ci
      have f2 : Fr P σ.sz 0 σ (cst P (cst P σ)) := f1.t0 (cst_fr P σ.sz _) (Nat.le_refl _)
      simp (disch := first | assumption | omega) [ck_T, sm_s, bd_l, bd_r, lt_e, eq_self, and_self, if_true, true_and, and_true, lit_nI, nI_add, nI_mul, nI_sub, nI_clamp, nI_eq, nI_ltI, nI_leI, nN_e, nI_nN, nN_nI, bI_0, bI_1, bI_n, bool_0, bool_1, in_T, lg_cmp0, ofN_nI, ci_0 ci2, ci_1 ci2, ci_2 ci2, ci_3 ci2, ci_4 ci2, ci_5 ci2, ci_6 ci2, ci_7 ci2, ci_8 ci2, ci_9 ci2, ci_10 ci2, ci_11 ci2, ci_12 ci2, ci_13 ci2, ci_14 ci2, ci_15 ci2, ci_16 ci2, ci_17 ci2, ci_18 ci2, ci_19 ci2, ci_20 ci2, ci_21 ci2, ci_22 ci2]
      refine Rf.bind (rf_sign C2 (c := 58) (by omega) (hR.us f2.2.2)) ?_ ?_
      · rintro _ s p3 ⟨rfl, C3⟩
        have ci3 := C3.ci
        have f3 : Fr P σ.sz 0 σ (cst P (cst P (cst P σ))) := f2.t0 (cst_fr P σ.sz _) (Nat.le_refl _)
        simp (disch := first | assumption | omega) [ck_T, sm_s, bd_l, bd_r, lt_e, eq_self, and_self, if_true, true_and, and_true, lit_nI, nI_add, nI_mul, nI_sub, nI_clamp, nI_eq, nI_ltI, nI_leI, nN_e, nI_nN, nN_nI, bI_0, bI_1, bI_n, bool_0, bool_1, in_T, lg_cmp0, ofN_nI, ci_0 ci3, ci_1 ci3, ci_2 ci3, ci_3 ci3, ci_4 ci3, ci_5 ci3, ci_6 ci3, ci_7 ci3, ci_8 ci3, ci_9 ci3, ci_10 ci3, ci_11 ci3, ci_12 ci3, ci_13 ci3, ci_14 ci3, ci_15 ci3, ci_16 ci3, ci_17 ci3, ci_18 ci3, ci_19 ci3, ci_20 ci3, ci_21 ci3, ci_22 ci3]
        refine Rf.bind (rf_num C3 (lo := 0) (hi := 0) (by omega) (by omega) (hR.us f3.2.2)) ?_ ?_
        · rintro _ s ⟨n', p4⟩ ⟨rfl, rfl, C4, n3, n4⟩
          have ci4 := C4.ci
          have f4 : Fr P σ.sz 0 σ (cst P (cst P (cst P (cst P σ)))) := f3.t0 (cst_fr P σ.sz _) (Nat.le_refl _)
          simp (disch := first | assumption | omega) [ck_T, sm_s, bd_l, bd_r, lt_e, eq_self, and_self, if_true, true_and, and_true, lit_nI, nI_add, nI_mul, nI_sub, nI_clamp, nI_eq, nI_ltI, nI_leI, nN_e, nI_nN, nN_nI, bI_0, bI_1, bI_n, bool_0, bool_1, in_T, lg_cmp0, ofN_nI, ci_0 ci4, ci_1 ci4, ci_2 ci4, ci_3 ci4, ci_4 ci4, ci_5 ci4, ci_6 ci4, ci_7 ci4, ci_8 ci4, ci_9 ci4, ci_10 ci4, ci_11 ci4, ci_12 ci4, ci_13 ci4, ci_14 ci4, ci_15 ci4, ci_16 ci4, ci_17 ci4, ci_18 ci4, ci_19 ci4, ci_20 ci4, ci_21 ci4, ci_22 ci4]
          refine Rf.bind (rf_sign C4 (c := 93) (by omega) (hR.us f4.2.2)) ?_ ?_
          · rintro _ s p5 ⟨rfl, C5⟩
            have f5 : Fr P σ.sz 0 σ (cst P (cst P (cst P (cst P (cst P σ))))) := f4.t0 (cst_fr P σ.sz _) (Nat.le_refl _)
            simp only [] at n2
            exact Rf.ok rfl ⟨rfl, by simp, by simp; omega, f5, C5⟩
          · intro g5 s5 hq
            exact ⟨rfl, PE.aft f4 hq (Nat.le_refl _)⟩
        · intro g5 s5 hq
          exact ⟨rfl, PE.aft f3 hq (Nat.le_refl _)⟩
      · intro g5 s5 hq
        exact ⟨rfl, PE.aft f2 hq (Nat.le_refl _)⟩
    · intro g5 s5 hq
      exact ⟨rfl, PE.aft f1 hq (Nat.le_refl _)⟩
  · rw [if_neg e]
    simp only [e] at sk
    refine Rf.ok (v := nI 1) (σ' := σ) ?_ ⟨rfl, by omega, by omega, Fr.refl P _ σ, C⟩
    simp (disch := first | assumption | omega) [ck_T, sm_s, bd_l, bd_r, lt_e, eq_self, and_self, if_true, true_and, and_true, lit_nI, nI_add, nI_mul, nI_sub, nI_clamp, nI_eq, nI_ltI, nI_leI, nN_e, nI_nN, nN_nI, bI_0, bI_1, bI_n, bool_0, bool_1, in_T, lg_cmp0, ofN_nI, ci_0 ci, ci_1 ci, ci_2 ci, ci_3 ci, ci_4 ci, ci_5 ci, ci_6 ci, ci_7 ci, ci_8 ci, ci_9 ci, ci_10 ci, ci_11 ci, ci_12 ci, ci_13 ci, ci_14 ci, ci_15 ci, ci_16 ci, ci_17 ci, ci_18 ci, ci_19 ci, ci_20 ci, ci_21 ci, ci_22 ci, sk, bI_ff]
theorem AW.wire {T : xT} {w p : Nat} {m : xMod} {q : xMod × Nat} (h : AW m) (he : sp_wire T w m p = .ok q) : AW q.1 := by
  unfold sp_wire at he
  obtain ⟨nm, h1, h2⟩ := eb_eq he
  split at h2
  · rename_i hc
    cases h2
    simp only [sp_can, Bool.and_eq_true, decide_eq_true_eq] at hc
    exact h.net (x := (nm, 2, w)) hc.2
  · cases h2
theorem AW.port {T : xT} {p : Nat} {m : xMod} {q : xMod × Nat} (h : AW m) (he : sp_port T m p = .ok q) : AW q.1 := by
  unfold sp_port at he
  obtain ⟨nm, h1, h2⟩ := eb_eq he
  split at h2
  · rename_i hc
    cases h2
    simp only [sp_can, Bool.and_eq_true, decide_eq_true_eq] at hc
    exact h.net (x := (nm, 3, 0)) hc.2
  · cases h2
theorem AW.tellS {T : xT} {s w p : Nat} {m : xMod} {q : xMod × Nat} (h : AW m) (hs : s < 2) (he : sp_tell T s w m p = .ok q) : AW q.1 := by
  unfold sp_tell at he
  obtain ⟨nm, h1, h2⟩ := eb_eq he
  split at h2
  · cases h2
  · rename_i x hx
    split at h2
    · rename_i h3
      cases h2
      exact h.tell (w := w) hx h3 hs
    · cases h2
theorem cw_netsT {P : xP} {T : xT} {g : List Nat → Nat} {ix M : Nat} {m : xMod} {σ : xS} {p : Nat} (h : PX P T true g ix M m σ p) (hR : Rm P σ 1) : Rf (dm_X3_readNets_p63 P (P.base + 6) σ) (eb (sp_sign T 59 p) fun p3 => .ok (m, p3)) (IQ P T true ix M σ 0) (PE P T M σ 1) := by
  have ci := h.1.ci
  have hMs := h.2.2.2.1.1.1
  unfold dm_X3_readNets_p63
  simp (disch := first | assumption | omega) [ck_T, sm_s, bd_l, bd_r, lt_e, eq_self, and_self, if_true, true_and, and_true, lit_nI, nI_add, nI_mul, nI_sub, nI_clamp, nI_eq, nI_ltI, nI_leI, nN_e, nI_nN, nN_nI, bI_0, bI_1, bI_n, bool_0, bool_1, in_T, lg_cmp0, ofN_nI, ci_0 ci, ci_1 ci, ci_2 ci, ci_3 ci, ci_4 ci, ci_5 ci, ci_6 ci, ci_7 ci, ci_8 ci, ci_9 ci, ci_10 ci, ci_11 ci, ci_12 ci, ci_13 ci, ci_14 ci, ci_15 ci, ci_16 ci, ci_17 ci, ci_18 ci, ci_19 ci, ci_20 ci, ci_21 ci, ci_22 ci]
  refine Rf.bind (rf_sign h.1 (c := 59) (by omega) hR) ?_ ?_
  · rintro _ s p3 ⟨rfl, C1⟩
    have f1 := cst_fr P σ.sz σ
    exact Rf.ok rfl ⟨g, h.fr f1 C1, f1.mono⟩
  · intro g5 s5 hq
    exact ⟨rfl, hq.mono⟩
theorem cw_netsL {P : xP} {T : xT} {ix M s w : Nat} (hs : s ≤ 2) (hw1 : 1 ≤ w) (hw : w ≤ 8) : ∀ (r k n : Nat) (g : List Nat → Nat) (m : xMod) (σ : xS) (p : Nat), k + r = 17 → r + 1 < n → PX P T true g ix M m σ p → AW m → Rm P σ (r + 5) →
    Rf (dm_X3_readNets_L17 P (P.base + 6) n (nI s) (nI w) (nI 1) (nI k) σ) (eb (sp_loop T (fun m p => if s = 2 then sp_wire T w m p else sp_tell T s w m p) r m p) fun q => eb (sp_sign T 59 q.2) fun p3 => .ok (q.1, p3)) (IQ P T true ix M σ r) (PE P T M σ (r + 2)) := by
  intro r
  induction r with
  | zero =>
    intro k n g m σ p hk hn h hA hR
    obtain ⟨n, rfl⟩ : ∃ m, n = m + 1 := ⟨n - 1, by omega⟩
    simp only [sp_loop, eb_ok]
    unfold dm_X3_readNets_L17
    have e1 : 16 < k := by omega
    simp (disch := first | assumption | omega) [lit_nI, nI_add, nI_mul, nI_sub, nI_clamp, nI_eq, nI_ltI, nI_leI, nN_e, nI_nN, nN_nI, bI_0, bI_1, bI_n, bool_0, bool_1, in_T, lg_cmp0, ofN_nI, e1]
    exact (cw_netsT h hR.mono).mono (fun _ _ _ q => q) (fun _ _ q => q.mono)
  | succ r ih =>
    intro k n g m σ p hk hn h hA hR
    obtain ⟨n, rfl⟩ : ∃ m, n = m + 1 := ⟨n - 1, by omega⟩
    have ci := h.1.ci
    have hMs := h.2.2.2.1.1.1
    have e1 : ¬ 16 < k := by omega
    simp only [sp_loop, eb_as]
    have nxt : ∀ (t : xS) (q : xMod × Nat), IQ P T true ix M σ 1 () t q → AW q.1 → Rf (dm_X3_readNets_p47 P (dm_X3_readNets_L17 P (P.base + 6) n) (P.base + 6) (nI s) (nI w) (nI k) t) (eb (if sp_is T 44 q.2 = true then sp_loop T (fun m p => if s = 2 then sp_wire T w m p else sp_tell T s w m p) r q.1 (lx_nx T q.2) else .ok q) fun q => eb (sp_sign T 59 q.2) fun p3 => .ok (q.1, p3)) (IQ P T true ix M σ (r + 1)) (PE P T M σ (r + 1 + 2)) := by
      rintro t q ⟨g', hs, fs⟩ hA'
      have cis := hs.1.ci
      have as := hs.2.2.2.1.1.1
      have sk := cw_skips hs.1 (c := 44) (by omega)
      unfold dm_X3_readNets_p47
      by_cases e : sp_is T 44 q.2 = true
      · simp only [e, if_true] at sk ⊢
        have C1 := hs.1.step (is_lt e)
        have f1 := cst_fr P t.sz t
        have h1 := hs.fr f1 C1
        have fs1 : Fr P M 1 σ (cst P t) := fs.trans f1
        have q2 := ih (k + 1) n g' q.1 (cst P t) (lx_nx T q.2) (by omega) (by omega) h1 hA' (hR.us fs1.2.2)
        simp (disch := first | assumption | omega) [ck_T, sm_s, bd_l, bd_r, lt_e, eq_self, and_self, if_true, true_and, and_true, lit_nI, nI_add, nI_mul, nI_sub, nI_clamp, nI_eq, nI_ltI, nI_leI, nN_e, nI_nN, nN_nI, bI_0, bI_1, bI_n, bool_0, bool_1, in_T, lg_cmp0, ofN_nI, ci_0 cis, ci_1 cis, ci_2 cis, ci_3 cis, ci_4 cis, ci_5 cis, ci_6 cis, ci_7 cis, ci_8 cis, ci_9 cis, ci_10 cis, ci_11 cis, ci_12 cis, ci_13 cis, ci_14 cis, ci_15 cis, ci_16 cis, ci_17 cis, ci_18 cis, ci_19 cis, ci_20 cis, ci_21 cis, ci_22 cis, sk, bI_tt]
        exact q2.mono (fun _ _ _ ⟨g2, z1, z2⟩ => ⟨g2, z1, fs1.trans z2⟩) (fun _ _ z => PE.aft fs1 z)
      · simp only [e, if_false, eb_ok] at sk ⊢
        simp (disch := first | assumption | omega) [ck_T, sm_s, bd_l, bd_r, lt_e, eq_self, and_self, if_true, true_and, and_true, lit_nI, nI_add, nI_mul, nI_sub, nI_clamp, nI_eq, nI_ltI, nI_leI, nN_e, nI_nN, nN_nI, bI_0, bI_1, bI_n, bool_0, bool_1, in_T, lg_cmp0, ofN_nI, ci_0 cis, ci_1 cis, ci_2 cis, ci_3 cis, ci_4 cis, ci_5 cis, ci_6 cis, ci_7 cis, ci_8 cis, ci_9 cis, ci_10 cis, ci_11 cis, ci_12 cis, ci_13 cis, ci_14 cis, ci_15 cis, ci_16 cis, ci_17 cis, ci_18 cis, ci_19 cis, ci_20 cis, ci_21 cis, ci_22 cis, sk, bI_ff]
        have q2 := cw_netsT hs (hR.us fs.2.2 (d := 1))
        obtain ⟨n', rfl⟩ : ∃ m, n = m + 1 := ⟨n - 1, by omega⟩
        unfold dm_X3_readNets_L17
        simp (disch := first | assumption | omega) [lit_nI, nI_add, nI_mul, nI_sub, nI_clamp, nI_eq, nI_ltI, nI_leI, nN_e, nI_nN, nN_nI, bI_0, bI_1, bI_n, bool_0, bool_1, in_T, lg_cmp0, ofN_nI]
        exact q2.mono (fun _ _ _ ⟨g2, z1, z2⟩ => ⟨g2, z1, fs.trans z2⟩) (fun _ _ z => PE.aft fs z)
    unfold dm_X3_readNets_L17
    by_cases e : s = 2
    · simp only [e, if_true] at nxt ⊢
      simp (disch := first | assumption | omega) [ck_T, sm_s, bd_l, bd_r, lt_e, eq_self, and_self, if_true, true_and, and_true, lit_nI, nI_add, nI_mul, nI_sub, nI_clamp, nI_eq, nI_ltI, nI_leI, nN_e, nI_nN, nN_nI, bI_0, bI_1, bI_n, bool_0, bool_1, in_T, lg_cmp0, ofN_nI, e1, ci_0 ci, ci_1 ci, ci_2 ci, ci_3 ci, ci_4 ci, ci_5 ci, ci_6 ci, ci_7 ci, ci_8 ci, ci_9 ci, ci_10 ci, ci_11 ci, ci_12 ci, ci_13 ci, ci_14 ci, ci_15 ci, ci_16 ci, ci_17 ci, ci_18 ci, ci_19 ci, ci_20 ci, ci_21 ci, ci_22 ci]
      refine Rf.bind (cw_wire h hA hw1 hw hR.mono).res ?_ ?_
      · rintro v t q ⟨hq, he⟩
        exact nxt t q hq (hA.wire he)
      · intro g5 s5 hq
        exact ⟨rfl, hq.mono⟩
    · simp only [e, if_false] at nxt ⊢
      simp (disch := first | assumption | omega) [ck_T, sm_s, bd_l, bd_r, lt_e, eq_self, and_self, if_true, true_and, and_true, lit_nI, nI_add, nI_mul, nI_sub, nI_clamp, nI_eq, nI_ltI, nI_leI, nN_e, nI_nN, nN_nI, bI_0, bI_1, bI_n, bool_0, bool_1, in_T, lg_cmp0, ofN_nI, e1, e, ci_0 ci, ci_1 ci, ci_2 ci, ci_3 ci, ci_4 ci, ci_5 ci, ci_6 ci, ci_7 ci, ci_8 ci, ci_9 ci, ci_10 ci, ci_11 ci, ci_12 ci, ci_13 ci, ci_14 ci, ci_15 ci, ci_16 ci, ci_17 ci, ci_18 ci, ci_19 ci, ci_20 ci, ci_21 ci, ci_22 ci]
      refine Rf.bind (cw_tell h hA (by omega) hw1 hw hR.mono).res ?_ ?_
      · rintro v t q ⟨hq, he⟩
        exact nxt t q hq (hA.tellS (by omega) he)
      · intro g5 s5 hq
        exact ⟨rfl, hq.mono⟩
theorem cw_readNets {P : xP} {T : xT} {g : List Nat → Nat} {ix M s : Nat} {m : xMod} {σ : xS} {p : Nat} (h : PX P T true g ix M m σ p) (hA : AW m) (hs : s ≤ 2) (hp : p < T.2) (hR : Rm P σ 60) : Rf (dm_X3_readNets P (P.base + 6) (nI s) σ) (sp_nets T s m p) (IQ P T true ix M σ 50) (PE P T M σ 50) := by
  have C := h.1
  have ci := C.ci
  have hMs := h.2.2.2.1.1.1
  have st := cw_step C hp
  have C1 := C.step hp
  have ci1 := C1.ci
  have f1 := cst_fr P σ.sz σ
  unfold dm_X3_readNets sp_nets
  simp (disch := first | assumption | omega) [ck_T, sm_s, bd_l, bd_r, lt_e, eq_self, and_self, if_true, true_and, and_true, lit_nI, nI_add, nI_mul, nI_sub, nI_clamp, nI_eq, nI_ltI, nI_leI, nN_e, nI_nN, nN_nI, bI_0, bI_1, bI_n, bool_0, bool_1, in_T, lg_cmp0, ofN_nI, ci_0 ci, ci_1 ci, ci_2 ci, ci_3 ci, ci_4 ci, ci_5 ci, ci_6 ci, ci_7 ci, ci_8 ci, ci_9 ci, ci_10 ci, ci_11 ci, ci_12 ci, ci_13 ci, ci_14 ci, ci_15 ci, ci_16 ci, ci_17 ci, ci_18 ci, ci_19 ci, ci_20 ci, ci_21 ci, ci_22 ci, ci_0 ci1, ci_1 ci1, ci_2 ci1, ci_3 ci1, ci_4 ci1, ci_5 ci1, ci_6 ci1, ci_7 ci1, ci_8 ci1, ci_9 ci1, ci_10 ci1, ci_11 ci1, ci_12 ci1, ci_13 ci1, ci_14 ci1, ci_15 ci1, ci_16 ci1, ci_17 ci1, ci_18 ci1, ci_19 ci1, ci_20 ci1, ci_21 ci1, ci_22 ci1, st]
  refine Rf.bind (cw_range C1 (hR.us f1.2.2)) ?_ ?_
  · rintro _ t ⟨w, p2⟩ ⟨rfl, w1, w2, f2, C2⟩
    have f02 : Fr P σ.sz 0 σ t := f1.t0 f2 (Nat.le_refl _)
    have h2 := h.fr f02 C2
    have q2 := cw_netsL (P := P) (T := T) (ix := ix) (M := M) hs w1 w2 17 0 P.N g m t p2 (by omega) (by have := ci.N; omega) h2 hA (hR.us f02.2.2)
    have f03 : Fr P M 0 σ t := f02.mono
    exact q2.mono (fun _ _ _ ⟨g2, z1, z2⟩ => ⟨g2, z1, f03.trans z2⟩) (fun _ _ z => PE.aft f03 z)
  · intro g5 s5 hq
    exact ⟨rfl, (PE.aft f1 hq (Nat.le_refl _) (e := 1)).mono⟩
theorem cw_headT {P : xP} {T : xT} {g : List Nat → Nat} {ix M : Nat} {m : xMod} {σ : xS} {p : Nat} (h : PX P T true g ix M m σ p) (hR : Rm P σ 1) : Rf (dm_X3_readHead_p123 P (P.base + 6) σ) (eb (sp_sign T 41 p) fun p3 => eb (sp_sign T 59 p3) fun p4 => .ok (m, p4)) (IQ P T true ix M σ 0) (PE P T M σ 1) := by
  have ci := h.1.ci
  have hMs := h.2.2.2.1.1.1
  unfold dm_X3_readHead_p123
  simp (disch := first | assumption | omega) [ck_T, sm_s, bd_l, bd_r, lt_e, eq_self, and_self, if_true, true_and, and_true, lit_nI, nI_add, nI_mul, nI_sub, nI_clamp, nI_eq, nI_ltI, nI_leI, nN_e, nI_nN, nN_nI, bI_0, bI_1, bI_n, bool_0, bool_1, in_T, lg_cmp0, ofN_nI, ci_0 ci, ci_1 ci, ci_2 ci, ci_3 ci, ci_4 ci, ci_5 ci, ci_6 ci, ci_7 ci, ci_8 ci, ci_9 ci, ci_10 ci, ci_11 ci, ci_12 ci, ci_13 ci, ci_14 ci, ci_15 ci, ci_16 ci, ci_17 ci, ci_18 ci, ci_19 ci, ci_20 ci, ci_21 ci, ci_22 ci]
  refine Rf.bind (rf_sign h.1 (c := 41) (by omega) hR) ?_ ?_
  · rintro _ s p3 ⟨rfl, C1⟩
    have ci1 := C1.ci
    have f1 := cst_fr P σ.sz σ
    simp (disch := first | assumption | omega) [ck_T, sm_s, bd_l, bd_r, lt_e, eq_self, and_self, if_true, true_and, and_true, lit_nI, nI_add, nI_mul, nI_sub, nI_clamp, nI_eq, nI_ltI, nI_leI, nN_e, nI_nN, nN_nI, bI_0, bI_1, bI_n, bool_0, bool_1, in_T, lg_cmp0, ofN_nI, ci_0 ci1, ci_1 ci1, ci_2 ci1, ci_3 ci1, ci_4 ci1, ci_5 ci1, ci_6 ci1, ci_7 ci1, ci_8 ci1, ci_9 ci1, ci_10 ci1, ci_11 ci1, ci_12 ci1, ci_13 ci1, ci_14 ci1, ci_15 ci1, ci_16 ci1, ci_17 ci1, ci_18 ci1, ci_19 ci1, ci_20 ci1, ci_21 ci1, ci_22 ci1]
    refine Rf.bind (rf_sign C1 (c := 59) (by omega) (hR.us f1.2.2)) ?_ ?_
    · rintro _ s p4 ⟨rfl, C2⟩
      have f2 : Fr P σ.sz 0 σ (cst P (cst P σ)) := f1.t0 (cst_fr P σ.sz _) (Nat.le_refl _)
      exact Rf.ok rfl ⟨g, h.fr f2 C2, f2.mono⟩
    · intro g5 s5 hq
      exact ⟨rfl, (PE.aft f1 hq (Nat.le_refl _) (e := 1)).mono⟩
  · intro g5 s5 hq
    exact ⟨rfl, hq.mono⟩
theorem cw_headL {P : xP} {T : xT} {ix M : Nat} : ∀ (r k n : Nat) (g : List Nat → Nat) (m : xMod) (σ : xS) (p : Nat), k + r = 17 → r + 1 < n → PX P T true g ix M m σ p → AW m → Rm P σ (r + 5) →
    Rf (dm_X3_readHead_L42 P (P.base + 6) n (nI 1) (nI k) σ) (eb (sp_loop T (sp_port T) r m p) fun q => eb (sp_sign T 41 q.2) fun p3 => eb (sp_sign T 59 p3) fun p4 => .ok (q.1, p4)) (IQ P T true ix M σ r) (PE P T M σ (r + 2)) := by
  intro r
  induction r with
  | zero =>
    intro k n g m σ p hk hn h hA hR
    obtain ⟨n, rfl⟩ : ∃ m, n = m + 1 := ⟨n - 1, by omega⟩
    simp only [sp_loop, eb_ok]
    unfold dm_X3_readHead_L42
    have e1 : 16 < k := by omega
    simp (disch := first | assumption | omega) [lit_nI, nI_add, nI_mul, nI_sub, nI_clamp, nI_eq, nI_ltI, nI_leI, nN_e, nI_nN, nN_nI, bI_0, bI_1, bI_n, bool_0, bool_1, in_T, lg_cmp0, ofN_nI, e1]
    exact (cw_headT h hR.mono).mono (fun _ _ _ q => q) (fun _ _ q => q.mono)
  | succ r ih =>
    intro k n g m σ p hk hn h hA hR
    obtain ⟨n, rfl⟩ : ∃ m, n = m + 1 := ⟨n - 1, by omega⟩
    have C := h.1
    have ci := C.ci
    have hMs := h.2.2.2.1.1.1
    have cu : σ.R 302 (P.base + 6) = some M := h.2.1
    have kM := h.2.2.2.1.1.2.1
    have e1 : ¬ 16 < k := by omega
    simp only [sp_loop, eb_as]
    unfold dm_X3_readHead_L42 sp_port
    simp (disch := first | assumption | omega) [ck_T, sm_s, bd_l, bd_r, lt_e, eq_self, and_self, if_true, true_and, and_true, lit_nI, nI_add, nI_mul, nI_sub, nI_clamp, nI_eq, nI_ltI, nI_leI, nN_e, nI_nN, nN_nI, bI_0, bI_1, bI_n, bool_0, bool_1, in_T, lg_cmp0, ofN_nI, e1, ci_0 ci, ci_1 ci, ci_2 ci, ci_3 ci, ci_4 ci, ci_5 ci, ci_6 ci, ci_7 ci, ci_8 ci, ci_9 ci, ci_10 ci, ci_11 ci, ci_12 ci, ci_13 ci, ci_14 ci, ci_15 ci, ci_16 ci, ci_17 ci, ci_18 ci, ci_19 ci, ci_20 ci, ci_21 ci, ci_22 ci, eb_as]
    refine Rf.bind (rf_name C hR.mono) ?_ ?_
    · rintro _ s nm ⟨rfl, rfl, ho, hp⟩
      have ct := cw_canTakeNet ci h.2.2.2.1 (fun x hx => (h.2.2.2.2.1 x hx).1) ho
      have rt := cw_refuseIf (P := P) (a := P.base + 1) (b := true) (σ := s) hR.mono
      have rf := cw_refuseIf (P := P) (a := P.base + 1) (b := false) (σ := s) hR.mono
      simp only [bI_tt, bI_ff, if_true] at rt rf
      by_cases e : sp_can m nm = true
      · rw [if_pos e, eb_ok]
        rw [e] at ct
        obtain ⟨f1, C1⟩ := newO_CP (k := 5) (n := 4) C (by omega)
        obtain ⟨s2, s3, q1, q2, q3, q4, q5⟩ := cw_newNet (s := 3) (w := 0) h hA f1 (by simp [q_K_newO, q_up]) (by simp [q_sz_newO]) C1 e ho (by omega) (by omega) (fun z => absurd rfl z)
        have C3 := q4.1
        have ci3 := C3.ci
        have st := cw_step C3 hp
        have C4 := C3.step hp
        have ci4 := C4.ci
        have f4 := cst_fr P s3.sz s3
        have q6 := q4.fr f4 C4
        have rc := of_eq_true (Rm.chk hR 1 4 (by omega) (by omega))
        simp only [sortI_3] at q1
        have as := q4.2.2.2.1.1.1
        have sk := cw_skips C4 (c := 44) (by omega)
        have f5 : Fr P M 1 s (cst P s3) := q5.trans f4
        have hA2 : AW (m.wNet (nm, 3, 0)) := by
          simp only [sp_can, Bool.and_eq_true, decide_eq_true_eq] at e
          exact hA.net (x := (nm, 3, 0)) e.2
        have em : ((m.nm, m.pl, m.ports ++ [(nm, 3, 0)], m.wires, m.asg, m.ins) : xMod) = m.wNet (nm, 3, 0) := rfl
        rw [em]
        unfold dm_X3_readHead_p80
        simp (disch := first | assumption | omega) [ck_T, sm_s, bd_l, bd_r, lt_e, eq_self, and_self, if_true, true_and, and_true, lit_nI, nI_add, nI_mul, nI_sub, nI_clamp, nI_eq, nI_ltI, nI_leI, nN_e, nI_nN, nN_nI, bI_0, bI_1, bI_n, bool_0, bool_1, in_T, lg_cmp0, ofN_nI, ci_0 ci, ci_1 ci, ci_2 ci, ci_3 ci, ci_4 ci, ci_5 ci, ci_6 ci, ci_7 ci, ci_8 ci, ci_9 ci, ci_10 ci, ci_11 ci, ci_12 ci, ci_13 ci, ci_14 ci, ci_15 ci, ci_16 ci, ci_17 ci, ci_18 ci, ci_19 ci, ci_20 ci, ci_21 ci, ci_22 ci, ci_0 ci3, ci_1 ci3, ci_2 ci3, ci_3 ci3, ci_4 ci3, ci_5 ci3, ci_6 ci3, ci_7 ci3, ci_8 ci3, ci_9 ci3, ci_10 ci3, ci_11 ci3, ci_12 ci3, ci_13 ci3, ci_14 ci3, ci_15 ci3, ci_16 ci3, ci_17 ci3, ci_18 ci3, ci_19 ci3, ci_20 ci3, ci_21 ci3, ci_22 ci3, ci_0 ci4, ci_1 ci4, ci_2 ci4, ci_3 ci4, ci_4 ci4, ci_5 ci4, ci_6 ci4, ci_7 ci4, ci_8 ci4, ci_9 ci4, ci_10 ci4, ci_11 ci4, ci_12 ci4, ci_13 ci4, ci_14 ci4, ci_15 ci4, ci_16 ci4, ci_17 ci4, ci_18 ci4, ci_19 ci4, ci_20 ci4, ci_21 ci4, ci_22 ci4, cu, kM, ct, rf, rc, q1, q2, q3, st, sk]
        by_cases e2 : sp_is T 44 (lx_nx T p) = true
        · simp only [e2, if_true, bI_tt]
          have C6 := C4.step (is_lt e2)
          have f6 := cst_fr P (cst P s3).sz (cst P s3)
          have q7 := q6.fr f6 C6
          have f7 : Fr P M 1 s (cst P (cst P s3)) := f5.trans f6 (by show M ≤ s3.sz; omega)
          have q2 := ih (k + 1) n _ (m.wNet (nm, 3, 0)) (cst P (cst P s3)) (lx_nx T (lx_nx T p)) (by omega) (by omega) q7 hA2 (hR.us f7.2.2)
          exact q2.mono (fun _ _ _ ⟨g2, z1, z2⟩ => ⟨g2, z1, f7.trans z2⟩) (fun _ _ z => PE.aft f7 z)
        · have e3 : sp_is T 44 (lx_nx T p) = false := by simpa using e2
          simp only [e3, Bool.false_eq_true, if_false, bI_ff, eb_ok]
          have q2 := cw_headT q6 (hR.us f5.2.2 (d := 1))
          obtain ⟨n', rfl⟩ : ∃ m, n = m + 1 := ⟨n - 1, by omega⟩
          unfold dm_X3_readHead_L42
          simp (disch := first | assumption | omega) [lit_nI, nI_add, nI_mul, nI_sub, nI_clamp, nI_eq, nI_ltI, nI_leI, nN_e, nI_nN, nN_nI, bI_0, bI_1, bI_n, bool_0, bool_1, in_T, lg_cmp0, ofN_nI]
          exact q2.mono (fun _ _ _ ⟨g2, z1, z2⟩ => ⟨g2, z1, f5.trans z2⟩) (fun _ _ z => PE.aft f5 z)
      · rw [if_neg e, eb_er]
        have e' : sp_can m nm = false := by simpa using e
        rw [e'] at ct
        refine Rf.er (σ' := s.skip 6) ?_ ((PE.skip C).mono)
        unfold dm_X3_readHead_p80
        simp (disch := first | assumption | omega) [ck_T, sm_s, bd_l, bd_r, lt_e, eq_self, and_self, if_true, true_and, and_true, lit_nI, nI_add, nI_mul, nI_sub, nI_clamp, nI_eq, nI_ltI, nI_leI, nN_e, nI_nN, nN_nI, bI_0, bI_1, bI_n, bool_0, bool_1, in_T, lg_cmp0, ofN_nI, ci_0 ci, ci_1 ci, ci_2 ci, ci_3 ci, ci_4 ci, ci_5 ci, ci_6 ci, ci_7 ci, ci_8 ci, ci_9 ci, ci_10 ci, ci_11 ci, ci_12 ci, ci_13 ci, ci_14 ci, ci_15 ci, ci_16 ci, ci_17 ci, ci_18 ci, ci_19 ci, ci_20 ci, ci_21 ci, ci_22 ci, cu, kM, ct, rt]
    · intro g5 s5 hq
      exact ⟨rfl, hq.mono⟩
theorem cw_shortNet {P : xP} {T : xT} {g : List Nat → Nat} {ix M s : Nat} {m : xMod} {σ : xS} {p : Nat} (h : PX P T false g ix M m σ p) (hA : AW m) (hs : s ≤ 2) (hp : p < T.2) (hR : Rm P σ 60) : Rf (dm_X9_readNet P (P.base + 7) (nI s) σ) (sp_shortNet T s m p) (IQ P T false ix M σ 50) (PE P T M σ 50) := by
  have C := h.1
  have ci := C.ci
  have hMs := h.2.2.2.1.1.1
  have st := cw_step C hp
  have C1 := C.step hp
  have ci1 := C1.ci
  have f1 := cst_fr P σ.sz σ
  have h1 := h.fr f1 C1
  have hR1 : Rm P (cst P σ) 60 := hR.us f1.2.2
  have es : (cst P σ).sz = σ.sz := rfl
  unfold dm_X9_readNet sp_shortNet
  simp (disch := first | assumption | omega) [ck_T, sm_s, bd_l, bd_r, lt_e, eq_self, and_self, if_true, true_and, and_true, lit_nI, nI_add, nI_mul, nI_sub, nI_clamp, nI_eq, nI_ltI, nI_leI, nN_e, nI_nN, nN_nI, bI_0, bI_1, bI_n, bool_0, bool_1, in_T, lg_cmp0, ofN_nI, ci_0 ci, ci_1 ci, ci_2 ci, ci_3 ci, ci_4 ci, ci_5 ci, ci_6 ci, ci_7 ci, ci_8 ci, ci_9 ci, ci_10 ci, ci_11 ci, ci_12 ci, ci_13 ci, ci_14 ci, ci_15 ci, ci_16 ci, ci_17 ci, ci_18 ci, ci_19 ci, ci_20 ci, ci_21 ci, ci_22 ci, ci_0 ci1, ci_1 ci1, ci_2 ci1, ci_3 ci1, ci_4 ci1, ci_5 ci1, ci_6 ci1, ci_7 ci1, ci_8 ci1, ci_9 ci1, ci_10 ci1, ci_11 ci1, ci_12 ci1, ci_13 ci1, ci_14 ci1, ci_15 ci1, ci_16 ci1, ci_17 ci1, ci_18 ci1, ci_19 ci1, ci_20 ci1, ci_21 ci1, ci_22 ci1, st]
  refine Rf.bind (rf_name C1 hR1.mono) ?_ ?_
  · rintro _ t nm ⟨rfl, rfl, ho, hp1⟩
    have cu : (cst P σ).R 302 (P.base + 7) = some M := h1.2.1
    have kM := h1.2.2.2.1.1.2.1
    have ct := cw_canTakeNet ci1 h1.2.2.2.1 (fun x hx => (h1.2.2.2.2.1 x hx).1) ho
    have rt := cw_refuseIf (P := P) (a := P.base + 1) (b := true) (σ := cst P σ) hR1.mono
    have rf := cw_refuseIf (P := P) (a := P.base + 1) (b := false) (σ := cst P σ) hR1.mono
    simp only [bI_tt, bI_ff, if_true] at rt rf
    by_cases e : sp_can m nm = true
    · rw [if_pos e]
      rw [e] at ct
      have st2 := cw_step C1 hp1
      have C2 := C1.step hp1
      have ci2 := C2.ci
      have f2 : Fr P σ.sz 0 σ (cst P (cst P σ)) := f1.t0 (cst_fr P σ.sz _) (Nat.le_refl _)
      have h2 := h.fr f2 C2
      have hR2 : Rm P (cst P (cst P σ)) 60 := hR.us f2.2.2
      obtain ⟨f3, C3⟩ := newO_CP (k := 5) (n := 4) C2 (by omega)
      have ci3 := C3.ci
      have f03 : Fr P σ.sz 1 σ ((cst P (cst P σ)).newO 5 4) := f2.t0 f3 (Nat.le_refl _)
      have rc := of_eq_true (Rm.chk hR2 1 4 (by omega) (by omega))
      have cu2 : (cst P (cst P σ)).R 302 (P.base + 7) = some M := h2.2.1
      have es2 : (cst P (cst P σ)).sz = σ.sz := rfl
      unfold dm_X9_readNet_p35
      simp (disch := first | assumption | omega) [ck_T, sm_s, bd_l, bd_r, lt_e, eq_self, and_self, if_true, true_and, and_true, lit_nI, nI_add, nI_mul, nI_sub, nI_clamp, nI_eq, nI_ltI, nI_leI, nN_e, nI_nN, nN_nI, bI_0, bI_1, bI_n, bool_0, bool_1, in_T, lg_cmp0, ofN_nI, ci_0 ci1, ci_1 ci1, ci_2 ci1, ci_3 ci1, ci_4 ci1, ci_5 ci1, ci_6 ci1, ci_7 ci1, ci_8 ci1, ci_9 ci1, ci_10 ci1, ci_11 ci1, ci_12 ci1, ci_13 ci1, ci_14 ci1, ci_15 ci1, ci_16 ci1, ci_17 ci1, ci_18 ci1, ci_19 ci1, ci_20 ci1, ci_21 ci1, ci_22 ci1, ci_0 ci2, ci_1 ci2, ci_2 ci2, ci_3 ci2, ci_4 ci2, ci_5 ci2, ci_6 ci2, ci_7 ci2, ci_8 ci2, ci_9 ci2, ci_10 ci2, ci_11 ci2, ci_12 ci2, ci_13 ci2, ci_14 ci2, ci_15 ci2, ci_16 ci2, ci_17 ci2, ci_18 ci2, ci_19 ci2, ci_20 ci2, ci_21 ci2, ci_22 ci2, ci_0 ci3, ci_1 ci3, ci_2 ci3, ci_3 ci3, ci_4 ci3, ci_5 ci3, ci_6 ci3, ci_7 ci3, ci_8 ci3, ci_9 ci3, ci_10 ci3, ci_11 ci3, ci_12 ci3, ci_13 ci3, ci_14 ci3, ci_15 ci3, ci_16 ci3, ci_17 ci3, ci_18 ci3, ci_19 ci3, ci_20 ci3, ci_21 ci3, ci_22 ci3, cu, kM, ct, rf, st2, rc]
      refine Rf.bind (rf_num C3 (lo := 1) (hi := 8) (by omega) (by omega) (hR.us f03.2.2)) ?_ ?_
      · rintro _ t ⟨w, p3⟩ ⟨rfl, rfl, C4, w1, w2⟩
        have f4 : Fr P σ.sz 1 (cst P (cst P σ)) (cst P ((cst P (cst P σ)).newO 5 4)) := f3.trans (cst_fr P σ.sz _) (Nat.le_refl _)
        have hs3 : ¬ s = 3 := by omega
        have eso : sortI s = nI s := if_neg hs3
        obtain ⟨s2, s3, q1, q2, q3, q4, q5⟩ := cw_newNet (s := s) (w := w) h2 hA f4 (by show ((cst P (cst P σ)).newO 5 4).K (cst P (cst P σ)).sz = 5; simp [q_K_newO, q_up]) (by show ((cst P (cst P σ)).newO 5 4).sz = _; simp [q_sz_newO]) C4 e ho (by omega) w2 (fun _ => w1)
        rw [eso] at q1
        have C5 := q4.1
        have ci5 := C5.ci
        have as := q4.2.2.2.1.1.1
        have f05 : Fr P M 1 σ s3 := (f2.mono (h' := M) (by omega) (e := 0)).trans q5
        simp (disch := first | assumption | omega) [ck_T, sm_s, bd_l, bd_r, lt_e, eq_self, and_self, if_true, true_and, and_true, lit_nI, nI_add, nI_mul, nI_sub, nI_clamp, nI_eq, nI_ltI, nI_leI, nN_e, nI_nN, nN_nI, bI_0, bI_1, bI_n, bool_0, bool_1, in_T, lg_cmp0, ofN_nI, ci_0 ci5, ci_1 ci5, ci_2 ci5, ci_3 ci5, ci_4 ci5, ci_5 ci5, ci_6 ci5, ci_7 ci5, ci_8 ci5, ci_9 ci5, ci_10 ci5, ci_11 ci5, ci_12 ci5, ci_13 ci5, ci_14 ci5, ci_15 ci5, ci_16 ci5, ci_17 ci5, ci_18 ci5, ci_19 ci5, ci_20 ci5, ci_21 ci5, ci_22 ci5, cu2, q1, q2, q3]
        refine Rf.bind (rf_sign C5 (c := 59) (by omega) (hR.us f05.2.2)) ?_ ?_
        · rintro _ t p4 ⟨rfl, C6⟩
          have f6 := cst_fr P s3.sz s3
          have q6 := q4.fr f6 C6
          refine Rf.ok rfl ⟨(fun y => if y = nm then (cst P (cst P σ)).sz else g y), ?_, f05.trans f6⟩
          have em : (if s = 2 then ((m.nm, m.pl, m.ports, m.wires ++ [(nm, s, w)], m.asg, m.ins) : xMod) else (m.nm, m.pl, m.ports ++ [(nm, s, w)], m.wires, m.asg, m.ins)) = m.wNet (nm, s, w) := rfl
          rw [em]
          exact q6
        · intro g5 s5 hq
          exact ⟨rfl, PE.aft f05 hq⟩
      · intro g5 s5 hq
        exact ⟨rfl, (PE.aft f03 hq (by have := f3.2.2.1; omega) (e := 2)).mono⟩
    · rw [if_neg e]
      have e' : sp_can m nm = false := by simpa using e
      rw [e'] at ct
      refine Rf.er (σ' := (cst P σ).skip 6) ?_ ((PE.aft f1 (PE.skip C1) (Nat.le_refl _) (e := 1)).mono)
      unfold dm_X9_readNet_p35
      simp (disch := first | assumption | omega) [ck_T, sm_s, bd_l, bd_r, lt_e, eq_self, and_self, if_true, true_and, and_true, lit_nI, nI_add, nI_mul, nI_sub, nI_clamp, nI_eq, nI_ltI, nI_leI, nN_e, nI_nN, nN_nI, bI_0, bI_1, bI_n, bool_0, bool_1, in_T, lg_cmp0, ofN_nI, ci_0 ci1, ci_1 ci1, ci_2 ci1, ci_3 ci1, ci_4 ci1, ci_5 ci1, ci_6 ci1, ci_7 ci1, ci_8 ci1, ci_9 ci1, ci_10 ci1, ci_11 ci1, ci_12 ci1, ci_13 ci1, ci_14 ci1, ci_15 ci1, ci_16 ci1, ci_17 ci1, ci_18 ci1, ci_19 ci1, ci_20 ci1, ci_21 ci1, ci_22 ci1, cu, kM, ct, rt]
  · intro g5 s5 hq
    exact ⟨rfl, (PE.aft f1 hq (Nat.le_refl _) (e := 1)).mono⟩
