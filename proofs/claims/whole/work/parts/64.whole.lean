/-! ===== the class: the whole text ===== -/
/-- the first fault that only the whole text shows, 1001 if there is none -/
def sp_whole (ms : List xMod) : Nat := if sp_mis ms = 1001 then sp_rg (fun k => gr_W (sp_has ms) ms.length k k) 0 ms else sp_mis ms
theorem rg_1001 {R : Nat → Bool} : ∀ (ms : List xMod) (j : Nat), (∀ m ∈ ms, m.pl ≤ 1000) → sp_rg R j ms = 1001 → ∀ k, k < ms.length → R (j + k) = false
  | [], _, _, _, k, hk => by simp at hk
  | m :: ms, j, hp, h, k, hk => by
    simp only [sp_rg] at h
    by_cases e : R j = true
    · rw [if_pos e] at h
      have := hp m List.mem_cons_self
      omega
    · rw [if_neg e] at h
      cases k with
      | zero => simpa using e
      | succ k =>
        have := rg_1001 ms (j + 1) (fun x hx => hp x (List.mem_cons_of_mem _ hx)) h k (by simpa using hk)
        rw [← this]
        congr 1
        omega
theorem rg_le {R : Nat → Bool} : ∀ (ms : List xMod) (j : Nat), (∀ m ∈ ms, m.pl ≤ 1000) → sp_rg R j ms ≤ 1001
  | [], _, _ => Nat.le_refl _
  | m :: ms, j, hp => by
    simp only [sp_rg]
    have h1 := hp m List.mem_cons_self
    have h2 := rg_le (R := R) ms (j + 1) (fun x hx => hp x (List.mem_cons_of_mem _ hx))
    split <;> omega
theorem DX.pl {lng : Bool} {ms : List xMod} {p : Nat} (h : DX lng ms p) (hp : p ≤ 1001) : ∀ m ∈ ms, m.pl ≤ 1000 := by
  intro m hm
  have := (h.2.2.1 m hm).1.2.2.2.2.1.1
  omega
theorem whole_le {lng : Bool} {ms : List xMod} {p : Nat} (h : DX lng ms p) (hp : p ≤ 1001) : sp_whole ms ≤ 1001 := by
  unfold sp_whole
  have h1 : sp_mis ms ≤ 1001 := foldl_le _ _
  have h2 := rg_le (R := fun k => gr_W (sp_has ms) ms.length k k) ms 0 (h.pl hp)
  split <;> omega
theorem whole_ac {lng : Bool} {ms : List xMod} {p : Nat} (h : DX lng ms p) (hp : p ≤ 1001) (hw : sp_whole ms = 1001) : ∀ k, k < ms.length → ¬ gr_R (sp_has ms) ms.length k k := by
  intro k hk hr
  unfold sp_whole at hw
  by_cases e : sp_mis ms = 1001
  · rw [if_pos e] at hw
    have := rg_1001 ms 0 (h.pl hp) hw k hk
    rw [Nat.zero_add, (W_iff hk).mpr hr] at this
    cases this
  · rw [if_neg e] at hw
    exact e hw
/-- a design that may be asked -/
def DD (P : xP) (σ : xS) (D : Nat) (A H : Nat → Nat) (G : Nat → List Nat → Nat) (ms : List xMod) (top : Nat) : Prop := (∃ lng, DK P lng σ D A H G ms top) ∧ (∀ k, k < ms.length → ¬ gr_R (sp_has ms) ms.length k k) ∧ BD σ A (gr_D (sp_has ms) ms.length) ms.length (fun _ => True)
theorem cw_whole {P : xP} {T : xT} {lng : Bool} {D : Nat} {A H : Nat → Nat} {G : Nat → List Nat → Nat} {ms : List xMod} {σ : xS} {p : Nat} (h : SN P T lng D A H G ms σ p) (hx : DX lng ms T.2) (hR : Rm P σ 1) : ∃ σ', dm_X0_faultAsWhole P D σ = some (.inl (nI (sp_whole ms)), σ') ∧ Fr P D 1 σ σ' ∧ σ'.I 1 D = nI ms.length ∧ σ'.K D = 1 ∧ (sp_whole ms = 1001 → DD P σ' D A H G ms σ.sz) := by
  obtain ⟨C, hD, hc, hD44, hd, hn, hok⟩ := h
  have ci := C.ci
  have hN := ci.N
  have sz := C.sz
  have T1 := C.tv.1
  have l8 := hx.1
  have hDs := hd.1.2.1
  obtain ⟨s1, t1, t2, t3⟩ := cw_kindsL (P := P) (D := D) (A := A) (H := H) (G := G) (ms := ms) (top := σ.sz) hN hok (fun m hm i hi => ((hx.2.2.1 m hm).1.2.1.2 i hi).1) ms.length 0 P.N σ (by omega) (by omega) ⟨hd.1, fun i m hm => by
    simp only [show ¬ i < 0 by omega, if_false]
    exact hd.2 i m hm⟩ hn
  have f1 : Fr P D 0 σ s1 := (t2.fr (by omega)).mono
  have dk1 : DK P lng s1 D A H G ms σ.sz := ⟨ci.fr (by omega) f1, t3, by rw [t2.2.1]; exact hn, hx.up T1⟩
  have k1 := dk1.2.1.1.2.2.1
  have c1 := dk1.2.2.1
  have es1 : s1.sz = σ.sz := t2.2.2.2.2.2.2.2.1
  have m1 := cw_misAll dk1 ms.length 0 P.N 1001 (by omega) (by omega) (Nat.le_refl _)
  rw [List.drop_zero] at m1
  have em : (ms.map (sp_mmis ms)).foldl min 1001 = sp_mis ms := rfl
  rw [em] at m1
  have wle := whole_le hx (by omega)
  have mle : sp_mis ms ≤ 1001 := foldl_le _ _
  have start : dm_X0_faultAsWhole P D σ = dm_X0_faultAsWhole_L32 P D 1 (nI (sp_mis ms)) (nI ms.length) s1 := by
    unfold dm_X0_faultAsWhole
    simp only [lit_nI]
    rw [t1, m1]
  -- the end: depths
  have fin : ∀ s : xS, DK P lng s D A H G ms σ.sz → Fr P D 1 σ s → sp_whole ms = 1001 → ∃ σ', dm_X0_faultAsWhole_p72 P D (nI 1001) s = some (.inl (nI 1001), σ') ∧ Fr P D 1 σ σ' ∧ σ'.I 1 D = nI ms.length ∧ σ'.K D = 1 ∧ DD P σ' D A H G ms σ.sz := by
    intro s dk f hw
    have ac := whole_ac hx (by omega) hw
    have dlt : ∀ k, k < ms.length → gr_D (sp_has ms) ms.length k < ms.length := fun k hk => D_lt ac hk
    obtain ⟨σ', u1, u2, u3⟩ := cw_mb2 (P := P) (lng := lng) (D := D) (A := A) (H := H) (G := G) (ms := ms) (top := σ.sz) (d := fun k => if k < ms.length then gr_D (sp_has ms) ms.length k else 0) (by omega) (fun k hk => by
      have q := D_M ac hk
      refine ⟨fun j hj he => ?_, ?_⟩
      · have := q.1 j hj he
        simp only [hj, hk, if_true]
        exact this
      · simp only [hk, if_true]
        rcases q.2 with z | ⟨j, hj, z1, z2⟩
        · exact Or.inl z
        · exact Or.inr ⟨j, hj, z1, by simp only [hj, if_true]; exact z2⟩) (fun k => by
      by_cases e : k < ms.length
      · simp only [e, if_true]
        have := dlt k e
        omega
      · simp only [e, if_false]
        omega) ms.length 0 P.N s (by omega) (by omega) dk (fun i hi hs => by omega)
    have dk' := dk.fz u2
    have kD := dk.2.1.1.2.2.1
    refine ⟨σ', ?_, f.trans (u2.fr (by omega)) (by omega) (by omega), dk'.2.2.1, dk'.2.1.1.2.2.1, ⟨lng, dk'⟩, ac, fun i hi _ => ?_⟩
    · unfold dm_X0_faultAsWhole_p72 dm_X0_faultAsWhole_p83 dm_X0_measureBelow
      simp (disch := first | assumption | omega) [ck_T, sm_s, bd_l, bd_r, lt_e, eq_self, and_self, if_true, true_and, and_true, lit_nI, nI_add, nI_mul, nI_sub, nI_clamp, nI_eq, nI_ltI, nI_leI, nN_e, nI_nN, nN_nI, bI_0, bI_1, bI_n, bool_0, bool_1, in_T, lg_cmp0, ofN_nI, kD]
      rw [u1]
      rfl
    · have := u3 i hi (by simp only [hi, if_true]; exact dlt i hi)
      simp only [hi, if_true] at this
      exact this
  have no : ∀ (v : Nat) (s : xS), v < 1001 → dm_X0_faultAsWhole_p72 P D (nI v) s = some (.inl (nI v), s) := by
    intro v s hv
    have : ¬ v = 1001 := by omega
    unfold dm_X0_faultAsWhole_p72 dm_X0_faultAsWhole_p83
    simp (disch := first | assumption | omega) [lit_nI, nI_add, nI_mul, nI_sub, nI_clamp, nI_eq, nI_ltI, nI_leI, nN_e, nI_nN, nN_nI, bI_0, bI_1, bI_n, bool_0, bool_1, in_T, lg_cmp0, ofN_nI, this]
  by_cases e : sp_mis ms = 1001
  · obtain ⟨s2, w1, w2⟩ := cw_firstInRing (P := P) (σ := s1) (es1 ▸ dk1) (by omega) (hR.us (t2.fr (P := P) (by omega)).2.2 (by omega))
    have f2 : Fr P D 1 σ s2 := f1.trans w2 (by omega)
    have dk2 : DK P lng s2 D A H G ms σ.sz := dk1.fr (w2.mono (h' := σ.sz) (e := 1))
    have ew : sp_whole ms = sp_rg (fun k => gr_W (sp_has ms) ms.length k k) 0 ms := by unfold sp_whole; rw [if_pos e]
    rw [← ew] at w1
    have step : dm_X0_faultAsWhole P D σ = dm_X0_faultAsWhole_p72 P D (nI (sp_whole ms)) s2 := by
      rw [start, e]
      unfold dm_X0_faultAsWhole_L32
      simp (disch := first | assumption | omega) [ck_T, sm_s, bd_l, bd_r, lt_e, eq_self, and_self, if_true, true_and, and_true, lit_nI, nI_add, nI_mul, nI_sub, nI_clamp, nI_eq, nI_ltI, nI_leI, nN_e, nI_nN, nN_nI, bI_0, bI_1, bI_n, bool_0, bool_1, in_T, lg_cmp0, ofN_nI, k1, c1, w1]
    by_cases e2 : sp_whole ms = 1001
    · obtain ⟨σ', v1, v2, v3, v4, v5⟩ := fin s2 dk2 f2 e2
      refine ⟨σ', ?_, v2, v3, v4, fun _ => v5⟩
      rw [step, e2, v1]
    · refine ⟨s2, ?_, f2, dk2.2.2.1, dk2.2.1.1.2.2.1, fun z => absurd z e2⟩
      rw [step, no _ _ (by omega)]
  · have ew : sp_whole ms = sp_mis ms := by unfold sp_whole; rw [if_neg e]
    refine ⟨s1, ?_, f1.mono (by omega), c1, k1, fun z => absurd (ew.symm.trans z) e⟩
    rw [start, ew]
    unfold dm_X0_faultAsWhole_L32
    have := no (sp_mis ms) s1 (by omega)
    simp (disch := first | assumption | omega) [ck_T, sm_s, bd_l, bd_r, lt_e, eq_self, and_self, if_true, true_and, and_true, lit_nI, nI_add, nI_mul, nI_sub, nI_clamp, nI_eq, nI_ltI, nI_leI, nN_e, nI_nN, nN_nI, bI_0, bI_1, bI_n, bool_0, bool_1, in_T, lg_cmp0, ofN_nI, k1, c1, e, this]
