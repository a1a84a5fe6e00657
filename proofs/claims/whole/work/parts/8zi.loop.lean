/-! ===== the law: the loop ===== -/
theorem and15 (x : Int32) : x &&& nI 15 = nI (x.toBitVec.toNat % 16) := by
  apply Int32.toBitVec_inj.mp
  apply BitVec.eq_of_toNat_eq
  rw [Int32.toBitVec_and, BitVec.toNat_and]
  show x.toBitVec.toNat &&& 15 = _
  have e : (nI (x.toBitVec.toNat % 16)).toBitVec.toNat = x.toBitVec.toNat % 16 := by
    unfold nI
    simp
    omega
  rw [e]
  exact Nat.and_two_pow_sub_one_eq_mod _ 4
abbrev LwL (P : xP) (b F j : Nat) (σ : xS) : xO Int32 := dm_L_law_L23 P F (some b) (some P.base) (some (P.base + 11)) (some (P.base + 43)) (nI j) σ
theorem st_other {P : xP} {b len j F d : Nat} {sc : Nat → Int32} {σ : xS} (hj : j + 5 ≤ len) (hl : len < 100000) (S : LwS P b len sc σ) (hop : sc j &&& nI 15 = nI d) (h1 : 11 ≤ d) (h2 : d < 16) : LwL P b (F + 1) j σ = LwL P b F (j + 5) σ := by
  obtain ⟨a1, a2, a3, a4, a5, a6, a7, a8⟩ := S
  have g : ¬ Int32.ofNat len - nI 5 < nI j := by rw [sub5 (by omega) (by omega)]; omega
  have z0 := a4 j (by omega)
  have nd : ∀ i, i < 11 → ¬ nI d = nI i := by
    intro i hi
    rw [nI_eq (by omega) (by omega)]
    omega
  have n0 := nd 0 (by omega)
  have n1 := nd 1 (by omega)
  have n2 := nd 2 (by omega)
  have n3 := nd 3 (by omega)
  have n4 := nd 4 (by omega)
  have n5 := nd 5 (by omega)
  have n6 := nd 6 (by omega)
  have n7 := nd 7 (by omega)
  have n8 := nd 8 (by omega)
  have n9 := nd 9 (by omega)
  have n10 := nd 10 (by omega)
  have ad : nI j + nI 5 = nI (j + 5) := by rw [nI_add]
  have cl : Int32.toNatClampNeg (nI j) = j := nI_clamp (by omega)
  have i0 : x_in (nI j) len := by simp (disch := first | assumption | omega) [lit_nI, nI_add, nI_mul, nI_sub, nI_clamp, nI_eq, nI_ltI, nI_leI, nN_e, nI_nN, nN_nI, bI_0, bI_1, bI_n, bool_0, bool_1, in_T, lg_cmp0, ofN_nI, x_in, dlt_T, dle_T]
  unfold LwL
  conv => lhs; unfold dm_L_law_L23 dm_L_law_p830
  simp only [sm_s, a2, a3, ck_T, eq_self, lit_nI, g, if_false, and_self, i0, cl, z0, hop, lt_e, n0, n1, n2, n3, n4, n5, n6, n7, n8, n9, n10, ad]
  rw [chk_of ⟨trivial, i0⟩]

theorem fn_module {P : xP} {b len j F : Nat} {sc : Nat → Int32} {T : xT} {ms : List xMod} {σ : xS} {o : Option Int32} (hj : j + 5 ≤ len) (hl : len < 100000) (h : LwB P b len sc T ms σ) (hop : sc j &&& nI 15 = nI 3) (lc : LwC P b len sc T ms σ (dm_L_module P (some P.base) (sc (j + 1)) (sc (j + 2)) (some (P.base + 43)) σ) o) (lr : ∀ σ1, LwB P b len sc T ms σ1 → LwR P b len sc T ms σ1 (dm_X12_module P (P.base + 11) (sc (j + 1)) (sc (j + 2)) σ1) o) : ∃ σ2, LwL P b (F + 1) j σ = LwL P b F (j + 5) σ2 ∧ LwB P b len sc T ms σ2 ∧ Us σ σ2 1 := by
  obtain ⟨σ1, b1, u1, e1⟩ := lc
  obtain ⟨w, σ2, b2, u2, j2, e2, e3⟩ := lr σ1 b1
  cases o with
  | none => exact ⟨σ2, st_module (k := 1) hj hl h.1 hop e1 b1.1 e2 b2.1 e3 (by omega) (fun z => by omega), b2, u1.trans u2⟩
  | some v =>
    obtain ⟨e1, a1⟩ := e1
    obtain ⟨e3, rfl⟩ := e3
    exact ⟨σ2, st_module (k := 0) hj hl h.1 hop e1 b1.1 e2 b2.1 e3 (by omega) (fun _ => by rw [j2]; exact a1), b2, u1.trans u2⟩
theorem fn_net {P : xP} {b len j F : Nat} {sc : Nat → Int32} {T : xT} {ms : List xMod} {σ : xS} {o : Option Int32} (hj : j + 5 ≤ len) (hl : len < 100000) (h : LwB P b len sc T ms σ) (hop : sc j &&& nI 15 = nI 4) (lc : LwC P b len sc T ms σ (dm_L_net P (some P.base) (sc (j + 1)) (sc (j + 2)) (sc (j + 3)) (some (P.base + 43)) σ) o) (lr : ∀ σ1, LwB P b len sc T ms σ1 → LwR P b len sc T ms σ1 (dm_X12_net P (P.base + 11) (sc (j + 1)) (sc (j + 2)) (sc (j + 3)) σ1) o) : ∃ σ2, LwL P b (F + 1) j σ = LwL P b F (j + 5) σ2 ∧ LwB P b len sc T ms σ2 ∧ Us σ σ2 1 := by
  obtain ⟨σ1, b1, u1, e1⟩ := lc
  obtain ⟨w, σ2, b2, u2, j2, e2, e3⟩ := lr σ1 b1
  cases o with
  | none => exact ⟨σ2, st_net (k := 1) hj hl h.1 hop e1 b1.1 e2 b2.1 e3 (by omega) (fun z => by omega), b2, u1.trans u2⟩
  | some v =>
    obtain ⟨e1, a1⟩ := e1
    obtain ⟨e3, rfl⟩ := e3
    exact ⟨σ2, st_net (k := 0) hj hl h.1 hop e1 b1.1 e2 b2.1 e3 (by omega) (fun _ => by rw [j2]; exact a1), b2, u1.trans u2⟩
theorem fn_instance {P : xP} {b len j F : Nat} {sc : Nat → Int32} {T : xT} {ms : List xMod} {σ : xS} {o : Option Int32} (hj : j + 5 ≤ len) (hl : len < 100000) (h : LwB P b len sc T ms σ) (hop : sc j &&& nI 15 = nI 5) (lc : LwC P b len sc T ms σ (dm_L_instance P (some P.base) (sc (j + 1)) (sc (j + 2)) (sc (j + 3)) (some (P.base + 43)) σ) o) (lr : ∀ σ1, LwB P b len sc T ms σ1 → LwR P b len sc T ms σ1 (dm_X12_instance P (P.base + 11) (sc (j + 1)) (sc (j + 2)) (sc (j + 3)) σ1) o) : ∃ σ2, LwL P b (F + 1) j σ = LwL P b F (j + 5) σ2 ∧ LwB P b len sc T ms σ2 ∧ Us σ σ2 1 := by
  obtain ⟨σ1, b1, u1, e1⟩ := lc
  obtain ⟨w, σ2, b2, u2, j2, e2, e3⟩ := lr σ1 b1
  cases o with
  | none => exact ⟨σ2, st_instance (k := 1) hj hl h.1 hop e1 b1.1 e2 b2.1 e3 (by omega) (fun z => by omega), b2, u1.trans u2⟩
  | some v =>
    obtain ⟨e1, a1⟩ := e1
    obtain ⟨e3, rfl⟩ := e3
    exact ⟨σ2, st_instance (k := 0) hj hl h.1 hop e1 b1.1 e2 b2.1 e3 (by omega) (fun _ => by rw [j2]; exact a1), b2, u1.trans u2⟩
theorem fn_joined {P : xP} {b len j F : Nat} {sc : Nat → Int32} {T : xT} {ms : List xMod} {σ : xS} {o : Option Int32} (hj : j + 5 ≤ len) (hl : len < 100000) (h : LwB P b len sc T ms σ) (hop : sc j &&& nI 15 = nI 6) (lc : LwC P b len sc T ms σ (dm_L_joined P (some P.base) (sc (j + 1)) (sc (j + 2)) (sc (j + 3)) (sc (j + 4)) (some (P.base + 43)) σ) o) (lr : ∀ σ1, LwB P b len sc T ms σ1 → LwR P b len sc T ms σ1 (dm_X12_joined P (P.base + 11) (sc (j + 1)) (sc (j + 2)) (sc (j + 3)) (sc (j + 4)) σ1) o) : ∃ σ2, LwL P b (F + 1) j σ = LwL P b F (j + 5) σ2 ∧ LwB P b len sc T ms σ2 ∧ Us σ σ2 1 := by
  obtain ⟨σ1, b1, u1, e1⟩ := lc
  obtain ⟨w, σ2, b2, u2, j2, e2, e3⟩ := lr σ1 b1
  cases o with
  | none => exact ⟨σ2, st_joined (k := 1) hj hl h.1 hop e1 b1.1 e2 b2.1 e3 (by omega) (fun z => by omega), b2, u1.trans u2⟩
  | some v =>
    obtain ⟨e1, a1⟩ := e1
    obtain ⟨e3, rfl⟩ := e3
    exact ⟨σ2, st_joined (k := 0) hj hl h.1 hop e1 b1.1 e2 b2.1 e3 (by omega) (fun _ => by rw [j2]; exact a1), b2, u1.trans u2⟩
theorem fn_assign {P : xP} {b len j F : Nat} {sc : Nat → Int32} {T : xT} {ms : List xMod} {σ : xS} {o : Option Int32} (hj : j + 5 ≤ len) (hl : len < 100000) (h : LwB P b len sc T ms σ) (hop : sc j &&& nI 15 = nI 7) (lc : LwC P b len sc T ms σ (dm_L_assign P (some P.base) (sc (j + 1)) (sc (j + 2)) (sc (j + 3)) (sc (j + 4)) (some (P.base + 43)) σ) o) (lr : ∀ σ1, LwB P b len sc T ms σ1 → LwR P b len sc T ms σ1 (dm_X12_assign P (P.base + 11) (sc (j + 1)) (sc (j + 2)) (sc (j + 3)) (sc (j + 4)) σ1) o) : ∃ σ2, LwL P b (F + 1) j σ = LwL P b F (j + 5) σ2 ∧ LwB P b len sc T ms σ2 ∧ Us σ σ2 1 := by
  obtain ⟨σ1, b1, u1, e1⟩ := lc
  obtain ⟨w, σ2, b2, u2, j2, e2, e3⟩ := lr σ1 b1
  cases o with
  | none => exact ⟨σ2, st_assign (k := 1) hj hl h.1 hop e1 b1.1 e2 b2.1 e3 (by omega) (fun z => by omega), b2, u1.trans u2⟩
  | some v =>
    obtain ⟨e1, a1⟩ := e1
    obtain ⟨e3, rfl⟩ := e3
    exact ⟨σ2, st_assign (k := 0) hj hl h.1 hop e1 b1.1 e2 b2.1 e3 (by omega) (fun _ => by rw [j2]; exact a1), b2, u1.trans u2⟩
theorem fn_letter {P : xP} {b len j F : Nat} {sc : Nat → Int32} {T : xT} {ms : List xMod} {σ : xS} {o : Option Int32} (hj : j + 5 ≤ len) (hl : len < 100000) (h : LwB P b len sc T ms σ) (hop : sc j &&& nI 15 = nI 8) (lc : LwC P b len sc T ms σ (dm_L_letter P (some P.base) (sc (j + 1)) (sc (j + 2)) (sc (j + 3)) (sc (j + 4)) (some (P.base + 43)) σ) o) (lr : ∀ σ1, LwB P b len sc T ms σ1 → LwR P b len sc T ms σ1 (dm_X12_letter P (P.base + 11) (sc (j + 1)) (sc (j + 2)) (sc (j + 3)) (sc (j + 4)) σ1) o) : ∃ σ2, LwL P b (F + 1) j σ = LwL P b F (j + 5) σ2 ∧ LwB P b len sc T ms σ2 ∧ Us σ σ2 1 := by
  obtain ⟨σ1, b1, u1, e1⟩ := lc
  obtain ⟨w, σ2, b2, u2, j2, e2, e3⟩ := lr σ1 b1
  cases o with
  | none => exact ⟨σ2, st_letter (k := 1) hj hl h.1 hop e1 b1.1 e2 b2.1 e3 (by omega) (fun z => by omega), b2, u1.trans u2⟩
  | some v =>
    obtain ⟨e1, a1⟩ := e1
    obtain ⟨e3, rfl⟩ := e3
    exact ⟨σ2, st_letter (k := 0) hj hl h.1 hop e1 b1.1 e2 b2.1 e3 (by omega) (fun _ => by rw [j2]; exact a1), b2, u1.trans u2⟩
theorem fn_write {P : xP} {b len j F : Nat} {sc : Nat → Int32} {T : xT} {ms : List xMod} {σ : xS} {o : Option Int32} (hj : j + 5 ≤ len) (hl : len < 100000) (h : LwB P b len sc T ms σ) (hop : sc j &&& nI 15 = nI 9) (lc : LwC P b len sc T ms σ (dm_L_write P (some P.base) (sc (j + 1)) (sc (j + 2)) (some (P.base + 43)) σ) o) (lr : ∀ σ1, LwB P b len sc T ms σ1 → LwR P b len sc T ms σ1 (dm_X12_write P (P.base + 11) (sc (j + 1)) (sc (j + 2)) σ1) o) : ∃ σ2, LwL P b (F + 1) j σ = LwL P b F (j + 5) σ2 ∧ LwB P b len sc T ms σ2 ∧ Us σ σ2 1 := by
  obtain ⟨σ1, b1, u1, e1⟩ := lc
  obtain ⟨w, σ2, b2, u2, j2, e2, e3⟩ := lr σ1 b1
  cases o with
  | none => exact ⟨σ2, st_write (k := 1) hj hl h.1 hop e1 b1.1 e2 b2.1 e3 (by omega) (fun z => by omega), b2, u1.trans u2⟩
  | some v =>
    obtain ⟨e1, a1⟩ := e1
    obtain ⟨e3, rfl⟩ := e3
    exact ⟨σ2, st_write (k := 0) hj hl h.1 hop e1 b1.1 e2 b2.1 e3 (by omega) (fun _ => by rw [j2]; exact a1), b2, u1.trans u2⟩
theorem fn_count {P : xP} {b len j F : Nat} {sc : Nat → Int32} {T : xT} {ms : List xMod} {σ : xS} {o : Option Int32} (hj : j + 5 ≤ len) (hl : len < 100000) (h : LwB P b len sc T ms σ) (hop : sc j &&& nI 15 = nI 10) (lc : LwC P b len sc T ms σ (dm_L_count P (some P.base) (sc (j + 1)) (some (P.base + 43)) σ) o) (lr : ∀ σ1, LwB P b len sc T ms σ1 → LwR P b len sc T ms σ1 (dm_X12_count P (P.base + 11) (sc (j + 1)) σ1) o) : ∃ σ2, LwL P b (F + 1) j σ = LwL P b F (j + 5) σ2 ∧ LwB P b len sc T ms σ2 ∧ Us σ σ2 1 := by
  obtain ⟨σ1, b1, u1, e1⟩ := lc
  obtain ⟨w, σ2, b2, u2, j2, e2, e3⟩ := lr σ1 b1
  cases o with
  | none => exact ⟨σ2, st_count (k := 1) hj hl h.1 hop e1 b1.1 e2 b2.1 e3 (by omega) (fun z => by omega), b2, u1.trans u2⟩
  | some v =>
    obtain ⟨e1, a1⟩ := e1
    obtain ⟨e3, rfl⟩ := e3
    exact ⟨σ2, st_count (k := 0) hj hl h.1 hop e1 b1.1 e2 b2.1 e3 (by omega) (fun _ => by rw [j2]; exact a1), b2, u1.trans u2⟩
theorem LwB.ru {P : xP} {b len : Nat} {sc : Nat → Int32} {T : xT} {ms : List xMod} {σ : xS} (h : LwB P b len sc T ms σ) : ∃ hv T' lng n, RU P T' hv lng ms n σ := by
  obtain ⟨-, -, -, -, -, hv, T', lng, n, q1, q2⟩ := h
  exact ⟨hv, T', lng, n, q2, q1⟩
theorem lr_write {P : xP} {b len : Nat} {sc : Nat → Int32} {T : xT} {ms : List xMod} {σ : xS} (h : LwB P b len sc T ms σ) (f i : Int32) : LwR P b len sc T ms σ (dm_X12_write P (P.base + 11) f i σ) (aq_write ms f i) := by
  obtain ⟨hv, T', lng, n, ru⟩ := h.ru
  have q := rw_write ru f i
  cases e : aq_write ms f i with
  | none =>
    rw [e] at q
    exact RAns.lr (r := none) h q
  | some v =>
    rw [e] at q
    obtain ⟨w, l, q⟩ := q
    have fe : FE P σ (pR P (tS P σ 0) w l) := ((FE.setI.trans FE.setI).trans FE.setI).trans FE.setI
    have rs : RS P T ms (pR P (tS P σ 0) w l) := (((h.2.2.setI (by omega) (by omega)).setI (by omega) (by omega)).setI (by omega) (by omega)).setI (by omega) (by omega)
    refine ⟨_, _, ⟨FE.ls h.1 fe, h.2.1.fe fe, rs⟩, Us.refl σ, rfl, q, ?_, rfl⟩
    rw [pR_I _ _ _ _ (by omega) (by omega) (by omega)]
    exact tS_I
theorem cw_readNo {P : xP} {T : xT} {ms : List xMod} {σ : xS} {v : Int32} (h : CL P T ms σ) (hR : Rm P σ 1) (h0 : v ≠ nI 0) (h1 : v ≠ nI 1) : dm_X11_read P P.base v σ = some (.inr IOE, σ.skip 6) := by
  obtain ⟨r1, r2⟩ := hR
  unfold dm_X11_read dm_X11_read_p14 dm_X11_refuseUnless
  simp (disch := first | assumption | omega) [ck_T, sm_s, bd_l, bd_r, lt_e, eq_self, and_self, if_true, true_and, and_true, lit_nI, nI_add, nI_mul, nI_sub, nI_clamp, nI_eq, nI_ltI, nI_leI, nN_e, nI_nN, nN_nI, bI_0, bI_1, bI_n, bool_0, bool_1, in_T, lg_cmp0, ofN_nI, h0, h1, IOE, dle_T]
theorem fn_read {P : xP} {b len j F : Nat} {sc : Nat → Int32} {T : xT} {ms : List xMod} {σ : xS} (hj : j + 5 ≤ len) (hl : len < 100000) (h : LwB P b len sc T ms σ) (hop : sc j &&& nI 15 = nI 2) (hR : Rm P σ (70 + 50 * T.2)) : ∃ σ2 T' ms', LwL P b (F + 1) j σ = LwL P b F (j + 5) σ2 ∧ LwB P b len sc T' ms' σ2 ∧ ((T' = T ∧ Us σ σ2 1) ∨ (T'.2 = 0 ∧ Us σ σ2 (70 + 50 * T.2))) := by
  have yes : ∀ lng : Bool, sc (j + 1) = nI (if lng = true then 0 else 1) → ∃ σ2 T' ms', LwL P b (F + 1) j σ = LwL P b F (j + 5) σ2 ∧ LwB P b len sc T' ms' σ2 ∧ ((T' = T ∧ Us σ σ2 1) ∨ (T'.2 = 0 ∧ Us σ σ2 (70 + 50 * T.2))) := by
    intro lng hv
    obtain ⟨σ1, v, e1, f1, g1⟩ := cw_read h.2.1 lng hR
    have hc : ∃ ms1, CL P (T.1, 0) ms1 σ1 := by
      cases e : sp_read T lng with
      | ok ms1 => rw [e] at g1; exact ⟨ms1, g1.2.1⟩
      | error f => rw [e] at g1; exact ⟨ms, g1.2.1⟩
    obtain ⟨msx, hcx⟩ := hc
    obtain ⟨s1, s2⟩ := h.cls f1 hcx
    obtain ⟨σ2, v2, e2, f2, t2, g2⟩ := rw_read (s2.aj (v := Int32.toInt64 v)) lng
    rw [← hv] at e1 e2
    have l1 := lw_read (T' := T) (ms' := ms) (sc (j + 1)) h s1 e1
    have ls2 : LwS P b len sc σ2 := FE.ls s1.aj f2
    have aj : σ2.AJ (P.base + 43) 0 = Int32.toInt64 v := by
      rw [f2.1.2.2.2.2.1]
      simp [q_K_setI, q_I_setI, q_J_setI, q_R_setI, q_L_setI, q_AI_setI, q_AJ_setI, q_AR_setI, q_sz_setI, q_su_setI, q_K_setJ, q_I_setJ, q_J_setJ, q_R_setJ, q_L_setJ, q_AI_setJ, q_AJ_setJ, q_AR_setJ, q_sz_setJ, q_su_setJ, q_K_setR, q_I_setR, q_J_setR, q_R_setR, q_L_setR, q_AI_setR, q_AJ_setR, q_AR_setR, q_sz_setR, q_su_setR, q_K_setAI, q_I_setAI, q_J_setAI, q_R_setAI, q_L_setAI, q_AI_setAI, q_AJ_setAI, q_AR_setAI, q_sz_setAI, q_su_setAI, q_K_setAJ, q_I_setAJ, q_J_setAJ, q_R_setAJ, q_L_setAJ, q_AI_setAJ, q_AJ_setAJ, q_AR_setAJ, q_sz_setAJ, q_su_setAJ, q_K_setAR, q_I_setAR, q_J_setAR, q_R_setAR, q_L_setAR, q_AI_setAR, q_AJ_setAR, q_AR_setAR, q_sz_setAR, q_su_setAR, q_K_newO, q_I_newO, q_J_newO, q_R_newO, q_L_newO, q_AI_newO, q_AJ_newO, q_AR_newO, q_sz_newO, q_su_newO, q_K_newA, q_I_newA, q_J_newA, q_R_newA, q_L_newA, q_AI_newA, q_AJ_newA, q_AR_newA, q_sz_newA, q_su_newA, q_K_skip, q_I_skip, q_J_skip, q_R_skip, q_L_skip, q_AI_skip, q_AJ_skip, q_AR_skip, q_sz_skip, q_su_skip, q_up2, q_up]
    have vv : v2 = v := by
      cases e : sp_read T lng with
      | ok ms1 => rw [e] at g1 g2; exact g2.1.trans g1.1.symm
      | error f => rw [e] at g1 g2; exact g2.1.trans g1.1.symm
    have us : Us σ σ2 (70 + 50 * T.2) := by
      have u1 := f1.2
      obtain ⟨u2, u3, u4⟩ := u1
      have z1 : σ2.sz = σ1.sz := f2.1.2.2.2.2.2.2.1
      have z2 : σ2.su = σ1.su := f2.1.2.2.2.2.2.2.2
      exact ⟨by omega, by omega, by omega⟩
    have st := st_read (F := F) (k := 0) hj hl h.1 hop l1 s1.aj e2 ls2 t2 (by omega) (fun _ => by rw [aj, vv])
    cases e : sp_read T lng with
    | ok ms1 =>
      rw [e] at g1 g2
      exact ⟨σ2, (T.1, 0), ms1, st, ⟨ls2, g1.2.1.aj.fe f2, g2.2⟩, Or.inr ⟨rfl, us⟩⟩
    | error f =>
      rw [e] at g1 g2
      exact ⟨σ2, (T.1, 0), ms, st, ⟨ls2, g1.2.1.aj.fe f2, g2.2⟩, Or.inr ⟨rfl, us⟩⟩
  by_cases e0 : sc (j + 1) = nI 0
  · exact yes true e0
  · by_cases e1 : sc (j + 1) = nI 1
    · exact yes false e1
    · have rn := cw_readNo h.2.1 (hR.mono (d := 1)) e0 e1
      obtain ⟨k1, k2⟩ := h.2.1.skip
      obtain ⟨s1, s2⟩ := h.cls k2 k1
      have l1 := lw_readN (sc (j + 1)) h rn
      have r2 := rw_readNo s2.1 e0 e1
      have fe : FE P (σ.skip 6) ((σ.skip 6).setI 1100 (P.base + 11) (nI 1)) := FE.setI
      have st := st_read (F := F) (k := 1) hj hl h.1 hop l1 s1 r2 (FE.ls s1 fe) (by simp [q_K_setI, q_I_setI, q_J_setI, q_R_setI, q_L_setI, q_AI_setI, q_AJ_setI, q_AR_setI, q_sz_setI, q_su_setI, q_K_setJ, q_I_setJ, q_J_setJ, q_R_setJ, q_L_setJ, q_AI_setJ, q_AJ_setJ, q_AR_setJ, q_sz_setJ, q_su_setJ, q_K_setR, q_I_setR, q_J_setR, q_R_setR, q_L_setR, q_AI_setR, q_AJ_setR, q_AR_setR, q_sz_setR, q_su_setR, q_K_setAI, q_I_setAI, q_J_setAI, q_R_setAI, q_L_setAI, q_AI_setAI, q_AJ_setAI, q_AR_setAI, q_sz_setAI, q_su_setAI, q_K_setAJ, q_I_setAJ, q_J_setAJ, q_R_setAJ, q_L_setAJ, q_AI_setAJ, q_AJ_setAJ, q_AR_setAJ, q_sz_setAJ, q_su_setAJ, q_K_setAR, q_I_setAR, q_J_setAR, q_R_setAR, q_L_setAR, q_AI_setAR, q_AJ_setAR, q_AR_setAR, q_sz_setAR, q_su_setAR, q_K_newO, q_I_newO, q_J_newO, q_R_newO, q_L_newO, q_AI_newO, q_AJ_newO, q_AR_newO, q_sz_newO, q_su_newO, q_K_newA, q_I_newA, q_J_newA, q_R_newA, q_L_newA, q_AI_newA, q_AJ_newA, q_AR_newA, q_sz_newA, q_su_newA, q_K_skip, q_I_skip, q_J_skip, q_R_skip, q_L_skip, q_AI_skip, q_AJ_skip, q_AR_skip, q_sz_skip, q_su_skip, q_up2, q_up]) (by omega) (fun z => by omega)
      exact ⟨_, T, ms, st, ⟨FE.ls s1 fe, k1.fe fe, s2.setI (by omega) (by omega)⟩, Or.inl ⟨rfl, k2.2⟩⟩
theorem unit_le {T : xT} {v : Int32} : (aq_unit T v).2.2 ≤ T.2 + 1 := by
  unfold aq_unit
  split
  · exact Nat.le_succ _
  · split
    · exact Nat.le_refl _
    · exact Nat.le_succ _
theorem foldl_un : ∀ (l : List Nat) (T : xT), (l.foldl un_T T).2 = T.2 + l.length
  | [], T => rfl
  | c :: l, T => by
    rw [List.foldl_cons, foldl_un l]
    show T.2 + 1 + l.length = T.2 + (l.length + 1)
    omega
theorem units_le {T : xT} {v : Int32} : (aq_units T v).2.2 ≤ T.2 + 4 := by
  have b := bt_f_le v 3
  unfold aq_units us_l
  split
  · rw [foldl_un]
    omega
  · exact Nat.le_add_right _ _
theorem rw_law23 {P : xP} {b len : Nat} {sc : Nat → Int32} (hl : len < 100000) : ∀ (r F j : Nat) (σ : xS) (T : xT) (ms : List xMod), j + 5 * r ≤ len → len < j + 5 * r + 5 → r < F → LwB P b len sc T ms σ → Rm P σ (300 * r + 50 * T.2 + 1) → ∃ σ', LwL P b F j σ = some (.inl (nI 1), σ') := by
  intro r
  induction r with
  | zero =>
    intro F j σ T ms h1 h2 hF h hR
    obtain ⟨F, rfl⟩ : ∃ m, F = m + 1 := ⟨F - 1, by omega⟩
    obtain ⟨a1, a2, a3, -⟩ := h.1
    have g : Int32.ofNat len - nI 5 < nI j := by rw [sub5 (by omega) (by omega)]; omega
    refine ⟨σ, ?_⟩
    unfold LwL
    conv => lhs; unfold dm_L_law_L23
    simp only [sm_s, a2, a3, ck_T, eq_self, lit_nI, g, if_true]
  | succ r ih =>
    intro F j σ T ms h1 h2 hF h hR
    obtain ⟨F, rfl⟩ : ∃ m, F = m + 1 := ⟨F - 1, by omega⟩
    have hj : j + 5 ≤ len := by omega
    have R1 : Rm P σ 1 := hR.mono
    have hop := and15 (sc j)
    have ld : (sc j).toBitVec.toNat % 16 < 16 := Nat.mod_lt _ (by omega)
    obtain ⟨d, hd⟩ : ∃ d, d = (sc j).toBitVec.toNat % 16 := ⟨_, rfl⟩
    rw [← hd] at hop ld
    have next : ∀ (σ2 : xS) (T2 : xT) (ms2 : List xMod) (c : Nat), LwL P b (F + 1) j σ = LwL P b F (j + 5) σ2 → LwB P b len sc T2 ms2 σ2 → Us σ σ2 c → 50 * T2.2 + c ≤ 300 + 50 * T.2 → ∃ σ', LwL P b (F + 1) j σ = some (.inl (nI 1), σ') := by
      intro σ2 T2 ms2 c e1 e2 e3 e4
      obtain ⟨σ', g⟩ := ih F (j + 5) σ2 T2 ms2 (by omega) (by omega) (by omega) e2 (hR.us e3)
      exact ⟨σ', e1.trans g⟩
    obtain ⟨C, hT, ht, hs, D, A, H, G, top, g1, g2, g3, g4⟩ := id h.2.1
    have mis := h.mis
    by_cases d11 : 11 ≤ d
    · exact next σ T ms 0 (st_other hj hl h.1 hop d11 ld) h (Us.refl σ) (by omega)
    obtain rfl | rfl | rfl | rfl | rfl | rfl | rfl | rfl | rfl | rfl | rfl : d = 0 ∨ d = 1 ∨ d = 2 ∨ d = 3 ∨ d = 4 ∨ d = 5 ∨ d = 6 ∨ d = 7 ∨ d = 8 ∨ d = 9 ∨ d = 10 := by omega
    · obtain ⟨σ1, e1, c1, f1⟩ := cw_unit h.2.1 (sc (j + 1))
      obtain ⟨s1, s2⟩ := h.cls f1 c1
      obtain ⟨σ2, e2, c2, f2⟩ := rw_unit s2 (sc (j + 1))
      have us : Us σ σ2 0 := by
        obtain ⟨u2, u3, u4⟩ := f1.2
        have z1 : σ2.sz = σ1.sz := f2.1.2.2.2.2.2.2.1
        have z2 : σ2.su = σ1.su := f2.1.2.2.2.2.2.2.2
        exact ⟨by omega, by omega, by omega⟩
      exact next σ2 _ ms 0 (st_unit hj hl h.1 hop e1 s1 e2) ⟨FE.ls s1 f2, c1.fe f2, c2⟩ us (by have := unit_le (T := T) (v := sc (j + 1)); omega)
    · obtain ⟨σ1, e1, c1, f1⟩ := cw_units h.2.1 (sc (j + 1))
      obtain ⟨s1, s2⟩ := h.cls f1 c1
      obtain ⟨σ2, e2, c2, f2⟩ := rw_units s2 (sc (j + 1))
      have us : Us σ σ2 0 := by
        obtain ⟨u2, u3, u4⟩ := f1.2
        have z1 : σ2.sz = σ1.sz := f2.1.2.2.2.2.2.2.1
        have z2 : σ2.su = σ1.su := f2.1.2.2.2.2.2.2.2
        exact ⟨by omega, by omega, by omega⟩
      exact next σ2 _ ms 0 (st_units hj hl h.1 hop e1 s1 e2) ⟨FE.ls s1 f2, c1.fe f2, c2⟩ us (by have := units_le (T := T) (v := sc (j + 1)); omega)
    · obtain ⟨σ2, T2, ms2, e1, e2, e3⟩ := fn_read (F := F) hj hl h hop (hR.mono)
      rcases e3 with ⟨rfl, e3⟩ | ⟨e0, e3⟩
      · exact next σ2 _ ms2 1 e1 e2 e3 (by omega)
      · exact next σ2 T2 ms2 _ e1 e2 e3 (by omega)
    · obtain ⟨σ2, e1, e2, e3⟩ := fn_module (F := F) hj hl h hop (lc_module _ _ h (Ans.c h.2.1 (cw_module C g1 g4 R1 _ _))) (fun σ1 h1 => by
        obtain ⟨hv, T', lng, n, ru⟩ := h1.ru
        exact RAns.lr h1 (rw_module ru _ _))
      exact next σ2 T ms 1 e1 e2 e3 (by omega)
    · obtain ⟨σ2, e1, e2, e3⟩ := fn_net (F := F) hj hl h hop (lc_net _ _ _ h (Ans.c h.2.1 (cw_net C g1 g4 R1 _ _ _))) (fun σ1 h1 => by
        obtain ⟨hv, T', lng, n, ru⟩ := h1.ru
        exact RAns.lr h1 (rw_net ru _ _ _))
      exact next σ2 T ms 1 e1 e2 e3 (by omega)
    · obtain ⟨σ2, e1, e2, e3⟩ := fn_instance (F := F) hj hl h hop (lc_instance _ _ _ h (Ans.c h.2.1 (cw_instance C g1 g4 mis R1 _ _ _))) (fun σ1 h1 => by
        obtain ⟨hv, T', lng, n, ru⟩ := h1.ru
        exact RAns.lr h1 (rw_instance ru _ _ _))
      exact next σ2 T ms 1 e1 e2 e3 (by omega)
    · obtain ⟨σ2, e1, e2, e3⟩ := fn_joined (F := F) hj hl h hop (lc_joined _ _ _ _ h (Ans.c h.2.1 (cw_joined C g1 g4 mis R1 _ _ _ _))) (fun σ1 h1 => by
        obtain ⟨hv, T', lng, n, ru⟩ := h1.ru
        exact RAns.lr h1 (rw_joined ru _ _ _ _))
      exact next σ2 T ms 1 e1 e2 e3 (by omega)
    · obtain ⟨σ2, e1, e2, e3⟩ := fn_assign (F := F) hj hl h hop (lc_assign _ _ _ _ h (Ans.c h.2.1 (cw_assign C g1 g4 R1 _ _ _ _))) (fun σ1 h1 => by
        obtain ⟨hv, T', lng, n, ru⟩ := h1.ru
        exact RAns.lr h1 (rw_assign ru _ _ _ _))
      exact next σ2 T ms 1 e1 e2 e3 (by omega)
    · obtain ⟨σ2, e1, e2, e3⟩ := fn_letter (F := F) hj hl h hop (lc_letter _ _ _ _ h (Ans.c h.2.1 (cw_letter C g1 g4 R1 _ _ _ _))) (fun σ1 h1 => by
        obtain ⟨hv, T', lng, n, ru⟩ := h1.ru
        exact RAns.lr h1 (rw_letter ru _ _ _ _))
      exact next σ2 T ms 1 e1 e2 e3 (by omega)
    · obtain ⟨σ2, e1, e2, e3⟩ := fn_write (F := F) hj hl h hop (lc_write _ _ h (cw_write h.2.1 mis R1 _ _)) (fun σ1 h1 => lr_write h1 _ _)
      exact next σ2 T ms 1 e1 e2 e3 (by omega)
    · obtain ⟨σ2, e1, e2, e3⟩ := fn_count (F := F) hj hl h hop (lc_count _ h (Ans.c h.2.1 (cw_count C ht g1 g4 R1 _))) (fun σ1 h1 => by
        obtain ⟨hv, T', lng, n, ru⟩ := h1.ru
        exact RAns.lr h1 (rw_count ru h1.2.2.2.2.1 _))
      exact next σ2 T ms 1 e1 e2 e3 (by omega)
