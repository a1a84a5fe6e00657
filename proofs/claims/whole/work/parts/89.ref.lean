/-! ===== the reference: longRef, shortRef ===== -/
theorem range'_1 (n : Nat) : List.range (n + 1) = 0 :: List.range' 1 n := by
  rw [List.range_eq_range', List.range'_succ]
theorem tdB_iff {T : xT} {p w : Nat} (hk : lx_kind T p ≠ 4) : tdB T p w = true ↔ (lx_kind T p = 0 ∧ (lx_nm T p).head? = some 98 ∧ (∀ c ∈ (lx_nm T p).tail, c = 48 ∨ c = 49) ∧ 1 ≤ (lx_nm T p).tail.length ∧ (w = 0 ∨ (lx_nm T p).tail.length = w)) := by
  unfold tdB
  simp only [Bool.and_eq_true, decide_eq_true_eq, Bool.or_eq_true]
  by_cases e : lx_kind T p = 0 ∨ lx_kind T p = 1
  · have e1 := (rKd_1 hk).mpr e
    obtain ⟨k1, k2, k3, k4⟩ := kind_nm e
    have er : rEnd T p = lx_end T p := if_pos k1
    have el := end_le k1
    obtain ⟨n, hn⟩ : ∃ n, lx_end T p - p = n + 1 := ⟨lx_end T p - p - 1, by omega⟩
    have hl := nm_sgn hn k1
    rw [range'_1, List.map_cons, Nat.add_zero] at hl
    have hl0 := hl
    rw [hl, er, show lx_end T p - p - 1 = n by omega]
    simp only [List.head?_cons, Option.some.injEq, List.tail_cons, List.length_map, List.length_range', e1, true_and]
    have dg : dgs T p 1 n = true ↔ ∀ c ∈ (List.range' 1 n).map fun i => sgn T (p + i), c = 48 ∨ c = 49 := by
      unfold dgs
      simp only [List.all_eq_true, Bool.or_eq_true, decide_eq_true_eq, List.mem_map]
      constructor
      · rintro z c ⟨k, h1, rfl⟩
        exact z k h1
      · intro z k h1
        exact z _ ⟨k, h1, rfl⟩
    rw [dg]
    constructor
    · rintro ⟨z1, z2, z3, z4⟩
      refine ⟨?_, z1, z4, z2, z3⟩
      rcases e with q | q
      · exact q
      · exfalso
        have nk : lx_kw (lx_nm T p) = true := by
          cases y : lx_kw (lx_nm T p) with
          | true => rfl
          | false => have := (kind_kw (Or.inr q)).mpr y; omega
        unfold lx_kw at nk
        rw [hl0, z1] at nk
        simp [kw_module, kw_input, kw_output, kw_wire, kw_assign, kw_end] at nk
    · rintro ⟨z1, z2, z3, z4, z5⟩
      exact ⟨z2, z4, z5, z3⟩
  · have e1 : ¬ rKd T p = 1 := fun z => e ((rKd_1 hk).mp z)
    constructor
    · intro z; exact absurd z.1 e1
    · intro z; exact absurd (Or.inl z.1) e
theorem rw_takeDigits {P : xP} {T : xT} {hv : Nat} {lng : Bool} {ms : List xMod} {m : xMod} {n : Nat} {σ : xS} {p w lo hi pl : Nat} (h : RX P T hv lng ms m n σ p) (hk : lx_kind T p ≠ 4) (hw : (w = 0 ∧ lo = 1 ∧ hi = 7) ∨ (1 ≤ w ∧ w ≤ 7 ∧ lo = w ∧ hi = w)) : Rr (dm_X12_takeDigits P (P.base + 11) (nI w) σ) (sp_digits T pl lo hi p) (fun v s q => s = σ ∧ v = nI q.1.2.2.2.2.2.length ∧ NmAt T p (98 :: q.1.2.2.2.2.2) ∧ q.1 = (3, pl, [], q.1.2.2.2.2.2.length - 1, 0, q.1.2.2.2.2.2) ∧ q.2 = lx_nx T p ∧ (w ≠ 0 → q.1.2.2.2.2.2.length = w)) (fun f s => f = p ∧ s = fl P σ p) := by
  obtain ⟨h1, h2, h3, h4, ⟨h5, h6⟩, ⟨ni, h7⟩, h8, h9, h10⟩ := h
  have a0 := ri_0 h1.1
  have ok := rw_ok h1.1 (h2.ok hk)
  have ff : dm_X12_fail P (P.base + 11) (nI p) σ = some (.inl (), fl P σ p) := rw_fail h1.1 (h2.ok hk) (nI p)
  have fr := h2.2.1
  obtain ⟨v, v1, v2⟩ := rw_td h1 h2.rw (w := w) (by omega)
  have iff := tdB_iff (w := w) hk
  unfold sp_digits sp_name
  by_cases e : tdB T p w = true
  · obtain ⟨z1, z2, z3, z4, z5⟩ := iff.mp e
    rw [if_pos z1, eb_ok]
    obtain ⟨k1, k2, k3, k4⟩ := kind_nm (Or.inl z1)
    have l8 : (lx_nm T p).tail.length ≤ 7 := by
      rw [List.length_tail, nm_len]; omega
    rw [if_pos ⟨z2, z3, by omega, by omega⟩]
    have e1 := (rKd_1 hk).mpr (Or.inl z1)
    have er : rEnd T p = lx_end T p := if_pos k1
    have vl : v = nI (lx_nm T p).tail.length := by
      rw [v2 e1, List.length_tail, nm_len, er]
    have hl : lx_nm T p = 98 :: (lx_nm T p).tail := by
      cases y : lx_nm T p with
      | nil => rw [y] at z2; simp at z2
      | cons c t =>
        rw [y] at z2
        simp only [List.head?_cons, Option.some.injEq] at z2
        rw [z2, List.tail_cons]
    refine Rr.ok (v := v) (σ' := σ) ?_ ⟨rfl, vl, ⟨z1, hl⟩, rfl, rfl, fun y => by rcases z5 with q | q; exact absurd q y; exact q⟩
    rw [v1, e]
    unfold dm_X12_takeDigits_p110 dm_X12_takeDigits_p129
    simp (disch := first | assumption | omega) [ck_T, sm_s, bd_l, bd_r, lt_e, eq_self, and_self, if_true, true_and, and_true, lit_nI, nI_add, nI_mul, nI_sub, nI_clamp, nI_eq, nI_ltI, nI_leI, nN_e, nI_nN, nN_nI, bI_0, bI_1, bI_n, bool_0, bool_1, in_T, lg_cmp0, ofN_nI, a0, ok, bI_tt]
  · have e' : tdB T p w = false := by simpa using e
    have eq : eb (if lx_kind T p = 0 then Except.ok (lx_nm T p) else .error p) (fun nm => if nm.head? = some 98 ∧ (∀ c ∈ nm.tail, c = 48 ∨ c = 49) ∧ lo ≤ nm.tail.length ∧ nm.tail.length ≤ hi then (Except.ok ((3, pl, [], nm.tail.length - 1, 0, nm.tail), lx_nx T p) : Except Nat (xPart × Nat)) else .error p) = .error p := by
      by_cases z1 : lx_kind T p = 0
      · rw [if_pos z1, eb_ok, if_neg]
        rintro ⟨z2, z3, z4, z5⟩
        exact e (iff.mpr ⟨z1, z2, z3, by omega, by omega⟩)
      · rw [if_neg z1]; rfl
    rw [eq]
    refine Rr.er (v := v) (σ' := fl P σ p) ?_ ⟨rfl, rfl⟩
    rw [v1, e']
    unfold dm_X12_takeDigits_p110 dm_X12_takeDigits_p129
    simp (disch := first | assumption | omega) [ck_T, sm_s, bd_l, bd_r, lt_e, eq_self, and_self, if_true, true_and, and_true, lit_nI, nI_add, nI_mul, nI_sub, nI_clamp, nI_eq, nI_ltI, nI_leI, nN_e, nI_nN, nN_nI, bI_0, bI_1, bI_n, bool_0, bool_1, in_T, lg_cmp0, ofN_nI, a0, ok, bI_ff, fr, ff]
/-- what reading a part leaves -/
def QP (P : xP) (T : xT) (hv : Nat) (lng : Bool) (ms : List xMod) (m : xMod) (n : Nat) (σ : xS) (v : Int32) (σ' : xS) (q : xPart × Nat) : Prop := FP P hv n σ σ' ∧ (lx_kind T q.2 ≠ 4 → v = nI (512 * hv + n) ∧ RX P T hv lng ms m (n + 1) σ' q.2 ∧ RRef P σ' T hv (n + 1) m.nets (512 * hv + n) q.1) ∧ (lx_kind T q.2 = 4 → DQ P T hv ms.length q.2 σ')
def EP (P : xP) (T : xT) (hv : Nat) (ms : List xMod) (pl n : Nat) (σ : xS) (f : Nat) (σ' : xS) : Prop := FP P hv n σ σ' ∧ DQ P T hv ms.length f σ'
/-- one word on -/
theorem rx_next {P : xP} {T : xT} {hv : Nat} {lng : Bool} {ms : List xMod} {m : xMod} {n : Nat} {σ0 σ : xS} {p : Nat} (h : RX P T hv lng ms m n σ p) (hk : lx_kind T p ≠ 4) (hp : p < T.2) (f : FP P hv n σ0 σ) : Rr (dm_X12_next P (P.base + 11) σ) (.ok (lx_nx T p)) (fun _ s p' => FP P hv n σ0 s ∧ RX P T hv lng ms m n s p') (EP P T hv ms m.pl n σ0) := by
  obtain ⟨s, u1, u2, u3⟩ := rw_next h.1 h.2.1 hk
  have := nx_gt hp
  exact Rr.ok u1 ⟨f.trans u2.fp (Nat.le_refl _), h.fl u2 u3 (by omega)⟩
/-- a sign is taken -/
theorem rx_sign {P : xP} {T : xT} {hv : Nat} {lng : Bool} {ms : List xMod} {m : xMod} {n : Nat} {σ0 σ : xS} {p c : Nat} (h : RX P T hv lng ms m n σ p) (hk : lx_kind T p ≠ 4) (hc : c < 2 ^ 31) (f : FP P hv n σ0 σ) : Rr (dm_X12_needSign P (P.base + 11) (nI c) σ) (sp_sign T c p) (fun _ s p' => FP P hv n σ0 s ∧ RX P T hv lng ms m n s p') (EP P T hv ms m.pl n σ0) := by
  obtain ⟨v, s, q1, q2⟩ := rw_needSign h.1 h.2.1 hk hc
  refine ⟨v, s, q1, ?_⟩
  cases e : sp_sign T c p with
  | ok p' =>
    rw [e] at q2
    have := po_sign e
    exact ⟨f.trans q2.1.fp (Nat.le_refl _), h.fl q2.1 q2.2 (by omega)⟩
  | error g =>
    rw [e] at q2
    obtain ⟨q2, q3⟩ := q2
    -- the word is still the same
    have ns : sp_is T c p = false := by
      cases y : sp_is T c p with
      | false => rfl
      | true => unfold sp_sign at e; rw [if_pos y] at e; cases e
    have eg : g = p := by
      unfold sp_sign at e
      rw [if_neg (by rw [ns]; simp)] at e
      cases e; rfl
    subst eg
    have is := rw_isSign h.1 h.2.1 hk hc
    rw [ns] at is
    have a0 := ri_0 h.1.1
    have ok := rw_ok h.1.1 (h.2.1.ok hk)
    have fr := h.2.1.2.1
    have ff : dm_X12_fail P (P.base + 11) (nI g) σ = some (.inl (), fl P σ g) := rw_fail h.1.1 (h.2.1.ok hk) (nI g)
    have fq := RXfail h
    have nx := rd_next fq.de
    have d0 := ri_0 fq.de.1
    have this : dm_X12_needSign P (P.base + 11) (nI c) σ = some (.inl (), fl P σ g) := by
      unfold dm_X12_needSign dm_X12_needSign_p23
      simp (disch := first | assumption | omega) [ck_T, sm_s, bd_l, bd_r, lt_e, eq_self, and_self, if_true, true_and, and_true, lit_nI, nI_add, nI_mul, nI_sub, nI_clamp, nI_eq, nI_ltI, nI_leI, nN_e, nI_nN, nN_nI, bI_0, bI_1, bI_n, bool_0, bool_1, in_T, lg_cmp0, ofN_nI, a0, ok, is, bI_ff, fr, ff, d0, nx]
    rw [this] at q1
    cases q1
    exact ⟨f.trans fl_FL.fp (Nat.le_refl _), fq⟩
theorem QP.mk {P : xP} {T : xT} {hv : Nat} {lng : Bool} {ms : List xMod} {m : xMod} {n : Nat} {σ0 σ : xS} {p p0 : Nat} (h : RX P T hv lng ms m n σ p) (f : FP P hv n σ0 σ) (hk : lx_kind T p ≠ 4) (hs : RSl T (n + 1) p) {x : xPart} {so pl k a b : Int32} (h1 : so = nI x.1) (h2 : pl = nI x.2.1) (h3 : x.1 = 3 → ∃ d, a = nI d ∧ NmAt T d (98 :: x.2.2.2.2.2) ∧ b = nI x.2.2.2.2.2.length) (h4 : x.1 ≠ 3 → ∃ j, k = nI j ∧ j < 16 ∧ (m.nets[j]?).map (fun y => y.1) = some x.2.2.1) (h5 : x.1 = 1 ∨ x.1 = 2 → a = nI x.2.2.2.1 ∧ b = nI x.2.2.2.2.1) : QP P T hv lng ms m n σ0 (nI (512 * hv + n)) (adR P hv n σ so pl k a b) (x, p) ∧ dm_X12_addRef P (P.base + 11) so pl k a b σ = some (.inl (nI (512 * hv + n)), adR P hv n σ so pl k a b) := by
  have n5 := h.2.2.2.2.1.2.b h.1.2.1 h.2.1.1
  refine ⟨⟨f.trans (adR_FP (by omega)) (Nat.le_refl _), fun _ => ⟨rfl, h.ad hs, ?_⟩, fun z => absurd z hk⟩, rw_addRef h.1 h.2.2.2.2.1.1 (by omega) so pl k a b⟩
  have q : ∀ c v, (c = 25 ∧ v = pl) ∨ (c = 26 ∧ v = so) ∨ (c = 27 ∧ v = k) ∨ (c = 28 ∧ v = a) ∨ (c = 29 ∧ v = b) → (adR P hv n σ so pl k a b).AI (P.base + c) (512 * hv + n) = v := by
    intro c v hc
    unfold adR
    rcases hc with ⟨rfl, rfl⟩ | ⟨rfl, rfl⟩ | ⟨rfl, rfl⟩ | ⟨rfl, rfl⟩ | ⟨rfl, rfl⟩ <;> simp [q_K_setI, q_I_setI, q_J_setI, q_R_setI, q_L_setI, q_AI_setI, q_AJ_setI, q_AR_setI, q_sz_setI, q_su_setI, q_K_setJ, q_I_setJ, q_J_setJ, q_R_setJ, q_L_setJ, q_AI_setJ, q_AJ_setJ, q_AR_setJ, q_sz_setJ, q_su_setJ, q_K_setR, q_I_setR, q_J_setR, q_R_setR, q_L_setR, q_AI_setR, q_AJ_setR, q_AR_setR, q_sz_setR, q_su_setR, q_K_setAI, q_I_setAI, q_J_setAI, q_R_setAI, q_L_setAI, q_AI_setAI, q_AJ_setAI, q_AR_setAI, q_sz_setAI, q_su_setAI, q_K_setAJ, q_I_setAJ, q_J_setAJ, q_R_setAJ, q_L_setAJ, q_AI_setAJ, q_AJ_setAJ, q_AR_setAJ, q_sz_setAJ, q_su_setAJ, q_K_setAR, q_I_setAR, q_J_setAR, q_R_setAR, q_L_setAR, q_AI_setAR, q_AJ_setAR, q_AR_setAR, q_sz_setAR, q_su_setAR, q_K_newO, q_I_newO, q_J_newO, q_R_newO, q_L_newO, q_AI_newO, q_AJ_newO, q_AR_newO, q_sz_newO, q_su_newO, q_K_newA, q_I_newA, q_J_newA, q_R_newA, q_L_newA, q_AI_newA, q_AJ_newA, q_AR_newA, q_sz_newA, q_su_newA, q_K_skip, q_I_skip, q_J_skip, q_R_skip, q_L_skip, q_AI_skip, q_AJ_skip, q_AR_skip, q_sz_skip, q_su_skip, q_up2, q_up]
  unfold RRef
  rw [q 25 pl (by simp), q 26 so (by simp), q 27 k (by simp), q 28 a (by simp), q 29 b (by simp)]
  exact ⟨⟨by omega, by omega⟩, h1, h2, h3, h4, h5⟩
